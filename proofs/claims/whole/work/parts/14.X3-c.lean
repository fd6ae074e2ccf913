abbrev rmX3_contract : Room := { frames := 2, cells := 0, slots := 0, locals := 45 }
theorem lkX3_contract_13 : Cond.fieldLink RX3 13 "DeliveryBasketModel" "notional" "I" ∈ wsX3_contract := by decide +kernel
theorem iwX3_contract_X3 : ∀ w ∈ wsX30, w ∈ wsX3_contract := fun _ h => List.mem_cons_of_mem _ (List.mem_append_right _ h)
theorem lkX3_contract_17 : Cond.fieldLink RX3 17 "DeliveryBasketModel" "least" "I" ∈ wsX3_contract := by decide +kernel
theorem lkX3_contract_20 : Cond.fieldLink RX3 20 "DeliveryBasketModel" "most" "I" ∈ wsX3_contract := by decide +kernel
theorem lkX3_contract_61 : Cond.fieldLink RX3 61 "DeliveryBasketModel" "thrown" "I" ∈ wsX3_contract := by decide +kernel
theorem lkX3_contract_75 : Cond.constantLong RX3 75 (40) ∈ wsX3_contract := by decide +kernel
def bkX3_contract_65  (σ : ST) (x1 : Int32) (x2 : Int32) (x3 : Int32) : Option (Int32 × ST) := sv (sI σ 0 0 2 x1) fun σ_1 => sv (sI σ_1 0 0 3 x2) fun σ_2 => sv (sI σ_2 0 0 4 x3) fun σ_3 => some ((1 : Int32), σ_3)
def kX3_contract_65  (a : ST × Int32 × Int32 × Int32) : Option (Int32 × ST) := bkX3_contract_65  a.1 a.2.1 a.2.2.1 a.2.2.2
set_option maxHeartbeats 4000000 in
set_option maxRecDepth 100000 in
theorem kX3_contract_65_ok {p : Program} {l : Launch} {e : Env} {s : State} {m : MethodId} {args : Array Value} {below : List Frame} {meth : Method} {c : Code} {D : va_G} {cy : Nat → ClassId} {ad : Nat → Nat → Nat} {A : Nat → Prop} (C : Cx p s m args meth c cX3_contract 4 (some .boolean) RX3 wsX3_contract D cy A) (q : Int32 × ST) : ∀ (σ : ST) (x1 : Int32) (x2 : Int32) (x3 : Int32), ∀ (H : Heap) (locs : List Loc), va_P D vwCl (mw cy ad σ) H → va_D A (mw cy ad σ) → va_S A s.heap H locs → ∀ ls : Array Slot, lv_has ls 4 [(0, .ref (ad 0 0)), (1, .int x1), (2, .int x2), (3, .int x3)] → kX3_contract_65 (σ, x1, x2, x3) = some q → W p l e rmX3_contract s m args below meth c H locs 0 0 (MQ below (zQi D (mw cy ad q.2) A q.1) args s 0 0 A) (F0 m 65 ls []) := by
  obtain ⟨hx, hb, hml, hown, hts, hr, hlocks, hK, hA⟩ := id C
  intro σ x1 x2 x3 H locs hP hD hS ls hl hm
  have hm : bkX3_contract_65  σ x1 x2 x3 = some q := hm
  unfold bkX3_contract_65 at hm
  refine lv_aload_n hx hb dX3_contract_65 rfl (lv_at hl 0 rfl) ?_
  refine lv_iload_n hx hb dX3_contract_66 rfl (lv_at hl 1 rfl) ?_
  refine va_put (D := D) (ci := 3) (v := .int x1) (ty := .int) (C := RX3) (T := TX3) (N := 20) hx hb hts iwX3_contract_X3 tyX3 tyX3_ok nmX3 hown hK.1 hP hD hS 0 mw_0 rfl 2 (by decide) (hts _ lkX3_contract_13) (fun _ h9 => h9) rfl (by decide +kernel) rfl rfl (Nat.le_of_ble_eq_true rfl) dX3_contract_67 (fun H locs hP hD hS => ?_)
  have hP := eP (mw_s0 (σ := σ) (j := 2) (v := x1) (by rfl)) hP
  have hD := eD (mw_s0 (σ := σ) (j := 2) (v := x1) (by rfl)) hD
  obtain ⟨σ_1, e_1, hm⟩ := sv_some hm
  have hP : va_P D vwCl (mw cy ad σ_1) H := by rw [e_1]; exact hP
  have hD : va_D A (mw cy ad σ_1) := by rw [e_1]; exact hD
  refine lv_aload_n hx hb dX3_contract_70 rfl (lv_at hl 0 rfl) ?_
  refine lv_iload_n hx hb dX3_contract_71 rfl (lv_at hl 2 rfl) ?_
  refine va_put (D := D) (ci := 3) (v := .int x2) (ty := .int) (C := RX3) (T := TX3) (N := 20) hx hb hts iwX3_contract_X3 tyX3 tyX3_ok nmX3 hown hK.1 hP hD hS 0 mw_0 rfl 3 (by decide) (hts _ lkX3_contract_17) (fun _ h9 => h9) rfl (by decide +kernel) rfl rfl (Nat.le_of_ble_eq_true rfl) dX3_contract_72 (fun H locs hP hD hS => ?_)
  have hP := eP (mw_s0 (σ := σ_1) (j := 3) (v := x2) (by rfl)) hP
  have hD := eD (mw_s0 (σ := σ_1) (j := 3) (v := x2) (by rfl)) hD
  obtain ⟨σ_2, e_2, hm⟩ := sv_some hm
  have hP : va_P D vwCl (mw cy ad σ_2) H := by rw [e_2]; exact hP
  have hD : va_D A (mw cy ad σ_2) := by rw [e_2]; exact hD
  refine lv_aload_n hx hb dX3_contract_75 rfl (lv_at hl 0 rfl) ?_
  refine lv_iload_n hx hb dX3_contract_76 rfl (lv_at hl 3 rfl) ?_
  refine va_put (D := D) (ci := 3) (v := .int x3) (ty := .int) (C := RX3) (T := TX3) (N := 20) hx hb hts iwX3_contract_X3 tyX3 tyX3_ok nmX3 hown hK.1 hP hD hS 0 mw_0 rfl 4 (by decide) (hts _ lkX3_contract_20) (fun _ h9 => h9) rfl (by decide +kernel) rfl rfl (Nat.le_of_ble_eq_true rfl) dX3_contract_77 (fun H locs hP hD hS => ?_)
  have hP := eP (mw_s0 (σ := σ_2) (j := 4) (v := x3) (by rfl)) hP
  have hD := eD (mw_s0 (σ := σ_2) (j := 4) (v := x3) (by rfl)) hD
  obtain ⟨σ_3, e_3, hm⟩ := sv_some hm
  have hP : va_P D vwCl (mw cy ad σ_3) H := by rw [e_3]; exact hP
  have hD : va_D A (mw cy ad σ_3) := by rw [e_3]; exact hD
  refine lv_iconst (v := 1) hx hb dX3_contract_80 (by decide) ?_
  exact z_z hx hb hr hlocks (by decide) hm hP hD hS dX3_contract_81
def mX3_contract (σ : ST) (a1 : Int32) (a2 : Int32) (a3 : Int32) : Option (Int32 × ST) := sv (sI σ 0 0 10 (0 : Int32)) fun σ_4 => (mX3_isRate a1).bind fun q_5 => if q_5 = (0 : Int32) then (some ((0 : Int32), σ_4)) else ((mX3_isIn (Int32.toInt64 a2) (1 : Int64) (40 : Int64)).bind fun q_7 => if q_7 = (0 : Int32) then (some ((0 : Int32), σ_4)) else ((mX3_isIn (Int32.toInt64 a3) (Int32.toInt64 a2) (40 : Int64)).bind fun q_9 => if q_9 = (0 : Int32) then (some ((0 : Int32), σ_4)) else (if (gI σ_4 0 0 2) = a1 then (if (gI σ_4 0 0 3) = a2 then (if (gI σ_4 0 0 4) = a3 then (some ((0 : Int32), σ_4)) else (kX3_contract_65 (σ_4, a1, a2, a3))) else (kX3_contract_65 (σ_4, a1, a2, a3))) else (kX3_contract_65 (σ_4, a1, a2, a3)))))
set_option maxHeartbeats 4000000 in
set_option maxRecDepth 100000 in
theorem ctX3_contract (l : Launch) (D : va_G) (cy : Nat → ClassId) (ad : Nat → Nat → Nat) (σ : ST) (a1 : Int32) (a2 : Int32) (a3 : Int32) (q : Int32 × ST) (hm : mX3_contract σ a1 a2 a3 = some q) : zMi l yX3_contract wsX3_contract rmX3_contract D cy [.ref (ad 0 0), .int a1, .int a2, .int a3] (mw cy ad σ) q.1 (mw cy ad q.2) := by
  intro sz
  refine Met.ofW (cc := cX3_contract) (maxL := 4) (ret := (some .boolean)) (by decide) rfl ?_
  intro p e s m args below meth c s₁ B hml hv
  obtain ⟨rfl, hsz, hP, hK, hD0⟩ := hv
  have hx := B.exec
  have hb := B.bytes
  have hr := B.returns
  have hts := atoms_spec (ws := wsX3_contract) B.pre
  have hown : s.vm.findClass RX3 = some m.cls := findClass_of_methodNamed B.named
  have hlocks := B.notSynchronized
  subst hsz
  have hD := hD0.self (sz := s.heap.size)
  generalize hAe : va_A (mw cy ad σ) s.heap.size = A at hD ⊢
  have hA : ∀ q : Nat, s.heap.size ≤ q → A q := fun q h => by rw [← hAe]; exact Or.inr h
  have hS : va_S A s.heap s.heap [] := va_S.rf
  have C : Cx p s m _ meth c cX3_contract 4 (some .boolean) RX3 wsX3_contract D cy A := ⟨hx, hb, hml, hown, hts, hr, hlocks, hK, hA⟩
  have hl := lv_entry ([.ref (ad 0 0), .int a1, .int a2, .int a3]) (n := 4) (Nat.le_of_ble_eq_true rfl)
  rw [lg_entry_eq]
  generalize (lg_sl ([.ref (ad 0 0), .int a1, .int a2, .int a3]) ++ List.replicate (4 - (lg_sl ([.ref (ad 0 0), .int a1, .int a2, .int a3])).length) Slot.unset).toArray = ls at hl ⊢
  have hl : lv_has ls 4 [(0, .ref (ad 0 0)), (1, .int a1), (2, .int a2), (3, .int a3)] := hl
  unfold mX3_contract at hm
  refine lv_aload_n hx hb dX3_contract_0 rfl (lv_at hl 0 rfl) ?_
  refine lv_iconst (v := 0) hx hb dX3_contract_1 (by decide) ?_
  refine va_put (D := D) (ci := 3) (v := .int (0 : Int32)) (ty := .int) (C := RX3) (T := TX3) (N := 20) hx hb hts iwX3_contract_X3 tyX3 tyX3_ok nmX3 hown hK.1 hP hD hS 0 mw_0 rfl 10 (by decide) (hts _ lkX3_contract_61) (fun _ h9 => h9) rfl (by decide +kernel) rfl rfl (Nat.le_of_ble_eq_true rfl) dX3_contract_2 (fun H locs hP hD hS => ?_)
  have hP := eP (mw_s0 (σ := σ) (j := 10) (v := (0 : Int32)) (by rfl)) hP
  have hD := eD (mw_s0 (σ := σ) (j := 10) (v := (0 : Int32)) (by rfl)) hD
  obtain ⟨σ_4, e_4, hm⟩ := sv_some hm
  have hP : va_P D vwCl (mw cy ad σ_4) H := by rw [e_4]; exact hP
  have hD : va_D A (mw cy ad σ_4) := by rw [e_4]; exact hD
  refine lv_iload_n hx hb dX3_contract_5 rfl (lv_at hl 1 rfl) ?_
  obtain ⟨q_5, hq_5, hm⟩ := ob hm
  refine zc_i (zr_S [.int a1] [] ⟨hx, hb, hml, hown, hts⟩ (ctX3_isRate l D cy (mw cy ad σ_4)  a1 q_5 hq_5 _) (va_cwS 1 hts gX3_contract_X3_isRate rfl rfl rfl (by decide +kernel) ⟨Nat.le_of_ble_eq_true rfl, Nat.le_of_ble_eq_true rfl⟩) hK hP hD rfl hl.1 rfl (Nat.le_of_ble_eq_true rfl) dX3_contract_6 ⟨Nat.zero_le _, Nat.zero_le _⟩) hD hS hA (fun H locs hP hD hS => ?_)
  refine lv_if_eq (tgt := 37) hx hb dX3_contract_9 (by decide) (fun c_6 => ?_) (fun c_6 => ?_)
  · have hm := ifp c_6 hm
    refine lv_iconst (v := 0) hx hb dX3_contract_37 (by decide) ?_
    exact z_z hx hb hr hlocks (by decide) hm hP hD hS dX3_contract_38
  · have hm := ifn c_6 hm
    refine lv_iload_n hx hb dX3_contract_12 rfl (lv_at hl 2 rfl) ?_
    refine lv_i2l hx hb dX3_contract_13 rfl ?_
    refine lv_lconst (v := 1) hx hb dX3_contract_14 (by decide) ?_
    refine lv_ldc2 (v := 40) hx hb hown (hts _ lkX3_contract_75) dX3_contract_15 ?_
    obtain ⟨q_7, hq_7, hm⟩ := ob hm
    refine zc_i (zr_S [.long (Int32.toInt64 a2), .long (1 : Int64), .long (40 : Int64)] [] ⟨hx, hb, hml, hown, hts⟩ (ctX3_isIn l D cy (mw cy ad σ_4)  (Int32.toInt64 a2) (1 : Int64) (40 : Int64) q_7 hq_7 _) (va_cwS 3 hts gX3_contract_X3_isIn rfl rfl rfl (by decide +kernel) ⟨Nat.le_of_ble_eq_true rfl, Nat.le_of_ble_eq_true rfl⟩) hK hP hD rfl hl.1 rfl (Nat.le_of_ble_eq_true rfl) dX3_contract_18 ⟨Nat.zero_le _, Nat.zero_le _⟩) hD hS hA (fun H locs hP hD hS => ?_)
    refine lv_if_eq (tgt := 37) hx hb dX3_contract_21 (by decide) (fun c_8 => ?_) (fun c_8 => ?_)
    · have hm := ifp c_8 hm
      refine lv_iconst (v := 0) hx hb dX3_contract_37 (by decide) ?_
      exact z_z hx hb hr hlocks (by decide) hm hP hD hS dX3_contract_38
    · have hm := ifn c_8 hm
      refine lv_iload_n hx hb dX3_contract_24 rfl (lv_at hl 3 rfl) ?_
      refine lv_i2l hx hb dX3_contract_25 rfl ?_
      refine lv_iload_n hx hb dX3_contract_26 rfl (lv_at hl 2 rfl) ?_
      refine lv_i2l hx hb dX3_contract_27 rfl ?_
      refine lv_ldc2 (v := 40) hx hb hown (hts _ lkX3_contract_75) dX3_contract_28 ?_
      obtain ⟨q_9, hq_9, hm⟩ := ob hm
      refine zc_i (zr_S [.long (Int32.toInt64 a3), .long (Int32.toInt64 a2), .long (40 : Int64)] [] ⟨hx, hb, hml, hown, hts⟩ (ctX3_isIn l D cy (mw cy ad σ_4)  (Int32.toInt64 a3) (Int32.toInt64 a2) (40 : Int64) q_9 hq_9 _) (va_cwS 3 hts gX3_contract_X3_isIn rfl rfl rfl (by decide +kernel) ⟨Nat.le_of_ble_eq_true rfl, Nat.le_of_ble_eq_true rfl⟩) hK hP hD rfl hl.1 rfl (Nat.le_of_ble_eq_true rfl) dX3_contract_31 ⟨Nat.zero_le _, Nat.zero_le _⟩) hD hS hA (fun H locs hP hD hS => ?_)
      refine lv_if_ne (tgt := 39) hx hb dX3_contract_34 (by decide) (fun c_10 => ?_) (fun c_10 => ?_)
      · have hm := ifn c_10 hm
        refine lv_aload_n hx hb dX3_contract_39 rfl (lv_at hl 0 rfl) ?_
        refine va_get (D := D) (ci := 3) (v := .int (gI σ_4 0 0 2)) (C := RX3) (T := TX3) (N := 20) hx hb hts iwX3_contract_X3 hown hK.1 hP 0 mw_0 rfl 2 (by decide) (hts _ lkX3_contract_13) (fun _ h9 => h9) rfl dX3_contract_40 ?_
        refine lv_iload_n hx hb dX3_contract_43 rfl (lv_at hl 1 rfl) ?_
        refine lv_icmp_ne (tgt := 65) hx hb dX3_contract_44 (by decide) (fun c_11 => ?_) (fun c_11 => ?_)
        · have hm := ifn c_11 hm
          exact kX3_contract_65_ok C q σ_4 a1 a2 a3 _ _ hP hD hS _ (lv_sub hl [0, 1, 2, 3] rfl) hm
        · have hm := ifp c_11 hm
          refine lv_aload_n hx hb dX3_contract_47 rfl (lv_at hl 0 rfl) ?_
          refine va_get (D := D) (ci := 3) (v := .int (gI σ_4 0 0 3)) (C := RX3) (T := TX3) (N := 20) hx hb hts iwX3_contract_X3 hown hK.1 hP 0 mw_0 rfl 3 (by decide) (hts _ lkX3_contract_17) (fun _ h9 => h9) rfl dX3_contract_48 ?_
          refine lv_iload_n hx hb dX3_contract_51 rfl (lv_at hl 2 rfl) ?_
          refine lv_icmp_ne (tgt := 65) hx hb dX3_contract_52 (by decide) (fun c_12 => ?_) (fun c_12 => ?_)
          · have hm := ifn c_12 hm
            exact kX3_contract_65_ok C q σ_4 a1 a2 a3 _ _ hP hD hS _ (lv_sub hl [0, 1, 2, 3] rfl) hm
          · have hm := ifp c_12 hm
            refine lv_aload_n hx hb dX3_contract_55 rfl (lv_at hl 0 rfl) ?_
            refine va_get (D := D) (ci := 3) (v := .int (gI σ_4 0 0 4)) (C := RX3) (T := TX3) (N := 20) hx hb hts iwX3_contract_X3 hown hK.1 hP 0 mw_0 rfl 4 (by decide) (hts _ lkX3_contract_20) (fun _ h9 => h9) rfl dX3_contract_56 ?_
            refine lv_iload_n hx hb dX3_contract_59 rfl (lv_at hl 3 rfl) ?_
            refine lv_icmp_ne (tgt := 65) hx hb dX3_contract_60 (by decide) (fun c_13 => ?_) (fun c_13 => ?_)
            · have hm := ifn c_13 hm
              exact kX3_contract_65_ok C q σ_4 a1 a2 a3 _ _ hP hD hS _ (lv_sub hl [0, 1, 2, 3] rfl) hm
            · have hm := ifp c_13 hm
              refine lv_iconst (v := 0) hx hb dX3_contract_63 (by decide) ?_
              exact z_z hx hb hr hlocks (by decide) hm hP hD hS dX3_contract_64
      · have hm := ifp c_10 hm
        refine lv_iconst (v := 0) hx hb dX3_contract_37 (by decide) ?_
        exact z_z hx hb hr hlocks (by decide) hm hP hD hS dX3_contract_38
abbrev rmX3_stocks : Room := { frames := 7, cells := 0, slots := 0, locals := 158 }
theorem lkX3_stocks_64 : Cond.fieldLink RX3 64 "DeliveryBasketModel" "many" "I" ∈ wsX3_stocks := by decide +kernel
theorem iwX3_stocks_X3 : ∀ w ∈ wsX30, w ∈ wsX3_stocks := fun _ h => List.mem_cons_of_mem _ (List.mem_append_right _ h)
def bkX3_stocks_4 (σ : ST)  (rec : Int32 × Int32 → Option (Int32)) (x1 : Int32) (x2 : Int32) : Option (Int32) := if (gI σ 0 0 1) ≤ x2 then (some x1) else ((mX3_isEligible σ x2).bind fun q_2 => if q_2 = (0 : Int32) then (rec ((x1 + (0 : Int32)), (x2 + (1 : Int32)))) else ((mX3_of1 σ x2 (5 : Int32)).bind fun q_4 => rec ((x1 + q_4), (x2 + (1 : Int32)))))
def kX3_stocks_4 (σ : ST)  (n : Nat) (a : Int32 × Int32) : Option (Int32) := fx (fun rec a => bkX3_stocks_4 σ  rec a.1 a.2) n a
set_option maxHeartbeats 4000000 in
set_option maxRecDepth 100000 in
theorem kX3_stocks_4_ok {p : Program} {l : Launch} {e : Env} {s : State} {m : MethodId} {args : Array Value} {below : List Frame} {meth : Method} {c : Code} {D : va_G} {cy : Nat → ClassId} {ad : Nat → Nat → Nat} {A : Nat → Prop} (C : Cx p s m args meth c cX3_stocks 3 (some .int) RX3 wsX3_stocks D cy A) (q : Int32) (σ : ST) : ∀ (n : Nat) (x1 : Int32) (x2 : Int32), ∀ (H : Heap) (locs : List Loc), va_P D vwCl (mw cy ad σ) H → va_D A (mw cy ad σ) → va_S A s.heap H locs → ∀ ls : Array Slot, lv_has ls 3 [(0, .ref (ad 0 0)), (1, .int x1), (2, .int x2)] → kX3_stocks_4 σ n (x1, x2) = some q → W p l e rmX3_stocks s m args below meth c H locs 0 0 (MQ below (zQi D (mw cy ad σ) A q) args s 0 0 A) (F0 m 4 ls []) := by
  obtain ⟨hx, hb, hml, hown, hts, hr, hlocks, hK, hA⟩ := id C
  intro n
  induction n with
  | zero => intro x1 x2 H locs hP hD hS ls hl hm; cases hm
  | succ n ih =>
    intro x1 x2 H locs hP hD hS ls hl hm
    have hm : bkX3_stocks_4 σ  (kX3_stocks_4 σ n) x1 x2 = some q := hm
    unfold bkX3_stocks_4 at hm
    refine lv_iload_n hx hb dX3_stocks_4 rfl (lv_at hl 2 rfl) ?_
    refine lv_aload_n hx hb dX3_stocks_5 rfl (lv_at hl 0 rfl) ?_
    refine va_get (D := D) (ci := 3) (v := .int (gI σ 0 0 1)) (C := RX3) (T := TX3) (N := 20) hx hb hts iwX3_stocks_X3 hown hK.1 hP 0 mw_0 rfl 1 (by decide) (hts _ lkX3_stocks_64) (fun _ h9 => h9) rfl dX3_stocks_6 ?_
    refine lv_icmp_ge (tgt := 39) hx hb dX3_stocks_9 (by decide) (fun c_1 => ?_) (fun c_1 => ?_)
    · have hm := ifp c_1 hm
      refine lv_iload_n hx hb dX3_stocks_39 rfl (lv_at hl 1 rfl) ?_
      exact z_pi hx hb hr hlocks hm hP hD hS dX3_stocks_40
    · have hm := ifn c_1 hm
      refine lv_iload_n hx hb dX3_stocks_12 rfl (lv_at hl 1 rfl) ?_
      refine lv_aload_n hx hb dX3_stocks_13 rfl (lv_at hl 0 rfl) ?_
      refine lv_iload_n hx hb dX3_stocks_14 rfl (lv_at hl 2 rfl) ?_
      obtain ⟨q_2, hq_2, hm⟩ := ob hm
      refine zc_i (zr_V [.int x2] [.int x1] ⟨hx, hb, hml, hown, hts⟩ (ctX3_isEligible l D cy ad σ  x2 q_2 hq_2 _) (cwV 1 hts gX3_stocks_X3_isEligible rfl rfl rfl (by decide +kernel) ⟨Nat.le_of_ble_eq_true rfl, Nat.le_of_ble_eq_true rfl⟩) hK hP hD 0 mw_0 rfl rfl rfl hl.1 rfl (Nat.le_of_ble_eq_true rfl) dX3_stocks_15 ⟨Nat.zero_le _, Nat.zero_le _⟩) hD hS hA (fun H locs hP hD hS => ?_)
      refine lv_if_eq (tgt := 30) hx hb dX3_stocks_18 (by decide) (fun c_3 => ?_) (fun c_3 => ?_)
      · have hm := ifp c_3 hm
        refine lv_iconst (v := 0) hx hb dX3_stocks_30 (by decide) ?_
        refine lv_iadd hx hb dX3_stocks_31 ?_
        refine lv_istore_n (lv' := [(1, .int (x1 + (0 : Int32))), (0, .ref (ad 0 0)), (2, .int x2)]) hx hb dX3_stocks_32 rfl hl (by decide) rfl (fun ls hl => ?_)
        refine lv_iinc (v := (x2 + (1 : Int32))) (lv' := [(2, .int (x2 + (1 : Int32))), (1, .int (x1 + (0 : Int32))), (0, .ref (ad 0 0))]) hx hb dX3_stocks_33 hl (k := 2) rfl rfl (by decide) rfl (fun ls hl => ?_)
        refine lv_goto (tgt := 4) hx hb dX3_stocks_36 (by decide) ?_
        exact ih (x1 + (0 : Int32)) (x2 + (1 : Int32)) _ _ hP hD hS _ (lv_sub hl [2, 1, 0] rfl) hm
      · have hm := ifn c_3 hm
        refine lv_aload_n hx hb dX3_stocks_21 rfl (lv_at hl 0 rfl) ?_
        refine lv_iload_n hx hb dX3_stocks_22 rfl (lv_at hl 2 rfl) ?_
        refine lv_iconst (v := 5) hx hb dX3_stocks_23 (by decide) ?_
        obtain ⟨q_4, hq_4, hm⟩ := ob hm
        refine zc_i (zr_V [.int x2, .int (5 : Int32)] [.int x1] ⟨hx, hb, hml, hown, hts⟩ (ctX3_of1 l D cy ad σ  x2 (5 : Int32) q_4 hq_4 _) (cwV 2 hts gX3_stocks_X3_of1 rfl rfl rfl (by decide +kernel) ⟨Nat.le_of_ble_eq_true rfl, Nat.le_of_ble_eq_true rfl⟩) hK hP hD 0 mw_0 rfl rfl rfl hl.1 rfl (Nat.le_of_ble_eq_true rfl) dX3_stocks_24 ⟨Nat.zero_le _, Nat.zero_le _⟩) hD hS hA (fun H locs hP hD hS => ?_)
        refine lv_goto (tgt := 31) hx hb dX3_stocks_27 (by decide) ?_
        refine lv_iadd hx hb dX3_stocks_31 ?_
        refine lv_istore_n (lv' := [(1, .int (x1 + q_4)), (0, .ref (ad 0 0)), (2, .int x2)]) hx hb dX3_stocks_32 rfl hl (by decide) rfl (fun ls hl => ?_)
        refine lv_iinc (v := (x2 + (1 : Int32))) (lv' := [(2, .int (x2 + (1 : Int32))), (1, .int (x1 + q_4)), (0, .ref (ad 0 0))]) hx hb dX3_stocks_33 hl (k := 2) rfl rfl (by decide) rfl (fun ls hl => ?_)
        refine lv_goto (tgt := 4) hx hb dX3_stocks_36 (by decide) ?_
        exact ih (x1 + q_4) (x2 + (1 : Int32)) _ _ hP hD hS _ (lv_sub hl [2, 1, 0] rfl) hm
def mX3_stocks (σ : ST) : Option (Int32) := kX3_stocks_4 σ FU ((0 : Int32), (0 : Int32))
set_option maxHeartbeats 4000000 in
set_option maxRecDepth 100000 in
theorem ctX3_stocks (l : Launch) (D : va_G) (cy : Nat → ClassId) (ad : Nat → Nat → Nat) (σ : ST)  (q : Int32) (hm : mX3_stocks σ = some q) : zMi l yX3_stocks wsX3_stocks rmX3_stocks D cy [.ref (ad 0 0)] (mw cy ad σ) q (mw cy ad σ) := by
  intro sz
  refine Met.ofW (cc := cX3_stocks) (maxL := 3) (ret := (some .int)) (by decide) rfl ?_
  intro p e s m args below meth c s₁ B hml hv
  obtain ⟨rfl, hsz, hP, hK, hD0⟩ := hv
  have hx := B.exec
  have hb := B.bytes
  have hr := B.returns
  have hts := atoms_spec (ws := wsX3_stocks) B.pre
  have hown : s.vm.findClass RX3 = some m.cls := findClass_of_methodNamed B.named
  have hlocks := B.notSynchronized
  subst hsz
  have hD := hD0.self (sz := s.heap.size)
  generalize hAe : va_A (mw cy ad σ) s.heap.size = A at hD ⊢
  have hA : ∀ q : Nat, s.heap.size ≤ q → A q := fun q h => by rw [← hAe]; exact Or.inr h
  have hS : va_S A s.heap s.heap [] := va_S.rf
  have C : Cx p s m _ meth c cX3_stocks 3 (some .int) RX3 wsX3_stocks D cy A := ⟨hx, hb, hml, hown, hts, hr, hlocks, hK, hA⟩
  have hl := lv_entry ([.ref (ad 0 0)]) (n := 3) (Nat.le_of_ble_eq_true rfl)
  rw [lg_entry_eq]
  generalize (lg_sl ([.ref (ad 0 0)]) ++ List.replicate (3 - (lg_sl ([.ref (ad 0 0)])).length) Slot.unset).toArray = ls at hl ⊢
  have hl : lv_has ls 3 [(0, .ref (ad 0 0))] := hl
  unfold mX3_stocks at hm
  refine lv_iconst (v := 0) hx hb dX3_stocks_0 (by decide) ?_
  refine lv_istore_n (lv' := [(1, .int (0 : Int32)), (0, .ref (ad 0 0))]) hx hb dX3_stocks_1 rfl hl (by decide) rfl (fun ls hl => ?_)
  refine lv_iconst (v := 0) hx hb dX3_stocks_2 (by decide) ?_
  refine lv_istore_n (lv' := [(2, .int (0 : Int32)), (1, .int (0 : Int32)), (0, .ref (ad 0 0))]) hx hb dX3_stocks_3 rfl hl (by decide) rfl (fun ls hl => ?_)
  exact kX3_stocks_4_ok C q σ FU (0 : Int32) (0 : Int32) _ _ hP hD hS _ (lv_sub hl [2, 1, 0] rfl) hm
abbrev rmX3_count : Room := { frames := 8, cells := 0, slots := 0, locals := 180 }
theorem lkX3_count_61 : Cond.fieldLink RX3 61 "DeliveryBasketModel" "thrown" "I" ∈ wsX3_count := by decide +kernel
theorem iwX3_count_X3 : ∀ w ∈ wsX30, w ∈ wsX3_count := fun _ h => List.mem_cons_of_mem _ (List.mem_append_right _ h)
theorem lkX3_count_64 : Cond.fieldLink RX3 64 "DeliveryBasketModel" "many" "I" ∈ wsX3_count := by decide +kernel
theorem lkX3_count_13 : Cond.fieldLink RX3 13 "DeliveryBasketModel" "notional" "I" ∈ wsX3_count := by decide +kernel
theorem lkX3_count_17 : Cond.fieldLink RX3 17 "DeliveryBasketModel" "least" "I" ∈ wsX3_count := by decide +kernel
theorem lkX3_count_20 : Cond.fieldLink RX3 20 "DeliveryBasketModel" "most" "I" ∈ wsX3_count := by decide +kernel
theorem lkX3_count_141 : Cond.fieldLink RX3 141 "DeliveryBasketModel" "days" "I" ∈ wsX3_count := by decide +kernel
theorem lkX3_count_23 : Cond.fieldLink RX3 23 "DeliveryBasketModel" "start" "I" ∈ wsX3_count := by decide +kernel
theorem lkX3_count_26 : Cond.fieldLink RX3 26 "DeliveryBasketModel" "jump" "I" ∈ wsX3_count := by decide +kernel
theorem lkX3_count_144 : Cond.fieldLink RX3 144 "DeliveryBasketModel" "carry" "I" ∈ wsX3_count := by decide +kernel
theorem lkX3_count_30 : Cond.fieldLink RX3 30 "DeliveryBasketModel" "agreed" "I" ∈ wsX3_count := by decide +kernel
def mX3_count (σ : ST) (a1 : Int32) : Option (Int32 × ST) := sv (sI σ 0 0 10 (0 : Int32)) fun σ_1 => if a1 = (0 : Int32) then (some ((gI σ_1 0 0 1), σ_1)) else (if a1 = (1 : Int32) then ((mX3_eligible σ_1).bind fun q_4 => some (q_4, σ_1)) else (if a1 = (2 : Int32) then (some ((gI σ_1 0 0 2), σ_1)) else (if a1 = (3 : Int32) then (some ((gI σ_1 0 0 3), σ_1)) else (if a1 = (4 : Int32) then (some ((gI σ_1 0 0 4), σ_1)) else (if a1 = (5 : Int32) then ((mX3_stocks σ_1).bind fun q_9 => some (q_9, σ_1)) else (if a1 = (6 : Int32) then (some ((gI σ_1 0 0 5), σ_1)) else (if a1 = (7 : Int32) then (some ((gI σ_1 0 0 6), σ_1)) else (if a1 = (8 : Int32) then (some ((gI σ_1 0 0 7), σ_1)) else (if a1 = (9 : Int32) then (some ((gI σ_1 0 0 8), σ_1)) else (if a1 = (10 : Int32) then (some ((gI σ_1 0 0 9), σ_1)) else (some ((-1 : Int32), σ_1))))))))))))
set_option maxHeartbeats 4000000 in
set_option maxRecDepth 100000 in
theorem ctX3_count (l : Launch) (D : va_G) (cy : Nat → ClassId) (ad : Nat → Nat → Nat) (σ : ST) (a1 : Int32) (q : Int32 × ST) (hm : mX3_count σ a1 = some q) : zMi l yX3_count wsX3_count rmX3_count D cy [.ref (ad 0 0), .int a1] (mw cy ad σ) q.1 (mw cy ad q.2) := by
  intro sz
  refine Met.ofW (cc := cX3_count) (maxL := 2) (ret := (some .int)) (by decide) rfl ?_
  intro p e s m args below meth c s₁ B hml hv
  obtain ⟨rfl, hsz, hP, hK, hD0⟩ := hv
  have hx := B.exec
  have hb := B.bytes
  have hr := B.returns
  have hts := atoms_spec (ws := wsX3_count) B.pre
  have hown : s.vm.findClass RX3 = some m.cls := findClass_of_methodNamed B.named
  have hlocks := B.notSynchronized
  subst hsz
  have hD := hD0.self (sz := s.heap.size)
  generalize hAe : va_A (mw cy ad σ) s.heap.size = A at hD ⊢
  have hA : ∀ q : Nat, s.heap.size ≤ q → A q := fun q h => by rw [← hAe]; exact Or.inr h
  have hS : va_S A s.heap s.heap [] := va_S.rf
  have C : Cx p s m _ meth c cX3_count 2 (some .int) RX3 wsX3_count D cy A := ⟨hx, hb, hml, hown, hts, hr, hlocks, hK, hA⟩
  have hl := lv_entry ([.ref (ad 0 0), .int a1]) (n := 2) (Nat.le_of_ble_eq_true rfl)
  rw [lg_entry_eq]
  generalize (lg_sl ([.ref (ad 0 0), .int a1]) ++ List.replicate (2 - (lg_sl ([.ref (ad 0 0), .int a1])).length) Slot.unset).toArray = ls at hl ⊢
  have hl : lv_has ls 2 [(0, .ref (ad 0 0)), (1, .int a1)] := hl
  unfold mX3_count at hm
  refine lv_aload_n hx hb dX3_count_0 rfl (lv_at hl 0 rfl) ?_
  refine lv_iconst (v := 0) hx hb dX3_count_1 (by decide) ?_
  refine va_put (D := D) (ci := 3) (v := .int (0 : Int32)) (ty := .int) (C := RX3) (T := TX3) (N := 20) hx hb hts iwX3_count_X3 tyX3 tyX3_ok nmX3 hown hK.1 hP hD hS 0 mw_0 rfl 10 (by decide) (hts _ lkX3_count_61) (fun _ h9 => h9) rfl (by decide +kernel) rfl rfl (Nat.le_of_ble_eq_true rfl) dX3_count_2 (fun H locs hP hD hS => ?_)
  have hP := eP (mw_s0 (σ := σ) (j := 10) (v := (0 : Int32)) (by rfl)) hP
  have hD := eD (mw_s0 (σ := σ) (j := 10) (v := (0 : Int32)) (by rfl)) hD
  obtain ⟨σ_1, e_1, hm⟩ := sv_some hm
  have hP : va_P D vwCl (mw cy ad σ_1) H := by rw [e_1]; exact hP
  have hD : va_D A (mw cy ad σ_1) := by rw [e_1]; exact hD
  refine lv_iload_n hx hb dX3_count_5 rfl (lv_at hl 1 rfl) ?_
  by_cases c_2 : a1 = (0 : Int32)
  · have hm := ifp c_2 hm
    refine lv_tableIn (off := 58) (tgt := 64) hx hb dX3_count_6 (by rw [c_2]; decide) (by rw [c_2]; decide) (by rw [c_2]; decide) (by decide) ?_
    refine lv_aload_n hx hb dX3_count_64 rfl (lv_at hl 0 rfl) ?_
    refine va_get (D := D) (ci := 3) (v := .int (gI σ_1 0 0 1)) (C := RX3) (T := TX3) (N := 20) hx hb hts iwX3_count_X3 hown hK.1 hP 0 mw_0 rfl 1 (by decide) (hts _ lkX3_count_64) (fun _ h9 => h9) rfl dX3_count_65 ?_
    exact z_i hx hb hr hlocks hm hP hD hS dX3_count_68
  · have hm := ifn c_2 hm
    by_cases c_3 : a1 = (1 : Int32)
    · have hm := ifp c_3 hm
      refine lv_tableIn (off := 63) (tgt := 69) hx hb dX3_count_6 (by rw [c_3]; decide) (by rw [c_3]; decide) (by rw [c_3]; decide) (by decide) ?_
      refine lv_aload_n hx hb dX3_count_69 rfl (lv_at hl 0 rfl) ?_
      obtain ⟨q_4, hq_4, hm⟩ := ob hm
      refine zc_i (zr_V [] [] ⟨hx, hb, hml, hown, hts⟩ (ctX3_eligible l D cy ad σ_1   q_4 hq_4 _) (cwV 0 hts gX3_count_X3_eligible rfl rfl rfl (by decide +kernel) ⟨Nat.le_of_ble_eq_true rfl, Nat.le_of_ble_eq_true rfl⟩) hK hP hD 0 mw_0 rfl rfl rfl hl.1 rfl (Nat.le_of_ble_eq_true rfl) dX3_count_70 ⟨Nat.zero_le _, Nat.zero_le _⟩) hD hS hA (fun H locs hP hD hS => ?_)
      exact z_i hx hb hr hlocks hm hP hD hS dX3_count_73
    · have hm := ifn c_3 hm
      by_cases c_5 : a1 = (2 : Int32)
      · have hm := ifp c_5 hm
        refine lv_tableIn (off := 68) (tgt := 74) hx hb dX3_count_6 (by rw [c_5]; decide) (by rw [c_5]; decide) (by rw [c_5]; decide) (by decide) ?_
        refine lv_aload_n hx hb dX3_count_74 rfl (lv_at hl 0 rfl) ?_
        refine va_get (D := D) (ci := 3) (v := .int (gI σ_1 0 0 2)) (C := RX3) (T := TX3) (N := 20) hx hb hts iwX3_count_X3 hown hK.1 hP 0 mw_0 rfl 2 (by decide) (hts _ lkX3_count_13) (fun _ h9 => h9) rfl dX3_count_75 ?_
        exact z_i hx hb hr hlocks hm hP hD hS dX3_count_78
      · have hm := ifn c_5 hm
        by_cases c_6 : a1 = (3 : Int32)
        · have hm := ifp c_6 hm
          refine lv_tableIn (off := 73) (tgt := 79) hx hb dX3_count_6 (by rw [c_6]; decide) (by rw [c_6]; decide) (by rw [c_6]; decide) (by decide) ?_
          refine lv_aload_n hx hb dX3_count_79 rfl (lv_at hl 0 rfl) ?_
          refine va_get (D := D) (ci := 3) (v := .int (gI σ_1 0 0 3)) (C := RX3) (T := TX3) (N := 20) hx hb hts iwX3_count_X3 hown hK.1 hP 0 mw_0 rfl 3 (by decide) (hts _ lkX3_count_17) (fun _ h9 => h9) rfl dX3_count_80 ?_
          exact z_i hx hb hr hlocks hm hP hD hS dX3_count_83
        · have hm := ifn c_6 hm
          by_cases c_7 : a1 = (4 : Int32)
          · have hm := ifp c_7 hm
            refine lv_tableIn (off := 78) (tgt := 84) hx hb dX3_count_6 (by rw [c_7]; decide) (by rw [c_7]; decide) (by rw [c_7]; decide) (by decide) ?_
            refine lv_aload_n hx hb dX3_count_84 rfl (lv_at hl 0 rfl) ?_
            refine va_get (D := D) (ci := 3) (v := .int (gI σ_1 0 0 4)) (C := RX3) (T := TX3) (N := 20) hx hb hts iwX3_count_X3 hown hK.1 hP 0 mw_0 rfl 4 (by decide) (hts _ lkX3_count_20) (fun _ h9 => h9) rfl dX3_count_85 ?_
            exact z_i hx hb hr hlocks hm hP hD hS dX3_count_88
          · have hm := ifn c_7 hm
            by_cases c_8 : a1 = (5 : Int32)
            · have hm := ifp c_8 hm
              refine lv_tableIn (off := 83) (tgt := 89) hx hb dX3_count_6 (by rw [c_8]; decide) (by rw [c_8]; decide) (by rw [c_8]; decide) (by decide) ?_
              refine lv_aload_n hx hb dX3_count_89 rfl (lv_at hl 0 rfl) ?_
              obtain ⟨q_9, hq_9, hm⟩ := ob hm
              refine zc_i (zr_V [] [] ⟨hx, hb, hml, hown, hts⟩ (ctX3_stocks l D cy ad σ_1   q_9 hq_9 _) (cwV 0 hts gX3_count_X3_stocks rfl rfl rfl (by decide +kernel) ⟨Nat.le_of_ble_eq_true rfl, Nat.le_of_ble_eq_true rfl⟩) hK hP hD 0 mw_0 rfl rfl rfl hl.1 rfl (Nat.le_of_ble_eq_true rfl) dX3_count_90 ⟨Nat.zero_le _, Nat.zero_le _⟩) hD hS hA (fun H locs hP hD hS => ?_)
              exact z_i hx hb hr hlocks hm hP hD hS dX3_count_93
            · have hm := ifn c_8 hm
              by_cases c_10 : a1 = (6 : Int32)
              · have hm := ifp c_10 hm
                refine lv_tableIn (off := 88) (tgt := 94) hx hb dX3_count_6 (by rw [c_10]; decide) (by rw [c_10]; decide) (by rw [c_10]; decide) (by decide) ?_
                refine lv_aload_n hx hb dX3_count_94 rfl (lv_at hl 0 rfl) ?_
                refine va_get (D := D) (ci := 3) (v := .int (gI σ_1 0 0 5)) (C := RX3) (T := TX3) (N := 20) hx hb hts iwX3_count_X3 hown hK.1 hP 0 mw_0 rfl 5 (by decide) (hts _ lkX3_count_141) (fun _ h9 => h9) rfl dX3_count_95 ?_
                exact z_i hx hb hr hlocks hm hP hD hS dX3_count_98
              · have hm := ifn c_10 hm
                by_cases c_11 : a1 = (7 : Int32)
                · have hm := ifp c_11 hm
                  refine lv_tableIn (off := 93) (tgt := 99) hx hb dX3_count_6 (by rw [c_11]; decide) (by rw [c_11]; decide) (by rw [c_11]; decide) (by decide) ?_
                  refine lv_aload_n hx hb dX3_count_99 rfl (lv_at hl 0 rfl) ?_
                  refine va_get (D := D) (ci := 3) (v := .int (gI σ_1 0 0 6)) (C := RX3) (T := TX3) (N := 20) hx hb hts iwX3_count_X3 hown hK.1 hP 0 mw_0 rfl 6 (by decide) (hts _ lkX3_count_23) (fun _ h9 => h9) rfl dX3_count_100 ?_
                  exact z_i hx hb hr hlocks hm hP hD hS dX3_count_103
                · have hm := ifn c_11 hm
                  by_cases c_12 : a1 = (8 : Int32)
                  · have hm := ifp c_12 hm
                    refine lv_tableIn (off := 98) (tgt := 104) hx hb dX3_count_6 (by rw [c_12]; decide) (by rw [c_12]; decide) (by rw [c_12]; decide) (by decide) ?_
                    refine lv_aload_n hx hb dX3_count_104 rfl (lv_at hl 0 rfl) ?_
                    refine va_get (D := D) (ci := 3) (v := .int (gI σ_1 0 0 7)) (C := RX3) (T := TX3) (N := 20) hx hb hts iwX3_count_X3 hown hK.1 hP 0 mw_0 rfl 7 (by decide) (hts _ lkX3_count_26) (fun _ h9 => h9) rfl dX3_count_105 ?_
                    exact z_i hx hb hr hlocks hm hP hD hS dX3_count_108
                  · have hm := ifn c_12 hm
                    by_cases c_13 : a1 = (9 : Int32)
                    · have hm := ifp c_13 hm
                      refine lv_tableIn (off := 103) (tgt := 109) hx hb dX3_count_6 (by rw [c_13]; decide) (by rw [c_13]; decide) (by rw [c_13]; decide) (by decide) ?_
                      refine lv_aload_n hx hb dX3_count_109 rfl (lv_at hl 0 rfl) ?_
                      refine va_get (D := D) (ci := 3) (v := .int (gI σ_1 0 0 8)) (C := RX3) (T := TX3) (N := 20) hx hb hts iwX3_count_X3 hown hK.1 hP 0 mw_0 rfl 8 (by decide) (hts _ lkX3_count_144) (fun _ h9 => h9) rfl dX3_count_110 ?_
                      exact z_i hx hb hr hlocks hm hP hD hS dX3_count_113
                    · have hm := ifn c_13 hm
                      by_cases c_14 : a1 = (10 : Int32)
                      · have hm := ifp c_14 hm
                        refine lv_tableIn (off := 108) (tgt := 114) hx hb dX3_count_6 (by rw [c_14]; decide) (by rw [c_14]; decide) (by rw [c_14]; decide) (by decide) ?_
                        refine lv_aload_n hx hb dX3_count_114 rfl (lv_at hl 0 rfl) ?_
                        refine va_get (D := D) (ci := 3) (v := .int (gI σ_1 0 0 9)) (C := RX3) (T := TX3) (N := 20) hx hb hts iwX3_count_X3 hown hK.1 hP 0 mw_0 rfl 9 (by decide) (hts _ lkX3_count_30) (fun _ h9 => h9) rfl dX3_count_115 ?_
                        exact z_i hx hb hr hlocks hm hP hD hS dX3_count_118
                      · have hm := ifn c_14 hm
                        refine lv_tableOut (tgt := 119) hx hb dX3_count_6 (sw_out (fun i h1 h2 q => ?_)) (by decide) ?_
                        · have n_0 := lv_neT (a := 0) c_2 rfl
                          have n_1 := lv_neT (a := 1) c_3 rfl
                          have n_2 := lv_neT (a := 2) c_5 rfl
                          have n_3 := lv_neT (a := 3) c_6 rfl
                          have n_4 := lv_neT (a := 4) c_7 rfl
                          have n_5 := lv_neT (a := 5) c_8 rfl
                          have n_6 := lv_neT (a := 6) c_10 rfl
                          have n_7 := lv_neT (a := 7) c_11 rfl
                          have n_8 := lv_neT (a := 8) c_12 rfl
                          have n_9 := lv_neT (a := 9) c_13 rfl
                          have n_10 := lv_neT (a := 10) c_14 rfl
                          omega
                        refine lv_iconst (v := -1) hx hb dX3_count_119 (by decide) ?_
                        exact z_i hx hb hr hlocks hm hP hD hS dX3_count_120
abbrev rmX3_isDearer : Room := { frames := 6, cells := 0, slots := 0, locals := 139 }
def mX3_isDearer (σ : ST) (a1 : Int32) (a2 : Int32) (a3 : Int32) : Option (Int32) := (mX3_price1 σ a1 a3).bind fun q_1 => (mX3_factor σ a2).bind fun q_2 => (mX3_price1 σ a2 a3).bind fun q_3 => (mX3_factor σ a1).bind fun q_4 => if (lg_cmp (q_1 * q_2) (q_3 * q_4)) ≤ (0 : Int32) then (some (0 : Int32)) else (some (1 : Int32))
set_option maxHeartbeats 4000000 in
set_option maxRecDepth 100000 in
theorem ctX3_isDearer (l : Launch) (D : va_G) (cy : Nat → ClassId) (ad : Nat → Nat → Nat) (σ : ST) (a1 : Int32) (a2 : Int32) (a3 : Int32) (q : Int32) (hm : mX3_isDearer σ a1 a2 a3 = some q) : zMi l yX3_isDearer wsX3_isDearer rmX3_isDearer D cy [.ref (ad 0 0), .int a1, .int a2, .int a3] (mw cy ad σ) q (mw cy ad σ) := by
  intro sz
  refine Met.ofW (cc := cX3_isDearer) (maxL := 4) (ret := (some .boolean)) (by decide) rfl ?_
  intro p e s m args below meth c s₁ B hml hv
  obtain ⟨rfl, hsz, hP, hK, hD0⟩ := hv
  have hx := B.exec
  have hb := B.bytes
  have hr := B.returns
  have hts := atoms_spec (ws := wsX3_isDearer) B.pre
  have hown : s.vm.findClass RX3 = some m.cls := findClass_of_methodNamed B.named
  have hlocks := B.notSynchronized
  subst hsz
  have hD := hD0.self (sz := s.heap.size)
  generalize hAe : va_A (mw cy ad σ) s.heap.size = A at hD ⊢
  have hA : ∀ q : Nat, s.heap.size ≤ q → A q := fun q h => by rw [← hAe]; exact Or.inr h
  have hS : va_S A s.heap s.heap [] := va_S.rf
  have C : Cx p s m _ meth c cX3_isDearer 4 (some .boolean) RX3 wsX3_isDearer D cy A := ⟨hx, hb, hml, hown, hts, hr, hlocks, hK, hA⟩
  have hl := lv_entry ([.ref (ad 0 0), .int a1, .int a2, .int a3]) (n := 4) (Nat.le_of_ble_eq_true rfl)
  rw [lg_entry_eq]
  generalize (lg_sl ([.ref (ad 0 0), .int a1, .int a2, .int a3]) ++ List.replicate (4 - (lg_sl ([.ref (ad 0 0), .int a1, .int a2, .int a3])).length) Slot.unset).toArray = ls at hl ⊢
  have hl : lv_has ls 4 [(0, .ref (ad 0 0)), (1, .int a1), (2, .int a2), (3, .int a3)] := hl
  unfold mX3_isDearer at hm
  refine lv_aload_n hx hb dX3_isDearer_0 rfl (lv_at hl 0 rfl) ?_
  refine lv_iload_n hx hb dX3_isDearer_1 rfl (lv_at hl 1 rfl) ?_
  refine lv_iload_n hx hb dX3_isDearer_2 rfl (lv_at hl 3 rfl) ?_
  obtain ⟨q_1, hq_1, hm⟩ := ob hm
  refine zc_l (zr_V [.int a1, .int a3] [] ⟨hx, hb, hml, hown, hts⟩ (ctX3_price1 l D cy ad σ  a1 a3 q_1 hq_1 _) (cwV 2 hts gX3_isDearer_X3_price1 rfl rfl rfl (by decide +kernel) ⟨Nat.le_of_ble_eq_true rfl, Nat.le_of_ble_eq_true rfl⟩) hK hP hD 0 mw_0 rfl rfl rfl hl.1 rfl (Nat.le_of_ble_eq_true rfl) dX3_isDearer_3 ⟨Nat.zero_le _, Nat.zero_le _⟩) hD hS hA (fun H locs hP hD hS => ?_)
  refine lv_aload_n hx hb dX3_isDearer_6 rfl (lv_at hl 0 rfl) ?_
  refine lv_iload_n hx hb dX3_isDearer_7 rfl (lv_at hl 2 rfl) ?_
  obtain ⟨q_2, hq_2, hm⟩ := ob hm
  refine zc_l (zr_V [.int a2] [.long q_1] ⟨hx, hb, hml, hown, hts⟩ (ctX3_factor l D cy ad σ  a2 q_2 hq_2 _) (cwV 1 hts gX3_isDearer_X3_factor rfl rfl rfl (by decide +kernel) ⟨Nat.le_of_ble_eq_true rfl, Nat.le_of_ble_eq_true rfl⟩) hK hP hD 0 mw_0 rfl rfl rfl hl.1 rfl (Nat.le_of_ble_eq_true rfl) dX3_isDearer_8 ⟨Nat.zero_le _, Nat.zero_le _⟩) hD hS hA (fun H locs hP hD hS => ?_)
  refine lv_lmul hx hb dX3_isDearer_11 ?_
  refine lv_aload_n hx hb dX3_isDearer_12 rfl (lv_at hl 0 rfl) ?_
  refine lv_iload_n hx hb dX3_isDearer_13 rfl (lv_at hl 2 rfl) ?_
  refine lv_iload_n hx hb dX3_isDearer_14 rfl (lv_at hl 3 rfl) ?_
  obtain ⟨q_3, hq_3, hm⟩ := ob hm
  refine zc_l (zr_V [.int a2, .int a3] [.long (q_1 * q_2)] ⟨hx, hb, hml, hown, hts⟩ (ctX3_price1 l D cy ad σ  a2 a3 q_3 hq_3 _) (cwV 2 hts gX3_isDearer_X3_price1 rfl rfl rfl (by decide +kernel) ⟨Nat.le_of_ble_eq_true rfl, Nat.le_of_ble_eq_true rfl⟩) hK hP hD 0 mw_0 rfl rfl rfl hl.1 rfl (Nat.le_of_ble_eq_true rfl) dX3_isDearer_15 ⟨Nat.zero_le _, Nat.zero_le _⟩) hD hS hA (fun H locs hP hD hS => ?_)
  refine lv_aload_n hx hb dX3_isDearer_18 rfl (lv_at hl 0 rfl) ?_
  refine lv_iload_n hx hb dX3_isDearer_19 rfl (lv_at hl 1 rfl) ?_
  obtain ⟨q_4, hq_4, hm⟩ := ob hm
  refine zc_l (zr_V [.int a1] [.long q_3, .long (q_1 * q_2)] ⟨hx, hb, hml, hown, hts⟩ (ctX3_factor l D cy ad σ  a1 q_4 hq_4 _) (cwV 1 hts gX3_isDearer_X3_factor rfl rfl rfl (by decide +kernel) ⟨Nat.le_of_ble_eq_true rfl, Nat.le_of_ble_eq_true rfl⟩) hK hP hD 0 mw_0 rfl rfl rfl hl.1 rfl (Nat.le_of_ble_eq_true rfl) dX3_isDearer_20 ⟨Nat.zero_le _, Nat.zero_le _⟩) hD hS hA (fun H locs hP hD hS => ?_)
  refine lv_lmul hx hb dX3_isDearer_23 ?_
  refine W.lcmp hx hb dX3_isDearer_24 ?_
  refine lv_if_le (tgt := 32) hx hb dX3_isDearer_25 (by decide) (fun c_5 => ?_) (fun c_5 => ?_)
  · have hm := ifp c_5 hm
    refine lv_iconst (v := 0) hx hb dX3_isDearer_32 (by decide) ?_
    exact z_pz hx hb hr hlocks (by decide) hm hP hD hS dX3_isDearer_33
  · have hm := ifn c_5 hm
    refine lv_iconst (v := 1) hx hb dX3_isDearer_28 (by decide) ?_
    refine lv_goto (tgt := 33) hx hb dX3_isDearer_29 (by decide) ?_
    exact z_pz hx hb hr hlocks (by decide) hm hP hD hS dX3_isDearer_33
abbrev rmX3_cheapest1 : Room := { frames := 7, cells := 0, slots := 0, locals := 162 }
theorem lkX3_cheapest1_64 : Cond.fieldLink RX3 64 "DeliveryBasketModel" "many" "I" ∈ wsX3_cheapest1 := by decide +kernel
theorem iwX3_cheapest1_X3 : ∀ w ∈ wsX30, w ∈ wsX3_cheapest1 := fun _ h => List.mem_cons_of_mem _ (List.mem_append_right _ h)
def bkX3_cheapest1_4 (σ : ST)  (rec : Int32 × Int32 × Int32 → Option (Int32)) (x1 : Int32) (x2 : Int32) (x3 : Int32) : Option (Int32) := if (gI σ 0 0 1) ≤ x3 then (some x2) else ((mX3_isEligible σ x3).bind fun q_2 => if q_2 = (0 : Int32) then (rec (x1, x2, (x3 + (1 : Int32)))) else (if x2 = (-1 : Int32) then (rec (x1, x3, (x3 + (1 : Int32)))) else ((mX3_isDearer σ x2 x3 x1).bind fun q_5 => if q_5 = (0 : Int32) then (rec (x1, x2, (x3 + (1 : Int32)))) else (rec (x1, x3, (x3 + (1 : Int32)))))))
def kX3_cheapest1_4 (σ : ST)  (n : Nat) (a : Int32 × Int32 × Int32) : Option (Int32) := fx (fun rec a => bkX3_cheapest1_4 σ  rec a.1 a.2.1 a.2.2) n a
set_option maxHeartbeats 4000000 in
set_option maxRecDepth 100000 in
theorem kX3_cheapest1_4_ok {p : Program} {l : Launch} {e : Env} {s : State} {m : MethodId} {args : Array Value} {below : List Frame} {meth : Method} {c : Code} {D : va_G} {cy : Nat → ClassId} {ad : Nat → Nat → Nat} {A : Nat → Prop} (C : Cx p s m args meth c cX3_cheapest1 4 (some .int) RX3 wsX3_cheapest1 D cy A) (q : Int32) (σ : ST) : ∀ (n : Nat) (x1 : Int32) (x2 : Int32) (x3 : Int32), ∀ (H : Heap) (locs : List Loc), va_P D vwCl (mw cy ad σ) H → va_D A (mw cy ad σ) → va_S A s.heap H locs → ∀ ls : Array Slot, lv_has ls 4 [(0, .ref (ad 0 0)), (1, .int x1), (2, .int x2), (3, .int x3)] → kX3_cheapest1_4 σ n (x1, x2, x3) = some q → W p l e rmX3_cheapest1 s m args below meth c H locs 0 0 (MQ below (zQi D (mw cy ad σ) A q) args s 0 0 A) (F0 m 4 ls []) := by
  obtain ⟨hx, hb, hml, hown, hts, hr, hlocks, hK, hA⟩ := id C
  intro n
  induction n with
  | zero => intro x1 x2 x3 H locs hP hD hS ls hl hm; cases hm
  | succ n ih =>
    intro x1 x2 x3 H locs hP hD hS ls hl hm
    have hm : bkX3_cheapest1_4 σ  (kX3_cheapest1_4 σ n) x1 x2 x3 = some q := hm
    unfold bkX3_cheapest1_4 at hm
    refine lv_iload_n hx hb dX3_cheapest1_4 rfl (lv_at hl 3 rfl) ?_
    refine lv_aload_n hx hb dX3_cheapest1_5 rfl (lv_at hl 0 rfl) ?_
    refine va_get (D := D) (ci := 3) (v := .int (gI σ 0 0 1)) (C := RX3) (T := TX3) (N := 20) hx hb hts iwX3_cheapest1_X3 hown hK.1 hP 0 mw_0 rfl 1 (by decide) (hts _ lkX3_cheapest1_64) (fun _ h9 => h9) rfl dX3_cheapest1_6 ?_
    refine lv_icmp_ge (tgt := 43) hx hb dX3_cheapest1_9 (by decide) (fun c_1 => ?_) (fun c_1 => ?_)
    · have hm := ifp c_1 hm
      refine lv_iload_n hx hb dX3_cheapest1_43 rfl (lv_at hl 2 rfl) ?_
      exact z_pi hx hb hr hlocks hm hP hD hS dX3_cheapest1_44
    · have hm := ifn c_1 hm
      refine lv_aload_n hx hb dX3_cheapest1_12 rfl (lv_at hl 0 rfl) ?_
      refine lv_iload_n hx hb dX3_cheapest1_13 rfl (lv_at hl 3 rfl) ?_
      obtain ⟨q_2, hq_2, hm⟩ := ob hm
      refine zc_i (zr_V [.int x3] [] ⟨hx, hb, hml, hown, hts⟩ (ctX3_isEligible l D cy ad σ  x3 q_2 hq_2 _) (cwV 1 hts gX3_cheapest1_X3_isEligible rfl rfl rfl (by decide +kernel) ⟨Nat.le_of_ble_eq_true rfl, Nat.le_of_ble_eq_true rfl⟩) hK hP hD 0 mw_0 rfl rfl rfl hl.1 rfl (Nat.le_of_ble_eq_true rfl) dX3_cheapest1_14 ⟨Nat.zero_le _, Nat.zero_le _⟩) hD hS hA (fun H locs hP hD hS => ?_)
      refine lv_if_eq (tgt := 37) hx hb dX3_cheapest1_17 (by decide) (fun c_3 => ?_) (fun c_3 => ?_)
      · have hm := ifp c_3 hm
        refine lv_iinc (v := (x3 + (1 : Int32))) (lv' := [(3, .int (x3 + (1 : Int32))), (0, .ref (ad 0 0)), (1, .int x1), (2, .int x2)]) hx hb dX3_cheapest1_37 hl (k := 3) rfl rfl (by decide) rfl (fun ls hl => ?_)
        refine lv_goto (tgt := 4) hx hb dX3_cheapest1_40 (by decide) ?_
        exact ih x1 x2 (x3 + (1 : Int32)) _ _ hP hD hS _ (lv_sub hl [1, 2, 3, 0] rfl) hm
      · have hm := ifn c_3 hm
        refine lv_iload_n hx hb dX3_cheapest1_20 rfl (lv_at hl 2 rfl) ?_
        refine lv_iconst (v := -1) hx hb dX3_cheapest1_21 (by decide) ?_
        refine lv_icmp_eq (tgt := 35) hx hb dX3_cheapest1_22 (by decide) (fun c_4 => ?_) (fun c_4 => ?_)
        · have hm := ifp c_4 hm
          refine lv_iload_n hx hb dX3_cheapest1_35 rfl (lv_at hl 3 rfl) ?_
          refine lv_istore_n (lv' := [(2, .int x3), (0, .ref (ad 0 0)), (1, .int x1), (3, .int x3)]) hx hb dX3_cheapest1_36 rfl hl (by decide) rfl (fun ls hl => ?_)
          refine lv_iinc (v := (x3 + (1 : Int32))) (lv' := [(3, .int (x3 + (1 : Int32))), (2, .int x3), (0, .ref (ad 0 0)), (1, .int x1)]) hx hb dX3_cheapest1_37 hl (k := 3) rfl rfl (by decide) rfl (fun ls hl => ?_)
          refine lv_goto (tgt := 4) hx hb dX3_cheapest1_40 (by decide) ?_
          exact ih x1 x3 (x3 + (1 : Int32)) _ _ hP hD hS _ (lv_sub hl [2, 3, 1, 0] rfl) hm
        · have hm := ifn c_4 hm
          refine lv_aload_n hx hb dX3_cheapest1_25 rfl (lv_at hl 0 rfl) ?_
          refine lv_iload_n hx hb dX3_cheapest1_26 rfl (lv_at hl 2 rfl) ?_
          refine lv_iload_n hx hb dX3_cheapest1_27 rfl (lv_at hl 3 rfl) ?_
          refine lv_iload_n hx hb dX3_cheapest1_28 rfl (lv_at hl 1 rfl) ?_
          obtain ⟨q_5, hq_5, hm⟩ := ob hm
          refine zc_i (zr_V [.int x2, .int x3, .int x1] [] ⟨hx, hb, hml, hown, hts⟩ (ctX3_isDearer l D cy ad σ  x2 x3 x1 q_5 hq_5 _) (cwV 3 hts gX3_cheapest1_X3_isDearer rfl rfl rfl (by decide +kernel) ⟨Nat.le_of_ble_eq_true rfl, Nat.le_of_ble_eq_true rfl⟩) hK hP hD 0 mw_0 rfl rfl rfl hl.1 rfl (Nat.le_of_ble_eq_true rfl) dX3_cheapest1_29 ⟨Nat.zero_le _, Nat.zero_le _⟩) hD hS hA (fun H locs hP hD hS => ?_)
          refine lv_if_eq (tgt := 37) hx hb dX3_cheapest1_32 (by decide) (fun c_6 => ?_) (fun c_6 => ?_)
          · have hm := ifp c_6 hm
            refine lv_iinc (v := (x3 + (1 : Int32))) (lv' := [(3, .int (x3 + (1 : Int32))), (0, .ref (ad 0 0)), (1, .int x1), (2, .int x2)]) hx hb dX3_cheapest1_37 hl (k := 3) rfl rfl (by decide) rfl (fun ls hl => ?_)
            refine lv_goto (tgt := 4) hx hb dX3_cheapest1_40 (by decide) ?_
            exact ih x1 x2 (x3 + (1 : Int32)) _ _ hP hD hS _ (lv_sub hl [1, 2, 3, 0] rfl) hm
          · have hm := ifn c_6 hm
            refine lv_iload_n hx hb dX3_cheapest1_35 rfl (lv_at hl 3 rfl) ?_
            refine lv_istore_n (lv' := [(2, .int x3), (0, .ref (ad 0 0)), (1, .int x1), (3, .int x3)]) hx hb dX3_cheapest1_36 rfl hl (by decide) rfl (fun ls hl => ?_)
            refine lv_iinc (v := (x3 + (1 : Int32))) (lv' := [(3, .int (x3 + (1 : Int32))), (2, .int x3), (0, .ref (ad 0 0)), (1, .int x1)]) hx hb dX3_cheapest1_37 hl (k := 3) rfl rfl (by decide) rfl (fun ls hl => ?_)
            refine lv_goto (tgt := 4) hx hb dX3_cheapest1_40 (by decide) ?_
            exact ih x1 x3 (x3 + (1 : Int32)) _ _ hP hD hS _ (lv_sub hl [2, 3, 1, 0] rfl) hm
def mX3_cheapest1 (σ : ST) (a1 : Int32) : Option (Int32) := kX3_cheapest1_4 σ FU (a1, (-1 : Int32), (0 : Int32))
set_option maxHeartbeats 4000000 in
set_option maxRecDepth 100000 in
theorem ctX3_cheapest1 (l : Launch) (D : va_G) (cy : Nat → ClassId) (ad : Nat → Nat → Nat) (σ : ST) (a1 : Int32) (q : Int32) (hm : mX3_cheapest1 σ a1 = some q) : zMi l yX3_cheapest1 wsX3_cheapest1 rmX3_cheapest1 D cy [.ref (ad 0 0), .int a1] (mw cy ad σ) q (mw cy ad σ) := by
  intro sz
  refine Met.ofW (cc := cX3_cheapest1) (maxL := 4) (ret := (some .int)) (by decide) rfl ?_
  intro p e s m args below meth c s₁ B hml hv
  obtain ⟨rfl, hsz, hP, hK, hD0⟩ := hv
  have hx := B.exec
  have hb := B.bytes
  have hr := B.returns
  have hts := atoms_spec (ws := wsX3_cheapest1) B.pre
  have hown : s.vm.findClass RX3 = some m.cls := findClass_of_methodNamed B.named
  have hlocks := B.notSynchronized
  subst hsz
  have hD := hD0.self (sz := s.heap.size)
  generalize hAe : va_A (mw cy ad σ) s.heap.size = A at hD ⊢
  have hA : ∀ q : Nat, s.heap.size ≤ q → A q := fun q h => by rw [← hAe]; exact Or.inr h
  have hS : va_S A s.heap s.heap [] := va_S.rf
  have C : Cx p s m _ meth c cX3_cheapest1 4 (some .int) RX3 wsX3_cheapest1 D cy A := ⟨hx, hb, hml, hown, hts, hr, hlocks, hK, hA⟩
  have hl := lv_entry ([.ref (ad 0 0), .int a1]) (n := 4) (Nat.le_of_ble_eq_true rfl)
  rw [lg_entry_eq]
  generalize (lg_sl ([.ref (ad 0 0), .int a1]) ++ List.replicate (4 - (lg_sl ([.ref (ad 0 0), .int a1])).length) Slot.unset).toArray = ls at hl ⊢
  have hl : lv_has ls 4 [(0, .ref (ad 0 0)), (1, .int a1)] := hl
  unfold mX3_cheapest1 at hm
  refine lv_iconst (v := -1) hx hb dX3_cheapest1_0 (by decide) ?_
  refine lv_istore_n (lv' := [(2, .int (-1 : Int32)), (0, .ref (ad 0 0)), (1, .int a1)]) hx hb dX3_cheapest1_1 rfl hl (by decide) rfl (fun ls hl => ?_)
  refine lv_iconst (v := 0) hx hb dX3_cheapest1_2 (by decide) ?_
  refine lv_istore_n (lv' := [(3, .int (0 : Int32)), (2, .int (-1 : Int32)), (0, .ref (ad 0 0)), (1, .int a1)]) hx hb dX3_cheapest1_3 rfl hl (by decide) rfl (fun ls hl => ?_)
  exact kX3_cheapest1_4_ok C q σ FU a1 (-1 : Int32) (0 : Int32) _ _ hP hD hS _ (lv_sub hl [2, 3, 1, 0] rfl) hm
abbrev rmX3_cheapest : Room := { frames := 8, cells := 0, slots := 0, locals := 185 }
theorem lkX3_cheapest_61 : Cond.fieldLink RX3 61 "DeliveryBasketModel" "thrown" "I" ∈ wsX3_cheapest := by decide +kernel
theorem iwX3_cheapest_X3 : ∀ w ∈ wsX30, w ∈ wsX3_cheapest := fun _ h => List.mem_cons_of_mem _ (List.mem_append_right _ h)
def mX3_cheapest (σ : ST) (a1 : Int32) : Option (Int32 × ST) := sv (sI σ 0 0 10 (0 : Int32)) fun σ_1 => (mX3_isRate a1).bind fun q_2 => if q_2 = (0 : Int32) then (some ((-1 : Int32), σ_1)) else ((mX3_cheapest1 σ_1 a1).bind fun q_4 => some (q_4, σ_1))
set_option maxHeartbeats 4000000 in
set_option maxRecDepth 100000 in
theorem ctX3_cheapest (l : Launch) (D : va_G) (cy : Nat → ClassId) (ad : Nat → Nat → Nat) (σ : ST) (a1 : Int32) (q : Int32 × ST) (hm : mX3_cheapest σ a1 = some q) : zMi l yX3_cheapest wsX3_cheapest rmX3_cheapest D cy [.ref (ad 0 0), .int a1] (mw cy ad σ) q.1 (mw cy ad q.2) := by
  intro sz
  refine Met.ofW (cc := cX3_cheapest) (maxL := 2) (ret := (some .int)) (by decide) rfl ?_
  intro p e s m args below meth c s₁ B hml hv
  obtain ⟨rfl, hsz, hP, hK, hD0⟩ := hv
  have hx := B.exec
  have hb := B.bytes
  have hr := B.returns
  have hts := atoms_spec (ws := wsX3_cheapest) B.pre
  have hown : s.vm.findClass RX3 = some m.cls := findClass_of_methodNamed B.named
  have hlocks := B.notSynchronized
  subst hsz
  have hD := hD0.self (sz := s.heap.size)
  generalize hAe : va_A (mw cy ad σ) s.heap.size = A at hD ⊢
  have hA : ∀ q : Nat, s.heap.size ≤ q → A q := fun q h => by rw [← hAe]; exact Or.inr h
  have hS : va_S A s.heap s.heap [] := va_S.rf
  have C : Cx p s m _ meth c cX3_cheapest 2 (some .int) RX3 wsX3_cheapest D cy A := ⟨hx, hb, hml, hown, hts, hr, hlocks, hK, hA⟩
  have hl := lv_entry ([.ref (ad 0 0), .int a1]) (n := 2) (Nat.le_of_ble_eq_true rfl)
  rw [lg_entry_eq]
  generalize (lg_sl ([.ref (ad 0 0), .int a1]) ++ List.replicate (2 - (lg_sl ([.ref (ad 0 0), .int a1])).length) Slot.unset).toArray = ls at hl ⊢
  have hl : lv_has ls 2 [(0, .ref (ad 0 0)), (1, .int a1)] := hl
  unfold mX3_cheapest at hm
  refine lv_aload_n hx hb dX3_cheapest_0 rfl (lv_at hl 0 rfl) ?_
  refine lv_iconst (v := 0) hx hb dX3_cheapest_1 (by decide) ?_
  refine va_put (D := D) (ci := 3) (v := .int (0 : Int32)) (ty := .int) (C := RX3) (T := TX3) (N := 20) hx hb hts iwX3_cheapest_X3 tyX3 tyX3_ok nmX3 hown hK.1 hP hD hS 0 mw_0 rfl 10 (by decide) (hts _ lkX3_cheapest_61) (fun _ h9 => h9) rfl (by decide +kernel) rfl rfl (Nat.le_of_ble_eq_true rfl) dX3_cheapest_2 (fun H locs hP hD hS => ?_)
  have hP := eP (mw_s0 (σ := σ) (j := 10) (v := (0 : Int32)) (by rfl)) hP
  have hD := eD (mw_s0 (σ := σ) (j := 10) (v := (0 : Int32)) (by rfl)) hD
  obtain ⟨σ_1, e_1, hm⟩ := sv_some hm
  have hP : va_P D vwCl (mw cy ad σ_1) H := by rw [e_1]; exact hP
  have hD : va_D A (mw cy ad σ_1) := by rw [e_1]; exact hD
  refine lv_iload_n hx hb dX3_cheapest_5 rfl (lv_at hl 1 rfl) ?_
  obtain ⟨q_2, hq_2, hm⟩ := ob hm
  refine zc_i (zr_S [.int a1] [] ⟨hx, hb, hml, hown, hts⟩ (ctX3_isRate l D cy (mw cy ad σ_1)  a1 q_2 hq_2 _) (va_cwS 1 hts gX3_cheapest_X3_isRate rfl rfl rfl (by decide +kernel) ⟨Nat.le_of_ble_eq_true rfl, Nat.le_of_ble_eq_true rfl⟩) hK hP hD rfl hl.1 rfl (Nat.le_of_ble_eq_true rfl) dX3_cheapest_6 ⟨Nat.zero_le _, Nat.zero_le _⟩) hD hS hA (fun H locs hP hD hS => ?_)
  refine lv_if_eq (tgt := 20) hx hb dX3_cheapest_9 (by decide) (fun c_3 => ?_) (fun c_3 => ?_)
  · have hm := ifp c_3 hm
    refine lv_iconst (v := -1) hx hb dX3_cheapest_20 (by decide) ?_
    exact z_i hx hb hr hlocks hm hP hD hS dX3_cheapest_21
  · have hm := ifn c_3 hm
    refine lv_aload_n hx hb dX3_cheapest_12 rfl (lv_at hl 0 rfl) ?_
    refine lv_iload_n hx hb dX3_cheapest_13 rfl (lv_at hl 1 rfl) ?_
    obtain ⟨q_4, hq_4, hm⟩ := ob hm
    refine zc_i (zr_V [.int a1] [] ⟨hx, hb, hml, hown, hts⟩ (ctX3_cheapest1 l D cy ad σ_1  a1 q_4 hq_4 _) (cwV 1 hts gX3_cheapest_X3_cheapest1 rfl rfl rfl (by decide +kernel) ⟨Nat.le_of_ble_eq_true rfl, Nat.le_of_ble_eq_true rfl⟩) hK hP hD 0 mw_0 rfl rfl rfl hl.1 rfl (Nat.le_of_ble_eq_true rfl) dX3_cheapest_14 ⟨Nat.zero_le _, Nat.zero_le _⟩) hD hS hA (fun H locs hP hD hS => ?_)
    refine lv_goto (tgt := 21) hx hb dX3_cheapest_17 (by decide) ?_
    exact z_i hx hb hr hlocks hm hP hD hS dX3_cheapest_21

abbrev rmX2_contract : Room := { frames := 3, cells := 0, slots := 0, locals := 67 }
theorem lkX2_contract_44 : Cond.fieldLink RX2 44 "DeliveryBasket" "size" "I" ∈ wsX2_contract := by decide +kernel
theorem iwX2_contract_X2 : ∀ w ∈ wsX20, w ∈ wsX2_contract := fun _ h => List.mem_cons_of_mem _ (List.mem_append_left _ (List.mem_append_right _ h))
theorem lkX2_contract_11 : Cond.fieldLink RX2 11 "DeliveryBasket" "bonds" "[LDeliveryBasket$Bond;" ∈ wsX2_contract := by decide +kernel
theorem lkX2_contract_15 : Cond.fieldLink RX2 15 "DeliveryBasket" "notional" "I" ∈ wsX2_contract := by decide +kernel
theorem lkX2_contract_19 : Cond.fieldLink RX2 19 "DeliveryBasket" "least" "I" ∈ wsX2_contract := by decide +kernel
theorem lkX2_contract_22 : Cond.fieldLink RX2 22 "DeliveryBasket" "most" "I" ∈ wsX2_contract := by decide +kernel
def bkX2_contract_69  (rec : ST × Int32 × Int32 → Option (Int32 × ST)) (σ : ST) (x1 : Int32) (x4 : Int32) : Option (Int32 × ST) := if (gI σ 0 0 1) ≤ x4 then (some ((1 : Int32), σ)) else (gd (inb x4 8) (gd (decide ((gP σ (Int32.toNatClampNeg x4)) < 8)) ((mX0_factorBy σ (gP σ (Int32.toNatClampNeg x4)) x1).bind fun q_4 => rec (q_4, x1, (x4 + (1 : Int32))))))
def kX2_contract_69  (n : Nat) (a : ST × Int32 × Int32) : Option (Int32 × ST) := fx (fun rec a => bkX2_contract_69  rec a.1 a.2.1 a.2.2) n a
set_option maxHeartbeats 4000000 in
set_option maxRecDepth 100000 in
theorem kX2_contract_69_ok {p : Program} {l : Launch} {e : Env} {s : State} {m : MethodId} {args : Array Value} {below : List Frame} {meth : Method} {c : Code} {D : va_G} {cy : Nat → ClassId} {ad : Nat → Nat → Nat} {A : Nat → Prop} (C : Cx p s m args meth c cX2_contract 5 (some .boolean) RX2 wsX2_contract D cy A) (q : Int32 × ST) : ∀ (n : Nat) (σ : ST) (x1 : Int32) (x4 : Int32), ∀ (H : Heap) (locs : List Loc), va_P D vwCl (cw cy ad σ) H → va_D A (cw cy ad σ) → va_S A s.heap H locs → ∀ ls : Array Slot, lv_has ls 5 [(0, .ref (ad 0 0)), (1, .int x1), (4, .int x4)] → kX2_contract_69 n (σ, x1, x4) = some q → W p l e rmX2_contract s m args below meth c H locs 0 0 (MQ below (zQi D (cw cy ad q.2) A q.1) args s 0 0 A) (F0 m 69 ls []) := by
  obtain ⟨hx, hb, hml, hown, hts, hr, hlocks, hK, hA⟩ := id C
  intro n
  induction n with
  | zero => intro σ x1 x4 H locs hP hD hS ls hl hm; cases hm
  | succ n ih =>
    intro σ x1 x4 H locs hP hD hS ls hl hm
    have hm : bkX2_contract_69  (kX2_contract_69 n) σ x1 x4 = some q := hm
    unfold bkX2_contract_69 at hm
    refine lv_iload hx hb dX2_contract_69 (lv_at hl 2 rfl) ?_
    refine lv_aload_n hx hb dX2_contract_71 rfl (lv_at hl 0 rfl) ?_
    refine va_get (D := D) (ci := 2) (v := .int (gI σ 0 0 1)) (C := RX2) (T := TX2) (N := 9) hx hb hts iwX2_contract_X2 hown hK.1 hP 0 cw_0 rfl 1 (by decide) (hts _ lkX2_contract_44) (fun _ h9 => h9) rfl dX2_contract_72 ?_
    refine lv_icmp_ge (tgt := 95) hx hb dX2_contract_75 (by decide) (fun c_1 => ?_) (fun c_1 => ?_)
    · have hm := ifp c_1 hm
      refine lv_iconst (v := 1) hx hb dX2_contract_95 (by decide) ?_
      exact z_z hx hb hr hlocks (by decide) hm hP hD hS dX2_contract_96
    · have hm := ifn c_1 hm
      refine lv_aload_n hx hb dX2_contract_78 rfl (lv_at hl 0 rfl) ?_
      refine va_get (D := D) (ci := 2) (v := .ref (ad 1 0)) (C := RX2) (T := TX2) (N := 9) hx hb hts iwX2_contract_X2 hown hK.1 hP 0 cw_0 rfl 0 (by decide) (hts _ lkX2_contract_11) (fun _ h9 => h9) rfl dX2_contract_79 ?_
      refine lv_iload hx hb dX2_contract_82 (lv_at hl 2 rfl) ?_
      obtain ⟨h_2, hm⟩ := gd_some hm
      obtain ⟨h_3, hm⟩ := gd_some hm
      have h_3 := lt_of_dec h_3
      refine z_ald (f := fun i => ad 13 (gP σ i)) hx hb hK.1 hP 1 2 cw_1 rfl rfl (inb_vp h_2) dX2_contract_84 ?_
      refine lv_iload_n hx hb dX2_contract_85 rfl (lv_at hl 1 rfl) ?_
      obtain ⟨q_4, hq_4, hm⟩ := ob hm
      refine zc_v (zr_V [.int x1] [] ⟨hx, hb, hml, hown, hts⟩ (ctX0_factorBy l D cy ad σ h_3 (gP σ (Int32.toNatClampNeg x4)) x1 q_4 hq_4 _) (cwV 1 hts gX2_contract_X0_factorBy rfl rfl rfl (by decide +kernel) ⟨Nat.le_of_ble_eq_true rfl, Nat.le_of_ble_eq_true rfl⟩) hK hP hD (13 + (gP σ (Int32.toNatClampNeg x4))) (cw_13 h_3) rfl rfl rfl hl.1 rfl (Nat.le_of_ble_eq_true rfl) dX2_contract_86 ⟨Nat.zero_le _, Nat.zero_le _⟩) hD hS hA (fun H locs hP hD hS => ?_)
      refine lv_iinc (v := (x4 + (1 : Int32))) (lv' := [(4, .int (x4 + (1 : Int32))), (0, .ref (ad 0 0)), (1, .int x1)]) hx hb dX2_contract_89 hl (k := 2) rfl rfl (by decide) rfl (fun ls hl => ?_)
      refine lv_goto (tgt := 69) hx hb dX2_contract_92 (by decide) ?_
      exact ih q_4 x1 (x4 + (1 : Int32)) _ _ hP hD hS _ (lv_sub hl [1, 2, 0] rfl) hm
def bkX2_contract_51  (σ : ST) (x1 : Int32) (x2 : Int32) (x3 : Int32) : Option (Int32 × ST) := sv (sI σ 0 0 2 x1) fun σ_5 => sv (sI σ_5 0 0 3 x2) fun σ_6 => sv (sI σ_6 0 0 4 x3) fun σ_7 => kX2_contract_69 FU (σ_7, x1, (0 : Int32))
def kX2_contract_51  (a : ST × Int32 × Int32 × Int32) : Option (Int32 × ST) := bkX2_contract_51  a.1 a.2.1 a.2.2.1 a.2.2.2
set_option maxHeartbeats 4000000 in
set_option maxRecDepth 100000 in
theorem kX2_contract_51_ok {p : Program} {l : Launch} {e : Env} {s : State} {m : MethodId} {args : Array Value} {below : List Frame} {meth : Method} {c : Code} {D : va_G} {cy : Nat → ClassId} {ad : Nat → Nat → Nat} {A : Nat → Prop} (C : Cx p s m args meth c cX2_contract 5 (some .boolean) RX2 wsX2_contract D cy A) (q : Int32 × ST) : ∀ (σ : ST) (x1 : Int32) (x2 : Int32) (x3 : Int32), ∀ (H : Heap) (locs : List Loc), va_P D vwCl (cw cy ad σ) H → va_D A (cw cy ad σ) → va_S A s.heap H locs → ∀ ls : Array Slot, lv_has ls 5 [(0, .ref (ad 0 0)), (1, .int x1), (2, .int x2), (3, .int x3)] → kX2_contract_51 (σ, x1, x2, x3) = some q → W p l e rmX2_contract s m args below meth c H locs 0 0 (MQ below (zQi D (cw cy ad q.2) A q.1) args s 0 0 A) (F0 m 51 ls []) := by
  obtain ⟨hx, hb, hml, hown, hts, hr, hlocks, hK, hA⟩ := id C
  intro σ x1 x2 x3 H locs hP hD hS ls hl hm
  have hm : bkX2_contract_51  σ x1 x2 x3 = some q := hm
  unfold bkX2_contract_51 at hm
  refine lv_aload_n hx hb dX2_contract_51 rfl (lv_at hl 0 rfl) ?_
  refine lv_iload_n hx hb dX2_contract_52 rfl (lv_at hl 1 rfl) ?_
  refine va_put (D := D) (ci := 2) (v := .int x1) (ty := .int) (C := RX2) (T := TX2) (N := 9) hx hb hts iwX2_contract_X2 tyX2 tyX2_ok nmX2 hown hK.1 hP hD hS 0 cw_0 rfl 2 (by decide) (hts _ lkX2_contract_15) (fun _ h9 => h9) rfl (by decide +kernel) rfl rfl (Nat.le_of_ble_eq_true rfl) dX2_contract_53 (fun H locs hP hD hS => ?_)
  have hP := eP (cw_s0 (σ := σ) (j := 2) (v := x1) (by rfl)) hP
  have hD := eD (cw_s0 (σ := σ) (j := 2) (v := x1) (by rfl)) hD
  obtain ⟨σ_5, e_5, hm⟩ := sv_some hm
  have hP : va_P D vwCl (cw cy ad σ_5) H := by rw [e_5]; exact hP
  have hD : va_D A (cw cy ad σ_5) := by rw [e_5]; exact hD
  refine lv_aload_n hx hb dX2_contract_56 rfl (lv_at hl 0 rfl) ?_
  refine lv_iload_n hx hb dX2_contract_57 rfl (lv_at hl 2 rfl) ?_
  refine va_put (D := D) (ci := 2) (v := .int x2) (ty := .int) (C := RX2) (T := TX2) (N := 9) hx hb hts iwX2_contract_X2 tyX2 tyX2_ok nmX2 hown hK.1 hP hD hS 0 cw_0 rfl 3 (by decide) (hts _ lkX2_contract_19) (fun _ h9 => h9) rfl (by decide +kernel) rfl rfl (Nat.le_of_ble_eq_true rfl) dX2_contract_58 (fun H locs hP hD hS => ?_)
  have hP := eP (cw_s0 (σ := σ_5) (j := 3) (v := x2) (by rfl)) hP
  have hD := eD (cw_s0 (σ := σ_5) (j := 3) (v := x2) (by rfl)) hD
  obtain ⟨σ_6, e_6, hm⟩ := sv_some hm
  have hP : va_P D vwCl (cw cy ad σ_6) H := by rw [e_6]; exact hP
  have hD : va_D A (cw cy ad σ_6) := by rw [e_6]; exact hD
  refine lv_aload_n hx hb dX2_contract_61 rfl (lv_at hl 0 rfl) ?_
  refine lv_iload_n hx hb dX2_contract_62 rfl (lv_at hl 3 rfl) ?_
  refine va_put (D := D) (ci := 2) (v := .int x3) (ty := .int) (C := RX2) (T := TX2) (N := 9) hx hb hts iwX2_contract_X2 tyX2 tyX2_ok nmX2 hown hK.1 hP hD hS 0 cw_0 rfl 4 (by decide) (hts _ lkX2_contract_22) (fun _ h9 => h9) rfl (by decide +kernel) rfl rfl (Nat.le_of_ble_eq_true rfl) dX2_contract_63 (fun H locs hP hD hS => ?_)
  have hP := eP (cw_s0 (σ := σ_6) (j := 4) (v := x3) (by rfl)) hP
  have hD := eD (cw_s0 (σ := σ_6) (j := 4) (v := x3) (by rfl)) hD
  obtain ⟨σ_7, e_7, hm⟩ := sv_some hm
  have hP : va_P D vwCl (cw cy ad σ_7) H := by rw [e_7]; exact hP
  have hD : va_D A (cw cy ad σ_7) := by rw [e_7]; exact hD
  refine lv_iconst (v := 0) hx hb dX2_contract_66 (by decide) ?_
  refine lv_istore (lv' := [(4, .int (0 : Int32)), (0, .ref (ad 0 0)), (1, .int x1), (2, .int x2), (3, .int x3)]) hx hb dX2_contract_67 hl (by decide) rfl (fun ls hl => ?_)
  exact kX2_contract_69_ok C q FU σ_7 x1 (0 : Int32) _ _ hP hD hS _ (lv_sub hl [1, 2, 0] rfl) hm
def mX2_contract (σ : ST) (a1 : Int32) (a2 : Int32) (a3 : Int32) : Option (Int32 × ST) := (mX2_isRate a1).bind fun q_8 => if q_8 = (0 : Int32) then (some ((0 : Int32), σ)) else (if a2 < (1 : Int32) then (some ((0 : Int32), σ)) else (if (40 : Int32) < a3 then (some ((0 : Int32), σ)) else (if a2 ≤ a3 then (if a1 = (gI σ 0 0 2) then (if a2 = (gI σ 0 0 3) then (if a3 = (gI σ 0 0 4) then (some ((0 : Int32), σ)) else (kX2_contract_51 (σ, a1, a2, a3))) else (kX2_contract_51 (σ, a1, a2, a3))) else (kX2_contract_51 (σ, a1, a2, a3))) else (some ((0 : Int32), σ)))))
set_option maxHeartbeats 4000000 in
set_option maxRecDepth 100000 in
theorem ctX2_contract (l : Launch) (D : va_G) (cy : Nat → ClassId) (ad : Nat → Nat → Nat) (σ : ST) (a1 : Int32) (a2 : Int32) (a3 : Int32) (q : Int32 × ST) (hm : mX2_contract σ a1 a2 a3 = some q) : zMi l yX2_contract wsX2_contract rmX2_contract D cy [.ref (ad 0 0), .int a1, .int a2, .int a3] (cw cy ad σ) q.1 (cw cy ad q.2) := by
  intro sz
  refine Met.ofW (cc := cX2_contract) (maxL := 5) (ret := (some .boolean)) (by decide) rfl ?_
  intro p e s m args below meth c s₁ B hml hv
  obtain ⟨rfl, hsz, hP, hK, hD0⟩ := hv
  have hx := B.exec
  have hb := B.bytes
  have hr := B.returns
  have hts := atoms_spec (ws := wsX2_contract) B.pre
  have hown : s.vm.findClass RX2 = some m.cls := findClass_of_methodNamed B.named
  have hlocks := B.notSynchronized
  subst hsz
  have hD := hD0.self (sz := s.heap.size)
  generalize hAe : va_A (cw cy ad σ) s.heap.size = A at hD ⊢
  have hA : ∀ q : Nat, s.heap.size ≤ q → A q := fun q h => by rw [← hAe]; exact Or.inr h
  have hS : va_S A s.heap s.heap [] := va_S.rf
  have C : Cx p s m _ meth c cX2_contract 5 (some .boolean) RX2 wsX2_contract D cy A := ⟨hx, hb, hml, hown, hts, hr, hlocks, hK, hA⟩
  have hl := lv_entry ([.ref (ad 0 0), .int a1, .int a2, .int a3]) (n := 5) (Nat.le_of_ble_eq_true rfl)
  rw [lg_entry_eq]
  generalize (lg_sl ([.ref (ad 0 0), .int a1, .int a2, .int a3]) ++ List.replicate (5 - (lg_sl ([.ref (ad 0 0), .int a1, .int a2, .int a3])).length) Slot.unset).toArray = ls at hl ⊢
  have hl : lv_has ls 5 [(0, .ref (ad 0 0)), (1, .int a1), (2, .int a2), (3, .int a3)] := hl
  unfold mX2_contract at hm
  refine lv_iload_n hx hb dX2_contract_0 rfl (lv_at hl 1 rfl) ?_
  obtain ⟨q_8, hq_8, hm⟩ := ob hm
  refine zc_i (zr_S [.int a1] [] ⟨hx, hb, hml, hown, hts⟩ (ctX2_isRate l D cy (cw cy ad σ)  a1 q_8 hq_8 _) (va_cwS 1 hts gX2_contract_X2_isRate rfl rfl rfl (by decide +kernel) ⟨Nat.le_of_ble_eq_true rfl, Nat.le_of_ble_eq_true rfl⟩) hK hP hD rfl hl.1 rfl (Nat.le_of_ble_eq_true rfl) dX2_contract_1 ⟨Nat.zero_le _, Nat.zero_le _⟩) hD hS hA (fun H locs hP hD hS => ?_)
  refine lv_if_eq (tgt := 23) hx hb dX2_contract_4 (by decide) (fun c_9 => ?_) (fun c_9 => ?_)
  · have hm := ifp c_9 hm
    refine lv_iconst (v := 0) hx hb dX2_contract_23 (by decide) ?_
    exact z_z hx hb hr hlocks (by decide) hm hP hD hS dX2_contract_24
  · have hm := ifn c_9 hm
    refine lv_iload_n hx hb dX2_contract_7 rfl (lv_at hl 2 rfl) ?_
    refine lv_iconst (v := 1) hx hb dX2_contract_8 (by decide) ?_
    refine lv_icmp_lt (tgt := 23) hx hb dX2_contract_9 (by decide) (fun c_10 => ?_) (fun c_10 => ?_)
    · have hm := ifp c_10 hm
      refine lv_iconst (v := 0) hx hb dX2_contract_23 (by decide) ?_
      exact z_z hx hb hr hlocks (by decide) hm hP hD hS dX2_contract_24
    · have hm := ifn c_10 hm
      refine lv_iload_n hx hb dX2_contract_12 rfl (lv_at hl 3 rfl) ?_
      refine lv_bipush (v := 40) hx hb dX2_contract_13 (by decide) ?_
      refine lv_icmp_gt (tgt := 23) hx hb dX2_contract_15 (by decide) (fun c_11 => ?_) (fun c_11 => ?_)
      · have hm := ifp c_11 hm
        refine lv_iconst (v := 0) hx hb dX2_contract_23 (by decide) ?_
        exact z_z hx hb hr hlocks (by decide) hm hP hD hS dX2_contract_24
      · have hm := ifn c_11 hm
        refine lv_iload_n hx hb dX2_contract_18 rfl (lv_at hl 2 rfl) ?_
        refine lv_iload_n hx hb dX2_contract_19 rfl (lv_at hl 3 rfl) ?_
        refine lv_icmp_le (tgt := 25) hx hb dX2_contract_20 (by decide) (fun c_12 => ?_) (fun c_12 => ?_)
        · have hm := ifp c_12 hm
          refine lv_iload_n hx hb dX2_contract_25 rfl (lv_at hl 1 rfl) ?_
          refine lv_aload_n hx hb dX2_contract_26 rfl (lv_at hl 0 rfl) ?_
          refine va_get (D := D) (ci := 2) (v := .int (gI σ 0 0 2)) (C := RX2) (T := TX2) (N := 9) hx hb hts iwX2_contract_X2 hown hK.1 hP 0 cw_0 rfl 2 (by decide) (hts _ lkX2_contract_15) (fun _ h9 => h9) rfl dX2_contract_27 ?_
          refine lv_icmp_ne (tgt := 51) hx hb dX2_contract_30 (by decide) (fun c_13 => ?_) (fun c_13 => ?_)
          · have hm := ifn c_13 hm
            exact kX2_contract_51_ok C q σ a1 a2 a3 _ _ hP hD hS _ (lv_sub hl [0, 1, 2, 3] rfl) hm
          · have hm := ifp c_13 hm
            refine lv_iload_n hx hb dX2_contract_33 rfl (lv_at hl 2 rfl) ?_
            refine lv_aload_n hx hb dX2_contract_34 rfl (lv_at hl 0 rfl) ?_
            refine va_get (D := D) (ci := 2) (v := .int (gI σ 0 0 3)) (C := RX2) (T := TX2) (N := 9) hx hb hts iwX2_contract_X2 hown hK.1 hP 0 cw_0 rfl 3 (by decide) (hts _ lkX2_contract_19) (fun _ h9 => h9) rfl dX2_contract_35 ?_
            refine lv_icmp_ne (tgt := 51) hx hb dX2_contract_38 (by decide) (fun c_14 => ?_) (fun c_14 => ?_)
            · have hm := ifn c_14 hm
              exact kX2_contract_51_ok C q σ a1 a2 a3 _ _ hP hD hS _ (lv_sub hl [0, 1, 2, 3] rfl) hm
            · have hm := ifp c_14 hm
              refine lv_iload_n hx hb dX2_contract_41 rfl (lv_at hl 3 rfl) ?_
              refine lv_aload_n hx hb dX2_contract_42 rfl (lv_at hl 0 rfl) ?_
              refine va_get (D := D) (ci := 2) (v := .int (gI σ 0 0 4)) (C := RX2) (T := TX2) (N := 9) hx hb hts iwX2_contract_X2 hown hK.1 hP 0 cw_0 rfl 4 (by decide) (hts _ lkX2_contract_22) (fun _ h9 => h9) rfl dX2_contract_43 ?_
              refine lv_icmp_ne (tgt := 51) hx hb dX2_contract_46 (by decide) (fun c_15 => ?_) (fun c_15 => ?_)
              · have hm := ifn c_15 hm
                exact kX2_contract_51_ok C q σ a1 a2 a3 _ _ hP hD hS _ (lv_sub hl [0, 1, 2, 3] rfl) hm
              · have hm := ifp c_15 hm
                refine lv_iconst (v := 0) hx hb dX2_contract_49 (by decide) ?_
                exact z_z hx hb hr hlocks (by decide) hm hP hD hS dX2_contract_50
        · have hm := ifn c_12 hm
          refine lv_iconst (v := 0) hx hb dX2_contract_23 (by decide) ?_
          exact z_z hx hb hr hlocks (by decide) hm hP hD hS dX2_contract_24
abbrev rmX2_eligibleBits : Room := { frames := 2, cells := 0, slots := 0, locals := 44 }
theorem lkX2_eligibleBits_44 : Cond.fieldLink RX2 44 "DeliveryBasket" "size" "I" ∈ wsX2_eligibleBits := by decide +kernel
theorem iwX2_eligibleBits_X2 : ∀ w ∈ wsX20, w ∈ wsX2_eligibleBits := fun _ h => List.mem_cons_of_mem _ (List.mem_append_left _ (List.mem_append_right _ h))
def bkX2_eligibleBits_4 (σ : ST)  (rec : Int32 × Int32 → Option (Int32)) (x1 : Int32) (x2 : Int32) : Option (Int32) := if (gI σ 0 0 1) ≤ x2 then (some x1) else ((mX2_isEligible σ x2).bind fun q_2 => if q_2 = (0 : Int32) then (rec (x1, (x2 + (1 : Int32)))) else (rec ((x1 ||| ((1 : Int32) <<< (x2 &&& 31))), (x2 + (1 : Int32)))))
def kX2_eligibleBits_4 (σ : ST)  (n : Nat) (a : Int32 × Int32) : Option (Int32) := fx (fun rec a => bkX2_eligibleBits_4 σ  rec a.1 a.2) n a
set_option maxHeartbeats 4000000 in
set_option maxRecDepth 100000 in
theorem kX2_eligibleBits_4_ok {p : Program} {l : Launch} {e : Env} {s : State} {m : MethodId} {args : Array Value} {below : List Frame} {meth : Method} {c : Code} {D : va_G} {cy : Nat → ClassId} {ad : Nat → Nat → Nat} {A : Nat → Prop} (C : Cx p s m args meth c cX2_eligibleBits 3 (some .int) RX2 wsX2_eligibleBits D cy A) (q : Int32) (σ : ST) : ∀ (n : Nat) (x1 : Int32) (x2 : Int32), ∀ (H : Heap) (locs : List Loc), va_P D vwCl (cw cy ad σ) H → va_D A (cw cy ad σ) → va_S A s.heap H locs → ∀ ls : Array Slot, lv_has ls 3 [(0, .ref (ad 0 0)), (1, .int x1), (2, .int x2)] → kX2_eligibleBits_4 σ n (x1, x2) = some q → W p l e rmX2_eligibleBits s m args below meth c H locs 0 0 (MQ below (zQi D (cw cy ad σ) A q) args s 0 0 A) (F0 m 4 ls []) := by
  obtain ⟨hx, hb, hml, hown, hts, hr, hlocks, hK, hA⟩ := id C
  intro n
  induction n with
  | zero => intro x1 x2 H locs hP hD hS ls hl hm; cases hm
  | succ n ih =>
    intro x1 x2 H locs hP hD hS ls hl hm
    have hm : bkX2_eligibleBits_4 σ  (kX2_eligibleBits_4 σ n) x1 x2 = some q := hm
    unfold bkX2_eligibleBits_4 at hm
    refine lv_iload_n hx hb dX2_eligibleBits_4 rfl (lv_at hl 2 rfl) ?_
    refine lv_aload_n hx hb dX2_eligibleBits_5 rfl (lv_at hl 0 rfl) ?_
    refine va_get (D := D) (ci := 2) (v := .int (gI σ 0 0 1)) (C := RX2) (T := TX2) (N := 9) hx hb hts iwX2_eligibleBits_X2 hown hK.1 hP 0 cw_0 rfl 1 (by decide) (hts _ lkX2_eligibleBits_44) (fun _ h9 => h9) rfl dX2_eligibleBits_6 ?_
    refine lv_icmp_ge (tgt := 32) hx hb dX2_eligibleBits_9 (by decide) (fun c_1 => ?_) (fun c_1 => ?_)
    · have hm := ifp c_1 hm
      refine lv_iload_n hx hb dX2_eligibleBits_32 rfl (lv_at hl 1 rfl) ?_
      exact z_pi hx hb hr hlocks hm hP hD hS dX2_eligibleBits_33
    · have hm := ifn c_1 hm
      refine lv_aload_n hx hb dX2_eligibleBits_12 rfl (lv_at hl 0 rfl) ?_
      refine lv_iload_n hx hb dX2_eligibleBits_13 rfl (lv_at hl 2 rfl) ?_
      obtain ⟨q_2, hq_2, hm⟩ := ob hm
      refine zc_i (zr_V [.int x2] [] ⟨hx, hb, hml, hown, hts⟩ (ctX2_isEligible l D cy ad σ  x2 q_2 hq_2 _) (cwV 1 hts gX2_eligibleBits_X2_isEligible rfl rfl rfl (by decide +kernel) ⟨Nat.le_of_ble_eq_true rfl, Nat.le_of_ble_eq_true rfl⟩) hK hP hD 0 cw_0 rfl rfl rfl hl.1 rfl (Nat.le_of_ble_eq_true rfl) dX2_eligibleBits_14 ⟨Nat.zero_le _, Nat.zero_le _⟩) hD hS hA (fun H locs hP hD hS => ?_)
      refine lv_if_eq (tgt := 26) hx hb dX2_eligibleBits_17 (by decide) (fun c_3 => ?_) (fun c_3 => ?_)
      · have hm := ifp c_3 hm
        refine lv_iinc (v := (x2 + (1 : Int32))) (lv' := [(2, .int (x2 + (1 : Int32))), (0, .ref (ad 0 0)), (1, .int x1)]) hx hb dX2_eligibleBits_26 hl (k := 2) rfl rfl (by decide) rfl (fun ls hl => ?_)
        refine lv_goto (tgt := 4) hx hb dX2_eligibleBits_29 (by decide) ?_
        exact ih x1 (x2 + (1 : Int32)) _ _ hP hD hS _ (lv_sub hl [1, 2, 0] rfl) hm
      · have hm := ifn c_3 hm
        refine lv_iload_n hx hb dX2_eligibleBits_20 rfl (lv_at hl 1 rfl) ?_
        refine lv_iconst (v := 1) hx hb dX2_eligibleBits_21 (by decide) ?_
        refine lv_iload_n hx hb dX2_eligibleBits_22 rfl (lv_at hl 2 rfl) ?_
        refine lv_ishl hx hb dX2_eligibleBits_23 ?_
        refine lv_ior hx hb dX2_eligibleBits_24 ?_
        refine lv_istore_n (lv' := [(1, .int (x1 ||| ((1 : Int32) <<< (x2 &&& 31)))), (0, .ref (ad 0 0)), (2, .int x2)]) hx hb dX2_eligibleBits_25 rfl hl (by decide) rfl (fun ls hl => ?_)
        refine lv_iinc (v := (x2 + (1 : Int32))) (lv' := [(2, .int (x2 + (1 : Int32))), (1, .int (x1 ||| ((1 : Int32) <<< (x2 &&& 31)))), (0, .ref (ad 0 0))]) hx hb dX2_eligibleBits_26 hl (k := 2) rfl rfl (by decide) rfl (fun ls hl => ?_)
        refine lv_goto (tgt := 4) hx hb dX2_eligibleBits_29 (by decide) ?_
        exact ih (x1 ||| ((1 : Int32) <<< (x2 &&& 31))) (x2 + (1 : Int32)) _ _ hP hD hS _ (lv_sub hl [2, 1, 0] rfl) hm
def mX2_eligibleBits (σ : ST) : Option (Int32) := kX2_eligibleBits_4 σ FU ((0 : Int32), (0 : Int32))
set_option maxHeartbeats 4000000 in
set_option maxRecDepth 100000 in
theorem ctX2_eligibleBits (l : Launch) (D : va_G) (cy : Nat → ClassId) (ad : Nat → Nat → Nat) (σ : ST)  (q : Int32) (hm : mX2_eligibleBits σ = some q) : zMi l yX2_eligibleBits wsX2_eligibleBits rmX2_eligibleBits D cy [.ref (ad 0 0)] (cw cy ad σ) q (cw cy ad σ) := by
  intro sz
  refine Met.ofW (cc := cX2_eligibleBits) (maxL := 3) (ret := (some .int)) (by decide) rfl ?_
  intro p e s m args below meth c s₁ B hml hv
  obtain ⟨rfl, hsz, hP, hK, hD0⟩ := hv
  have hx := B.exec
  have hb := B.bytes
  have hr := B.returns
  have hts := atoms_spec (ws := wsX2_eligibleBits) B.pre
  have hown : s.vm.findClass RX2 = some m.cls := findClass_of_methodNamed B.named
  have hlocks := B.notSynchronized
  subst hsz
  have hD := hD0.self (sz := s.heap.size)
  generalize hAe : va_A (cw cy ad σ) s.heap.size = A at hD ⊢
  have hA : ∀ q : Nat, s.heap.size ≤ q → A q := fun q h => by rw [← hAe]; exact Or.inr h
  have hS : va_S A s.heap s.heap [] := va_S.rf
  have C : Cx p s m _ meth c cX2_eligibleBits 3 (some .int) RX2 wsX2_eligibleBits D cy A := ⟨hx, hb, hml, hown, hts, hr, hlocks, hK, hA⟩
  have hl := lv_entry ([.ref (ad 0 0)]) (n := 3) (Nat.le_of_ble_eq_true rfl)
  rw [lg_entry_eq]
  generalize (lg_sl ([.ref (ad 0 0)]) ++ List.replicate (3 - (lg_sl ([.ref (ad 0 0)])).length) Slot.unset).toArray = ls at hl ⊢
  have hl : lv_has ls 3 [(0, .ref (ad 0 0))] := hl
  unfold mX2_eligibleBits at hm
  refine lv_iconst (v := 0) hx hb dX2_eligibleBits_0 (by decide) ?_
  refine lv_istore_n (lv' := [(1, .int (0 : Int32)), (0, .ref (ad 0 0))]) hx hb dX2_eligibleBits_1 rfl hl (by decide) rfl (fun ls hl => ?_)
  refine lv_iconst (v := 0) hx hb dX2_eligibleBits_2 (by decide) ?_
  refine lv_istore_n (lv' := [(2, .int (0 : Int32)), (1, .int (0 : Int32)), (0, .ref (ad 0 0))]) hx hb dX2_eligibleBits_3 rfl hl (by decide) rfl (fun ls hl => ?_)
  exact kX2_eligibleBits_4_ok C q σ FU (0 : Int32) (0 : Int32) _ _ hP hD hS _ (lv_sub hl [2, 1, 0] rfl) hm
abbrev rmX2_eligibleStock : Room := { frames := 2, cells := 0, slots := 0, locals := 44 }
theorem lkX2_eligibleStock_44 : Cond.fieldLink RX2 44 "DeliveryBasket" "size" "I" ∈ wsX2_eligibleStock := by decide +kernel
theorem iwX2_eligibleStock_X2 : ∀ w ∈ wsX20, w ∈ wsX2_eligibleStock := fun _ h => List.mem_cons_of_mem _ (List.mem_append_left _ (List.mem_append_right _ h))
theorem lkX2_eligibleStock_11 : Cond.fieldLink RX2 11 "DeliveryBasket" "bonds" "[LDeliveryBasket$Bond;" ∈ wsX2_eligibleStock := by decide +kernel
theorem lkX2_eligibleStock_98 : Cond.fieldLink RX2 98 "DeliveryBasket$Bond" "stock" "I" ∈ wsX2_eligibleStock := by decide +kernel
theorem iwX2_eligibleStock_X0 : ∀ w ∈ wsX00, w ∈ wsX2_eligibleStock := fun _ h => List.mem_cons_of_mem _ (List.mem_append_right _ h)
def bkX2_eligibleStock_4 (σ : ST)  (rec : Int32 × Int32 → Option (Int32)) (x1 : Int32) (x2 : Int32) : Option (Int32) := if (gI σ 0 0 1) ≤ x2 then (some x1) else ((mX2_isEligible σ x2).bind fun q_2 => if q_2 = (0 : Int32) then (rec (x1, (x2 + (1 : Int32)))) else (gd (inb x2 8) (gd (decide ((gP σ (Int32.toNatClampNeg x2)) < 8)) (rec ((x1 + (gI σ 2 (gP σ (Int32.toNatClampNeg x2)) 5)), (x2 + (1 : Int32)))))))
def kX2_eligibleStock_4 (σ : ST)  (n : Nat) (a : Int32 × Int32) : Option (Int32) := fx (fun rec a => bkX2_eligibleStock_4 σ  rec a.1 a.2) n a
set_option maxHeartbeats 4000000 in
set_option maxRecDepth 100000 in
theorem kX2_eligibleStock_4_ok {p : Program} {l : Launch} {e : Env} {s : State} {m : MethodId} {args : Array Value} {below : List Frame} {meth : Method} {c : Code} {D : va_G} {cy : Nat → ClassId} {ad : Nat → Nat → Nat} {A : Nat → Prop} (C : Cx p s m args meth c cX2_eligibleStock 3 (some .int) RX2 wsX2_eligibleStock D cy A) (q : Int32) (σ : ST) : ∀ (n : Nat) (x1 : Int32) (x2 : Int32), ∀ (H : Heap) (locs : List Loc), va_P D vwCl (cw cy ad σ) H → va_D A (cw cy ad σ) → va_S A s.heap H locs → ∀ ls : Array Slot, lv_has ls 3 [(0, .ref (ad 0 0)), (1, .int x1), (2, .int x2)] → kX2_eligibleStock_4 σ n (x1, x2) = some q → W p l e rmX2_eligibleStock s m args below meth c H locs 0 0 (MQ below (zQi D (cw cy ad σ) A q) args s 0 0 A) (F0 m 4 ls []) := by
  obtain ⟨hx, hb, hml, hown, hts, hr, hlocks, hK, hA⟩ := id C
  intro n
  induction n with
  | zero => intro x1 x2 H locs hP hD hS ls hl hm; cases hm
  | succ n ih =>
    intro x1 x2 H locs hP hD hS ls hl hm
    have hm : bkX2_eligibleStock_4 σ  (kX2_eligibleStock_4 σ n) x1 x2 = some q := hm
    unfold bkX2_eligibleStock_4 at hm
    refine lv_iload_n hx hb dX2_eligibleStock_4 rfl (lv_at hl 2 rfl) ?_
    refine lv_aload_n hx hb dX2_eligibleStock_5 rfl (lv_at hl 0 rfl) ?_
    refine va_get (D := D) (ci := 2) (v := .int (gI σ 0 0 1)) (C := RX2) (T := TX2) (N := 9) hx hb hts iwX2_eligibleStock_X2 hown hK.1 hP 0 cw_0 rfl 1 (by decide) (hts _ lkX2_eligibleStock_44) (fun _ h9 => h9) rfl dX2_eligibleStock_6 ?_
    refine lv_icmp_ge (tgt := 38) hx hb dX2_eligibleStock_9 (by decide) (fun c_1 => ?_) (fun c_1 => ?_)
    · have hm := ifp c_1 hm
      refine lv_iload_n hx hb dX2_eligibleStock_38 rfl (lv_at hl 1 rfl) ?_
      exact z_pi hx hb hr hlocks hm hP hD hS dX2_eligibleStock_39
    · have hm := ifn c_1 hm
      refine lv_aload_n hx hb dX2_eligibleStock_12 rfl (lv_at hl 0 rfl) ?_
      refine lv_iload_n hx hb dX2_eligibleStock_13 rfl (lv_at hl 2 rfl) ?_
      obtain ⟨q_2, hq_2, hm⟩ := ob hm
      refine zc_i (zr_V [.int x2] [] ⟨hx, hb, hml, hown, hts⟩ (ctX2_isEligible l D cy ad σ  x2 q_2 hq_2 _) (cwV 1 hts gX2_eligibleStock_X2_isEligible rfl rfl rfl (by decide +kernel) ⟨Nat.le_of_ble_eq_true rfl, Nat.le_of_ble_eq_true rfl⟩) hK hP hD 0 cw_0 rfl rfl rfl hl.1 rfl (Nat.le_of_ble_eq_true rfl) dX2_eligibleStock_14 ⟨Nat.zero_le _, Nat.zero_le _⟩) hD hS hA (fun H locs hP hD hS => ?_)
      refine lv_if_eq (tgt := 32) hx hb dX2_eligibleStock_17 (by decide) (fun c_3 => ?_) (fun c_3 => ?_)
      · have hm := ifp c_3 hm
        refine lv_iinc (v := (x2 + (1 : Int32))) (lv' := [(2, .int (x2 + (1 : Int32))), (0, .ref (ad 0 0)), (1, .int x1)]) hx hb dX2_eligibleStock_32 hl (k := 2) rfl rfl (by decide) rfl (fun ls hl => ?_)
        refine lv_goto (tgt := 4) hx hb dX2_eligibleStock_35 (by decide) ?_
        exact ih x1 (x2 + (1 : Int32)) _ _ hP hD hS _ (lv_sub hl [1, 2, 0] rfl) hm
      · have hm := ifn c_3 hm
        refine lv_iload_n hx hb dX2_eligibleStock_20 rfl (lv_at hl 1 rfl) ?_
        refine lv_aload_n hx hb dX2_eligibleStock_21 rfl (lv_at hl 0 rfl) ?_
        refine va_get (D := D) (ci := 2) (v := .ref (ad 1 0)) (C := RX2) (T := TX2) (N := 9) hx hb hts iwX2_eligibleStock_X2 hown hK.1 hP 0 cw_0 rfl 0 (by decide) (hts _ lkX2_eligibleStock_11) (fun _ h9 => h9) rfl dX2_eligibleStock_22 ?_
        refine lv_iload_n hx hb dX2_eligibleStock_25 rfl (lv_at hl 2 rfl) ?_
        obtain ⟨h_4, hm⟩ := gd_some hm
        obtain ⟨h_5, hm⟩ := gd_some hm
        have h_5 := lt_of_dec h_5
        refine z_ald (f := fun i => ad 13 (gP σ i)) hx hb hK.1 hP 1 2 cw_1 rfl rfl (inb_vp h_4) dX2_eligibleStock_26 ?_
        refine va_get (D := D) (ci := 0) (v := .int (gI σ 2 (gP σ (Int32.toNatClampNeg x2)) 5)) (C := RX0) (T := TX0) (N := 10) hx hb hts iwX2_eligibleStock_X0 hown hK.1 hP (13 + (gP σ (Int32.toNatClampNeg x2))) (cw_13 h_5) rfl 5 (by decide) (hts _ lkX2_eligibleStock_98) (fun _ h9 => h9) rfl dX2_eligibleStock_27 ?_
        refine lv_iadd hx hb dX2_eligibleStock_30 ?_
        refine lv_istore_n (lv' := [(1, .int (x1 + (gI σ 2 (gP σ (Int32.toNatClampNeg x2)) 5))), (0, .ref (ad 0 0)), (2, .int x2)]) hx hb dX2_eligibleStock_31 rfl hl (by decide) rfl (fun ls hl => ?_)
        refine lv_iinc (v := (x2 + (1 : Int32))) (lv' := [(2, .int (x2 + (1 : Int32))), (1, .int (x1 + (gI σ 2 (gP σ (Int32.toNatClampNeg x2)) 5))), (0, .ref (ad 0 0))]) hx hb dX2_eligibleStock_32 hl (k := 2) rfl rfl (by decide) rfl (fun ls hl => ?_)
        refine lv_goto (tgt := 4) hx hb dX2_eligibleStock_35 (by decide) ?_
        exact ih (x1 + (gI σ 2 (gP σ (Int32.toNatClampNeg x2)) 5)) (x2 + (1 : Int32)) _ _ hP hD hS _ (lv_sub hl [2, 1, 0] rfl) hm
def mX2_eligibleStock (σ : ST) : Option (Int32) := kX2_eligibleStock_4 σ FU ((0 : Int32), (0 : Int32))
set_option maxHeartbeats 4000000 in
set_option maxRecDepth 100000 in
theorem ctX2_eligibleStock (l : Launch) (D : va_G) (cy : Nat → ClassId) (ad : Nat → Nat → Nat) (σ : ST)  (q : Int32) (hm : mX2_eligibleStock σ = some q) : zMi l yX2_eligibleStock wsX2_eligibleStock rmX2_eligibleStock D cy [.ref (ad 0 0)] (cw cy ad σ) q (cw cy ad σ) := by
  intro sz
  refine Met.ofW (cc := cX2_eligibleStock) (maxL := 3) (ret := (some .int)) (by decide) rfl ?_
  intro p e s m args below meth c s₁ B hml hv
  obtain ⟨rfl, hsz, hP, hK, hD0⟩ := hv
  have hx := B.exec
  have hb := B.bytes
  have hr := B.returns
  have hts := atoms_spec (ws := wsX2_eligibleStock) B.pre
  have hown : s.vm.findClass RX2 = some m.cls := findClass_of_methodNamed B.named
  have hlocks := B.notSynchronized
  subst hsz
  have hD := hD0.self (sz := s.heap.size)
  generalize hAe : va_A (cw cy ad σ) s.heap.size = A at hD ⊢
  have hA : ∀ q : Nat, s.heap.size ≤ q → A q := fun q h => by rw [← hAe]; exact Or.inr h
  have hS : va_S A s.heap s.heap [] := va_S.rf
  have C : Cx p s m _ meth c cX2_eligibleStock 3 (some .int) RX2 wsX2_eligibleStock D cy A := ⟨hx, hb, hml, hown, hts, hr, hlocks, hK, hA⟩
  have hl := lv_entry ([.ref (ad 0 0)]) (n := 3) (Nat.le_of_ble_eq_true rfl)
  rw [lg_entry_eq]
  generalize (lg_sl ([.ref (ad 0 0)]) ++ List.replicate (3 - (lg_sl ([.ref (ad 0 0)])).length) Slot.unset).toArray = ls at hl ⊢
  have hl : lv_has ls 3 [(0, .ref (ad 0 0))] := hl
  unfold mX2_eligibleStock at hm
  refine lv_iconst (v := 0) hx hb dX2_eligibleStock_0 (by decide) ?_
  refine lv_istore_n (lv' := [(1, .int (0 : Int32)), (0, .ref (ad 0 0))]) hx hb dX2_eligibleStock_1 rfl hl (by decide) rfl (fun ls hl => ?_)
  refine lv_iconst (v := 0) hx hb dX2_eligibleStock_2 (by decide) ?_
  refine lv_istore_n (lv' := [(2, .int (0 : Int32)), (1, .int (0 : Int32)), (0, .ref (ad 0 0))]) hx hb dX2_eligibleStock_3 rfl hl (by decide) rfl (fun ls hl => ?_)
  exact kX2_eligibleStock_4_ok C q σ FU (0 : Int32) (0 : Int32) _ _ hP hD hS _ (lv_sub hl [2, 1, 0] rfl) hm
abbrev rmX2_count : Room := { frames := 3, cells := 0, slots := 0, locals := 66 }
theorem lkX2_count_44 : Cond.fieldLink RX2 44 "DeliveryBasket" "size" "I" ∈ wsX2_count := by decide +kernel
theorem iwX2_count_X2 : ∀ w ∈ wsX20, w ∈ wsX2_count := fun _ h => List.mem_cons_of_mem _ (List.mem_append_left _ (List.mem_append_left _ (List.mem_append_right _ h)))
theorem lkX2_count_15 : Cond.fieldLink RX2 15 "DeliveryBasket" "notional" "I" ∈ wsX2_count := by decide +kernel
theorem lkX2_count_19 : Cond.fieldLink RX2 19 "DeliveryBasket" "least" "I" ∈ wsX2_count := by decide +kernel
theorem lkX2_count_22 : Cond.fieldLink RX2 22 "DeliveryBasket" "most" "I" ∈ wsX2_count := by decide +kernel
theorem lkX2_count_28 : Cond.fieldLink RX2 28 "DeliveryBasket" "lattice" "LDeliveryBasket$Lattice;" ∈ wsX2_count := by decide +kernel
theorem lkX2_count_129 : Cond.fieldLink RX2 129 "DeliveryBasket$Lattice" "days" "I" ∈ wsX2_count := by decide +kernel
theorem iwX2_count_X1 : ∀ w ∈ wsX10, w ∈ wsX2_count := fun _ h => List.mem_cons_of_mem _ (List.mem_append_left _ (List.mem_append_right _ h))
theorem lkX2_count_132 : Cond.fieldLink RX2 132 "DeliveryBasket$Lattice" "start" "I" ∈ wsX2_count := by decide +kernel
theorem lkX2_count_135 : Cond.fieldLink RX2 135 "DeliveryBasket$Lattice" "jump" "I" ∈ wsX2_count := by decide +kernel
theorem lkX2_count_138 : Cond.fieldLink RX2 138 "DeliveryBasket$Lattice" "carry" "I" ∈ wsX2_count := by decide +kernel
theorem lkX2_count_141 : Cond.fieldLink RX2 141 "DeliveryBasket$Lattice" "agreed" "I" ∈ wsX2_count := by decide +kernel
def mX2_count (σ : ST) (a1 : Int32) : Option (Int32) := if a1 = (0 : Int32) then (some (gI σ 0 0 1)) else (if a1 = (1 : Int32) then ((mX2_eligibleBits σ).bind fun q_3 => some q_3) else (if a1 = (2 : Int32) then (some (gI σ 0 0 2)) else (if a1 = (3 : Int32) then (some (gI σ 0 0 3)) else (if a1 = (4 : Int32) then (some (gI σ 0 0 4)) else (if a1 = (5 : Int32) then ((mX2_eligibleStock σ).bind fun q_8 => some q_8) else (if a1 = (6 : Int32) then (some (gI σ 1 0 0)) else (if a1 = (7 : Int32) then (some (gI σ 1 0 1)) else (if a1 = (8 : Int32) then (some (gI σ 1 0 2)) else (if a1 = (9 : Int32) then (some (gI σ 1 0 3)) else (if a1 = (10 : Int32) then (some (gI σ 1 0 4)) else (some (-1 : Int32))))))))))))
set_option maxHeartbeats 4000000 in
set_option maxRecDepth 100000 in
theorem ctX2_count (l : Launch) (D : va_G) (cy : Nat → ClassId) (ad : Nat → Nat → Nat) (σ : ST) (a1 : Int32) (q : Int32) (hm : mX2_count σ a1 = some q) : zMi l yX2_count wsX2_count rmX2_count D cy [.ref (ad 0 0), .int a1] (cw cy ad σ) q (cw cy ad σ) := by
  intro sz
  refine Met.ofW (cc := cX2_count) (maxL := 2) (ret := (some .int)) (by decide) rfl ?_
  intro p e s m args below meth c s₁ B hml hv
  obtain ⟨rfl, hsz, hP, hK, hD0⟩ := hv
  have hx := B.exec
  have hb := B.bytes
  have hr := B.returns
  have hts := atoms_spec (ws := wsX2_count) B.pre
  have hown : s.vm.findClass RX2 = some m.cls := findClass_of_methodNamed B.named
  have hlocks := B.notSynchronized
  subst hsz
  have hD := hD0.self (sz := s.heap.size)
  generalize hAe : va_A (cw cy ad σ) s.heap.size = A at hD ⊢
  have hA : ∀ q : Nat, s.heap.size ≤ q → A q := fun q h => by rw [← hAe]; exact Or.inr h
  have hS : va_S A s.heap s.heap [] := va_S.rf
  have C : Cx p s m _ meth c cX2_count 2 (some .int) RX2 wsX2_count D cy A := ⟨hx, hb, hml, hown, hts, hr, hlocks, hK, hA⟩
  have hl := lv_entry ([.ref (ad 0 0), .int a1]) (n := 2) (Nat.le_of_ble_eq_true rfl)
  rw [lg_entry_eq]
  generalize (lg_sl ([.ref (ad 0 0), .int a1]) ++ List.replicate (2 - (lg_sl ([.ref (ad 0 0), .int a1])).length) Slot.unset).toArray = ls at hl ⊢
  have hl : lv_has ls 2 [(0, .ref (ad 0 0)), (1, .int a1)] := hl
  unfold mX2_count at hm
  refine lv_iload_n hx hb dX2_count_0 rfl (lv_at hl 1 rfl) ?_
  by_cases c_1 : a1 = (0 : Int32)
  · have hm := ifp c_1 hm
    refine lv_tableIn (off := 59) (tgt := 60) hx hb dX2_count_1 (by rw [c_1]; decide) (by rw [c_1]; decide) (by rw [c_1]; decide) (by decide) ?_
    refine lv_aload_n hx hb dX2_count_60 rfl (lv_at hl 0 rfl) ?_
    refine va_get (D := D) (ci := 2) (v := .int (gI σ 0 0 1)) (C := RX2) (T := TX2) (N := 9) hx hb hts iwX2_count_X2 hown hK.1 hP 0 cw_0 rfl 1 (by decide) (hts _ lkX2_count_44) (fun _ h9 => h9) rfl dX2_count_61 ?_
    exact z_pi hx hb hr hlocks hm hP hD hS dX2_count_64
  · have hm := ifn c_1 hm
    by_cases c_2 : a1 = (1 : Int32)
    · have hm := ifp c_2 hm
      refine lv_tableIn (off := 64) (tgt := 65) hx hb dX2_count_1 (by rw [c_2]; decide) (by rw [c_2]; decide) (by rw [c_2]; decide) (by decide) ?_
      refine lv_aload_n hx hb dX2_count_65 rfl (lv_at hl 0 rfl) ?_
      obtain ⟨q_3, hq_3, hm⟩ := ob hm
      refine zc_i (zr_V [] [] ⟨hx, hb, hml, hown, hts⟩ (ctX2_eligibleBits l D cy ad σ   q_3 hq_3 _) (cwV 0 hts gX2_count_X2_eligibleBits rfl rfl rfl (by decide +kernel) ⟨Nat.le_of_ble_eq_true rfl, Nat.le_of_ble_eq_true rfl⟩) hK hP hD 0 cw_0 rfl rfl rfl hl.1 rfl (Nat.le_of_ble_eq_true rfl) dX2_count_66 ⟨Nat.zero_le _, Nat.zero_le _⟩) hD hS hA (fun H locs hP hD hS => ?_)
      exact z_pi hx hb hr hlocks hm hP hD hS dX2_count_69
    · have hm := ifn c_2 hm
      by_cases c_4 : a1 = (2 : Int32)
      · have hm := ifp c_4 hm
        refine lv_tableIn (off := 69) (tgt := 70) hx hb dX2_count_1 (by rw [c_4]; decide) (by rw [c_4]; decide) (by rw [c_4]; decide) (by decide) ?_
        refine lv_aload_n hx hb dX2_count_70 rfl (lv_at hl 0 rfl) ?_
        refine va_get (D := D) (ci := 2) (v := .int (gI σ 0 0 2)) (C := RX2) (T := TX2) (N := 9) hx hb hts iwX2_count_X2 hown hK.1 hP 0 cw_0 rfl 2 (by decide) (hts _ lkX2_count_15) (fun _ h9 => h9) rfl dX2_count_71 ?_
        exact z_pi hx hb hr hlocks hm hP hD hS dX2_count_74
      · have hm := ifn c_4 hm
        by_cases c_5 : a1 = (3 : Int32)
        · have hm := ifp c_5 hm
          refine lv_tableIn (off := 74) (tgt := 75) hx hb dX2_count_1 (by rw [c_5]; decide) (by rw [c_5]; decide) (by rw [c_5]; decide) (by decide) ?_
          refine lv_aload_n hx hb dX2_count_75 rfl (lv_at hl 0 rfl) ?_
          refine va_get (D := D) (ci := 2) (v := .int (gI σ 0 0 3)) (C := RX2) (T := TX2) (N := 9) hx hb hts iwX2_count_X2 hown hK.1 hP 0 cw_0 rfl 3 (by decide) (hts _ lkX2_count_19) (fun _ h9 => h9) rfl dX2_count_76 ?_
          exact z_pi hx hb hr hlocks hm hP hD hS dX2_count_79
        · have hm := ifn c_5 hm
          by_cases c_6 : a1 = (4 : Int32)
          · have hm := ifp c_6 hm
            refine lv_tableIn (off := 79) (tgt := 80) hx hb dX2_count_1 (by rw [c_6]; decide) (by rw [c_6]; decide) (by rw [c_6]; decide) (by decide) ?_
            refine lv_aload_n hx hb dX2_count_80 rfl (lv_at hl 0 rfl) ?_
            refine va_get (D := D) (ci := 2) (v := .int (gI σ 0 0 4)) (C := RX2) (T := TX2) (N := 9) hx hb hts iwX2_count_X2 hown hK.1 hP 0 cw_0 rfl 4 (by decide) (hts _ lkX2_count_22) (fun _ h9 => h9) rfl dX2_count_81 ?_
            exact z_pi hx hb hr hlocks hm hP hD hS dX2_count_84
          · have hm := ifn c_6 hm
            by_cases c_7 : a1 = (5 : Int32)
            · have hm := ifp c_7 hm
              refine lv_tableIn (off := 84) (tgt := 85) hx hb dX2_count_1 (by rw [c_7]; decide) (by rw [c_7]; decide) (by rw [c_7]; decide) (by decide) ?_
              refine lv_aload_n hx hb dX2_count_85 rfl (lv_at hl 0 rfl) ?_
              obtain ⟨q_8, hq_8, hm⟩ := ob hm
              refine zc_i (zr_V [] [] ⟨hx, hb, hml, hown, hts⟩ (ctX2_eligibleStock l D cy ad σ   q_8 hq_8 _) (cwV 0 hts gX2_count_X2_eligibleStock rfl rfl rfl (by decide +kernel) ⟨Nat.le_of_ble_eq_true rfl, Nat.le_of_ble_eq_true rfl⟩) hK hP hD 0 cw_0 rfl rfl rfl hl.1 rfl (Nat.le_of_ble_eq_true rfl) dX2_count_86 ⟨Nat.zero_le _, Nat.zero_le _⟩) hD hS hA (fun H locs hP hD hS => ?_)
              exact z_pi hx hb hr hlocks hm hP hD hS dX2_count_89
            · have hm := ifn c_7 hm
              by_cases c_9 : a1 = (6 : Int32)
              · have hm := ifp c_9 hm
                refine lv_tableIn (off := 89) (tgt := 90) hx hb dX2_count_1 (by rw [c_9]; decide) (by rw [c_9]; decide) (by rw [c_9]; decide) (by decide) ?_
                refine lv_aload_n hx hb dX2_count_90 rfl (lv_at hl 0 rfl) ?_
                refine va_get (D := D) (ci := 2) (v := .ref (ad 2 0)) (C := RX2) (T := TX2) (N := 9) hx hb hts iwX2_count_X2 hown hK.1 hP 0 cw_0 rfl 5 (by decide) (hts _ lkX2_count_28) (fun _ h9 => h9) rfl dX2_count_91 ?_
                refine va_get (D := D) (ci := 1) (v := .int (gI σ 1 0 0)) (C := RX1) (T := TX1) (N := 12) hx hb hts iwX2_count_X1 hown hK.1 hP 2 cw_2 rfl 0 (by decide) (hts _ lkX2_count_129) (fun _ h9 => h9) rfl dX2_count_94 ?_
                exact z_pi hx hb hr hlocks hm hP hD hS dX2_count_97
              · have hm := ifn c_9 hm
                by_cases c_10 : a1 = (7 : Int32)
                · have hm := ifp c_10 hm
                  refine lv_tableIn (off := 97) (tgt := 98) hx hb dX2_count_1 (by rw [c_10]; decide) (by rw [c_10]; decide) (by rw [c_10]; decide) (by decide) ?_
                  refine lv_aload_n hx hb dX2_count_98 rfl (lv_at hl 0 rfl) ?_
                  refine va_get (D := D) (ci := 2) (v := .ref (ad 2 0)) (C := RX2) (T := TX2) (N := 9) hx hb hts iwX2_count_X2 hown hK.1 hP 0 cw_0 rfl 5 (by decide) (hts _ lkX2_count_28) (fun _ h9 => h9) rfl dX2_count_99 ?_
                  refine va_get (D := D) (ci := 1) (v := .int (gI σ 1 0 1)) (C := RX1) (T := TX1) (N := 12) hx hb hts iwX2_count_X1 hown hK.1 hP 2 cw_2 rfl 1 (by decide) (hts _ lkX2_count_132) (fun _ h9 => h9) rfl dX2_count_102 ?_
                  exact z_pi hx hb hr hlocks hm hP hD hS dX2_count_105
                · have hm := ifn c_10 hm
                  by_cases c_11 : a1 = (8 : Int32)
                  · have hm := ifp c_11 hm
                    refine lv_tableIn (off := 105) (tgt := 106) hx hb dX2_count_1 (by rw [c_11]; decide) (by rw [c_11]; decide) (by rw [c_11]; decide) (by decide) ?_
                    refine lv_aload_n hx hb dX2_count_106 rfl (lv_at hl 0 rfl) ?_
                    refine va_get (D := D) (ci := 2) (v := .ref (ad 2 0)) (C := RX2) (T := TX2) (N := 9) hx hb hts iwX2_count_X2 hown hK.1 hP 0 cw_0 rfl 5 (by decide) (hts _ lkX2_count_28) (fun _ h9 => h9) rfl dX2_count_107 ?_
                    refine va_get (D := D) (ci := 1) (v := .int (gI σ 1 0 2)) (C := RX1) (T := TX1) (N := 12) hx hb hts iwX2_count_X1 hown hK.1 hP 2 cw_2 rfl 2 (by decide) (hts _ lkX2_count_135) (fun _ h9 => h9) rfl dX2_count_110 ?_
                    exact z_pi hx hb hr hlocks hm hP hD hS dX2_count_113
                  · have hm := ifn c_11 hm
                    by_cases c_12 : a1 = (9 : Int32)
                    · have hm := ifp c_12 hm
                      refine lv_tableIn (off := 113) (tgt := 114) hx hb dX2_count_1 (by rw [c_12]; decide) (by rw [c_12]; decide) (by rw [c_12]; decide) (by decide) ?_
                      refine lv_aload_n hx hb dX2_count_114 rfl (lv_at hl 0 rfl) ?_
                      refine va_get (D := D) (ci := 2) (v := .ref (ad 2 0)) (C := RX2) (T := TX2) (N := 9) hx hb hts iwX2_count_X2 hown hK.1 hP 0 cw_0 rfl 5 (by decide) (hts _ lkX2_count_28) (fun _ h9 => h9) rfl dX2_count_115 ?_
                      refine va_get (D := D) (ci := 1) (v := .int (gI σ 1 0 3)) (C := RX1) (T := TX1) (N := 12) hx hb hts iwX2_count_X1 hown hK.1 hP 2 cw_2 rfl 3 (by decide) (hts _ lkX2_count_138) (fun _ h9 => h9) rfl dX2_count_118 ?_
                      exact z_pi hx hb hr hlocks hm hP hD hS dX2_count_121
                    · have hm := ifn c_12 hm
                      by_cases c_13 : a1 = (10 : Int32)
                      · have hm := ifp c_13 hm
                        refine lv_tableIn (off := 121) (tgt := 122) hx hb dX2_count_1 (by rw [c_13]; decide) (by rw [c_13]; decide) (by rw [c_13]; decide) (by decide) ?_
                        refine lv_aload_n hx hb dX2_count_122 rfl (lv_at hl 0 rfl) ?_
                        refine va_get (D := D) (ci := 2) (v := .ref (ad 2 0)) (C := RX2) (T := TX2) (N := 9) hx hb hts iwX2_count_X2 hown hK.1 hP 0 cw_0 rfl 5 (by decide) (hts _ lkX2_count_28) (fun _ h9 => h9) rfl dX2_count_123 ?_
                        refine va_get (D := D) (ci := 1) (v := .int (gI σ 1 0 4)) (C := RX1) (T := TX1) (N := 12) hx hb hts iwX2_count_X1 hown hK.1 hP 2 cw_2 rfl 4 (by decide) (hts _ lkX2_count_141) (fun _ h9 => h9) rfl dX2_count_126 ?_
                        exact z_pi hx hb hr hlocks hm hP hD hS dX2_count_129
                      · have hm := ifn c_13 hm
                        refine lv_tableOut (tgt := 130) hx hb dX2_count_1 (sw_out (fun i h1 h2 q => ?_)) (by decide) ?_
                        · have n_0 := lv_neT (a := 0) c_1 rfl
                          have n_1 := lv_neT (a := 1) c_2 rfl
                          have n_2 := lv_neT (a := 2) c_4 rfl
                          have n_3 := lv_neT (a := 3) c_5 rfl
                          have n_4 := lv_neT (a := 4) c_6 rfl
                          have n_5 := lv_neT (a := 5) c_7 rfl
                          have n_6 := lv_neT (a := 6) c_9 rfl
                          have n_7 := lv_neT (a := 7) c_10 rfl
                          have n_8 := lv_neT (a := 8) c_11 rfl
                          have n_9 := lv_neT (a := 9) c_12 rfl
                          have n_10 := lv_neT (a := 10) c_13 rfl
                          omega
                        refine lv_iconst (v := -1) hx hb dX2_count_130 (by decide) ?_
                        exact z_pi hx hb hr hlocks hm hP hD hS dX2_count_131
abbrev rmX2_layPrices : Room := { frames := 3, cells := 0, slots := 0, locals := 67 }
theorem lkX2_layPrices_44 : Cond.fieldLink RX2 44 "DeliveryBasket" "size" "I" ∈ wsX2_layPrices := by decide +kernel
theorem iwX2_layPrices_X2 : ∀ w ∈ wsX20, w ∈ wsX2_layPrices := fun _ h => List.mem_cons_of_mem _ (List.mem_append_left _ (List.mem_append_right _ h))
theorem lkX2_layPrices_32 : Cond.fieldLink RX2 32 "DeliveryBasket" "prices" "[I" ∈ wsX2_layPrices := by decide +kernel
theorem lkX2_layPrices_11 : Cond.fieldLink RX2 11 "DeliveryBasket" "bonds" "[LDeliveryBasket$Bond;" ∈ wsX2_layPrices := by decide +kernel
def bkX2_layPrices_2  (rec : ST × Int32 × Int32 × Int32 → Option (ST)) (σ : ST) (x1 : Int32) (x2 : Int32) (x3 : Int32) : Option (ST) := if (gI σ 0 0 1) ≤ x3 then (some σ) else ((mX2_isIn x2 x3).bind fun q_2 => if q_2 = (0 : Int32) then (rec (σ, x1, x2, (x3 + (1 : Int32)))) else (gd (inb x3 8) (gd (decide ((gP σ (Int32.toNatClampNeg x3)) < 8)) ((mX0_priceAt σ (gP σ (Int32.toNatClampNeg x3)) x1).bind fun q_6 => gd (inb x3 8) (sv (sI q_6.2 4 0 (Int32.toNatClampNeg x3) q_6.1) fun σ_8 => rec (σ_8, x1, x2, (x3 + (1 : Int32))))))))
def kX2_layPrices_2  (n : Nat) (a : ST × Int32 × Int32 × Int32) : Option (ST) := fx (fun rec a => bkX2_layPrices_2  rec a.1 a.2.1 a.2.2.1 a.2.2.2) n a
set_option maxHeartbeats 4000000 in
set_option maxRecDepth 100000 in
theorem kX2_layPrices_2_ok {p : Program} {l : Launch} {e : Env} {s : State} {m : MethodId} {args : Array Value} {below : List Frame} {meth : Method} {c : Code} {D : va_G} {cy : Nat → ClassId} {ad : Nat → Nat → Nat} {A : Nat → Prop} (C : Cx p s m args meth c cX2_layPrices 4 none RX2 wsX2_layPrices D cy A) (q : ST) : ∀ (n : Nat) (σ : ST) (x1 : Int32) (x2 : Int32) (x3 : Int32), ∀ (H : Heap) (locs : List Loc), va_P D vwCl (cw cy ad σ) H → va_D A (cw cy ad σ) → va_S A s.heap H locs → ∀ ls : Array Slot, lv_has ls 4 [(0, .ref (ad 0 0)), (1, .int x1), (2, .int x2), (3, .int x3)] → kX2_layPrices_2 n (σ, x1, x2, x3) = some q → W p l e rmX2_layPrices s m args below meth c H locs 0 0 (MQ below (zQv D (cw cy ad q) A) args s 0 0 A) (F0 m 2 ls []) := by
  obtain ⟨hx, hb, hml, hown, hts, hr, hlocks, hK, hA⟩ := id C
  intro n
  induction n with
  | zero => intro σ x1 x2 x3 H locs hP hD hS ls hl hm; cases hm
  | succ n ih =>
    intro σ x1 x2 x3 H locs hP hD hS ls hl hm
    have hm : bkX2_layPrices_2  (kX2_layPrices_2 n) σ x1 x2 x3 = some q := hm
    unfold bkX2_layPrices_2 at hm
    refine lv_iload_n hx hb dX2_layPrices_2 rfl (lv_at hl 3 rfl) ?_
    refine lv_aload_n hx hb dX2_layPrices_3 rfl (lv_at hl 0 rfl) ?_
    refine va_get (D := D) (ci := 2) (v := .int (gI σ 0 0 1)) (C := RX2) (T := TX2) (N := 9) hx hb hts iwX2_layPrices_X2 hown hK.1 hP 0 cw_0 rfl 1 (by decide) (hts _ lkX2_layPrices_44) (fun _ h9 => h9) rfl dX2_layPrices_4 ?_
    refine lv_icmp_ge (tgt := 40) hx hb dX2_layPrices_7 (by decide) (fun c_1 => ?_) (fun c_1 => ?_)
    · have hm := ifp c_1 hm
      exact z_v hx hb hr hlocks hm hP hD hS dX2_layPrices_40
    · have hm := ifn c_1 hm
      refine lv_iload_n hx hb dX2_layPrices_10 rfl (lv_at hl 2 rfl) ?_
      refine lv_iload_n hx hb dX2_layPrices_11 rfl (lv_at hl 3 rfl) ?_
      obtain ⟨q_2, hq_2, hm⟩ := ob hm
      refine zc_i (zr_S [.int x2, .int x3] [] ⟨hx, hb, hml, hown, hts⟩ (ctX2_isIn l D cy (cw cy ad σ)  x2 x3 q_2 hq_2 _) (va_cwS 2 hts gX2_layPrices_X2_isIn rfl rfl rfl (by decide +kernel) ⟨Nat.le_of_ble_eq_true rfl, Nat.le_of_ble_eq_true rfl⟩) hK hP hD rfl hl.1 rfl (Nat.le_of_ble_eq_true rfl) dX2_layPrices_12 ⟨Nat.zero_le _, Nat.zero_le _⟩) hD hS hA (fun H locs hP hD hS => ?_)
      refine lv_if_eq (tgt := 34) hx hb dX2_layPrices_15 (by decide) (fun c_3 => ?_) (fun c_3 => ?_)
      · have hm := ifp c_3 hm
        refine lv_iinc (v := (x3 + (1 : Int32))) (lv' := [(3, .int (x3 + (1 : Int32))), (0, .ref (ad 0 0)), (1, .int x1), (2, .int x2)]) hx hb dX2_layPrices_34 hl (k := 3) rfl rfl (by decide) rfl (fun ls hl => ?_)
        refine lv_goto (tgt := 2) hx hb dX2_layPrices_37 (by decide) ?_
        exact ih σ x1 x2 (x3 + (1 : Int32)) _ _ hP hD hS _ (lv_sub hl [1, 2, 3, 0] rfl) hm
      · have hm := ifn c_3 hm
        refine lv_aload_n hx hb dX2_layPrices_18 rfl (lv_at hl 0 rfl) ?_
        refine va_get (D := D) (ci := 2) (v := .ref (ad 3 0)) (C := RX2) (T := TX2) (N := 9) hx hb hts iwX2_layPrices_X2 hown hK.1 hP 0 cw_0 rfl 6 (by decide) (hts _ lkX2_layPrices_32) (fun _ h9 => h9) rfl dX2_layPrices_19 ?_
        refine lv_iload_n hx hb dX2_layPrices_22 rfl (lv_at hl 3 rfl) ?_
        refine lv_aload_n hx hb dX2_layPrices_23 rfl (lv_at hl 0 rfl) ?_
        refine va_get (D := D) (ci := 2) (v := .ref (ad 1 0)) (C := RX2) (T := TX2) (N := 9) hx hb hts iwX2_layPrices_X2 hown hK.1 hP 0 cw_0 rfl 0 (by decide) (hts _ lkX2_layPrices_11) (fun _ h9 => h9) rfl dX2_layPrices_24 ?_
        refine lv_iload_n hx hb dX2_layPrices_27 rfl (lv_at hl 3 rfl) ?_
        obtain ⟨h_4, hm⟩ := gd_some hm
        obtain ⟨h_5, hm⟩ := gd_some hm
        have h_5 := lt_of_dec h_5
        refine z_ald (f := fun i => ad 13 (gP σ i)) hx hb hK.1 hP 1 2 cw_1 rfl rfl (inb_vp h_4) dX2_layPrices_28 ?_
        refine lv_iload_n hx hb dX2_layPrices_29 rfl (lv_at hl 1 rfl) ?_
        obtain ⟨q_6, hq_6, hm⟩ := ob hm
        refine zc_i (zr_V [.int x1] [.int x3, .ref (ad 3 0)] ⟨hx, hb, hml, hown, hts⟩ (ctX0_priceAt l D cy ad σ h_5 (gP σ (Int32.toNatClampNeg x3)) x1 q_6 hq_6 _) (cwV 1 hts gX2_layPrices_X0_priceAt rfl rfl rfl (by decide +kernel) ⟨Nat.le_of_ble_eq_true rfl, Nat.le_of_ble_eq_true rfl⟩) hK hP hD (13 + (gP σ (Int32.toNatClampNeg x3))) (cw_13 h_5) rfl rfl rfl hl.1 rfl (Nat.le_of_ble_eq_true rfl) dX2_layPrices_30 ⟨Nat.zero_le _, Nat.zero_le _⟩) hD hS hA (fun H locs hP hD hS => ?_)
        obtain ⟨h_7, hm⟩ := gd_some hm
        refine va_iast hx hb hK.1 hP hD hS 3 0 cw_3 rfl (inb_vp h_7) dX2_layPrices_33 (fun H locs hP hD hS => ?_)
        have hP := eP cw_s3 hP
        have hD := eD cw_s3 hD
        obtain ⟨σ_8, e_8, hm⟩ := sv_some hm
        have hP : va_P D vwCl (cw cy ad σ_8) H := by rw [e_8]; exact hP
        have hD : va_D A (cw cy ad σ_8) := by rw [e_8]; exact hD
        refine lv_iinc (v := (x3 + (1 : Int32))) (lv' := [(3, .int (x3 + (1 : Int32))), (0, .ref (ad 0 0)), (1, .int x1), (2, .int x2)]) hx hb dX2_layPrices_34 hl (k := 3) rfl rfl (by decide) rfl (fun ls hl => ?_)
        refine lv_goto (tgt := 2) hx hb dX2_layPrices_37 (by decide) ?_
        exact ih σ_8 x1 x2 (x3 + (1 : Int32)) _ _ hP hD hS _ (lv_sub hl [1, 2, 3, 0] rfl) hm
def mX2_layPrices (σ : ST) (a1 : Int32) (a2 : Int32) : Option (ST) := kX2_layPrices_2 FU (σ, a1, a2, (0 : Int32))
set_option maxHeartbeats 4000000 in
set_option maxRecDepth 100000 in
theorem ctX2_layPrices (l : Launch) (D : va_G) (cy : Nat → ClassId) (ad : Nat → Nat → Nat) (σ : ST) (a1 : Int32) (a2 : Int32) (q : ST) (hm : mX2_layPrices σ a1 a2 = some q) : zMv l yX2_layPrices wsX2_layPrices rmX2_layPrices D cy [.ref (ad 0 0), .int a1, .int a2] (cw cy ad σ) (cw cy ad q) := by
  intro sz
  refine Met.ofW (cc := cX2_layPrices) (maxL := 4) (ret := none) (by decide) rfl ?_
  intro p e s m args below meth c s₁ B hml hv
  obtain ⟨rfl, hsz, hP, hK, hD0⟩ := hv
  have hx := B.exec
  have hb := B.bytes
  have hr := B.returns
  have hts := atoms_spec (ws := wsX2_layPrices) B.pre
  have hown : s.vm.findClass RX2 = some m.cls := findClass_of_methodNamed B.named
  have hlocks := B.notSynchronized
  subst hsz
  have hD := hD0.self (sz := s.heap.size)
  generalize hAe : va_A (cw cy ad σ) s.heap.size = A at hD ⊢
  have hA : ∀ q : Nat, s.heap.size ≤ q → A q := fun q h => by rw [← hAe]; exact Or.inr h
  have hS : va_S A s.heap s.heap [] := va_S.rf
  have C : Cx p s m _ meth c cX2_layPrices 4 none RX2 wsX2_layPrices D cy A := ⟨hx, hb, hml, hown, hts, hr, hlocks, hK, hA⟩
  have hl := lv_entry ([.ref (ad 0 0), .int a1, .int a2]) (n := 4) (Nat.le_of_ble_eq_true rfl)
  rw [lg_entry_eq]
  generalize (lg_sl ([.ref (ad 0 0), .int a1, .int a2]) ++ List.replicate (4 - (lg_sl ([.ref (ad 0 0), .int a1, .int a2])).length) Slot.unset).toArray = ls at hl ⊢
  have hl : lv_has ls 4 [(0, .ref (ad 0 0)), (1, .int a1), (2, .int a2)] := hl
  unfold mX2_layPrices at hm
  refine lv_iconst (v := 0) hx hb dX2_layPrices_0 (by decide) ?_
  refine lv_istore_n (lv' := [(3, .int (0 : Int32)), (0, .ref (ad 0 0)), (1, .int a1), (2, .int a2)]) hx hb dX2_layPrices_1 rfl hl (by decide) rfl (fun ls hl => ?_)
  exact kX2_layPrices_2_ok C q FU σ a1 a2 (0 : Int32) _ _ hP hD hS _ (lv_sub hl [1, 2, 3, 0] rfl) hm
abbrev rmX2_comesAhead : Room := { frames := 0, cells := 0, slots := 0, locals := 0 }
theorem lkX2_comesAhead_32 : Cond.fieldLink RX2 32 "DeliveryBasket" "prices" "[I" ∈ wsX2_comesAhead := by decide +kernel
theorem iwX2_comesAhead_X2 : ∀ w ∈ wsX20, w ∈ wsX2_comesAhead := fun _ h => List.mem_cons_of_mem _ (List.mem_append_left _ (List.mem_append_right _ h))
theorem lkX2_comesAhead_11 : Cond.fieldLink RX2 11 "DeliveryBasket" "bonds" "[LDeliveryBasket$Bond;" ∈ wsX2_comesAhead := by decide +kernel
theorem lkX2_comesAhead_104 : Cond.fieldLink RX2 104 "DeliveryBasket$Bond" "factor" "I" ∈ wsX2_comesAhead := by decide +kernel
theorem iwX2_comesAhead_X0 : ∀ w ∈ wsX00, w ∈ wsX2_comesAhead := fun _ h => List.mem_cons_of_mem _ (List.mem_append_right _ h)
def mX2_comesAhead (σ : ST) (a1 : Int32) (a2 : Int32) : Option (Int32) := gd (inb a1 8) (gd (inb a2 8) (gd (decide ((gP σ (Int32.toNatClampNeg a2)) < 8)) (gd (inb a2 8) (gd (inb a1 8) (gd (decide ((gP σ (Int32.toNatClampNeg a1)) < 8)) (if (lg_cmp ((Int32.toInt64 (gI σ 4 0 (Int32.toNatClampNeg a1))) * (Int32.toInt64 (gI σ 2 (gP σ (Int32.toNatClampNeg a2)) 7))) ((Int32.toInt64 (gI σ 4 0 (Int32.toNatClampNeg a2))) * (Int32.toInt64 (gI σ 2 (gP σ (Int32.toNatClampNeg a1)) 7)))) < (0 : Int32) then (some (1 : Int32)) else (if (lg_cmp ((Int32.toInt64 (gI σ 4 0 (Int32.toNatClampNeg a1))) * (Int32.toInt64 (gI σ 2 (gP σ (Int32.toNatClampNeg a2)) 7))) ((Int32.toInt64 (gI σ 4 0 (Int32.toNatClampNeg a2))) * (Int32.toInt64 (gI σ 2 (gP σ (Int32.toNatClampNeg a1)) 7)))) = (0 : Int32) then (if a2 ≤ a1 then (some (0 : Int32)) else (some (1 : Int32))) else (some (0 : Int32)))))))))
set_option maxHeartbeats 4000000 in
set_option maxRecDepth 100000 in
theorem ctX2_comesAhead (l : Launch) (D : va_G) (cy : Nat → ClassId) (ad : Nat → Nat → Nat) (σ : ST) (a1 : Int32) (a2 : Int32) (q : Int32) (hm : mX2_comesAhead σ a1 a2 = some q) : zMi l yX2_comesAhead wsX2_comesAhead rmX2_comesAhead D cy [.ref (ad 0 0), .int a1, .int a2] (cw cy ad σ) q (cw cy ad σ) := by
  intro sz
  refine Met.ofW (cc := cX2_comesAhead) (maxL := 7) (ret := (some .boolean)) (by decide) rfl ?_
  intro p e s m args below meth c s₁ B hml hv
  obtain ⟨rfl, hsz, hP, hK, hD0⟩ := hv
  have hx := B.exec
  have hb := B.bytes
  have hr := B.returns
  have hts := atoms_spec (ws := wsX2_comesAhead) B.pre
  have hown : s.vm.findClass RX2 = some m.cls := findClass_of_methodNamed B.named
  have hlocks := B.notSynchronized
  subst hsz
  have hD := hD0.self (sz := s.heap.size)
  generalize hAe : va_A (cw cy ad σ) s.heap.size = A at hD ⊢
  have hA : ∀ q : Nat, s.heap.size ≤ q → A q := fun q h => by rw [← hAe]; exact Or.inr h
  have hS : va_S A s.heap s.heap [] := va_S.rf
  have C : Cx p s m _ meth c cX2_comesAhead 7 (some .boolean) RX2 wsX2_comesAhead D cy A := ⟨hx, hb, hml, hown, hts, hr, hlocks, hK, hA⟩
  have hl := lv_entry ([.ref (ad 0 0), .int a1, .int a2]) (n := 7) (Nat.le_of_ble_eq_true rfl)
  rw [lg_entry_eq]
  generalize (lg_sl ([.ref (ad 0 0), .int a1, .int a2]) ++ List.replicate (7 - (lg_sl ([.ref (ad 0 0), .int a1, .int a2])).length) Slot.unset).toArray = ls at hl ⊢
  have hl : lv_has ls 7 [(0, .ref (ad 0 0)), (1, .int a1), (2, .int a2)] := hl
  unfold mX2_comesAhead at hm
  refine lv_aload_n hx hb dX2_comesAhead_0 rfl (lv_at hl 0 rfl) ?_
  refine va_get (D := D) (ci := 2) (v := .ref (ad 3 0)) (C := RX2) (T := TX2) (N := 9) hx hb hts iwX2_comesAhead_X2 hown hK.1 hP 0 cw_0 rfl 6 (by decide) (hts _ lkX2_comesAhead_32) (fun _ h9 => h9) rfl dX2_comesAhead_1 ?_
  refine lv_iload_n hx hb dX2_comesAhead_4 rfl (lv_at hl 1 rfl) ?_
  obtain ⟨h_1, hm⟩ := gd_some hm
  refine va_iald hx hb hK.1 hP 3 0 cw_3 rfl (inb_vp h_1) dX2_comesAhead_5 ?_
  refine lv_i2l hx hb dX2_comesAhead_6 rfl ?_
  refine lv_aload_n hx hb dX2_comesAhead_7 rfl (lv_at hl 0 rfl) ?_
  refine va_get (D := D) (ci := 2) (v := .ref (ad 1 0)) (C := RX2) (T := TX2) (N := 9) hx hb hts iwX2_comesAhead_X2 hown hK.1 hP 0 cw_0 rfl 0 (by decide) (hts _ lkX2_comesAhead_11) (fun _ h9 => h9) rfl dX2_comesAhead_8 ?_
  refine lv_iload_n hx hb dX2_comesAhead_11 rfl (lv_at hl 2 rfl) ?_
  obtain ⟨h_2, hm⟩ := gd_some hm
  obtain ⟨h_3, hm⟩ := gd_some hm
  have h_3 := lt_of_dec h_3
  refine z_ald (f := fun i => ad 13 (gP σ i)) hx hb hK.1 hP 1 2 cw_1 rfl rfl (inb_vp h_2) dX2_comesAhead_12 ?_
  refine va_get (D := D) (ci := 0) (v := .int (gI σ 2 (gP σ (Int32.toNatClampNeg a2)) 7)) (C := RX0) (T := TX0) (N := 10) hx hb hts iwX2_comesAhead_X0 hown hK.1 hP (13 + (gP σ (Int32.toNatClampNeg a2))) (cw_13 h_3) rfl 7 (by decide) (hts _ lkX2_comesAhead_104) (fun _ h9 => h9) rfl dX2_comesAhead_13 ?_
  refine lv_i2l hx hb dX2_comesAhead_16 rfl ?_
  refine lv_lmul hx hb dX2_comesAhead_17 ?_
  refine lv_lstore_n (lv' := [(3, .long ((Int32.toInt64 (gI σ 4 0 (Int32.toNatClampNeg a1))) * (Int32.toInt64 (gI σ 2 (gP σ (Int32.toNatClampNeg a2)) 7)))), (0, .ref (ad 0 0)), (1, .int a1), (2, .int a2)]) hx hb dX2_comesAhead_18 rfl hl (by decide) rfl (fun ls hl => ?_)
  refine lv_aload_n hx hb dX2_comesAhead_19 rfl (lv_at hl 1 rfl) ?_
  refine va_get (D := D) (ci := 2) (v := .ref (ad 3 0)) (C := RX2) (T := TX2) (N := 9) hx hb hts iwX2_comesAhead_X2 hown hK.1 hP 0 cw_0 rfl 6 (by decide) (hts _ lkX2_comesAhead_32) (fun _ h9 => h9) rfl dX2_comesAhead_20 ?_
  refine lv_iload_n hx hb dX2_comesAhead_23 rfl (lv_at hl 3 rfl) ?_
  obtain ⟨h_4, hm⟩ := gd_some hm
  refine va_iald hx hb hK.1 hP 3 0 cw_3 rfl (inb_vp h_4) dX2_comesAhead_24 ?_
  refine lv_i2l hx hb dX2_comesAhead_25 rfl ?_
  refine lv_aload_n hx hb dX2_comesAhead_26 rfl (lv_at hl 1 rfl) ?_
  refine va_get (D := D) (ci := 2) (v := .ref (ad 1 0)) (C := RX2) (T := TX2) (N := 9) hx hb hts iwX2_comesAhead_X2 hown hK.1 hP 0 cw_0 rfl 0 (by decide) (hts _ lkX2_comesAhead_11) (fun _ h9 => h9) rfl dX2_comesAhead_27 ?_
  refine lv_iload_n hx hb dX2_comesAhead_30 rfl (lv_at hl 2 rfl) ?_
  obtain ⟨h_5, hm⟩ := gd_some hm
  obtain ⟨h_6, hm⟩ := gd_some hm
  have h_6 := lt_of_dec h_6
  refine z_ald (f := fun i => ad 13 (gP σ i)) hx hb hK.1 hP 1 2 cw_1 rfl rfl (inb_vp h_5) dX2_comesAhead_31 ?_
  refine va_get (D := D) (ci := 0) (v := .int (gI σ 2 (gP σ (Int32.toNatClampNeg a1)) 7)) (C := RX0) (T := TX0) (N := 10) hx hb hts iwX2_comesAhead_X0 hown hK.1 hP (13 + (gP σ (Int32.toNatClampNeg a1))) (cw_13 h_6) rfl 7 (by decide) (hts _ lkX2_comesAhead_104) (fun _ h9 => h9) rfl dX2_comesAhead_32 ?_
  refine lv_i2l hx hb dX2_comesAhead_35 rfl ?_
  refine lv_lmul hx hb dX2_comesAhead_36 ?_
  refine lv_lstore (lv' := [(5, .long ((Int32.toInt64 (gI σ 4 0 (Int32.toNatClampNeg a2))) * (Int32.toInt64 (gI σ 2 (gP σ (Int32.toNatClampNeg a1)) 7)))), (3, .long ((Int32.toInt64 (gI σ 4 0 (Int32.toNatClampNeg a1))) * (Int32.toInt64 (gI σ 2 (gP σ (Int32.toNatClampNeg a2)) 7)))), (0, .ref (ad 0 0)), (1, .int a1), (2, .int a2)]) hx hb dX2_comesAhead_37 hl (by decide) rfl (fun ls hl => ?_)
  refine lv_lload_n hx hb dX2_comesAhead_39 rfl (lv_at hl 1 rfl) ?_
  refine lv_lload hx hb dX2_comesAhead_40 (lv_at hl 0 rfl) ?_
  refine W.lcmp hx hb dX2_comesAhead_42 ?_
  refine lv_if_lt (tgt := 58) hx hb dX2_comesAhead_43 (by decide) (fun c_7 => ?_) (fun c_7 => ?_)
  · have hm := ifp c_7 hm
    refine lv_iconst (v := 1) hx hb dX2_comesAhead_58 (by decide) ?_
    refine lv_goto (tgt := 63) hx hb dX2_comesAhead_59 (by decide) ?_
    exact z_pz hx hb hr hlocks (by decide) hm hP hD hS dX2_comesAhead_63
  · have hm := ifn c_7 hm
    refine lv_lload_n hx hb dX2_comesAhead_46 rfl (lv_at hl 1 rfl) ?_
    refine lv_lload hx hb dX2_comesAhead_47 (lv_at hl 0 rfl) ?_
    refine W.lcmp hx hb dX2_comesAhead_49 ?_
    refine lv_if_ne (tgt := 62) hx hb dX2_comesAhead_50 (by decide) (fun c_8 => ?_) (fun c_8 => ?_)
    · have hm := ifn c_8 hm
      refine lv_iconst (v := 0) hx hb dX2_comesAhead_62 (by decide) ?_
      exact z_pz hx hb hr hlocks (by decide) hm hP hD hS dX2_comesAhead_63
    · have hm := ifp c_8 hm
      refine lv_iload_n hx hb dX2_comesAhead_53 rfl (lv_at hl 3 rfl) ?_
      refine lv_iload_n hx hb dX2_comesAhead_54 rfl (lv_at hl 4 rfl) ?_
      refine lv_icmp_ge (tgt := 62) hx hb dX2_comesAhead_55 (by decide) (fun c_9 => ?_) (fun c_9 => ?_)
      · have hm := ifp c_9 hm
        refine lv_iconst (v := 0) hx hb dX2_comesAhead_62 (by decide) ?_
        exact z_pz hx hb hr hlocks (by decide) hm hP hD hS dX2_comesAhead_63
      · have hm := ifn c_9 hm
        refine lv_iconst (v := 1) hx hb dX2_comesAhead_58 (by decide) ?_
        refine lv_goto (tgt := 63) hx hb dX2_comesAhead_59 (by decide) ?_
        exact z_pz hx hb hr hlocks (by decide) hm hP hD hS dX2_comesAhead_63
abbrev rmX2_cheapestAt : Room := { frames := 4, cells := 0, slots := 0, locals := 90 }
theorem lkX2_cheapestAt_44 : Cond.fieldLink RX2 44 "DeliveryBasket" "size" "I" ∈ wsX2_cheapestAt := by decide +kernel
theorem iwX2_cheapestAt_X2 : ∀ w ∈ wsX20, w ∈ wsX2_cheapestAt := fun _ h => List.mem_cons_of_mem _ (List.mem_append_left _ (List.mem_append_right _ h))
def bkX2_cheapestAt_11  (rec : ST × Int32 × Int32 × Int32 → Option (Int32 × ST)) (σ : ST) (x2 : Int32) (x3 : Int32) (x4 : Int32) : Option (Int32 × ST) := if (gI σ 0 0 1) ≤ x4 then (some (x3, σ)) else ((mX2_isIn x2 x4).bind fun q_2 => if q_2 = (0 : Int32) then (rec (σ, x2, x3, (x4 + (1 : Int32)))) else (if x3 = (-1 : Int32) then (rec (σ, x2, x4, (x4 + (1 : Int32)))) else ((mX2_comesAhead σ x4 x3).bind fun q_5 => if q_5 = (0 : Int32) then (rec (σ, x2, x3, (x4 + (1 : Int32)))) else (rec (σ, x2, x4, (x4 + (1 : Int32)))))))
def kX2_cheapestAt_11  (n : Nat) (a : ST × Int32 × Int32 × Int32) : Option (Int32 × ST) := fx (fun rec a => bkX2_cheapestAt_11  rec a.1 a.2.1 a.2.2.1 a.2.2.2) n a
set_option maxHeartbeats 4000000 in
set_option maxRecDepth 100000 in
theorem kX2_cheapestAt_11_ok {p : Program} {l : Launch} {e : Env} {s : State} {m : MethodId} {args : Array Value} {below : List Frame} {meth : Method} {c : Code} {D : va_G} {cy : Nat → ClassId} {ad : Nat → Nat → Nat} {A : Nat → Prop} (C : Cx p s m args meth c cX2_cheapestAt 5 (some .int) RX2 wsX2_cheapestAt D cy A) (q : Int32 × ST) : ∀ (n : Nat) (σ : ST) (x2 : Int32) (x3 : Int32) (x4 : Int32), ∀ (H : Heap) (locs : List Loc), va_P D vwCl (cw cy ad σ) H → va_D A (cw cy ad σ) → va_S A s.heap H locs → ∀ ls : Array Slot, lv_has ls 5 [(0, .ref (ad 0 0)), (2, .int x2), (3, .int x3), (4, .int x4)] → kX2_cheapestAt_11 n (σ, x2, x3, x4) = some q → W p l e rmX2_cheapestAt s m args below meth c H locs 0 0 (MQ below (zQi D (cw cy ad q.2) A q.1) args s 0 0 A) (F0 m 11 ls []) := by
  obtain ⟨hx, hb, hml, hown, hts, hr, hlocks, hK, hA⟩ := id C
  intro n
  induction n with
  | zero => intro σ x2 x3 x4 H locs hP hD hS ls hl hm; cases hm
  | succ n ih =>
    intro σ x2 x3 x4 H locs hP hD hS ls hl hm
    have hm : bkX2_cheapestAt_11  (kX2_cheapestAt_11 n) σ x2 x3 x4 = some q := hm
    unfold bkX2_cheapestAt_11 at hm
    refine lv_iload hx hb dX2_cheapestAt_11 (lv_at hl 3 rfl) ?_
    refine lv_aload_n hx hb dX2_cheapestAt_13 rfl (lv_at hl 0 rfl) ?_
    refine va_get (D := D) (ci := 2) (v := .int (gI σ 0 0 1)) (C := RX2) (T := TX2) (N := 9) hx hb hts iwX2_cheapestAt_X2 hown hK.1 hP 0 cw_0 rfl 1 (by decide) (hts _ lkX2_cheapestAt_44) (fun _ h9 => h9) rfl dX2_cheapestAt_14 ?_
    refine lv_icmp_ge (tgt := 53) hx hb dX2_cheapestAt_17 (by decide) (fun c_1 => ?_) (fun c_1 => ?_)
    · have hm := ifp c_1 hm
      refine lv_iload_n hx hb dX2_cheapestAt_53 rfl (lv_at hl 2 rfl) ?_
      exact z_i hx hb hr hlocks hm hP hD hS dX2_cheapestAt_54
    · have hm := ifn c_1 hm
      refine lv_iload_n hx hb dX2_cheapestAt_20 rfl (lv_at hl 1 rfl) ?_
      refine lv_iload hx hb dX2_cheapestAt_21 (lv_at hl 3 rfl) ?_
      obtain ⟨q_2, hq_2, hm⟩ := ob hm
      refine zc_i (zr_S [.int x2, .int x4] [] ⟨hx, hb, hml, hown, hts⟩ (ctX2_isIn l D cy (cw cy ad σ)  x2 x4 q_2 hq_2 _) (va_cwS 2 hts gX2_cheapestAt_X2_isIn rfl rfl rfl (by decide +kernel) ⟨Nat.le_of_ble_eq_true rfl, Nat.le_of_ble_eq_true rfl⟩) hK hP hD rfl hl.1 rfl (Nat.le_of_ble_eq_true rfl) dX2_cheapestAt_23 ⟨Nat.zero_le _, Nat.zero_le _⟩) hD hS hA (fun H locs hP hD hS => ?_)
      refine lv_if_eq (tgt := 47) hx hb dX2_cheapestAt_26 (by decide) (fun c_3 => ?_) (fun c_3 => ?_)
      · have hm := ifp c_3 hm
        refine lv_iinc (v := (x4 + (1 : Int32))) (lv' := [(4, .int (x4 + (1 : Int32))), (0, .ref (ad 0 0)), (2, .int x2), (3, .int x3)]) hx hb dX2_cheapestAt_47 hl (k := 3) rfl rfl (by decide) rfl (fun ls hl => ?_)
        refine lv_goto (tgt := 11) hx hb dX2_cheapestAt_50 (by decide) ?_
        exact ih σ x2 x3 (x4 + (1 : Int32)) _ _ hP hD hS _ (lv_sub hl [1, 2, 3, 0] rfl) hm
      · have hm := ifn c_3 hm
        refine lv_iload_n hx hb dX2_cheapestAt_29 rfl (lv_at hl 2 rfl) ?_
        refine lv_iconst (v := -1) hx hb dX2_cheapestAt_30 (by decide) ?_
        refine lv_icmp_eq (tgt := 44) hx hb dX2_cheapestAt_31 (by decide) (fun c_4 => ?_) (fun c_4 => ?_)
        · have hm := ifp c_4 hm
          refine lv_iload hx hb dX2_cheapestAt_44 (lv_at hl 3 rfl) ?_
          refine lv_istore_n (lv' := [(3, .int x4), (0, .ref (ad 0 0)), (2, .int x2), (4, .int x4)]) hx hb dX2_cheapestAt_46 rfl hl (by decide) rfl (fun ls hl => ?_)
          refine lv_iinc (v := (x4 + (1 : Int32))) (lv' := [(4, .int (x4 + (1 : Int32))), (3, .int x4), (0, .ref (ad 0 0)), (2, .int x2)]) hx hb dX2_cheapestAt_47 hl (k := 3) rfl rfl (by decide) rfl (fun ls hl => ?_)
          refine lv_goto (tgt := 11) hx hb dX2_cheapestAt_50 (by decide) ?_
          exact ih σ x2 x4 (x4 + (1 : Int32)) _ _ hP hD hS _ (lv_sub hl [2, 3, 1, 0] rfl) hm
        · have hm := ifn c_4 hm
          refine lv_aload_n hx hb dX2_cheapestAt_34 rfl (lv_at hl 0 rfl) ?_
          refine lv_iload hx hb dX2_cheapestAt_35 (lv_at hl 3 rfl) ?_
          refine lv_iload_n hx hb dX2_cheapestAt_37 rfl (lv_at hl 2 rfl) ?_
          obtain ⟨q_5, hq_5, hm⟩ := ob hm
          refine zc_i (zr_V [.int x4, .int x3] [] ⟨hx, hb, hml, hown, hts⟩ (ctX2_comesAhead l D cy ad σ  x4 x3 q_5 hq_5 _) (cwV 2 hts gX2_cheapestAt_X2_comesAhead rfl rfl rfl (by decide +kernel) ⟨Nat.le_of_ble_eq_true rfl, Nat.le_of_ble_eq_true rfl⟩) hK hP hD 0 cw_0 rfl rfl rfl hl.1 rfl (Nat.le_of_ble_eq_true rfl) dX2_cheapestAt_38 ⟨Nat.zero_le _, Nat.zero_le _⟩) hD hS hA (fun H locs hP hD hS => ?_)
          refine lv_if_eq (tgt := 47) hx hb dX2_cheapestAt_41 (by decide) (fun c_6 => ?_) (fun c_6 => ?_)
          · have hm := ifp c_6 hm
            refine lv_iinc (v := (x4 + (1 : Int32))) (lv' := [(4, .int (x4 + (1 : Int32))), (0, .ref (ad 0 0)), (2, .int x2), (3, .int x3)]) hx hb dX2_cheapestAt_47 hl (k := 3) rfl rfl (by decide) rfl (fun ls hl => ?_)
            refine lv_goto (tgt := 11) hx hb dX2_cheapestAt_50 (by decide) ?_
            exact ih σ x2 x3 (x4 + (1 : Int32)) _ _ hP hD hS _ (lv_sub hl [1, 2, 3, 0] rfl) hm
          · have hm := ifn c_6 hm
            refine lv_iload hx hb dX2_cheapestAt_44 (lv_at hl 3 rfl) ?_
            refine lv_istore_n (lv' := [(3, .int x4), (0, .ref (ad 0 0)), (2, .int x2), (4, .int x4)]) hx hb dX2_cheapestAt_46 rfl hl (by decide) rfl (fun ls hl => ?_)
            refine lv_iinc (v := (x4 + (1 : Int32))) (lv' := [(4, .int (x4 + (1 : Int32))), (3, .int x4), (0, .ref (ad 0 0)), (2, .int x2)]) hx hb dX2_cheapestAt_47 hl (k := 3) rfl rfl (by decide) rfl (fun ls hl => ?_)
            refine lv_goto (tgt := 11) hx hb dX2_cheapestAt_50 (by decide) ?_
            exact ih σ x2 x4 (x4 + (1 : Int32)) _ _ hP hD hS _ (lv_sub hl [2, 3, 1, 0] rfl) hm
def mX2_cheapestAt (σ : ST) (a1 : Int32) (a2 : Int32) : Option (Int32 × ST) := (mX2_layPrices σ a1 a2).bind fun q_7 => kX2_cheapestAt_11 FU (q_7, a2, (-1 : Int32), (0 : Int32))
set_option maxHeartbeats 4000000 in
set_option maxRecDepth 100000 in
theorem ctX2_cheapestAt (l : Launch) (D : va_G) (cy : Nat → ClassId) (ad : Nat → Nat → Nat) (σ : ST) (a1 : Int32) (a2 : Int32) (q : Int32 × ST) (hm : mX2_cheapestAt σ a1 a2 = some q) : zMi l yX2_cheapestAt wsX2_cheapestAt rmX2_cheapestAt D cy [.ref (ad 0 0), .int a1, .int a2] (cw cy ad σ) q.1 (cw cy ad q.2) := by
  intro sz
  refine Met.ofW (cc := cX2_cheapestAt) (maxL := 5) (ret := (some .int)) (by decide) rfl ?_
  intro p e s m args below meth c s₁ B hml hv
  obtain ⟨rfl, hsz, hP, hK, hD0⟩ := hv
  have hx := B.exec
  have hb := B.bytes
  have hr := B.returns
  have hts := atoms_spec (ws := wsX2_cheapestAt) B.pre
  have hown : s.vm.findClass RX2 = some m.cls := findClass_of_methodNamed B.named
  have hlocks := B.notSynchronized
  subst hsz
  have hD := hD0.self (sz := s.heap.size)
  generalize hAe : va_A (cw cy ad σ) s.heap.size = A at hD ⊢
  have hA : ∀ q : Nat, s.heap.size ≤ q → A q := fun q h => by rw [← hAe]; exact Or.inr h
  have hS : va_S A s.heap s.heap [] := va_S.rf
  have C : Cx p s m _ meth c cX2_cheapestAt 5 (some .int) RX2 wsX2_cheapestAt D cy A := ⟨hx, hb, hml, hown, hts, hr, hlocks, hK, hA⟩
  have hl := lv_entry ([.ref (ad 0 0), .int a1, .int a2]) (n := 5) (Nat.le_of_ble_eq_true rfl)
  rw [lg_entry_eq]
  generalize (lg_sl ([.ref (ad 0 0), .int a1, .int a2]) ++ List.replicate (5 - (lg_sl ([.ref (ad 0 0), .int a1, .int a2])).length) Slot.unset).toArray = ls at hl ⊢
  have hl : lv_has ls 5 [(0, .ref (ad 0 0)), (1, .int a1), (2, .int a2)] := hl
  unfold mX2_cheapestAt at hm
  refine lv_aload_n hx hb dX2_cheapestAt_0 rfl (lv_at hl 0 rfl) ?_
  refine lv_iload_n hx hb dX2_cheapestAt_1 rfl (lv_at hl 1 rfl) ?_
  refine lv_iload_n hx hb dX2_cheapestAt_2 rfl (lv_at hl 2 rfl) ?_
  obtain ⟨q_7, hq_7, hm⟩ := ob hm
  refine zc_v (zr_V [.int a1, .int a2] [] ⟨hx, hb, hml, hown, hts⟩ (ctX2_layPrices l D cy ad σ  a1 a2 q_7 hq_7 _) (cwV 2 hts gX2_cheapestAt_X2_layPrices rfl rfl rfl (by decide +kernel) ⟨Nat.le_of_ble_eq_true rfl, Nat.le_of_ble_eq_true rfl⟩) hK hP hD 0 cw_0 rfl rfl rfl hl.1 rfl (Nat.le_of_ble_eq_true rfl) dX2_cheapestAt_3 ⟨Nat.zero_le _, Nat.zero_le _⟩) hD hS hA (fun H locs hP hD hS => ?_)
  refine lv_iconst (v := -1) hx hb dX2_cheapestAt_6 (by decide) ?_
  refine lv_istore_n (lv' := [(3, .int (-1 : Int32)), (0, .ref (ad 0 0)), (1, .int a1), (2, .int a2)]) hx hb dX2_cheapestAt_7 rfl hl (by decide) rfl (fun ls hl => ?_)
  refine lv_iconst (v := 0) hx hb dX2_cheapestAt_8 (by decide) ?_
  refine lv_istore (lv' := [(4, .int (0 : Int32)), (3, .int (-1 : Int32)), (0, .ref (ad 0 0)), (1, .int a1), (2, .int a2)]) hx hb dX2_cheapestAt_9 hl (by decide) rfl (fun ls hl => ?_)
  exact kX2_cheapestAt_11_ok C q FU q_7 a2 (-1 : Int32) (0 : Int32) _ _ hP hD hS _ (lv_sub hl [2, 4, 1, 0] rfl) hm

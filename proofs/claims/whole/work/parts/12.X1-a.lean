abbrev rmX1_change : Room := { frames := 0, cells := 0, slots := 0, locals := 0 }
theorem lkX1_change_49 : Cond.fieldLink RX1 49 "DeliveryBasket$Lattice" "days" "I" ∈ wsX1_change := by decide +kernel
theorem iwX1_change_X1 : ∀ w ∈ wsX10, w ∈ wsX1_change := fun _ h => List.mem_cons_of_mem _ (List.mem_append_right _ h)
theorem lkX1_change_9 : Cond.fieldLink RX1 9 "DeliveryBasket$Lattice" "start" "I" ∈ wsX1_change := by decide +kernel
theorem lkX1_change_15 : Cond.fieldLink RX1 15 "DeliveryBasket$Lattice" "jump" "I" ∈ wsX1_change := by decide +kernel
theorem lkX1_change_52 : Cond.fieldLink RX1 52 "DeliveryBasket$Lattice" "carry" "I" ∈ wsX1_change := by decide +kernel
theorem lkX1_change_19 : Cond.fieldLink RX1 19 "DeliveryBasket$Lattice" "agreed" "I" ∈ wsX1_change := by decide +kernel
def bkX1_change_44  (σ : ST) (x1 : Int32) (x2 : Int32) (x3 : Int32) (x4 : Int32) (x5 : Int32) : Option (Int32 × ST) := sv (sI σ 1 0 0 x1) fun σ_1 => sv (sI σ_1 1 0 1 x2) fun σ_2 => sv (sI σ_2 1 0 2 x3) fun σ_3 => sv (sI σ_3 1 0 3 x4) fun σ_4 => sv (sI σ_4 1 0 4 x5) fun σ_5 => some ((1 : Int32), σ_5)
def kX1_change_44  (a : ST × Int32 × Int32 × Int32 × Int32 × Int32) : Option (Int32 × ST) := bkX1_change_44  a.1 a.2.1 a.2.2.1 a.2.2.2.1 a.2.2.2.2.1 a.2.2.2.2.2
set_option maxHeartbeats 4000000 in
set_option maxRecDepth 100000 in
theorem kX1_change_44_ok {p : Program} {l : Launch} {e : Env} {s : State} {m : MethodId} {args : Array Value} {below : List Frame} {meth : Method} {c : Code} {D : va_G} {cy : Nat → ClassId} {ad : Nat → Nat → Nat} {A : Nat → Prop} (C : Cx p s m args meth c cX1_change 6 (some .boolean) RX1 wsX1_change D cy A) (q : Int32 × ST) : ∀ (σ : ST) (x1 : Int32) (x2 : Int32) (x3 : Int32) (x4 : Int32) (x5 : Int32), ∀ (H : Heap) (locs : List Loc), va_P D vwCl (cw cy ad σ) H → va_D A (cw cy ad σ) → va_S A s.heap H locs → ∀ ls : Array Slot, lv_has ls 6 [(0, .ref (ad 2 0)), (1, .int x1), (2, .int x2), (3, .int x3), (4, .int x4), (5, .int x5)] → kX1_change_44 (σ, x1, x2, x3, x4, x5) = some q → W p l e rmX1_change s m args below meth c H locs 0 0 (MQ below (zQi D (cw cy ad q.2) A q.1) args s 0 0 A) (F0 m 44 ls []) := by
  obtain ⟨hx, hb, hml, hown, hts, hr, hlocks, hK, hA⟩ := id C
  intro σ x1 x2 x3 x4 x5 H locs hP hD hS ls hl hm
  have hm : bkX1_change_44  σ x1 x2 x3 x4 x5 = some q := hm
  unfold bkX1_change_44 at hm
  refine lv_aload_n hx hb dX1_change_44 rfl (lv_at hl 0 rfl) ?_
  refine lv_iload_n hx hb dX1_change_45 rfl (lv_at hl 1 rfl) ?_
  refine va_put (D := D) (ci := 1) (v := .int x1) (ty := .int) (C := RX1) (T := TX1) (N := 12) hx hb hts iwX1_change_X1 tyX1 tyX1_ok nmX1 hown hK.1 hP hD hS 2 cw_2 rfl 0 (by decide) (hts _ lkX1_change_49) (fun _ h9 => h9) rfl (by decide +kernel) rfl rfl (Nat.le_of_ble_eq_true rfl) dX1_change_46 (fun H locs hP hD hS => ?_)
  have hP := eP (cw_s2 (σ := σ) (j := 0) (v := x1) (by rfl)) hP
  have hD := eD (cw_s2 (σ := σ) (j := 0) (v := x1) (by rfl)) hD
  obtain ⟨σ_1, e_1, hm⟩ := sv_some hm
  have hP : va_P D vwCl (cw cy ad σ_1) H := by rw [e_1]; exact hP
  have hD : va_D A (cw cy ad σ_1) := by rw [e_1]; exact hD
  refine lv_aload_n hx hb dX1_change_49 rfl (lv_at hl 0 rfl) ?_
  refine lv_iload_n hx hb dX1_change_50 rfl (lv_at hl 2 rfl) ?_
  refine va_put (D := D) (ci := 1) (v := .int x2) (ty := .int) (C := RX1) (T := TX1) (N := 12) hx hb hts iwX1_change_X1 tyX1 tyX1_ok nmX1 hown hK.1 hP hD hS 2 cw_2 rfl 1 (by decide) (hts _ lkX1_change_9) (fun _ h9 => h9) rfl (by decide +kernel) rfl rfl (Nat.le_of_ble_eq_true rfl) dX1_change_51 (fun H locs hP hD hS => ?_)
  have hP := eP (cw_s2 (σ := σ_1) (j := 1) (v := x2) (by rfl)) hP
  have hD := eD (cw_s2 (σ := σ_1) (j := 1) (v := x2) (by rfl)) hD
  obtain ⟨σ_2, e_2, hm⟩ := sv_some hm
  have hP : va_P D vwCl (cw cy ad σ_2) H := by rw [e_2]; exact hP
  have hD : va_D A (cw cy ad σ_2) := by rw [e_2]; exact hD
  refine lv_aload_n hx hb dX1_change_54 rfl (lv_at hl 0 rfl) ?_
  refine lv_iload_n hx hb dX1_change_55 rfl (lv_at hl 3 rfl) ?_
  refine va_put (D := D) (ci := 1) (v := .int x3) (ty := .int) (C := RX1) (T := TX1) (N := 12) hx hb hts iwX1_change_X1 tyX1 tyX1_ok nmX1 hown hK.1 hP hD hS 2 cw_2 rfl 2 (by decide) (hts _ lkX1_change_15) (fun _ h9 => h9) rfl (by decide +kernel) rfl rfl (Nat.le_of_ble_eq_true rfl) dX1_change_56 (fun H locs hP hD hS => ?_)
  have hP := eP (cw_s2 (σ := σ_2) (j := 2) (v := x3) (by rfl)) hP
  have hD := eD (cw_s2 (σ := σ_2) (j := 2) (v := x3) (by rfl)) hD
  obtain ⟨σ_3, e_3, hm⟩ := sv_some hm
  have hP : va_P D vwCl (cw cy ad σ_3) H := by rw [e_3]; exact hP
  have hD : va_D A (cw cy ad σ_3) := by rw [e_3]; exact hD
  refine lv_aload_n hx hb dX1_change_59 rfl (lv_at hl 0 rfl) ?_
  refine lv_iload hx hb dX1_change_60 (lv_at hl 4 rfl) ?_
  refine va_put (D := D) (ci := 1) (v := .int x4) (ty := .int) (C := RX1) (T := TX1) (N := 12) hx hb hts iwX1_change_X1 tyX1 tyX1_ok nmX1 hown hK.1 hP hD hS 2 cw_2 rfl 3 (by decide) (hts _ lkX1_change_52) (fun _ h9 => h9) rfl (by decide +kernel) rfl rfl (Nat.le_of_ble_eq_true rfl) dX1_change_62 (fun H locs hP hD hS => ?_)
  have hP := eP (cw_s2 (σ := σ_3) (j := 3) (v := x4) (by rfl)) hP
  have hD := eD (cw_s2 (σ := σ_3) (j := 3) (v := x4) (by rfl)) hD
  obtain ⟨σ_4, e_4, hm⟩ := sv_some hm
  have hP : va_P D vwCl (cw cy ad σ_4) H := by rw [e_4]; exact hP
  have hD : va_D A (cw cy ad σ_4) := by rw [e_4]; exact hD
  refine lv_aload_n hx hb dX1_change_65 rfl (lv_at hl 0 rfl) ?_
  refine lv_iload hx hb dX1_change_66 (lv_at hl 5 rfl) ?_
  refine va_put (D := D) (ci := 1) (v := .int x5) (ty := .int) (C := RX1) (T := TX1) (N := 12) hx hb hts iwX1_change_X1 tyX1 tyX1_ok nmX1 hown hK.1 hP hD hS 2 cw_2 rfl 4 (by decide) (hts _ lkX1_change_19) (fun _ h9 => h9) rfl (by decide +kernel) rfl rfl (Nat.le_of_ble_eq_true rfl) dX1_change_68 (fun H locs hP hD hS => ?_)
  have hP := eP (cw_s2 (σ := σ_4) (j := 4) (v := x5) (by rfl)) hP
  have hD := eD (cw_s2 (σ := σ_4) (j := 4) (v := x5) (by rfl)) hD
  obtain ⟨σ_5, e_5, hm⟩ := sv_some hm
  have hP : va_P D vwCl (cw cy ad σ_5) H := by rw [e_5]; exact hP
  have hD : va_D A (cw cy ad σ_5) := by rw [e_5]; exact hD
  refine lv_iconst (v := 1) hx hb dX1_change_71 (by decide) ?_
  exact z_z hx hb hr hlocks (by decide) hm hP hD hS dX1_change_72
def mX1_change (σ : ST) (a1 : Int32) (a2 : Int32) (a3 : Int32) (a4 : Int32) (a5 : Int32) : Option (Int32 × ST) := if a1 = (gI σ 1 0 0) then (if a2 = (gI σ 1 0 1) then (if a3 = (gI σ 1 0 2) then (if a4 = (gI σ 1 0 3) then (if a5 = (gI σ 1 0 4) then (some ((0 : Int32), σ)) else (kX1_change_44 (σ, a1, a2, a3, a4, a5))) else (kX1_change_44 (σ, a1, a2, a3, a4, a5))) else (kX1_change_44 (σ, a1, a2, a3, a4, a5))) else (kX1_change_44 (σ, a1, a2, a3, a4, a5))) else (kX1_change_44 (σ, a1, a2, a3, a4, a5))
set_option maxHeartbeats 4000000 in
set_option maxRecDepth 100000 in
theorem ctX1_change (l : Launch) (D : va_G) (cy : Nat → ClassId) (ad : Nat → Nat → Nat) (σ : ST) (a1 : Int32) (a2 : Int32) (a3 : Int32) (a4 : Int32) (a5 : Int32) (q : Int32 × ST) (hm : mX1_change σ a1 a2 a3 a4 a5 = some q) : zMi l yX1_change wsX1_change rmX1_change D cy [.ref (ad 2 0), .int a1, .int a2, .int a3, .int a4, .int a5] (cw cy ad σ) q.1 (cw cy ad q.2) := by
  intro sz
  refine Met.ofW (cc := cX1_change) (maxL := 6) (ret := (some .boolean)) (by decide) rfl ?_
  intro p e s m args below meth c s₁ B hml hv
  obtain ⟨rfl, hsz, hP, hK, hD0⟩ := hv
  have hx := B.exec
  have hb := B.bytes
  have hr := B.returns
  have hts := atoms_spec (ws := wsX1_change) B.pre
  have hown : s.vm.findClass RX1 = some m.cls := findClass_of_methodNamed B.named
  have hlocks := B.notSynchronized
  subst hsz
  have hD := hD0.self (sz := s.heap.size)
  generalize hAe : va_A (cw cy ad σ) s.heap.size = A at hD ⊢
  have hA : ∀ q : Nat, s.heap.size ≤ q → A q := fun q h => by rw [← hAe]; exact Or.inr h
  have hS : va_S A s.heap s.heap [] := va_S.rf
  have C : Cx p s m _ meth c cX1_change 6 (some .boolean) RX1 wsX1_change D cy A := ⟨hx, hb, hml, hown, hts, hr, hlocks, hK, hA⟩
  have hl := lv_entry ([.ref (ad 2 0), .int a1, .int a2, .int a3, .int a4, .int a5]) (n := 6) (Nat.le_of_ble_eq_true rfl)
  rw [lg_entry_eq]
  generalize (lg_sl ([.ref (ad 2 0), .int a1, .int a2, .int a3, .int a4, .int a5]) ++ List.replicate (6 - (lg_sl ([.ref (ad 2 0), .int a1, .int a2, .int a3, .int a4, .int a5])).length) Slot.unset).toArray = ls at hl ⊢
  have hl : lv_has ls 6 [(0, .ref (ad 2 0)), (1, .int a1), (2, .int a2), (3, .int a3), (4, .int a4), (5, .int a5)] := hl
  unfold mX1_change at hm
  refine lv_iload_n hx hb dX1_change_0 rfl (lv_at hl 1 rfl) ?_
  refine lv_aload_n hx hb dX1_change_1 rfl (lv_at hl 0 rfl) ?_
  refine va_get (D := D) (ci := 1) (v := .int (gI σ 1 0 0)) (C := RX1) (T := TX1) (N := 12) hx hb hts iwX1_change_X1 hown hK.1 hP 2 cw_2 rfl 0 (by decide) (hts _ lkX1_change_49) (fun _ h9 => h9) rfl dX1_change_2 ?_
  refine lv_icmp_ne (tgt := 44) hx hb dX1_change_5 (by decide) (fun c_6 => ?_) (fun c_6 => ?_)
  · have hm := ifn c_6 hm
    exact kX1_change_44_ok C q σ a1 a2 a3 a4 a5 _ _ hP hD hS _ (lv_sub hl [0, 1, 2, 3, 4, 5] rfl) hm
  · have hm := ifp c_6 hm
    refine lv_iload_n hx hb dX1_change_8 rfl (lv_at hl 2 rfl) ?_
    refine lv_aload_n hx hb dX1_change_9 rfl (lv_at hl 0 rfl) ?_
    refine va_get (D := D) (ci := 1) (v := .int (gI σ 1 0 1)) (C := RX1) (T := TX1) (N := 12) hx hb hts iwX1_change_X1 hown hK.1 hP 2 cw_2 rfl 1 (by decide) (hts _ lkX1_change_9) (fun _ h9 => h9) rfl dX1_change_10 ?_
    refine lv_icmp_ne (tgt := 44) hx hb dX1_change_13 (by decide) (fun c_7 => ?_) (fun c_7 => ?_)
    · have hm := ifn c_7 hm
      exact kX1_change_44_ok C q σ a1 a2 a3 a4 a5 _ _ hP hD hS _ (lv_sub hl [0, 1, 2, 3, 4, 5] rfl) hm
    · have hm := ifp c_7 hm
      refine lv_iload_n hx hb dX1_change_16 rfl (lv_at hl 3 rfl) ?_
      refine lv_aload_n hx hb dX1_change_17 rfl (lv_at hl 0 rfl) ?_
      refine va_get (D := D) (ci := 1) (v := .int (gI σ 1 0 2)) (C := RX1) (T := TX1) (N := 12) hx hb hts iwX1_change_X1 hown hK.1 hP 2 cw_2 rfl 2 (by decide) (hts _ lkX1_change_15) (fun _ h9 => h9) rfl dX1_change_18 ?_
      refine lv_icmp_ne (tgt := 44) hx hb dX1_change_21 (by decide) (fun c_8 => ?_) (fun c_8 => ?_)
      · have hm := ifn c_8 hm
        exact kX1_change_44_ok C q σ a1 a2 a3 a4 a5 _ _ hP hD hS _ (lv_sub hl [0, 1, 2, 3, 4, 5] rfl) hm
      · have hm := ifp c_8 hm
        refine lv_iload hx hb dX1_change_24 (lv_at hl 4 rfl) ?_
        refine lv_aload_n hx hb dX1_change_26 rfl (lv_at hl 0 rfl) ?_
        refine va_get (D := D) (ci := 1) (v := .int (gI σ 1 0 3)) (C := RX1) (T := TX1) (N := 12) hx hb hts iwX1_change_X1 hown hK.1 hP 2 cw_2 rfl 3 (by decide) (hts _ lkX1_change_52) (fun _ h9 => h9) rfl dX1_change_27 ?_
        refine lv_icmp_ne (tgt := 44) hx hb dX1_change_30 (by decide) (fun c_9 => ?_) (fun c_9 => ?_)
        · have hm := ifn c_9 hm
          exact kX1_change_44_ok C q σ a1 a2 a3 a4 a5 _ _ hP hD hS _ (lv_sub hl [0, 1, 2, 3, 4, 5] rfl) hm
        · have hm := ifp c_9 hm
          refine lv_iload hx hb dX1_change_33 (lv_at hl 5 rfl) ?_
          refine lv_aload_n hx hb dX1_change_35 rfl (lv_at hl 0 rfl) ?_
          refine va_get (D := D) (ci := 1) (v := .int (gI σ 1 0 4)) (C := RX1) (T := TX1) (N := 12) hx hb hts iwX1_change_X1 hown hK.1 hP 2 cw_2 rfl 4 (by decide) (hts _ lkX1_change_19) (fun _ h9 => h9) rfl dX1_change_36 ?_
          refine lv_icmp_ne (tgt := 44) hx hb dX1_change_39 (by decide) (fun c_10 => ?_) (fun c_10 => ?_)
          · have hm := ifn c_10 hm
            exact kX1_change_44_ok C q σ a1 a2 a3 a4 a5 _ _ hP hD hS _ (lv_sub hl [0, 1, 2, 3, 4, 5] rfl) hm
          · have hm := ifp c_10 hm
            refine lv_iconst (v := 0) hx hb dX1_change_42 (by decide) ?_
            exact z_z hx hb hr hlocks (by decide) hm hP hD hS dX1_change_43
abbrev rmX1_hasDay : Room := { frames := 1, cells := 0, slots := 0, locals := 22 }
theorem lkX1_hasDay_49 : Cond.fieldLink RX1 49 "DeliveryBasket$Lattice" "days" "I" ∈ wsX1_hasDay := by decide +kernel
theorem iwX1_hasDay_X1 : ∀ w ∈ wsX10, w ∈ wsX1_hasDay := fun _ h => List.mem_cons_of_mem _ (List.mem_append_right _ h)
theorem lkX1_hasDay_iniX2 : Cond.initialized RX2 ∈ wsX1_hasDay := by decide +kernel
theorem lkX1_hasDay_st_X2_within : Cond.static yX2_within ∈ wsX1_hasDay := by decide +kernel
def mX1_hasDay (σ : ST) (a1 : Int32) : Option (Int32) := (mX2_within a1 (0 : Int32) (gI σ 1 0 0)).bind fun q_1 => gd (zb q_1) (some q_1)
set_option maxHeartbeats 4000000 in
set_option maxRecDepth 100000 in
theorem ctX1_hasDay (l : Launch) (D : va_G) (cy : Nat → ClassId) (ad : Nat → Nat → Nat) (σ : ST) (a1 : Int32) (q : Int32) (hm : mX1_hasDay σ a1 = some q) : zMi l yX1_hasDay wsX1_hasDay rmX1_hasDay D cy [.ref (ad 2 0), .int a1] (cw cy ad σ) q (cw cy ad σ) := by
  intro sz
  refine Met.ofW (cc := cX1_hasDay) (maxL := 2) (ret := (some .boolean)) (by decide) rfl ?_
  intro p e s m args below meth c s₁ B hml hv
  obtain ⟨rfl, hsz, hP, hK, hD0⟩ := hv
  have hx := B.exec
  have hb := B.bytes
  have hr := B.returns
  have hts := atoms_spec (ws := wsX1_hasDay) B.pre
  have hown : s.vm.findClass RX1 = some m.cls := findClass_of_methodNamed B.named
  have hlocks := B.notSynchronized
  subst hsz
  have hD := hD0.self (sz := s.heap.size)
  generalize hAe : va_A (cw cy ad σ) s.heap.size = A at hD ⊢
  have hA : ∀ q : Nat, s.heap.size ≤ q → A q := fun q h => by rw [← hAe]; exact Or.inr h
  have hS : va_S A s.heap s.heap [] := va_S.rf
  have C : Cx p s m _ meth c cX1_hasDay 2 (some .boolean) RX1 wsX1_hasDay D cy A := ⟨hx, hb, hml, hown, hts, hr, hlocks, hK, hA⟩
  have hl := lv_entry ([.ref (ad 2 0), .int a1]) (n := 2) (Nat.le_of_ble_eq_true rfl)
  rw [lg_entry_eq]
  generalize (lg_sl ([.ref (ad 2 0), .int a1]) ++ List.replicate (2 - (lg_sl ([.ref (ad 2 0), .int a1])).length) Slot.unset).toArray = ls at hl ⊢
  have hl : lv_has ls 2 [(0, .ref (ad 2 0)), (1, .int a1)] := hl
  unfold mX1_hasDay at hm
  refine lv_iload_n hx hb dX1_hasDay_0 rfl (lv_at hl 1 rfl) ?_
  refine lv_iconst (v := 0) hx hb dX1_hasDay_1 (by decide) ?_
  refine lv_aload_n hx hb dX1_hasDay_2 rfl (lv_at hl 0 rfl) ?_
  refine va_get (D := D) (ci := 1) (v := .int (gI σ 1 0 0)) (C := RX1) (T := TX1) (N := 12) hx hb hts iwX1_hasDay_X1 hown hK.1 hP 2 cw_2 rfl 0 (by decide) (hts _ lkX1_hasDay_49) (fun _ h9 => h9) rfl dX1_hasDay_3 ?_
  obtain ⟨q_1, hq_1, hm⟩ := ob hm
  refine zc_i (zr_N [.int a1, .int (0 : Int32), .int (gI σ 1 0 0)] [] ⟨hx, hb, hml, hown, hts⟩ (ctX2_within l D cy (cw cy ad σ)  a1 (0 : Int32) (gI σ 1 0 0) q_1 hq_1 _) ⟨va_cnB 3 hts gX1_hasDay_X2_within_n55 rfl rfl rfl hK.2.2.1 (hts _ lkX1_hasDay_iniX2) (by decide +kernel) ⟨Nat.le_of_ble_eq_true rfl, Nat.le_of_ble_eq_true rfl⟩, (hts _ lkX1_hasDay_st_X2_within), trivial⟩ hK hP hD rfl hl.1 rfl (Nat.le_of_ble_eq_true rfl) dX1_hasDay_6 ⟨Nat.zero_le _, Nat.zero_le _⟩) hD hS hA (fun H locs hP hD hS => ?_)
  obtain ⟨h_2, hm⟩ := gd_some hm
  exact z_pz hx hb hr hlocks h_2 hm hP hD hS dX1_hasDay_9
abbrev rmX1_hasNode : Room := { frames := 2, cells := 0, slots := 0, locals := 43 }
theorem lkX1_hasNode_iniX2 : Cond.initialized RX2 ∈ wsX1_hasNode := by decide +kernel
theorem lkX1_hasNode_st_X2_within : Cond.static yX2_within ∈ wsX1_hasNode := by decide +kernel
def mX1_hasNode (σ : ST) (a1 : Int32) (a2 : Int32) : Option (Int32) := (mX1_hasDay σ a1).bind fun q_1 => if q_1 = (0 : Int32) then (some (0 : Int32)) else ((mX2_within a2 (0 : Int32) a1).bind fun q_3 => if q_3 = (0 : Int32) then (some (0 : Int32)) else (some (1 : Int32)))
set_option maxHeartbeats 4000000 in
set_option maxRecDepth 100000 in
theorem ctX1_hasNode (l : Launch) (D : va_G) (cy : Nat → ClassId) (ad : Nat → Nat → Nat) (σ : ST) (a1 : Int32) (a2 : Int32) (q : Int32) (hm : mX1_hasNode σ a1 a2 = some q) : zMi l yX1_hasNode wsX1_hasNode rmX1_hasNode D cy [.ref (ad 2 0), .int a1, .int a2] (cw cy ad σ) q (cw cy ad σ) := by
  intro sz
  refine Met.ofW (cc := cX1_hasNode) (maxL := 3) (ret := (some .boolean)) (by decide) rfl ?_
  intro p e s m args below meth c s₁ B hml hv
  obtain ⟨rfl, hsz, hP, hK, hD0⟩ := hv
  have hx := B.exec
  have hb := B.bytes
  have hr := B.returns
  have hts := atoms_spec (ws := wsX1_hasNode) B.pre
  have hown : s.vm.findClass RX1 = some m.cls := findClass_of_methodNamed B.named
  have hlocks := B.notSynchronized
  subst hsz
  have hD := hD0.self (sz := s.heap.size)
  generalize hAe : va_A (cw cy ad σ) s.heap.size = A at hD ⊢
  have hA : ∀ q : Nat, s.heap.size ≤ q → A q := fun q h => by rw [← hAe]; exact Or.inr h
  have hS : va_S A s.heap s.heap [] := va_S.rf
  have C : Cx p s m _ meth c cX1_hasNode 3 (some .boolean) RX1 wsX1_hasNode D cy A := ⟨hx, hb, hml, hown, hts, hr, hlocks, hK, hA⟩
  have hl := lv_entry ([.ref (ad 2 0), .int a1, .int a2]) (n := 3) (Nat.le_of_ble_eq_true rfl)
  rw [lg_entry_eq]
  generalize (lg_sl ([.ref (ad 2 0), .int a1, .int a2]) ++ List.replicate (3 - (lg_sl ([.ref (ad 2 0), .int a1, .int a2])).length) Slot.unset).toArray = ls at hl ⊢
  have hl : lv_has ls 3 [(0, .ref (ad 2 0)), (1, .int a1), (2, .int a2)] := hl
  unfold mX1_hasNode at hm
  refine lv_aload_n hx hb dX1_hasNode_0 rfl (lv_at hl 0 rfl) ?_
  refine lv_iload_n hx hb dX1_hasNode_1 rfl (lv_at hl 1 rfl) ?_
  obtain ⟨q_1, hq_1, hm⟩ := ob hm
  refine zc_i (zr_V [.int a1] [] ⟨hx, hb, hml, hown, hts⟩ (ctX1_hasDay l D cy ad σ  a1 q_1 hq_1 _) (cwV 1 hts gX1_hasNode_X1_hasDay rfl rfl rfl (by decide +kernel) ⟨Nat.le_of_ble_eq_true rfl, Nat.le_of_ble_eq_true rfl⟩) hK hP hD 2 cw_2 rfl rfl rfl hl.1 rfl (Nat.le_of_ble_eq_true rfl) dX1_hasNode_2 ⟨Nat.zero_le _, Nat.zero_le _⟩) hD hS hA (fun H locs hP hD hS => ?_)
  refine lv_if_eq (tgt := 21) hx hb dX1_hasNode_5 (by decide) (fun c_2 => ?_) (fun c_2 => ?_)
  · have hm := ifp c_2 hm
    refine lv_iconst (v := 0) hx hb dX1_hasNode_21 (by decide) ?_
    exact z_pz hx hb hr hlocks (by decide) hm hP hD hS dX1_hasNode_22
  · have hm := ifn c_2 hm
    refine lv_iload_n hx hb dX1_hasNode_8 rfl (lv_at hl 2 rfl) ?_
    refine lv_iconst (v := 0) hx hb dX1_hasNode_9 (by decide) ?_
    refine lv_iload_n hx hb dX1_hasNode_10 rfl (lv_at hl 1 rfl) ?_
    obtain ⟨q_3, hq_3, hm⟩ := ob hm
    refine zc_i (zr_N [.int a2, .int (0 : Int32), .int a1] [] ⟨hx, hb, hml, hown, hts⟩ (ctX2_within l D cy (cw cy ad σ)  a2 (0 : Int32) a1 q_3 hq_3 _) ⟨va_cnB 3 hts gX1_hasNode_X2_within_n55 rfl rfl rfl hK.2.2.1 (hts _ lkX1_hasNode_iniX2) (by decide +kernel) ⟨Nat.le_of_ble_eq_true rfl, Nat.le_of_ble_eq_true rfl⟩, (hts _ lkX1_hasNode_st_X2_within), trivial⟩ hK hP hD rfl hl.1 rfl (Nat.le_of_ble_eq_true rfl) dX1_hasNode_11 ⟨Nat.zero_le _, Nat.zero_le _⟩) hD hS hA (fun H locs hP hD hS => ?_)
    refine lv_if_eq (tgt := 21) hx hb dX1_hasNode_14 (by decide) (fun c_4 => ?_) (fun c_4 => ?_)
    · have hm := ifp c_4 hm
      refine lv_iconst (v := 0) hx hb dX1_hasNode_21 (by decide) ?_
      exact z_pz hx hb hr hlocks (by decide) hm hP hD hS dX1_hasNode_22
    · have hm := ifn c_4 hm
      refine lv_iconst (v := 1) hx hb dX1_hasNode_17 (by decide) ?_
      refine lv_goto (tgt := 22) hx hb dX1_hasNode_18 (by decide) ?_
      exact z_pz hx hb hr hlocks (by decide) hm hP hD hS dX1_hasNode_22
abbrev rmX1_level : Room := { frames := 0, cells := 0, slots := 0, locals := 0 }
theorem lkX1_level_49 : Cond.fieldLink RX1 49 "DeliveryBasket$Lattice" "days" "I" ∈ wsX1_level := by decide +kernel
theorem iwX1_level_X1 : ∀ w ∈ wsX10, w ∈ wsX1_level := fun _ h => List.mem_cons_of_mem _ (List.mem_append_right _ h)
def mX1_level (σ : ST) (a1 : Int32) (a2 : Int32) : Option (Int32) := some (((gI σ 1 0 0) + ((2 : Int32) * a2)) - a1)
set_option maxHeartbeats 4000000 in
set_option maxRecDepth 100000 in
theorem ctX1_level (l : Launch) (D : va_G) (cy : Nat → ClassId) (ad : Nat → Nat → Nat) (σ : ST) (a1 : Int32) (a2 : Int32) (q : Int32) (hm : mX1_level σ a1 a2 = some q) : zMi l yX1_level wsX1_level rmX1_level D cy [.ref (ad 2 0), .int a1, .int a2] (cw cy ad σ) q (cw cy ad σ) := by
  intro sz
  refine Met.ofW (cc := cX1_level) (maxL := 3) (ret := (some .int)) (by decide) rfl ?_
  intro p e s m args below meth c s₁ B hml hv
  obtain ⟨rfl, hsz, hP, hK, hD0⟩ := hv
  have hx := B.exec
  have hb := B.bytes
  have hr := B.returns
  have hts := atoms_spec (ws := wsX1_level) B.pre
  have hown : s.vm.findClass RX1 = some m.cls := findClass_of_methodNamed B.named
  have hlocks := B.notSynchronized
  subst hsz
  have hD := hD0.self (sz := s.heap.size)
  generalize hAe : va_A (cw cy ad σ) s.heap.size = A at hD ⊢
  have hA : ∀ q : Nat, s.heap.size ≤ q → A q := fun q h => by rw [← hAe]; exact Or.inr h
  have hS : va_S A s.heap s.heap [] := va_S.rf
  have C : Cx p s m _ meth c cX1_level 3 (some .int) RX1 wsX1_level D cy A := ⟨hx, hb, hml, hown, hts, hr, hlocks, hK, hA⟩
  have hl := lv_entry ([.ref (ad 2 0), .int a1, .int a2]) (n := 3) (Nat.le_of_ble_eq_true rfl)
  rw [lg_entry_eq]
  generalize (lg_sl ([.ref (ad 2 0), .int a1, .int a2]) ++ List.replicate (3 - (lg_sl ([.ref (ad 2 0), .int a1, .int a2])).length) Slot.unset).toArray = ls at hl ⊢
  have hl : lv_has ls 3 [(0, .ref (ad 2 0)), (1, .int a1), (2, .int a2)] := hl
  unfold mX1_level at hm
  refine lv_aload_n hx hb dX1_level_0 rfl (lv_at hl 0 rfl) ?_
  refine va_get (D := D) (ci := 1) (v := .int (gI σ 1 0 0)) (C := RX1) (T := TX1) (N := 12) hx hb hts iwX1_level_X1 hown hK.1 hP 2 cw_2 rfl 0 (by decide) (hts _ lkX1_level_49) (fun _ h9 => h9) rfl dX1_level_1 ?_
  refine lv_iconst (v := 2) hx hb dX1_level_4 (by decide) ?_
  refine lv_iload_n hx hb dX1_level_5 rfl (lv_at hl 2 rfl) ?_
  refine lv_imul hx hb dX1_level_6 ?_
  refine lv_iadd hx hb dX1_level_7 ?_
  refine lv_iload_n hx hb dX1_level_8 rfl (lv_at hl 1 rfl) ?_
  refine lv_isub hx hb dX1_level_9 ?_
  exact z_pi hx hb hr hlocks hm hP hD hS dX1_level_10
abbrev rmX1_rateAt : Room := { frames := 1, cells := 0, slots := 0, locals := 21 }
theorem lkX1_rateAt_9 : Cond.fieldLink RX1 9 "DeliveryBasket$Lattice" "start" "I" ∈ wsX1_rateAt := by decide +kernel
theorem iwX1_rateAt_X1 : ∀ w ∈ wsX10, w ∈ wsX1_rateAt := fun _ h => List.mem_cons_of_mem _ (List.mem_append_right _ h)
theorem lkX1_rateAt_15 : Cond.fieldLink RX1 15 "DeliveryBasket$Lattice" "jump" "I" ∈ wsX1_rateAt := by decide +kernel
theorem lkX1_rateAt_49 : Cond.fieldLink RX1 49 "DeliveryBasket$Lattice" "days" "I" ∈ wsX1_rateAt := by decide +kernel
theorem lkX1_rateAt_63 : Cond.methodLink RX1 63 Lib.Math.min.name ∈ wsX1_rateAt := by decide +kernel
theorem lkX1_rateAt_stmin : Cond.static Lib.Math.min.name ∈ wsX1_rateAt := by decide +kernel
theorem lkX1_rateAt_iniM : Cond.initialized "java/lang/Math" ∈ wsX1_rateAt := by decide +kernel
theorem lkX1_rateAt_comin : Cond.code Lib.Math.min.name Lib.Math.min.code 2 (some .int) ∈ wsX1_rateAt := by decide +kernel
theorem lkX1_rateAt_69 : Cond.methodLink RX1 69 Lib.Math.max.name ∈ wsX1_rateAt := by decide +kernel
theorem lkX1_rateAt_stmax : Cond.static Lib.Math.max.name ∈ wsX1_rateAt := by decide +kernel
theorem lkX1_rateAt_comax : Cond.code Lib.Math.max.name Lib.Math.max.code 2 (some .int) ∈ wsX1_rateAt := by decide +kernel
def mX1_rateAt (σ : ST) (a1 : Int32) : Option (Int32) := some (if (0 : Int32) < (if ((gI σ 1 0 1) + ((gI σ 1 0 2) * (a1 - (gI σ 1 0 0)))) < (3000 : Int32) then ((gI σ 1 0 1) + ((gI σ 1 0 2) * (a1 - (gI σ 1 0 0)))) else (3000 : Int32)) then (if ((gI σ 1 0 1) + ((gI σ 1 0 2) * (a1 - (gI σ 1 0 0)))) < (3000 : Int32) then ((gI σ 1 0 1) + ((gI σ 1 0 2) * (a1 - (gI σ 1 0 0)))) else (3000 : Int32)) else (0 : Int32))
set_option maxHeartbeats 4000000 in
set_option maxRecDepth 100000 in
theorem ctX1_rateAt (l : Launch) (D : va_G) (cy : Nat → ClassId) (ad : Nat → Nat → Nat) (σ : ST) (a1 : Int32) (q : Int32) (hm : mX1_rateAt σ a1 = some q) : zMi l yX1_rateAt wsX1_rateAt rmX1_rateAt D cy [.ref (ad 2 0), .int a1] (cw cy ad σ) q (cw cy ad σ) := by
  intro sz
  refine Met.ofW (cc := cX1_rateAt) (maxL := 2) (ret := (some .int)) (by decide) rfl ?_
  intro p e s m args below meth c s₁ B hml hv
  obtain ⟨rfl, hsz, hP, hK, hD0⟩ := hv
  have hx := B.exec
  have hb := B.bytes
  have hr := B.returns
  have hts := atoms_spec (ws := wsX1_rateAt) B.pre
  have hown : s.vm.findClass RX1 = some m.cls := findClass_of_methodNamed B.named
  have hlocks := B.notSynchronized
  subst hsz
  have hD := hD0.self (sz := s.heap.size)
  generalize hAe : va_A (cw cy ad σ) s.heap.size = A at hD ⊢
  have hA : ∀ q : Nat, s.heap.size ≤ q → A q := fun q h => by rw [← hAe]; exact Or.inr h
  have hS : va_S A s.heap s.heap [] := va_S.rf
  have C : Cx p s m _ meth c cX1_rateAt 2 (some .int) RX1 wsX1_rateAt D cy A := ⟨hx, hb, hml, hown, hts, hr, hlocks, hK, hA⟩
  have hl := lv_entry ([.ref (ad 2 0), .int a1]) (n := 2) (Nat.le_of_ble_eq_true rfl)
  rw [lg_entry_eq]
  generalize (lg_sl ([.ref (ad 2 0), .int a1]) ++ List.replicate (2 - (lg_sl ([.ref (ad 2 0), .int a1])).length) Slot.unset).toArray = ls at hl ⊢
  have hl : lv_has ls 2 [(0, .ref (ad 2 0)), (1, .int a1)] := hl
  unfold mX1_rateAt at hm
  refine lv_iconst (v := 0) hx hb dX1_rateAt_0 (by decide) ?_
  refine lv_sipush (v := 3000) hx hb dX1_rateAt_1 (by decide) ?_
  refine lv_aload_n hx hb dX1_rateAt_4 rfl (lv_at hl 0 rfl) ?_
  refine va_get (D := D) (ci := 1) (v := .int (gI σ 1 0 1)) (C := RX1) (T := TX1) (N := 12) hx hb hts iwX1_rateAt_X1 hown hK.1 hP 2 cw_2 rfl 1 (by decide) (hts _ lkX1_rateAt_9) (fun _ h9 => h9) rfl dX1_rateAt_5 ?_
  refine lv_aload_n hx hb dX1_rateAt_8 rfl (lv_at hl 0 rfl) ?_
  refine va_get (D := D) (ci := 1) (v := .int (gI σ 1 0 2)) (C := RX1) (T := TX1) (N := 12) hx hb hts iwX1_rateAt_X1 hown hK.1 hP 2 cw_2 rfl 2 (by decide) (hts _ lkX1_rateAt_15) (fun _ h9 => h9) rfl dX1_rateAt_9 ?_
  refine lv_iload_n hx hb dX1_rateAt_12 rfl (lv_at hl 1 rfl) ?_
  refine lv_aload_n hx hb dX1_rateAt_13 rfl (lv_at hl 0 rfl) ?_
  refine va_get (D := D) (ci := 1) (v := .int (gI σ 1 0 0)) (C := RX1) (T := TX1) (N := 12) hx hb hts iwX1_rateAt_X1 hown hK.1 hP 2 cw_2 rfl 0 (by decide) (hts _ lkX1_rateAt_49) (fun _ h9 => h9) rfl dX1_rateAt_14 ?_
  refine lv_isub hx hb dX1_rateAt_17 ?_
  refine lv_imul hx hb dX1_rateAt_18 ?_
  refine lv_iadd hx hb dX1_rateAt_19 ?_
  refine va_mmin hx hb (hml.trans hl.1.symm) hown (hts _ lkX1_rateAt_63) (hts _ lkX1_rateAt_stmin) (hts _ lkX1_rateAt_iniM) (hts _ lkX1_rateAt_comin) (Nat.le_of_ble_eq_true rfl) (Nat.le_of_ble_eq_true rfl) (Nat.zero_le _) (Nat.zero_le _) dX1_rateAt_20 ?_
  refine va_mmax hx hb (hml.trans hl.1.symm) hown (hts _ lkX1_rateAt_69) (hts _ lkX1_rateAt_stmax) (hts _ lkX1_rateAt_iniM) (hts _ lkX1_rateAt_comax) (Nat.le_of_ble_eq_true rfl) (Nat.le_of_ble_eq_true rfl) (Nat.zero_le _) (Nat.zero_le _) dX1_rateAt_23 ?_
  exact z_pi hx hb hr hlocks hm hP hD hS dX1_rateAt_26
abbrev rmX1_layPrices : Room := { frames := 3, cells := 0, slots := 0, locals := 67 }
theorem lkX1_layPrices_32 : Cond.fieldLink RX1 32 "DeliveryBasket$Lattice" "levelPrices" "[[I" ∈ wsX1_layPrices := by decide +kernel
theorem iwX1_layPrices_X1 : ∀ w ∈ wsX10, w ∈ wsX1_layPrices := fun _ h => List.mem_cons_of_mem _ (List.mem_append_left _ (List.mem_append_right _ h))
theorem lkX1_layPrices_49 : Cond.fieldLink RX1 49 "DeliveryBasket$Lattice" "days" "I" ∈ wsX1_layPrices := by decide +kernel
def bkX1_layPrices_22 (rc2 : ST × Int32 × Int32 → Option (ST)) (rec : ST × Int32 × Int32 × Int32 × Int32 → Option (ST)) (σ : ST) (x2 : Int32) (x3 : Int32) (x4 : Int32) (x5 : Int32) : Option (ST) := if x2 ≤ x5 then (rc2 (σ, x2, (x3 + (1 : Int32)))) else (gd (inb x3 41) (gd (inb x5 8) (gd (decide ((gP σ (Int32.toNatClampNeg x5)) < 8)) ((mX0_priceAt σ (gP σ (Int32.toNatClampNeg x5)) x4).bind fun q_5 => gd (inb x5 8) (sv (sI q_5.2 7 (Int32.toNatClampNeg x3) (Int32.toNatClampNeg x5) q_5.1) fun σ_7 => rec (σ_7, x2, x3, x4, (x5 + (1 : Int32))))))))
def kX1_layPrices_22 (rc2 : ST × Int32 × Int32 → Option (ST)) (n : Nat) (a : ST × Int32 × Int32 × Int32 × Int32) : Option (ST) := fx (fun rec a => bkX1_layPrices_22 rc2 rec a.1 a.2.1 a.2.2.1 a.2.2.2.1 a.2.2.2.2) n a
set_option maxHeartbeats 4000000 in
set_option maxRecDepth 100000 in
theorem kX1_layPrices_22_ok {p : Program} {l : Launch} {e : Env} {s : State} {m : MethodId} {args : Array Value} {below : List Frame} {meth : Method} {c : Code} {D : va_G} {cy : Nat → ClassId} {ad : Nat → Nat → Nat} {A : Nat → Prop} (C : Cx p s m args meth c cX1_layPrices 6 none RX1 wsX1_layPrices D cy A) (q : ST) {rc2 : ST × Int32 × Int32 → Option (ST)} (hr2 : ∀ (σ : ST) (x2 : Int32) (x3 : Int32), ∀ (H : Heap) (locs : List Loc), va_P D vwCl (cw cy ad σ) H → va_D A (cw cy ad σ) → va_S A s.heap H locs → ∀ ls : Array Slot, lv_has ls 6 [(0, .ref (ad 2 0)), (1, .ref (ad 1 0)), (2, .int x2), (3, .int x3)] → rc2 (σ, x2, x3) = some q → W p l e rmX1_layPrices s m args below meth c H locs 0 0 (MQ below (zQv D (cw cy ad q) A) args s 0 0 A) (F0 m 2 ls [])) : ∀ (n : Nat) (σ : ST) (x2 : Int32) (x3 : Int32) (x4 : Int32) (x5 : Int32), ∀ (H : Heap) (locs : List Loc), va_P D vwCl (cw cy ad σ) H → va_D A (cw cy ad σ) → va_S A s.heap H locs → ∀ ls : Array Slot, lv_has ls 6 [(0, .ref (ad 2 0)), (1, .ref (ad 1 0)), (2, .int x2), (3, .int x3), (4, .int x4), (5, .int x5)] → kX1_layPrices_22 rc2 n (σ, x2, x3, x4, x5) = some q → W p l e rmX1_layPrices s m args below meth c H locs 0 0 (MQ below (zQv D (cw cy ad q) A) args s 0 0 A) (F0 m 22 ls []) := by
  obtain ⟨hx, hb, hml, hown, hts, hr, hlocks, hK, hA⟩ := id C
  intro n
  induction n with
  | zero => intro σ x2 x3 x4 x5 H locs hP hD hS ls hl hm; cases hm
  | succ n ih =>
    intro σ x2 x3 x4 x5 H locs hP hD hS ls hl hm
    have hm : bkX1_layPrices_22 rc2 (kX1_layPrices_22 rc2 n) σ x2 x3 x4 x5 = some q := hm
    unfold bkX1_layPrices_22 at hm
    refine lv_iload hx hb dX1_layPrices_22 (lv_at hl 5 rfl) ?_
    refine lv_iload_n hx hb dX1_layPrices_24 rfl (lv_at hl 2 rfl) ?_
    refine lv_icmp_ge (tgt := 52) hx hb dX1_layPrices_25 (by decide) (fun c_1 => ?_) (fun c_1 => ?_)
    · have hm := ifp c_1 hm
      refine lv_iinc (v := (x3 + (1 : Int32))) (lv' := [(3, .int (x3 + (1 : Int32))), (0, .ref (ad 2 0)), (1, .ref (ad 1 0)), (2, .int x2), (4, .int x4), (5, .int x5)]) hx hb dX1_layPrices_52 hl (k := 3) rfl rfl (by decide) rfl (fun ls hl => ?_)
      refine lv_goto (tgt := 2) hx hb dX1_layPrices_55 (by decide) ?_
      exact hr2 σ x2 (x3 + (1 : Int32)) _ _ hP hD hS _ (lv_sub hl [1, 2, 3, 0] rfl) hm
    · have hm := ifn c_1 hm
      refine lv_aload_n hx hb dX1_layPrices_28 rfl (lv_at hl 0 rfl) ?_
      refine va_get (D := D) (ci := 1) (v := .ref (ad 8 0)) (C := RX1) (T := TX1) (N := 12) hx hb hts iwX1_layPrices_X1 hown hK.1 hP 2 cw_2 rfl 7 (by decide) (hts _ lkX1_layPrices_32) (fun _ h9 => h9) rfl dX1_layPrices_29 ?_
      refine lv_iload_n hx hb dX1_layPrices_32 rfl (lv_at hl 3 rfl) ?_
      obtain ⟨h_2, hm⟩ := gd_some hm
      refine z_ald (f := fun i => ad 17 i) hx hb hK.1 hP 8 3 cw_8 rfl rfl (inb_vp h_2) dX1_layPrices_33 ?_
      refine lv_iload hx hb dX1_layPrices_34 (lv_at hl 5 rfl) ?_
      refine lv_aload_n hx hb dX1_layPrices_36 rfl (lv_at hl 1 rfl) ?_
      refine lv_iload hx hb dX1_layPrices_37 (lv_at hl 5 rfl) ?_
      obtain ⟨h_3, hm⟩ := gd_some hm
      obtain ⟨h_4, hm⟩ := gd_some hm
      have h_4 := lt_of_dec h_4
      refine z_ald (f := fun i => ad 13 (gP σ i)) hx hb hK.1 hP 1 2 cw_1 rfl rfl (inb_vp h_3) dX1_layPrices_39 ?_
      refine lv_iload hx hb dX1_layPrices_40 (lv_at hl 4 rfl) ?_
      obtain ⟨q_5, hq_5, hm⟩ := ob hm
      refine zc_i (zr_V [.int x4] [.int x5, .ref (ad 17 (Int32.toNatClampNeg x3))] ⟨hx, hb, hml, hown, hts⟩ (ctX0_priceAt l D cy ad σ h_4 (gP σ (Int32.toNatClampNeg x5)) x4 q_5 hq_5 _) (cwV 1 hts gX1_layPrices_X0_priceAt rfl rfl rfl (by decide +kernel) ⟨Nat.le_of_ble_eq_true rfl, Nat.le_of_ble_eq_true rfl⟩) hK hP hD (13 + (gP σ (Int32.toNatClampNeg x5))) (cw_13 h_4) rfl rfl rfl hl.1 rfl (Nat.le_of_ble_eq_true rfl) dX1_layPrices_42 ⟨Nat.zero_le _, Nat.zero_le _⟩) hD hS hA (fun H locs hP hD hS => ?_)
      obtain ⟨h_6, hm⟩ := gd_some hm
      refine va_iast hx hb hK.1 hP hD hS (13 + (8 + (8 + (21 + (21 + (Int32.toNatClampNeg x3)))))) 0 (cw_17 (inb_lt h_2)) rfl (inb_vp h_6) dX1_layPrices_45 (fun H locs hP hD hS => ?_)
      have hP := eP (cw_s17 (k := (Int32.toNatClampNeg x3)) (inb_lt h_2)) hP
      have hD := eD (cw_s17 (k := (Int32.toNatClampNeg x3)) (inb_lt h_2)) hD
      obtain ⟨σ_7, e_7, hm⟩ := sv_some hm
      have hP : va_P D vwCl (cw cy ad σ_7) H := by rw [e_7]; exact hP
      have hD : va_D A (cw cy ad σ_7) := by rw [e_7]; exact hD
      refine lv_iinc (v := (x5 + (1 : Int32))) (lv' := [(5, .int (x5 + (1 : Int32))), (0, .ref (ad 2 0)), (1, .ref (ad 1 0)), (2, .int x2), (3, .int x3), (4, .int x4)]) hx hb dX1_layPrices_46 hl (k := 5) rfl rfl (by decide) rfl (fun ls hl => ?_)
      refine lv_goto (tgt := 22) hx hb dX1_layPrices_49 (by decide) ?_
      exact ih σ_7 x2 x3 x4 (x5 + (1 : Int32)) _ _ hP hD hS _ (lv_sub hl [1, 2, 3, 4, 5, 0] rfl) hm
def bkX1_layPrices_2  (rec : ST × Int32 × Int32 → Option (ST)) (σ : ST) (x2 : Int32) (x3 : Int32) : Option (ST) := if ((2 : Int32) * (gI σ 1 0 0)) < x3 then (some σ) else ((mX1_rateAt σ x3).bind fun q_9 => kX1_layPrices_22 rec FU (σ, x2, x3, q_9, (0 : Int32)))
def kX1_layPrices_2  (n : Nat) (a : ST × Int32 × Int32) : Option (ST) := fx (fun rec a => bkX1_layPrices_2  rec a.1 a.2.1 a.2.2) n a
set_option maxHeartbeats 4000000 in
set_option maxRecDepth 100000 in
theorem kX1_layPrices_2_ok {p : Program} {l : Launch} {e : Env} {s : State} {m : MethodId} {args : Array Value} {below : List Frame} {meth : Method} {c : Code} {D : va_G} {cy : Nat → ClassId} {ad : Nat → Nat → Nat} {A : Nat → Prop} (C : Cx p s m args meth c cX1_layPrices 6 none RX1 wsX1_layPrices D cy A) (q : ST) : ∀ (n : Nat) (σ : ST) (x2 : Int32) (x3 : Int32), ∀ (H : Heap) (locs : List Loc), va_P D vwCl (cw cy ad σ) H → va_D A (cw cy ad σ) → va_S A s.heap H locs → ∀ ls : Array Slot, lv_has ls 6 [(0, .ref (ad 2 0)), (1, .ref (ad 1 0)), (2, .int x2), (3, .int x3)] → kX1_layPrices_2 n (σ, x2, x3) = some q → W p l e rmX1_layPrices s m args below meth c H locs 0 0 (MQ below (zQv D (cw cy ad q) A) args s 0 0 A) (F0 m 2 ls []) := by
  obtain ⟨hx, hb, hml, hown, hts, hr, hlocks, hK, hA⟩ := id C
  intro n
  induction n with
  | zero => intro σ x2 x3 H locs hP hD hS ls hl hm; cases hm
  | succ n ih =>
    intro σ x2 x3 H locs hP hD hS ls hl hm
    have hm : bkX1_layPrices_2  (kX1_layPrices_2 n) σ x2 x3 = some q := hm
    unfold bkX1_layPrices_2 at hm
    refine lv_iload_n hx hb dX1_layPrices_2 rfl (lv_at hl 3 rfl) ?_
    refine lv_iconst (v := 2) hx hb dX1_layPrices_3 (by decide) ?_
    refine lv_aload_n hx hb dX1_layPrices_4 rfl (lv_at hl 0 rfl) ?_
    refine va_get (D := D) (ci := 1) (v := .int (gI σ 1 0 0)) (C := RX1) (T := TX1) (N := 12) hx hb hts iwX1_layPrices_X1 hown hK.1 hP 2 cw_2 rfl 0 (by decide) (hts _ lkX1_layPrices_49) (fun _ h9 => h9) rfl dX1_layPrices_5 ?_
    refine lv_imul hx hb dX1_layPrices_8 ?_
    refine lv_icmp_gt (tgt := 58) hx hb dX1_layPrices_9 (by decide) (fun c_8 => ?_) (fun c_8 => ?_)
    · have hm := ifp c_8 hm
      exact z_v hx hb hr hlocks hm hP hD hS dX1_layPrices_58
    · have hm := ifn c_8 hm
      refine lv_aload_n hx hb dX1_layPrices_12 rfl (lv_at hl 0 rfl) ?_
      refine lv_iload_n hx hb dX1_layPrices_13 rfl (lv_at hl 3 rfl) ?_
      obtain ⟨q_9, hq_9, hm⟩ := ob hm
      refine zc_i (zr_V [.int x3] [] ⟨hx, hb, hml, hown, hts⟩ (ctX1_rateAt l D cy ad σ  x3 q_9 hq_9 _) (cwV 1 hts gX1_layPrices_X1_rateAt rfl rfl rfl (by decide +kernel) ⟨Nat.le_of_ble_eq_true rfl, Nat.le_of_ble_eq_true rfl⟩) hK hP hD 2 cw_2 rfl rfl rfl hl.1 rfl (Nat.le_of_ble_eq_true rfl) dX1_layPrices_14 ⟨Nat.zero_le _, Nat.zero_le _⟩) hD hS hA (fun H locs hP hD hS => ?_)
      refine lv_istore (lv' := [(4, .int q_9), (0, .ref (ad 2 0)), (1, .ref (ad 1 0)), (2, .int x2), (3, .int x3)]) hx hb dX1_layPrices_17 hl (by decide) rfl (fun ls hl => ?_)
      refine lv_iconst (v := 0) hx hb dX1_layPrices_19 (by decide) ?_
      refine lv_istore (lv' := [(5, .int (0 : Int32)), (4, .int q_9), (0, .ref (ad 2 0)), (1, .ref (ad 1 0)), (2, .int x2), (3, .int x3)]) hx hb dX1_layPrices_20 hl (by decide) rfl (fun ls hl => ?_)
      exact kX1_layPrices_22_ok C q ih FU σ x2 x3 q_9 (0 : Int32) _ _ hP hD hS _ (lv_sub hl [2, 3, 4, 5, 1, 0] rfl) hm
def mX1_layPrices (σ : ST) (a2 : Int32) : Option (ST) := kX1_layPrices_2 FU (σ, a2, (0 : Int32))
set_option maxHeartbeats 4000000 in
set_option maxRecDepth 100000 in
theorem ctX1_layPrices (l : Launch) (D : va_G) (cy : Nat → ClassId) (ad : Nat → Nat → Nat) (σ : ST) (a2 : Int32) (q : ST) (hm : mX1_layPrices σ a2 = some q) : zMv l yX1_layPrices wsX1_layPrices rmX1_layPrices D cy [.ref (ad 2 0), .ref (ad 1 0), .int a2] (cw cy ad σ) (cw cy ad q) := by
  intro sz
  refine Met.ofW (cc := cX1_layPrices) (maxL := 6) (ret := none) (by decide) rfl ?_
  intro p e s m args below meth c s₁ B hml hv
  obtain ⟨rfl, hsz, hP, hK, hD0⟩ := hv
  have hx := B.exec
  have hb := B.bytes
  have hr := B.returns
  have hts := atoms_spec (ws := wsX1_layPrices) B.pre
  have hown : s.vm.findClass RX1 = some m.cls := findClass_of_methodNamed B.named
  have hlocks := B.notSynchronized
  subst hsz
  have hD := hD0.self (sz := s.heap.size)
  generalize hAe : va_A (cw cy ad σ) s.heap.size = A at hD ⊢
  have hA : ∀ q : Nat, s.heap.size ≤ q → A q := fun q h => by rw [← hAe]; exact Or.inr h
  have hS : va_S A s.heap s.heap [] := va_S.rf
  have C : Cx p s m _ meth c cX1_layPrices 6 none RX1 wsX1_layPrices D cy A := ⟨hx, hb, hml, hown, hts, hr, hlocks, hK, hA⟩
  have hl := lv_entry ([.ref (ad 2 0), .ref (ad 1 0), .int a2]) (n := 6) (Nat.le_of_ble_eq_true rfl)
  rw [lg_entry_eq]
  generalize (lg_sl ([.ref (ad 2 0), .ref (ad 1 0), .int a2]) ++ List.replicate (6 - (lg_sl ([.ref (ad 2 0), .ref (ad 1 0), .int a2])).length) Slot.unset).toArray = ls at hl ⊢
  have hl : lv_has ls 6 [(0, .ref (ad 2 0)), (1, .ref (ad 1 0)), (2, .int a2)] := hl
  unfold mX1_layPrices at hm
  refine lv_iconst (v := 0) hx hb dX1_layPrices_0 (by decide) ?_
  refine lv_istore_n (lv' := [(3, .int (0 : Int32)), (0, .ref (ad 2 0)), (1, .ref (ad 1 0)), (2, .int a2)]) hx hb dX1_layPrices_1 rfl hl (by decide) rfl (fun ls hl => ?_)
  exact kX1_layPrices_2_ok C q FU σ a2 (0 : Int32) _ _ hP hD hS _ (lv_sub hl [1, 2, 3, 0] rfl) hm
abbrev rmX1_bestOn : Room := { frames := 1, cells := 0, slots := 0, locals := 21 }
theorem lkX1_bestOn_iniX2 : Cond.initialized RX2 ∈ wsX1_bestOn := by decide +kernel
theorem lkX1_bestOn_st_X2_isIn : Cond.static yX2_isIn ∈ wsX1_bestOn := by decide +kernel
theorem lkX1_bestOn_43 : Cond.fieldLink RX1 43 "DeliveryBasket$Lattice" "invoices" "[J" ∈ wsX1_bestOn := by decide +kernel
theorem iwX1_bestOn_X1 : ∀ w ∈ wsX10, w ∈ wsX1_bestOn := fun _ h => List.mem_cons_of_mem _ (List.mem_append_right _ h)
theorem lkX1_bestOn_32 : Cond.fieldLink RX1 32 "DeliveryBasket$Lattice" "levelPrices" "[[I" ∈ wsX1_bestOn := by decide +kernel
def bkX1_bestOn_8 (σ : ST)  (rec : Int32 × Int32 × Int32 × Int64 × Int32 → Option (Int32)) (x1 : Int32) (x2 : Int32) (x3 : Int32) (x4 : Int64) (x6 : Int32) : Option (Int32) := if (8 : Int32) ≤ x6 then (some x3) else ((mX2_isIn x2 x6).bind fun q_2 => if q_2 = (0 : Int32) then (rec (x1, x2, x3, x4, (x6 + (1 : Int32)))) else (gd (inb x6 8) (gd (inb x1 41) (gd (inb x6 8) (if x3 = (-1 : Int32) then (rec (x1, x2, x6, ((gJ σ 3 0 (Int32.toNatClampNeg x6)) - (Int32.toInt64 (gI σ 7 (Int32.toNatClampNeg x1) (Int32.toNatClampNeg x6)))), (x6 + (1 : Int32)))) else (if (lg_cmp ((gJ σ 3 0 (Int32.toNatClampNeg x6)) - (Int32.toInt64 (gI σ 7 (Int32.toNatClampNeg x1) (Int32.toNatClampNeg x6)))) x4) ≤ (0 : Int32) then (rec (x1, x2, x3, x4, (x6 + (1 : Int32)))) else (rec (x1, x2, x6, ((gJ σ 3 0 (Int32.toNatClampNeg x6)) - (Int32.toInt64 (gI σ 7 (Int32.toNatClampNeg x1) (Int32.toNatClampNeg x6)))), (x6 + (1 : Int32))))))))))
def kX1_bestOn_8 (σ : ST)  (n : Nat) (a : Int32 × Int32 × Int32 × Int64 × Int32) : Option (Int32) := fx (fun rec a => bkX1_bestOn_8 σ  rec a.1 a.2.1 a.2.2.1 a.2.2.2.1 a.2.2.2.2) n a
set_option maxHeartbeats 4000000 in
set_option maxRecDepth 100000 in
theorem kX1_bestOn_8_ok {p : Program} {l : Launch} {e : Env} {s : State} {m : MethodId} {args : Array Value} {below : List Frame} {meth : Method} {c : Code} {D : va_G} {cy : Nat → ClassId} {ad : Nat → Nat → Nat} {A : Nat → Prop} (C : Cx p s m args meth c cX1_bestOn 9 (some .int) RX1 wsX1_bestOn D cy A) (q : Int32) (σ : ST) : ∀ (n : Nat) (x1 : Int32) (x2 : Int32) (x3 : Int32) (x4 : Int64) (x6 : Int32), ∀ (H : Heap) (locs : List Loc), va_P D vwCl (cw cy ad σ) H → va_D A (cw cy ad σ) → va_S A s.heap H locs → ∀ ls : Array Slot, lv_has ls 9 [(0, .ref (ad 2 0)), (1, .int x1), (2, .int x2), (3, .int x3), (4, .long x4), (6, .int x6)] → kX1_bestOn_8 σ n (x1, x2, x3, x4, x6) = some q → W p l e rmX1_bestOn s m args below meth c H locs 0 0 (MQ below (zQi D (cw cy ad σ) A q) args s 0 0 A) (F0 m 8 ls []) := by
  obtain ⟨hx, hb, hml, hown, hts, hr, hlocks, hK, hA⟩ := id C
  intro n
  induction n with
  | zero => intro x1 x2 x3 x4 x6 H locs hP hD hS ls hl hm; cases hm
  | succ n ih =>
    intro x1 x2 x3 x4 x6 H locs hP hD hS ls hl hm
    have hm : bkX1_bestOn_8 σ  (kX1_bestOn_8 σ n) x1 x2 x3 x4 x6 = some q := hm
    unfold bkX1_bestOn_8 at hm
    refine lv_iload hx hb dX1_bestOn_8 (lv_at hl 5 rfl) ?_
    refine lv_bipush (v := 8) hx hb dX1_bestOn_10 (by decide) ?_
    refine lv_icmp_ge (tgt := 70) hx hb dX1_bestOn_12 (by decide) (fun c_1 => ?_) (fun c_1 => ?_)
    · have hm := ifp c_1 hm
      refine lv_iload_n hx hb dX1_bestOn_70 rfl (lv_at hl 3 rfl) ?_
      exact z_pi hx hb hr hlocks hm hP hD hS dX1_bestOn_71
    · have hm := ifn c_1 hm
      refine lv_iload_n hx hb dX1_bestOn_15 rfl (lv_at hl 2 rfl) ?_
      refine lv_iload hx hb dX1_bestOn_16 (lv_at hl 5 rfl) ?_
      obtain ⟨q_2, hq_2, hm⟩ := ob hm
      refine zc_i (zr_N [.int x2, .int x6] [] ⟨hx, hb, hml, hown, hts⟩ (ctX2_isIn l D cy (cw cy ad σ)  x2 x6 q_2 hq_2 _) ⟨va_cnB 2 hts gX1_bestOn_X2_isIn_n81 rfl rfl rfl hK.2.2.2.1 (hts _ lkX1_bestOn_iniX2) (by decide +kernel) ⟨Nat.le_of_ble_eq_true rfl, Nat.le_of_ble_eq_true rfl⟩, (hts _ lkX1_bestOn_st_X2_isIn), trivial⟩ hK hP hD rfl hl.1 rfl (Nat.le_of_ble_eq_true rfl) dX1_bestOn_18 ⟨Nat.zero_le _, Nat.zero_le _⟩) hD hS hA (fun H locs hP hD hS => ?_)
      refine lv_if_eq (tgt := 64) hx hb dX1_bestOn_21 (by decide) (fun c_3 => ?_) (fun c_3 => ?_)
      · have hm := ifp c_3 hm
        refine lv_iinc (v := (x6 + (1 : Int32))) (lv' := [(6, .int (x6 + (1 : Int32))), (0, .ref (ad 2 0)), (1, .int x1), (2, .int x2), (3, .int x3), (4, .long x4)]) hx hb dX1_bestOn_64 hl (k := 5) rfl rfl (by decide) rfl (fun ls hl => ?_)
        refine lv_goto (tgt := 8) hx hb dX1_bestOn_67 (by decide) ?_
        exact ih x1 x2 x3 x4 (x6 + (1 : Int32)) _ _ hP hD hS _ (lv_sub hl [1, 2, 3, 4, 5, 0] rfl) hm
      · have hm := ifn c_3 hm
        refine lv_aload_n hx hb dX1_bestOn_24 rfl (lv_at hl 0 rfl) ?_
        refine va_get (D := D) (ci := 1) (v := .ref (ad 11 0)) (C := RX1) (T := TX1) (N := 12) hx hb hts iwX1_bestOn_X1 hown hK.1 hP 2 cw_2 rfl 10 (by decide) (hts _ lkX1_bestOn_43) (fun _ h9 => h9) rfl dX1_bestOn_25 ?_
        refine lv_iload hx hb dX1_bestOn_28 (lv_at hl 5 rfl) ?_
        obtain ⟨h_4, hm⟩ := gd_some hm
        refine va_lald hx hb hK.1 hP 11 1 cw_11 rfl (inb_vp h_4) dX1_bestOn_30 ?_
        refine lv_aload_n hx hb dX1_bestOn_31 rfl (lv_at hl 0 rfl) ?_
        refine va_get (D := D) (ci := 1) (v := .ref (ad 8 0)) (C := RX1) (T := TX1) (N := 12) hx hb hts iwX1_bestOn_X1 hown hK.1 hP 2 cw_2 rfl 7 (by decide) (hts _ lkX1_bestOn_32) (fun _ h9 => h9) rfl dX1_bestOn_32 ?_
        refine lv_iload_n hx hb dX1_bestOn_35 rfl (lv_at hl 1 rfl) ?_
        obtain ⟨h_5, hm⟩ := gd_some hm
        refine z_ald (f := fun i => ad 17 i) hx hb hK.1 hP 8 3 cw_8 rfl rfl (inb_vp h_5) dX1_bestOn_36 ?_
        refine lv_iload hx hb dX1_bestOn_37 (lv_at hl 5 rfl) ?_
        obtain ⟨h_6, hm⟩ := gd_some hm
        refine va_iald hx hb hK.1 hP (13 + (8 + (8 + (21 + (21 + (Int32.toNatClampNeg x1)))))) 0 (cw_17 (inb_lt h_5)) rfl (inb_vp h_6) dX1_bestOn_39 ?_
        refine lv_i2l hx hb dX1_bestOn_40 rfl ?_
        refine lv_lsub hx hb dX1_bestOn_41 ?_
        refine lv_lstore (lv' := [(7, .long ((gJ σ 3 0 (Int32.toNatClampNeg x6)) - (Int32.toInt64 (gI σ 7 (Int32.toNatClampNeg x1) (Int32.toNatClampNeg x6))))), (0, .ref (ad 2 0)), (1, .int x1), (2, .int x2), (3, .int x3), (4, .long x4), (6, .int x6)]) hx hb dX1_bestOn_42 hl (by decide) rfl (fun ls hl => ?_)
        refine lv_iload_n hx hb dX1_bestOn_44 rfl (lv_at hl 4 rfl) ?_
        refine lv_iconst (v := -1) hx hb dX1_bestOn_45 (by decide) ?_
        refine lv_icmp_eq (tgt := 57) hx hb dX1_bestOn_46 (by decide) (fun c_7 => ?_) (fun c_7 => ?_)
        · have hm := ifp c_7 hm
          refine lv_iload hx hb dX1_bestOn_57 (lv_at hl 6 rfl) ?_
          refine lv_istore_n (lv' := [(3, .int x6), (7, .long ((gJ σ 3 0 (Int32.toNatClampNeg x6)) - (Int32.toInt64 (gI σ 7 (Int32.toNatClampNeg x1) (Int32.toNatClampNeg x6))))), (0, .ref (ad 2 0)), (1, .int x1), (2, .int x2), (4, .long x4), (6, .int x6)]) hx hb dX1_bestOn_59 rfl hl (by decide) rfl (fun ls hl => ?_)
          refine lv_lload hx hb dX1_bestOn_60 (lv_at hl 1 rfl) ?_
          refine lv_lstore (lv' := [(4, .long ((gJ σ 3 0 (Int32.toNatClampNeg x6)) - (Int32.toInt64 (gI σ 7 (Int32.toNatClampNeg x1) (Int32.toNatClampNeg x6))))), (3, .int x6), (7, .long ((gJ σ 3 0 (Int32.toNatClampNeg x6)) - (Int32.toInt64 (gI σ 7 (Int32.toNatClampNeg x1) (Int32.toNatClampNeg x6))))), (0, .ref (ad 2 0)), (1, .int x1), (2, .int x2), (6, .int x6)]) hx hb dX1_bestOn_62 hl (by decide) rfl (fun ls hl => ?_)
          refine lv_iinc (v := (x6 + (1 : Int32))) (lv' := [(6, .int (x6 + (1 : Int32))), (4, .long ((gJ σ 3 0 (Int32.toNatClampNeg x6)) - (Int32.toInt64 (gI σ 7 (Int32.toNatClampNeg x1) (Int32.toNatClampNeg x6))))), (3, .int x6), (7, .long ((gJ σ 3 0 (Int32.toNatClampNeg x6)) - (Int32.toInt64 (gI σ 7 (Int32.toNatClampNeg x1) (Int32.toNatClampNeg x6))))), (0, .ref (ad 2 0)), (1, .int x1), (2, .int x2)]) hx hb dX1_bestOn_64 hl (k := 6) rfl rfl (by decide) rfl (fun ls hl => ?_)
          refine lv_goto (tgt := 8) hx hb dX1_bestOn_67 (by decide) ?_
          exact ih x1 x2 x6 ((gJ σ 3 0 (Int32.toNatClampNeg x6)) - (Int32.toInt64 (gI σ 7 (Int32.toNatClampNeg x1) (Int32.toNatClampNeg x6)))) (x6 + (1 : Int32)) _ _ hP hD hS _ (lv_sub hl [4, 5, 6, 2, 1, 0] rfl) hm
        · have hm := ifn c_7 hm
          refine lv_lload hx hb dX1_bestOn_49 (lv_at hl 0 rfl) ?_
          refine lv_lload hx hb dX1_bestOn_51 (lv_at hl 5 rfl) ?_
          refine W.lcmp hx hb dX1_bestOn_53 ?_
          refine lv_if_le (tgt := 64) hx hb dX1_bestOn_54 (by decide) (fun c_8 => ?_) (fun c_8 => ?_)
          · have hm := ifp c_8 hm
            refine lv_iinc (v := (x6 + (1 : Int32))) (lv' := [(6, .int (x6 + (1 : Int32))), (7, .long ((gJ σ 3 0 (Int32.toNatClampNeg x6)) - (Int32.toInt64 (gI σ 7 (Int32.toNatClampNeg x1) (Int32.toNatClampNeg x6))))), (0, .ref (ad 2 0)), (1, .int x1), (2, .int x2), (3, .int x3), (4, .long x4)]) hx hb dX1_bestOn_64 hl (k := 6) rfl rfl (by decide) rfl (fun ls hl => ?_)
            refine lv_goto (tgt := 8) hx hb dX1_bestOn_67 (by decide) ?_
            exact ih x1 x2 x3 x4 (x6 + (1 : Int32)) _ _ hP hD hS _ (lv_sub hl [2, 3, 4, 5, 6, 0] rfl) hm
          · have hm := ifn c_8 hm
            refine lv_iload hx hb dX1_bestOn_57 (lv_at hl 6 rfl) ?_
            refine lv_istore_n (lv' := [(3, .int x6), (7, .long ((gJ σ 3 0 (Int32.toNatClampNeg x6)) - (Int32.toInt64 (gI σ 7 (Int32.toNatClampNeg x1) (Int32.toNatClampNeg x6))))), (0, .ref (ad 2 0)), (1, .int x1), (2, .int x2), (4, .long x4), (6, .int x6)]) hx hb dX1_bestOn_59 rfl hl (by decide) rfl (fun ls hl => ?_)
            refine lv_lload hx hb dX1_bestOn_60 (lv_at hl 1 rfl) ?_
            refine lv_lstore (lv' := [(4, .long ((gJ σ 3 0 (Int32.toNatClampNeg x6)) - (Int32.toInt64 (gI σ 7 (Int32.toNatClampNeg x1) (Int32.toNatClampNeg x6))))), (3, .int x6), (7, .long ((gJ σ 3 0 (Int32.toNatClampNeg x6)) - (Int32.toInt64 (gI σ 7 (Int32.toNatClampNeg x1) (Int32.toNatClampNeg x6))))), (0, .ref (ad 2 0)), (1, .int x1), (2, .int x2), (6, .int x6)]) hx hb dX1_bestOn_62 hl (by decide) rfl (fun ls hl => ?_)
            refine lv_iinc (v := (x6 + (1 : Int32))) (lv' := [(6, .int (x6 + (1 : Int32))), (4, .long ((gJ σ 3 0 (Int32.toNatClampNeg x6)) - (Int32.toInt64 (gI σ 7 (Int32.toNatClampNeg x1) (Int32.toNatClampNeg x6))))), (3, .int x6), (7, .long ((gJ σ 3 0 (Int32.toNatClampNeg x6)) - (Int32.toInt64 (gI σ 7 (Int32.toNatClampNeg x1) (Int32.toNatClampNeg x6))))), (0, .ref (ad 2 0)), (1, .int x1), (2, .int x2)]) hx hb dX1_bestOn_64 hl (k := 6) rfl rfl (by decide) rfl (fun ls hl => ?_)
            refine lv_goto (tgt := 8) hx hb dX1_bestOn_67 (by decide) ?_
            exact ih x1 x2 x6 ((gJ σ 3 0 (Int32.toNatClampNeg x6)) - (Int32.toInt64 (gI σ 7 (Int32.toNatClampNeg x1) (Int32.toNatClampNeg x6)))) (x6 + (1 : Int32)) _ _ hP hD hS _ (lv_sub hl [4, 5, 6, 2, 1, 0] rfl) hm
def mX1_bestOn (σ : ST) (a1 : Int32) (a2 : Int32) : Option (Int32) := kX1_bestOn_8 σ FU (a1, a2, (-1 : Int32), (0 : Int64), (0 : Int32))
set_option maxHeartbeats 4000000 in
set_option maxRecDepth 100000 in
theorem ctX1_bestOn (l : Launch) (D : va_G) (cy : Nat → ClassId) (ad : Nat → Nat → Nat) (σ : ST) (a1 : Int32) (a2 : Int32) (q : Int32) (hm : mX1_bestOn σ a1 a2 = some q) : zMi l yX1_bestOn wsX1_bestOn rmX1_bestOn D cy [.ref (ad 2 0), .int a1, .int a2] (cw cy ad σ) q (cw cy ad σ) := by
  intro sz
  refine Met.ofW (cc := cX1_bestOn) (maxL := 9) (ret := (some .int)) (by decide) rfl ?_
  intro p e s m args below meth c s₁ B hml hv
  obtain ⟨rfl, hsz, hP, hK, hD0⟩ := hv
  have hx := B.exec
  have hb := B.bytes
  have hr := B.returns
  have hts := atoms_spec (ws := wsX1_bestOn) B.pre
  have hown : s.vm.findClass RX1 = some m.cls := findClass_of_methodNamed B.named
  have hlocks := B.notSynchronized
  subst hsz
  have hD := hD0.self (sz := s.heap.size)
  generalize hAe : va_A (cw cy ad σ) s.heap.size = A at hD ⊢
  have hA : ∀ q : Nat, s.heap.size ≤ q → A q := fun q h => by rw [← hAe]; exact Or.inr h
  have hS : va_S A s.heap s.heap [] := va_S.rf
  have C : Cx p s m _ meth c cX1_bestOn 9 (some .int) RX1 wsX1_bestOn D cy A := ⟨hx, hb, hml, hown, hts, hr, hlocks, hK, hA⟩
  have hl := lv_entry ([.ref (ad 2 0), .int a1, .int a2]) (n := 9) (Nat.le_of_ble_eq_true rfl)
  rw [lg_entry_eq]
  generalize (lg_sl ([.ref (ad 2 0), .int a1, .int a2]) ++ List.replicate (9 - (lg_sl ([.ref (ad 2 0), .int a1, .int a2])).length) Slot.unset).toArray = ls at hl ⊢
  have hl : lv_has ls 9 [(0, .ref (ad 2 0)), (1, .int a1), (2, .int a2)] := hl
  unfold mX1_bestOn at hm
  refine lv_iconst (v := -1) hx hb dX1_bestOn_0 (by decide) ?_
  refine lv_istore_n (lv' := [(3, .int (-1 : Int32)), (0, .ref (ad 2 0)), (1, .int a1), (2, .int a2)]) hx hb dX1_bestOn_1 rfl hl (by decide) rfl (fun ls hl => ?_)
  refine lv_lconst (v := 0) hx hb dX1_bestOn_2 (by decide) ?_
  refine lv_lstore (lv' := [(4, .long (0 : Int64)), (3, .int (-1 : Int32)), (0, .ref (ad 2 0)), (1, .int a1), (2, .int a2)]) hx hb dX1_bestOn_3 hl (by decide) rfl (fun ls hl => ?_)
  refine lv_iconst (v := 0) hx hb dX1_bestOn_5 (by decide) ?_
  refine lv_istore (lv' := [(6, .int (0 : Int32)), (4, .long (0 : Int64)), (3, .int (-1 : Int32)), (0, .ref (ad 2 0)), (1, .int a1), (2, .int a2)]) hx hb dX1_bestOn_6 hl (by decide) rfl (fun ls hl => ?_)
  exact kX1_bestOn_8_ok C q σ FU a1 a2 (-1 : Int32) (0 : Int64) (0 : Int32) _ _ hP hD hS _ (lv_sub hl [3, 4, 5, 2, 1, 0] rfl) hm
abbrev rmX1_layNow : Room := { frames := 2, cells := 0, slots := 0, locals := 49 }
theorem lkX1_layNow_49 : Cond.fieldLink RX1 49 "DeliveryBasket$Lattice" "days" "I" ∈ wsX1_layNow := by decide +kernel
theorem iwX1_layNow_X1 : ∀ w ∈ wsX10, w ∈ wsX1_layNow := fun _ h => List.mem_cons_of_mem _ (List.mem_append_left _ (List.mem_append_right _ h))
theorem lkX1_layNow_39 : Cond.fieldLink RX1 39 "DeliveryBasket$Lattice" "levelPick" "[I" ∈ wsX1_layNow := by decide +kernel
theorem lkX1_layNow_35 : Cond.fieldLink RX1 35 "DeliveryBasket$Lattice" "levelNow" "[J" ∈ wsX1_layNow := by decide +kernel
theorem lkX1_layNow_43 : Cond.fieldLink RX1 43 "DeliveryBasket$Lattice" "invoices" "[J" ∈ wsX1_layNow := by decide +kernel
theorem lkX1_layNow_32 : Cond.fieldLink RX1 32 "DeliveryBasket$Lattice" "levelPrices" "[[I" ∈ wsX1_layNow := by decide +kernel
theorem lkX1_layNow_iniX2 : Cond.initialized RX2 ∈ wsX1_layNow := by decide +kernel
theorem lkX1_layNow_st_X2_isIn : Cond.static yX2_isIn ∈ wsX1_layNow := by decide +kernel
def bkX1_layNow_44  (rec : ST × Int32 × Int32 → Option (ST)) (σ : ST) (x2 : Int32) (x4 : Int32) : Option (ST) := if ((2 : Int32) * (gI σ 1 0 0)) < x4 then (some σ) else ((mX1_bestOn σ x4 x2).bind fun q_2 => gd (inb x4 41) (sv (sI σ 8 0 (Int32.toNatClampNeg x4) q_2) fun σ_4 => if q_2 = (-1 : Int32) then (gd (inb x4 41) (sv (sJ σ_4 2 0 (Int32.toNatClampNeg x4) (0 : Int64)) fun σ_12 => rec (σ_12, x2, (x4 + (1 : Int32))))) else (gd (inb q_2 8) (gd (inb x4 41) (gd (inb q_2 8) (gd (inb x4 41) (sv (sJ σ_4 2 0 (Int32.toNatClampNeg x4) ((gJ σ_4 3 0 (Int32.toNatClampNeg q_2)) - (Int32.toInt64 (gI σ_4 7 (Int32.toNatClampNeg x4) (Int32.toNatClampNeg q_2))))) fun σ_10 => rec (σ_10, x2, (x4 + (1 : Int32))))))))))
def kX1_layNow_44  (n : Nat) (a : ST × Int32 × Int32) : Option (ST) := fx (fun rec a => bkX1_layNow_44  rec a.1 a.2.1 a.2.2) n a
set_option maxHeartbeats 4000000 in
set_option maxRecDepth 100000 in
theorem kX1_layNow_44_ok {p : Program} {l : Launch} {e : Env} {s : State} {m : MethodId} {args : Array Value} {below : List Frame} {meth : Method} {c : Code} {D : va_G} {cy : Nat → ClassId} {ad : Nat → Nat → Nat} {A : Nat → Prop} (C : Cx p s m args meth c cX1_layNow 6 none RX1 wsX1_layNow D cy A) (q : ST) : ∀ (n : Nat) (σ : ST) (x2 : Int32) (x4 : Int32), ∀ (H : Heap) (locs : List Loc), va_P D vwCl (cw cy ad σ) H → va_D A (cw cy ad σ) → va_S A s.heap H locs → ∀ ls : Array Slot, lv_has ls 6 [(0, .ref (ad 2 0)), (2, .int x2), (4, .int x4)] → kX1_layNow_44 n (σ, x2, x4) = some q → W p l e rmX1_layNow s m args below meth c H locs 0 0 (MQ below (zQv D (cw cy ad q) A) args s 0 0 A) (F0 m 44 ls []) := by
  obtain ⟨hx, hb, hml, hown, hts, hr, hlocks, hK, hA⟩ := id C
  intro n
  induction n with
  | zero => intro σ x2 x4 H locs hP hD hS ls hl hm; cases hm
  | succ n ih =>
    intro σ x2 x4 H locs hP hD hS ls hl hm
    have hm : bkX1_layNow_44  (kX1_layNow_44 n) σ x2 x4 = some q := hm
    unfold bkX1_layNow_44 at hm
    refine lv_iload hx hb dX1_layNow_44 (lv_at hl 2 rfl) ?_
    refine lv_iconst (v := 2) hx hb dX1_layNow_46 (by decide) ?_
    refine lv_aload_n hx hb dX1_layNow_47 rfl (lv_at hl 0 rfl) ?_
    refine va_get (D := D) (ci := 1) (v := .int (gI σ 1 0 0)) (C := RX1) (T := TX1) (N := 12) hx hb hts iwX1_layNow_X1 hown hK.1 hP 2 cw_2 rfl 0 (by decide) (hts _ lkX1_layNow_49) (fun _ h9 => h9) rfl dX1_layNow_48 ?_
    refine lv_imul hx hb dX1_layNow_51 ?_
    refine lv_icmp_gt (tgt := 115) hx hb dX1_layNow_52 (by decide) (fun c_1 => ?_) (fun c_1 => ?_)
    · have hm := ifp c_1 hm
      exact z_v hx hb hr hlocks hm hP hD hS dX1_layNow_115
    · have hm := ifn c_1 hm
      refine lv_aload_n hx hb dX1_layNow_55 rfl (lv_at hl 0 rfl) ?_
      refine lv_iload hx hb dX1_layNow_56 (lv_at hl 2 rfl) ?_
      refine lv_iload_n hx hb dX1_layNow_58 rfl (lv_at hl 1 rfl) ?_
      obtain ⟨q_2, hq_2, hm⟩ := ob hm
      refine zc_i (zr_V [.int x4, .int x2] [] ⟨hx, hb, hml, hown, hts⟩ (ctX1_bestOn l D cy ad σ  x4 x2 q_2 hq_2 _) (cwV 2 hts gX1_layNow_X1_bestOn rfl rfl rfl (by decide +kernel) ⟨Nat.le_of_ble_eq_true rfl, Nat.le_of_ble_eq_true rfl⟩) hK hP hD 2 cw_2 rfl rfl rfl hl.1 rfl (Nat.le_of_ble_eq_true rfl) dX1_layNow_59 ⟨Nat.zero_le _, Nat.zero_le _⟩) hD hS hA (fun H locs hP hD hS => ?_)
      refine lv_istore (lv' := [(5, .int q_2), (0, .ref (ad 2 0)), (2, .int x2), (4, .int x4)]) hx hb dX1_layNow_62 hl (by decide) rfl (fun ls hl => ?_)
      refine lv_aload_n hx hb dX1_layNow_64 rfl (lv_at hl 1 rfl) ?_
      refine va_get (D := D) (ci := 1) (v := .ref (ad 10 0)) (C := RX1) (T := TX1) (N := 12) hx hb hts iwX1_layNow_X1 hown hK.1 hP 2 cw_2 rfl 9 (by decide) (hts _ lkX1_layNow_39) (fun _ h9 => h9) rfl dX1_layNow_65 ?_
      refine lv_iload hx hb dX1_layNow_68 (lv_at hl 3 rfl) ?_
      refine lv_iload hx hb dX1_layNow_70 (lv_at hl 0 rfl) ?_
      obtain ⟨h_3, hm⟩ := gd_some hm
      refine va_iast hx hb hK.1 hP hD hS 10 0 cw_10 rfl (inb_vp h_3) dX1_layNow_72 (fun H locs hP hD hS => ?_)
      have hP := eP cw_s10 hP
      have hD := eD cw_s10 hD
      obtain ⟨σ_4, e_4, hm⟩ := sv_some hm
      have hP : va_P D vwCl (cw cy ad σ_4) H := by rw [e_4]; exact hP
      have hD : va_D A (cw cy ad σ_4) := by rw [e_4]; exact hD
      refine lv_aload_n hx hb dX1_layNow_73 rfl (lv_at hl 1 rfl) ?_
      refine va_get (D := D) (ci := 1) (v := .ref (ad 9 0)) (C := RX1) (T := TX1) (N := 12) hx hb hts iwX1_layNow_X1 hown hK.1 hP 2 cw_2 rfl 8 (by decide) (hts _ lkX1_layNow_35) (fun _ h9 => h9) rfl dX1_layNow_74 ?_
      refine lv_iload hx hb dX1_layNow_77 (lv_at hl 3 rfl) ?_
      refine lv_iload hx hb dX1_layNow_79 (lv_at hl 0 rfl) ?_
      refine lv_iconst (v := -1) hx hb dX1_layNow_81 (by decide) ?_
      refine lv_icmp_ne (tgt := 89) hx hb dX1_layNow_82 (by decide) (fun c_5 => ?_) (fun c_5 => ?_)
      · have hm := ifn c_5 hm
        refine lv_aload_n hx hb dX1_layNow_89 rfl (lv_at hl 1 rfl) ?_
        refine va_get (D := D) (ci := 1) (v := .ref (ad 11 0)) (C := RX1) (T := TX1) (N := 12) hx hb hts iwX1_layNow_X1 hown hK.1 hP 2 cw_2 rfl 10 (by decide) (hts _ lkX1_layNow_43) (fun _ h9 => h9) rfl dX1_layNow_90 ?_
        refine lv_iload hx hb dX1_layNow_93 (lv_at hl 0 rfl) ?_
        obtain ⟨h_6, hm⟩ := gd_some hm
        refine va_lald hx hb hK.1 hP 11 1 cw_11 rfl (inb_vp h_6) dX1_layNow_95 ?_
        refine lv_aload_n hx hb dX1_layNow_96 rfl (lv_at hl 1 rfl) ?_
        refine va_get (D := D) (ci := 1) (v := .ref (ad 8 0)) (C := RX1) (T := TX1) (N := 12) hx hb hts iwX1_layNow_X1 hown hK.1 hP 2 cw_2 rfl 7 (by decide) (hts _ lkX1_layNow_32) (fun _ h9 => h9) rfl dX1_layNow_97 ?_
        refine lv_iload hx hb dX1_layNow_100 (lv_at hl 3 rfl) ?_
        obtain ⟨h_7, hm⟩ := gd_some hm
        refine z_ald (f := fun i => ad 17 i) hx hb hK.1 hP 8 3 cw_8 rfl rfl (inb_vp h_7) dX1_layNow_102 ?_
        refine lv_iload hx hb dX1_layNow_103 (lv_at hl 0 rfl) ?_
        obtain ⟨h_8, hm⟩ := gd_some hm
        refine va_iald hx hb hK.1 hP (13 + (8 + (8 + (21 + (21 + (Int32.toNatClampNeg x4)))))) 0 (cw_17 (inb_lt h_7)) rfl (inb_vp h_8) dX1_layNow_105 ?_
        refine lv_i2l hx hb dX1_layNow_106 rfl ?_
        refine lv_lsub hx hb dX1_layNow_107 ?_
        obtain ⟨h_9, hm⟩ := gd_some hm
        refine va_last hx hb hK.1 hP hD hS 9 1 cw_9 rfl (inb_vp h_9) dX1_layNow_108 (fun H locs hP hD hS => ?_)
        have hP := eP cw_s9 hP
        have hD := eD cw_s9 hD
        obtain ⟨σ_10, e_10, hm⟩ := sv_some hm
        have hP : va_P D vwCl (cw cy ad σ_10) H := by rw [e_10]; exact hP
        have hD : va_D A (cw cy ad σ_10) := by rw [e_10]; exact hD
        refine lv_iinc (v := (x4 + (1 : Int32))) (lv' := [(4, .int (x4 + (1 : Int32))), (5, .int q_2), (0, .ref (ad 2 0)), (2, .int x2)]) hx hb dX1_layNow_109 hl (k := 3) rfl rfl (by decide) rfl (fun ls hl => ?_)
        refine lv_goto (tgt := 44) hx hb dX1_layNow_112 (by decide) ?_
        exact ih σ_10 x2 (x4 + (1 : Int32)) _ _ hP hD hS _ (lv_sub hl [2, 3, 0] rfl) hm
      · have hm := ifp c_5 hm
        refine lv_lconst (v := 0) hx hb dX1_layNow_85 (by decide) ?_
        refine lv_goto (tgt := 108) hx hb dX1_layNow_86 (by decide) ?_
        obtain ⟨h_11, hm⟩ := gd_some hm
        refine va_last hx hb hK.1 hP hD hS 9 1 cw_9 rfl (inb_vp h_11) dX1_layNow_108 (fun H locs hP hD hS => ?_)
        have hP := eP cw_s9 hP
        have hD := eD cw_s9 hD
        obtain ⟨σ_12, e_12, hm⟩ := sv_some hm
        have hP : va_P D vwCl (cw cy ad σ_12) H := by rw [e_12]; exact hP
        have hD : va_D A (cw cy ad σ_12) := by rw [e_12]; exact hD
        refine lv_iinc (v := (x4 + (1 : Int32))) (lv' := [(4, .int (x4 + (1 : Int32))), (5, .int q_2), (0, .ref (ad 2 0)), (2, .int x2)]) hx hb dX1_layNow_109 hl (k := 3) rfl rfl (by decide) rfl (fun ls hl => ?_)
        refine lv_goto (tgt := 44) hx hb dX1_layNow_112 (by decide) ?_
        exact ih σ_12 x2 (x4 + (1 : Int32)) _ _ hP hD hS _ (lv_sub hl [2, 3, 0] rfl) hm
def bkX1_layNow_3  (rec : ST × Int32 × Int32 × Int32 → Option (ST)) (σ : ST) (x2 : Int32) (x3 : Int32) (x4 : Int32) : Option (ST) := if (8 : Int32) ≤ x4 then (kX1_layNow_44 FU (σ, x2, (0 : Int32))) else ((mX2_isIn x2 x4).bind fun q_14 => if q_14 = (0 : Int32) then (rec (σ, x2, x3, (x4 + (1 : Int32)))) else (gd (inb x4 8) (gd (decide ((gP σ (Int32.toNatClampNeg x4)) < 8)) ((mX0_invoiceBy σ (gP σ (Int32.toNatClampNeg x4)) (Int32.toInt64 x3)).bind fun q_18 => gd (inb x4 8) (sv (sJ σ 3 0 (Int32.toNatClampNeg x4) q_18) fun σ_20 => rec (σ_20, x2, x3, (x4 + (1 : Int32))))))))
def kX1_layNow_3  (n : Nat) (a : ST × Int32 × Int32 × Int32) : Option (ST) := fx (fun rec a => bkX1_layNow_3  rec a.1 a.2.1 a.2.2.1 a.2.2.2) n a
set_option maxHeartbeats 4000000 in
set_option maxRecDepth 100000 in
theorem kX1_layNow_3_ok {p : Program} {l : Launch} {e : Env} {s : State} {m : MethodId} {args : Array Value} {below : List Frame} {meth : Method} {c : Code} {D : va_G} {cy : Nat → ClassId} {ad : Nat → Nat → Nat} {A : Nat → Prop} (C : Cx p s m args meth c cX1_layNow 6 none RX1 wsX1_layNow D cy A) (q : ST) : ∀ (n : Nat) (σ : ST) (x2 : Int32) (x3 : Int32) (x4 : Int32), ∀ (H : Heap) (locs : List Loc), va_P D vwCl (cw cy ad σ) H → va_D A (cw cy ad σ) → va_S A s.heap H locs → ∀ ls : Array Slot, lv_has ls 6 [(0, .ref (ad 2 0)), (1, .ref (ad 1 0)), (2, .int x2), (3, .int x3), (4, .int x4)] → kX1_layNow_3 n (σ, x2, x3, x4) = some q → W p l e rmX1_layNow s m args below meth c H locs 0 0 (MQ below (zQv D (cw cy ad q) A) args s 0 0 A) (F0 m 3 ls []) := by
  obtain ⟨hx, hb, hml, hown, hts, hr, hlocks, hK, hA⟩ := id C
  intro n
  induction n with
  | zero => intro σ x2 x3 x4 H locs hP hD hS ls hl hm; cases hm
  | succ n ih =>
    intro σ x2 x3 x4 H locs hP hD hS ls hl hm
    have hm : bkX1_layNow_3  (kX1_layNow_3 n) σ x2 x3 x4 = some q := hm
    unfold bkX1_layNow_3 at hm
    refine lv_iload hx hb dX1_layNow_3 (lv_at hl 4 rfl) ?_
    refine lv_bipush (v := 8) hx hb dX1_layNow_5 (by decide) ?_
    refine lv_icmp_ge (tgt := 41) hx hb dX1_layNow_7 (by decide) (fun c_13 => ?_) (fun c_13 => ?_)
    · have hm := ifp c_13 hm
      refine lv_iconst (v := 0) hx hb dX1_layNow_41 (by decide) ?_
      refine lv_istore (lv' := [(4, .int (0 : Int32)), (0, .ref (ad 2 0)), (1, .ref (ad 1 0)), (2, .int x2), (3, .int x3)]) hx hb dX1_layNow_42 hl (by decide) rfl (fun ls hl => ?_)
      exact kX1_layNow_44_ok C q FU σ x2 (0 : Int32) _ _ hP hD hS _ (lv_sub hl [1, 3, 0] rfl) hm
    · have hm := ifn c_13 hm
      refine lv_iload_n hx hb dX1_layNow_10 rfl (lv_at hl 2 rfl) ?_
      refine lv_iload hx hb dX1_layNow_11 (lv_at hl 4 rfl) ?_
      obtain ⟨q_14, hq_14, hm⟩ := ob hm
      refine zc_i (zr_N [.int x2, .int x4] [] ⟨hx, hb, hml, hown, hts⟩ (ctX2_isIn l D cy (cw cy ad σ)  x2 x4 q_14 hq_14 _) ⟨va_cnB 2 hts gX1_layNow_X2_isIn_n81 rfl rfl rfl hK.2.2.2.1 (hts _ lkX1_layNow_iniX2) (by decide +kernel) ⟨Nat.le_of_ble_eq_true rfl, Nat.le_of_ble_eq_true rfl⟩, (hts _ lkX1_layNow_st_X2_isIn), trivial⟩ hK hP hD rfl hl.1 rfl (Nat.le_of_ble_eq_true rfl) dX1_layNow_13 ⟨Nat.zero_le _, Nat.zero_le _⟩) hD hS hA (fun H locs hP hD hS => ?_)
      refine lv_if_eq (tgt := 35) hx hb dX1_layNow_16 (by decide) (fun c_15 => ?_) (fun c_15 => ?_)
      · have hm := ifp c_15 hm
        refine lv_iinc (v := (x4 + (1 : Int32))) (lv' := [(4, .int (x4 + (1 : Int32))), (0, .ref (ad 2 0)), (1, .ref (ad 1 0)), (2, .int x2), (3, .int x3)]) hx hb dX1_layNow_35 hl (k := 4) rfl rfl (by decide) rfl (fun ls hl => ?_)
        refine lv_goto (tgt := 3) hx hb dX1_layNow_38 (by decide) ?_
        exact ih σ x2 x3 (x4 + (1 : Int32)) _ _ hP hD hS _ (lv_sub hl [1, 2, 3, 4, 0] rfl) hm
      · have hm := ifn c_15 hm
        refine lv_aload_n hx hb dX1_layNow_19 rfl (lv_at hl 0 rfl) ?_
        refine va_get (D := D) (ci := 1) (v := .ref (ad 11 0)) (C := RX1) (T := TX1) (N := 12) hx hb hts iwX1_layNow_X1 hown hK.1 hP 2 cw_2 rfl 10 (by decide) (hts _ lkX1_layNow_43) (fun _ h9 => h9) rfl dX1_layNow_20 ?_
        refine lv_iload hx hb dX1_layNow_23 (lv_at hl 4 rfl) ?_
        refine lv_aload_n hx hb dX1_layNow_25 rfl (lv_at hl 1 rfl) ?_
        refine lv_iload hx hb dX1_layNow_26 (lv_at hl 4 rfl) ?_
        obtain ⟨h_16, hm⟩ := gd_some hm
        obtain ⟨h_17, hm⟩ := gd_some hm
        have h_17 := lt_of_dec h_17
        refine z_ald (f := fun i => ad 13 (gP σ i)) hx hb hK.1 hP 1 2 cw_1 rfl rfl (inb_vp h_16) dX1_layNow_28 ?_
        refine lv_iload_n hx hb dX1_layNow_29 rfl (lv_at hl 3 rfl) ?_
        refine lv_i2l hx hb dX1_layNow_30 rfl ?_
        obtain ⟨q_18, hq_18, hm⟩ := ob hm
        refine zc_l (zr_V [.long (Int32.toInt64 x3)] [.int x4, .ref (ad 11 0)] ⟨hx, hb, hml, hown, hts⟩ (ctX0_invoiceBy l D cy ad σ h_17 (gP σ (Int32.toNatClampNeg x4)) (Int32.toInt64 x3) q_18 hq_18 _) (cwV 1 hts gX1_layNow_X0_invoiceBy rfl rfl rfl (by decide +kernel) ⟨Nat.le_of_ble_eq_true rfl, Nat.le_of_ble_eq_true rfl⟩) hK hP hD (13 + (gP σ (Int32.toNatClampNeg x4))) (cw_13 h_17) rfl rfl rfl hl.1 rfl (Nat.le_of_ble_eq_true rfl) dX1_layNow_31 ⟨Nat.zero_le _, Nat.zero_le _⟩) hD hS hA (fun H locs hP hD hS => ?_)
        obtain ⟨h_19, hm⟩ := gd_some hm
        refine va_last hx hb hK.1 hP hD hS 11 1 cw_11 rfl (inb_vp h_19) dX1_layNow_34 (fun H locs hP hD hS => ?_)
        have hP := eP cw_s11 hP
        have hD := eD cw_s11 hD
        obtain ⟨σ_20, e_20, hm⟩ := sv_some hm
        have hP : va_P D vwCl (cw cy ad σ_20) H := by rw [e_20]; exact hP
        have hD : va_D A (cw cy ad σ_20) := by rw [e_20]; exact hD
        refine lv_iinc (v := (x4 + (1 : Int32))) (lv' := [(4, .int (x4 + (1 : Int32))), (0, .ref (ad 2 0)), (1, .ref (ad 1 0)), (2, .int x2), (3, .int x3)]) hx hb dX1_layNow_35 hl (k := 4) rfl rfl (by decide) rfl (fun ls hl => ?_)
        refine lv_goto (tgt := 3) hx hb dX1_layNow_38 (by decide) ?_
        exact ih σ_20 x2 x3 (x4 + (1 : Int32)) _ _ hP hD hS _ (lv_sub hl [1, 2, 3, 4, 0] rfl) hm
def mX1_layNow (σ : ST) (a2 : Int32) (a3 : Int32) : Option (ST) := kX1_layNow_3 FU (σ, a2, a3, (0 : Int32))
set_option maxHeartbeats 4000000 in
set_option maxRecDepth 100000 in
theorem ctX1_layNow (l : Launch) (D : va_G) (cy : Nat → ClassId) (ad : Nat → Nat → Nat) (σ : ST) (a2 : Int32) (a3 : Int32) (q : ST) (hm : mX1_layNow σ a2 a3 = some q) : zMv l yX1_layNow wsX1_layNow rmX1_layNow D cy [.ref (ad 2 0), .ref (ad 1 0), .int a2, .int a3] (cw cy ad σ) (cw cy ad q) := by
  intro sz
  refine Met.ofW (cc := cX1_layNow) (maxL := 6) (ret := none) (by decide) rfl ?_
  intro p e s m args below meth c s₁ B hml hv
  obtain ⟨rfl, hsz, hP, hK, hD0⟩ := hv
  have hx := B.exec
  have hb := B.bytes
  have hr := B.returns
  have hts := atoms_spec (ws := wsX1_layNow) B.pre
  have hown : s.vm.findClass RX1 = some m.cls := findClass_of_methodNamed B.named
  have hlocks := B.notSynchronized
  subst hsz
  have hD := hD0.self (sz := s.heap.size)
  generalize hAe : va_A (cw cy ad σ) s.heap.size = A at hD ⊢
  have hA : ∀ q : Nat, s.heap.size ≤ q → A q := fun q h => by rw [← hAe]; exact Or.inr h
  have hS : va_S A s.heap s.heap [] := va_S.rf
  have C : Cx p s m _ meth c cX1_layNow 6 none RX1 wsX1_layNow D cy A := ⟨hx, hb, hml, hown, hts, hr, hlocks, hK, hA⟩
  have hl := lv_entry ([.ref (ad 2 0), .ref (ad 1 0), .int a2, .int a3]) (n := 6) (Nat.le_of_ble_eq_true rfl)
  rw [lg_entry_eq]
  generalize (lg_sl ([.ref (ad 2 0), .ref (ad 1 0), .int a2, .int a3]) ++ List.replicate (6 - (lg_sl ([.ref (ad 2 0), .ref (ad 1 0), .int a2, .int a3])).length) Slot.unset).toArray = ls at hl ⊢
  have hl : lv_has ls 6 [(0, .ref (ad 2 0)), (1, .ref (ad 1 0)), (2, .int a2), (3, .int a3)] := hl
  unfold mX1_layNow at hm
  refine lv_iconst (v := 0) hx hb dX1_layNow_0 (by decide) ?_
  refine lv_istore (lv' := [(4, .int (0 : Int32)), (0, .ref (ad 2 0)), (1, .ref (ad 1 0)), (2, .int a2), (3, .int a3)]) hx hb dX1_layNow_1 hl (by decide) rfl (fun ls hl => ?_)
  exact kX1_layNow_3_ok C q FU σ a2 a3 (0 : Int32) _ _ hP hD hS _ (lv_sub hl [1, 2, 3, 4, 0] rfl) hm

abbrev rmX3_rate1 : Room := { frames := 0, cells := 0, slots := 0, locals := 0 }
theorem lkX3_rate1_23 : Cond.fieldLink RX3 23 "DeliveryBasketModel" "start" "I" ∈ wsX3_rate1 := by decide +kernel
theorem iwX3_rate1_X3 : ∀ w ∈ wsX30, w ∈ wsX3_rate1 := fun _ h => List.mem_cons_of_mem _ (List.mem_append_right _ h)
theorem lkX3_rate1_26 : Cond.fieldLink RX3 26 "DeliveryBasketModel" "jump" "I" ∈ wsX3_rate1 := by decide +kernel
def mX3_rate1 (σ : ST) (a1 : Int32) (a2 : Int32) : Option (Int32) := if (0 : Int32) ≤ ((gI σ 0 0 6) + ((gI σ 0 0 7) * (((2 : Int32) * a2) - a1))) then (if ((gI σ 0 0 6) + ((gI σ 0 0 7) * (((2 : Int32) * a2) - a1))) ≤ (3000 : Int32) then (some ((gI σ 0 0 6) + ((gI σ 0 0 7) * (((2 : Int32) * a2) - a1)))) else (some (3000 : Int32))) else (some (0 : Int32))
set_option maxHeartbeats 4000000 in
set_option maxRecDepth 100000 in
theorem ctX3_rate1 (l : Launch) (D : va_G) (cy : Nat → ClassId) (ad : Nat → Nat → Nat) (σ : ST) (a1 : Int32) (a2 : Int32) (q : Int32) (hm : mX3_rate1 σ a1 a2 = some q) : zMi l yX3_rate1 wsX3_rate1 rmX3_rate1 D cy [.ref (ad 0 0), .int a1, .int a2] (mw cy ad σ) q (mw cy ad σ) := by
  intro sz
  refine Met.ofW (cc := cX3_rate1) (maxL := 4) (ret := (some .int)) (by decide) rfl ?_
  intro p e s m args below meth c s₁ B hml hv
  obtain ⟨rfl, hsz, hP, hK, hD0⟩ := hv
  have hx := B.exec
  have hb := B.bytes
  have hr := B.returns
  have hts := atoms_spec (ws := wsX3_rate1) B.pre
  have hown : s.vm.findClass RX3 = some m.cls := findClass_of_methodNamed B.named
  have hlocks := B.notSynchronized
  subst hsz
  have hD := hD0.self (sz := s.heap.size)
  generalize hAe : va_A (mw cy ad σ) s.heap.size = A at hD ⊢
  have hA : ∀ q : Nat, s.heap.size ≤ q → A q := fun q h => by rw [← hAe]; exact Or.inr h
  have hS : va_S A s.heap s.heap [] := va_S.rf
  have C : Cx p s m _ meth c cX3_rate1 4 (some .int) RX3 wsX3_rate1 D cy A := ⟨hx, hb, hml, hown, hts, hr, hlocks, hK, hA⟩
  have hl := lv_entry ([.ref (ad 0 0), .int a1, .int a2]) (n := 4) (Nat.le_of_ble_eq_true rfl)
  rw [lg_entry_eq]
  generalize (lg_sl ([.ref (ad 0 0), .int a1, .int a2]) ++ List.replicate (4 - (lg_sl ([.ref (ad 0 0), .int a1, .int a2])).length) Slot.unset).toArray = ls at hl ⊢
  have hl : lv_has ls 4 [(0, .ref (ad 0 0)), (1, .int a1), (2, .int a2)] := hl
  unfold mX3_rate1 at hm
  refine lv_aload_n hx hb dX3_rate1_0 rfl (lv_at hl 0 rfl) ?_
  refine va_get (D := D) (ci := 3) (v := .int (gI σ 0 0 6)) (C := RX3) (T := TX3) (N := 20) hx hb hts iwX3_rate1_X3 hown hK.1 hP 0 mw_0 rfl 6 (by decide) (hts _ lkX3_rate1_23) (fun _ h9 => h9) rfl dX3_rate1_1 ?_
  refine lv_aload_n hx hb dX3_rate1_4 rfl (lv_at hl 0 rfl) ?_
  refine va_get (D := D) (ci := 3) (v := .int (gI σ 0 0 7)) (C := RX3) (T := TX3) (N := 20) hx hb hts iwX3_rate1_X3 hown hK.1 hP 0 mw_0 rfl 7 (by decide) (hts _ lkX3_rate1_26) (fun _ h9 => h9) rfl dX3_rate1_5 ?_
  refine lv_iconst (v := 2) hx hb dX3_rate1_8 (by decide) ?_
  refine lv_iload_n hx hb dX3_rate1_9 rfl (lv_at hl 2 rfl) ?_
  refine lv_imul hx hb dX3_rate1_10 ?_
  refine lv_iload_n hx hb dX3_rate1_11 rfl (lv_at hl 1 rfl) ?_
  refine lv_isub hx hb dX3_rate1_12 ?_
  refine lv_imul hx hb dX3_rate1_13 ?_
  refine lv_iadd hx hb dX3_rate1_14 ?_
  refine lv_istore_n (lv' := [(3, .int ((gI σ 0 0 6) + ((gI σ 0 0 7) * (((2 : Int32) * a2) - a1)))), (0, .ref (ad 0 0)), (1, .int a1), (2, .int a2)]) hx hb dX3_rate1_15 rfl hl (by decide) rfl (fun ls hl => ?_)
  refine lv_iload_n hx hb dX3_rate1_16 rfl (lv_at hl 0 rfl) ?_
  refine lv_if_ge (tgt := 24) hx hb dX3_rate1_17 (by decide) (fun c_1 => ?_) (fun c_1 => ?_)
  · have hm := ifp c_1 hm
    refine lv_iload_n hx hb dX3_rate1_24 rfl (lv_at hl 0 rfl) ?_
    refine lv_sipush (v := 3000) hx hb dX3_rate1_25 (by decide) ?_
    refine lv_icmp_le (tgt := 37) hx hb dX3_rate1_28 (by decide) (fun c_2 => ?_) (fun c_2 => ?_)
    · have hm := ifp c_2 hm
      refine lv_iload_n hx hb dX3_rate1_37 rfl (lv_at hl 0 rfl) ?_
      exact z_pi hx hb hr hlocks hm hP hD hS dX3_rate1_38
    · have hm := ifn c_2 hm
      refine lv_sipush (v := 3000) hx hb dX3_rate1_31 (by decide) ?_
      refine lv_goto (tgt := 38) hx hb dX3_rate1_34 (by decide) ?_
      exact z_pi hx hb hr hlocks hm hP hD hS dX3_rate1_38
  · have hm := ifn c_1 hm
    refine lv_iconst (v := 0) hx hb dX3_rate1_20 (by decide) ?_
    refine lv_goto (tgt := 38) hx hb dX3_rate1_21 (by decide) ?_
    exact z_pi hx hb hr hlocks hm hP hD hS dX3_rate1_38
abbrev rmX3_rate : Room := { frames := 2, cells := 0, slots := 0, locals := 47 }
theorem lkX3_rate_61 : Cond.fieldLink RX3 61 "DeliveryBasketModel" "thrown" "I" ∈ wsX3_rate := by decide +kernel
theorem iwX3_rate_X3 : ∀ w ∈ wsX30, w ∈ wsX3_rate := fun _ h => List.mem_cons_of_mem _ (List.mem_append_right _ h)
def mX3_rate (σ : ST) (a1 : Int32) (a2 : Int32) : Option (Int32 × ST) := sv (sI σ 0 0 10 (0 : Int32)) fun σ_1 => (mX3_isNode σ_1 a1 a2).bind fun q_2 => if q_2 = (0 : Int32) then (some ((-1 : Int32), σ_1)) else ((mX3_rate1 σ_1 a1 a2).bind fun q_4 => some (q_4, σ_1))
set_option maxHeartbeats 4000000 in
set_option maxRecDepth 100000 in
theorem ctX3_rate (l : Launch) (D : va_G) (cy : Nat → ClassId) (ad : Nat → Nat → Nat) (σ : ST) (a1 : Int32) (a2 : Int32) (q : Int32 × ST) (hm : mX3_rate σ a1 a2 = some q) : zMi l yX3_rate wsX3_rate rmX3_rate D cy [.ref (ad 0 0), .int a1, .int a2] (mw cy ad σ) q.1 (mw cy ad q.2) := by
  intro sz
  refine Met.ofW (cc := cX3_rate) (maxL := 3) (ret := (some .int)) (by decide) rfl ?_
  intro p e s m args below meth c s₁ B hml hv
  obtain ⟨rfl, hsz, hP, hK, hD0⟩ := hv
  have hx := B.exec
  have hb := B.bytes
  have hr := B.returns
  have hts := atoms_spec (ws := wsX3_rate) B.pre
  have hown : s.vm.findClass RX3 = some m.cls := findClass_of_methodNamed B.named
  have hlocks := B.notSynchronized
  subst hsz
  have hD := hD0.self (sz := s.heap.size)
  generalize hAe : va_A (mw cy ad σ) s.heap.size = A at hD ⊢
  have hA : ∀ q : Nat, s.heap.size ≤ q → A q := fun q h => by rw [← hAe]; exact Or.inr h
  have hS : va_S A s.heap s.heap [] := va_S.rf
  have C : Cx p s m _ meth c cX3_rate 3 (some .int) RX3 wsX3_rate D cy A := ⟨hx, hb, hml, hown, hts, hr, hlocks, hK, hA⟩
  have hl := lv_entry ([.ref (ad 0 0), .int a1, .int a2]) (n := 3) (Nat.le_of_ble_eq_true rfl)
  rw [lg_entry_eq]
  generalize (lg_sl ([.ref (ad 0 0), .int a1, .int a2]) ++ List.replicate (3 - (lg_sl ([.ref (ad 0 0), .int a1, .int a2])).length) Slot.unset).toArray = ls at hl ⊢
  have hl : lv_has ls 3 [(0, .ref (ad 0 0)), (1, .int a1), (2, .int a2)] := hl
  unfold mX3_rate at hm
  refine lv_aload_n hx hb dX3_rate_0 rfl (lv_at hl 0 rfl) ?_
  refine lv_iconst (v := 0) hx hb dX3_rate_1 (by decide) ?_
  refine va_put (D := D) (ci := 3) (v := .int (0 : Int32)) (ty := .int) (C := RX3) (T := TX3) (N := 20) hx hb hts iwX3_rate_X3 tyX3 tyX3_ok nmX3 hown hK.1 hP hD hS 0 mw_0 rfl 10 (by decide) (hts _ lkX3_rate_61) (fun _ h9 => h9) rfl (by decide +kernel) rfl rfl (Nat.le_of_ble_eq_true rfl) dX3_rate_2 (fun H locs hP hD hS => ?_)
  have hP := eP (mw_s0 (σ := σ) (j := 10) (v := (0 : Int32)) (by rfl)) hP
  have hD := eD (mw_s0 (σ := σ) (j := 10) (v := (0 : Int32)) (by rfl)) hD
  obtain ⟨σ_1, e_1, hm⟩ := sv_some hm
  have hP : va_P D vwCl (mw cy ad σ_1) H := by rw [e_1]; exact hP
  have hD : va_D A (mw cy ad σ_1) := by rw [e_1]; exact hD
  refine lv_aload_n hx hb dX3_rate_5 rfl (lv_at hl 0 rfl) ?_
  refine lv_iload_n hx hb dX3_rate_6 rfl (lv_at hl 1 rfl) ?_
  refine lv_iload_n hx hb dX3_rate_7 rfl (lv_at hl 2 rfl) ?_
  obtain ⟨q_2, hq_2, hm⟩ := ob hm
  refine zc_i (zr_V [.int a1, .int a2] [] ⟨hx, hb, hml, hown, hts⟩ (ctX3_isNode l D cy ad σ_1  a1 a2 q_2 hq_2 _) (cwV 2 hts gX3_rate_X3_isNode rfl rfl rfl (by decide +kernel) ⟨Nat.le_of_ble_eq_true rfl, Nat.le_of_ble_eq_true rfl⟩) hK hP hD 0 mw_0 rfl rfl rfl hl.1 rfl (Nat.le_of_ble_eq_true rfl) dX3_rate_8 ⟨Nat.zero_le _, Nat.zero_le _⟩) hD hS hA (fun H locs hP hD hS => ?_)
  refine lv_if_eq (tgt := 23) hx hb dX3_rate_11 (by decide) (fun c_3 => ?_) (fun c_3 => ?_)
  · have hm := ifp c_3 hm
    refine lv_iconst (v := -1) hx hb dX3_rate_23 (by decide) ?_
    exact z_i hx hb hr hlocks hm hP hD hS dX3_rate_24
  · have hm := ifn c_3 hm
    refine lv_aload_n hx hb dX3_rate_14 rfl (lv_at hl 0 rfl) ?_
    refine lv_iload_n hx hb dX3_rate_15 rfl (lv_at hl 1 rfl) ?_
    refine lv_iload_n hx hb dX3_rate_16 rfl (lv_at hl 2 rfl) ?_
    obtain ⟨q_4, hq_4, hm⟩ := ob hm
    refine zc_i (zr_V [.int a1, .int a2] [] ⟨hx, hb, hml, hown, hts⟩ (ctX3_rate1 l D cy ad σ_1  a1 a2 q_4 hq_4 _) (cwV 2 hts gX3_rate_X3_rate1 rfl rfl rfl (by decide +kernel) ⟨Nat.le_of_ble_eq_true rfl, Nat.le_of_ble_eq_true rfl⟩) hK hP hD 0 mw_0 rfl rfl rfl hl.1 rfl (Nat.le_of_ble_eq_true rfl) dX3_rate_17 ⟨Nat.zero_le _, Nat.zero_le _⟩) hD hS hA (fun H locs hP hD hS => ?_)
    refine lv_goto (tgt := 24) hx hb dX3_rate_20 (by decide) ?_
    exact z_i hx hb hr hlocks hm hP hD hS dX3_rate_24
abbrev rmX3_laysNow : Room := { frames := 7, cells := 0, slots := 0, locals := 160 }
theorem lkX3_laysNow_55 : Cond.fieldLink RX3 55 "DeliveryBasketModel" "bonds" "[I" ∈ wsX3_laysNow := by decide +kernel
theorem iwX3_laysNow_X3 : ∀ w ∈ wsX30, w ∈ wsX3_laysNow := fun _ h => List.mem_cons_of_mem _ (List.mem_append_right _ h)
theorem lkX3_laysNow_49 : Cond.fieldLink RX3 49 "DeliveryBasketModel" "nows" "[J" ∈ wsX3_laysNow := by decide +kernel
theorem lkX3_laysNow_64 : Cond.fieldLink RX3 64 "DeliveryBasketModel" "many" "I" ∈ wsX3_laysNow := by decide +kernel
theorem lkX3_laysNow_30 : Cond.fieldLink RX3 30 "DeliveryBasketModel" "agreed" "I" ∈ wsX3_laysNow := by decide +kernel
def bkX3_laysNow_89 (rc17 : ST × Int32 × Int32 × Int32 × Int32 → Option (ST)) (σ : ST) (x1 : Int32) (x2 : Int32) (x3 : Int32) (x4 : Int32) (x5 : Int64) : Option (ST) := gd (inb x3 441) (sv (sI σ 3 0 (Int32.toNatClampNeg x3) x4) fun σ_2 => gd (inb x3 441) (sv (sJ σ_2 2 0 (Int32.toNatClampNeg x3) x5) fun σ_4 => rc17 (σ_4, x1, x2, x3, (x4 + (1 : Int32)))))
def kX3_laysNow_89 (rc17 : ST × Int32 × Int32 × Int32 × Int32 → Option (ST)) (a : ST × Int32 × Int32 × Int32 × Int32 × Int64) : Option (ST) := bkX3_laysNow_89 rc17 a.1 a.2.1 a.2.2.1 a.2.2.2.1 a.2.2.2.2.1 a.2.2.2.2.2
set_option maxHeartbeats 4000000 in
set_option maxRecDepth 100000 in
theorem kX3_laysNow_89_ok {p : Program} {l : Launch} {e : Env} {s : State} {m : MethodId} {args : Array Value} {below : List Frame} {meth : Method} {c : Code} {D : va_G} {cy : Nat → ClassId} {ad : Nat → Nat → Nat} {A : Nat → Prop} (C : Cx p s m args meth c cX3_laysNow 7 none RX3 wsX3_laysNow D cy A) (q : ST) {rc17 : ST × Int32 × Int32 × Int32 × Int32 → Option (ST)} (hr17 : ∀ (σ : ST) (x1 : Int32) (x2 : Int32) (x3 : Int32) (x4 : Int32), ∀ (H : Heap) (locs : List Loc), va_P D vwCl (mw cy ad σ) H → va_D A (mw cy ad σ) → va_S A s.heap H locs → ∀ ls : Array Slot, lv_has ls 7 [(0, .ref (ad 0 0)), (1, .int x1), (2, .int x2), (3, .int x3), (4, .int x4)] → rc17 (σ, x1, x2, x3, x4) = some q → W p l e rmX3_laysNow s m args below meth c H locs 0 0 (MQ below (zQv D (mw cy ad q) A) args s 0 0 A) (F0 m 17 ls [])) : ∀ (σ : ST) (x1 : Int32) (x2 : Int32) (x3 : Int32) (x4 : Int32) (x5 : Int64), ∀ (H : Heap) (locs : List Loc), va_P D vwCl (mw cy ad σ) H → va_D A (mw cy ad σ) → va_S A s.heap H locs → ∀ ls : Array Slot, lv_has ls 7 [(0, .ref (ad 0 0)), (1, .int x1), (2, .int x2), (3, .int x3), (4, .int x4), (5, .long x5)] → kX3_laysNow_89 rc17 (σ, x1, x2, x3, x4, x5) = some q → W p l e rmX3_laysNow s m args below meth c H locs 0 0 (MQ below (zQv D (mw cy ad q) A) args s 0 0 A) (F0 m 89 ls []) := by
  obtain ⟨hx, hb, hml, hown, hts, hr, hlocks, hK, hA⟩ := id C
  intro σ x1 x2 x3 x4 x5 H locs hP hD hS ls hl hm
  have hm : bkX3_laysNow_89 rc17 σ x1 x2 x3 x4 x5 = some q := hm
  unfold bkX3_laysNow_89 at hm
  refine lv_aload_n hx hb dX3_laysNow_89 rfl (lv_at hl 0 rfl) ?_
  refine va_get (D := D) (ci := 3) (v := .ref (ad 7 0)) (C := RX3) (T := TX3) (N := 20) hx hb hts iwX3_laysNow_X3 hown hK.1 hP 0 mw_0 rfl 18 (by decide) (hts _ lkX3_laysNow_55) (fun _ h9 => h9) rfl dX3_laysNow_90 ?_
  refine lv_iload_n hx hb dX3_laysNow_93 rfl (lv_at hl 3 rfl) ?_
  refine lv_iload hx hb dX3_laysNow_94 (lv_at hl 4 rfl) ?_
  obtain ⟨h_1, hm⟩ := gd_some hm
  refine va_iast hx hb hK.1 hP hD hS 7 0 mw_7 rfl (inb_vp h_1) dX3_laysNow_96 (fun H locs hP hD hS => ?_)
  have hP := eP mw_s7 hP
  have hD := eD mw_s7 hD
  obtain ⟨σ_2, e_2, hm⟩ := sv_some hm
  have hP : va_P D vwCl (mw cy ad σ_2) H := by rw [e_2]; exact hP
  have hD : va_D A (mw cy ad σ_2) := by rw [e_2]; exact hD
  refine lv_aload_n hx hb dX3_laysNow_97 rfl (lv_at hl 0 rfl) ?_
  refine va_get (D := D) (ci := 3) (v := .ref (ad 5 0)) (C := RX3) (T := TX3) (N := 20) hx hb hts iwX3_laysNow_X3 hown hK.1 hP 0 mw_0 rfl 16 (by decide) (hts _ lkX3_laysNow_49) (fun _ h9 => h9) rfl dX3_laysNow_98 ?_
  refine lv_iload_n hx hb dX3_laysNow_101 rfl (lv_at hl 3 rfl) ?_
  refine lv_lload hx hb dX3_laysNow_102 (lv_at hl 5 rfl) ?_
  obtain ⟨h_3, hm⟩ := gd_some hm
  refine va_last hx hb hK.1 hP hD hS 5 1 mw_5 rfl (inb_vp h_3) dX3_laysNow_104 (fun H locs hP hD hS => ?_)
  have hP := eP mw_s5 hP
  have hD := eD mw_s5 hD
  obtain ⟨σ_4, e_4, hm⟩ := sv_some hm
  have hP : va_P D vwCl (mw cy ad σ_4) H := by rw [e_4]; exact hP
  have hD : va_D A (mw cy ad σ_4) := by rw [e_4]; exact hD
  refine lv_iinc (v := (x4 + (1 : Int32))) (lv' := [(4, .int (x4 + (1 : Int32))), (0, .ref (ad 0 0)), (1, .int x1), (2, .int x2), (3, .int x3), (5, .long x5)]) hx hb dX3_laysNow_105 hl (k := 4) rfl rfl (by decide) rfl (fun ls hl => ?_)
  refine lv_goto (tgt := 17) hx hb dX3_laysNow_108 (by decide) ?_
  exact hr17 σ_4 x1 x2 x3 (x4 + (1 : Int32)) _ _ hP hD hS _ (lv_sub hl [1, 2, 3, 4, 0] rfl) hm
def bkX3_laysNow_17  (rec : ST × Int32 × Int32 × Int32 × Int32 → Option (ST)) (σ : ST) (x1 : Int32) (x2 : Int32) (x3 : Int32) (x4 : Int32) : Option (ST) := if (gI σ 0 0 1) ≤ x4 then (some σ) else ((mX3_isEligible σ x4).bind fun q_6 => if q_6 = (0 : Int32) then (rec (σ, x1, x2, x3, (x4 + (1 : Int32)))) else ((mX3_invoice σ x4 (Int32.toInt64 (gI σ 0 0 9))).bind fun q_8 => (mX3_rate1 σ x1 x2).bind fun q_9 => (mX3_price1 σ x4 q_9).bind fun q_10 => gd (inb x3 441) (if (gI σ 3 0 (Int32.toNatClampNeg x3)) = (-1 : Int32) then (kX3_laysNow_89 rec (σ, x1, x2, x3, x4, (q_8 - q_10))) else (gd (inb x3 441) (if (0 : Int32) < (lg_cmp (q_8 - q_10) (gJ σ 2 0 (Int32.toNatClampNeg x3))) then (kX3_laysNow_89 rec (σ, x1, x2, x3, x4, (q_8 - q_10))) else (rec (σ, x1, x2, x3, (x4 + (1 : Int32)))))))))
def kX3_laysNow_17  (n : Nat) (a : ST × Int32 × Int32 × Int32 × Int32) : Option (ST) := fx (fun rec a => bkX3_laysNow_17  rec a.1 a.2.1 a.2.2.1 a.2.2.2.1 a.2.2.2.2) n a
set_option maxHeartbeats 4000000 in
set_option maxRecDepth 100000 in
theorem kX3_laysNow_17_ok {p : Program} {l : Launch} {e : Env} {s : State} {m : MethodId} {args : Array Value} {below : List Frame} {meth : Method} {c : Code} {D : va_G} {cy : Nat → ClassId} {ad : Nat → Nat → Nat} {A : Nat → Prop} (C : Cx p s m args meth c cX3_laysNow 7 none RX3 wsX3_laysNow D cy A) (q : ST) : ∀ (n : Nat) (σ : ST) (x1 : Int32) (x2 : Int32) (x3 : Int32) (x4 : Int32), ∀ (H : Heap) (locs : List Loc), va_P D vwCl (mw cy ad σ) H → va_D A (mw cy ad σ) → va_S A s.heap H locs → ∀ ls : Array Slot, lv_has ls 7 [(0, .ref (ad 0 0)), (1, .int x1), (2, .int x2), (3, .int x3), (4, .int x4)] → kX3_laysNow_17 n (σ, x1, x2, x3, x4) = some q → W p l e rmX3_laysNow s m args below meth c H locs 0 0 (MQ below (zQv D (mw cy ad q) A) args s 0 0 A) (F0 m 17 ls []) := by
  obtain ⟨hx, hb, hml, hown, hts, hr, hlocks, hK, hA⟩ := id C
  intro n
  induction n with
  | zero => intro σ x1 x2 x3 x4 H locs hP hD hS ls hl hm; cases hm
  | succ n ih =>
    intro σ x1 x2 x3 x4 H locs hP hD hS ls hl hm
    have hm : bkX3_laysNow_17  (kX3_laysNow_17 n) σ x1 x2 x3 x4 = some q := hm
    unfold bkX3_laysNow_17 at hm
    refine lv_iload hx hb dX3_laysNow_17 (lv_at hl 4 rfl) ?_
    refine lv_aload_n hx hb dX3_laysNow_19 rfl (lv_at hl 0 rfl) ?_
    refine va_get (D := D) (ci := 3) (v := .int (gI σ 0 0 1)) (C := RX3) (T := TX3) (N := 20) hx hb hts iwX3_laysNow_X3 hown hK.1 hP 0 mw_0 rfl 1 (by decide) (hts _ lkX3_laysNow_64) (fun _ h9 => h9) rfl dX3_laysNow_20 ?_
    refine lv_icmp_ge (tgt := 111) hx hb dX3_laysNow_23 (by decide) (fun c_5 => ?_) (fun c_5 => ?_)
    · have hm := ifp c_5 hm
      exact z_v hx hb hr hlocks hm hP hD hS dX3_laysNow_111
    · have hm := ifn c_5 hm
      refine lv_aload_n hx hb dX3_laysNow_26 rfl (lv_at hl 0 rfl) ?_
      refine lv_iload hx hb dX3_laysNow_27 (lv_at hl 4 rfl) ?_
      obtain ⟨q_6, hq_6, hm⟩ := ob hm
      refine zc_i (zr_V [.int x4] [] ⟨hx, hb, hml, hown, hts⟩ (ctX3_isEligible l D cy ad σ  x4 q_6 hq_6 _) (cwV 1 hts gX3_laysNow_X3_isEligible rfl rfl rfl (by decide +kernel) ⟨Nat.le_of_ble_eq_true rfl, Nat.le_of_ble_eq_true rfl⟩) hK hP hD 0 mw_0 rfl rfl rfl hl.1 rfl (Nat.le_of_ble_eq_true rfl) dX3_laysNow_29 ⟨Nat.zero_le _, Nat.zero_le _⟩) hD hS hA (fun H locs hP hD hS => ?_)
      refine lv_if_ne (tgt := 38) hx hb dX3_laysNow_32 (by decide) (fun c_7 => ?_) (fun c_7 => ?_)
      · have hm := ifn c_7 hm
        refine lv_aload_n hx hb dX3_laysNow_38 rfl (lv_at hl 0 rfl) ?_
        refine lv_iload hx hb dX3_laysNow_39 (lv_at hl 4 rfl) ?_
        refine lv_aload_n hx hb dX3_laysNow_41 rfl (lv_at hl 0 rfl) ?_
        refine va_get (D := D) (ci := 3) (v := .int (gI σ 0 0 9)) (C := RX3) (T := TX3) (N := 20) hx hb hts iwX3_laysNow_X3 hown hK.1 hP 0 mw_0 rfl 9 (by decide) (hts _ lkX3_laysNow_30) (fun _ h9 => h9) rfl dX3_laysNow_42 ?_
        refine lv_i2l hx hb dX3_laysNow_45 rfl ?_
        obtain ⟨q_8, hq_8, hm⟩ := ob hm
        refine zc_l (zr_V [.int x4, .long (Int32.toInt64 (gI σ 0 0 9))] [] ⟨hx, hb, hml, hown, hts⟩ (ctX3_invoice l D cy ad σ  x4 (Int32.toInt64 (gI σ 0 0 9)) q_8 hq_8 _) (cwV 2 hts gX3_laysNow_X3_invoice rfl rfl rfl (by decide +kernel) ⟨Nat.le_of_ble_eq_true rfl, Nat.le_of_ble_eq_true rfl⟩) hK hP hD 0 mw_0 rfl rfl rfl hl.1 rfl (Nat.le_of_ble_eq_true rfl) dX3_laysNow_46 ⟨Nat.zero_le _, Nat.zero_le _⟩) hD hS hA (fun H locs hP hD hS => ?_)
        refine lv_aload_n hx hb dX3_laysNow_49 rfl (lv_at hl 0 rfl) ?_
        refine lv_iload hx hb dX3_laysNow_50 (lv_at hl 4 rfl) ?_
        refine lv_aload_n hx hb dX3_laysNow_52 rfl (lv_at hl 0 rfl) ?_
        refine lv_iload_n hx hb dX3_laysNow_53 rfl (lv_at hl 1 rfl) ?_
        refine lv_iload_n hx hb dX3_laysNow_54 rfl (lv_at hl 2 rfl) ?_
        obtain ⟨q_9, hq_9, hm⟩ := ob hm
        refine zc_i (zr_V [.int x1, .int x2] [.int x4, .ref (ad 0 0), .long q_8] ⟨hx, hb, hml, hown, hts⟩ (ctX3_rate1 l D cy ad σ  x1 x2 q_9 hq_9 _) (cwV 2 hts gX3_laysNow_X3_rate1 rfl rfl rfl (by decide +kernel) ⟨Nat.le_of_ble_eq_true rfl, Nat.le_of_ble_eq_true rfl⟩) hK hP hD 0 mw_0 rfl rfl rfl hl.1 rfl (Nat.le_of_ble_eq_true rfl) dX3_laysNow_55 ⟨Nat.zero_le _, Nat.zero_le _⟩) hD hS hA (fun H locs hP hD hS => ?_)
        obtain ⟨q_10, hq_10, hm⟩ := ob hm
        refine zc_l (zr_V [.int x4, .int q_9] [.long q_8] ⟨hx, hb, hml, hown, hts⟩ (ctX3_price1 l D cy ad σ  x4 q_9 q_10 hq_10 _) (cwV 2 hts gX3_laysNow_X3_price1 rfl rfl rfl (by decide +kernel) ⟨Nat.le_of_ble_eq_true rfl, Nat.le_of_ble_eq_true rfl⟩) hK hP hD 0 mw_0 rfl rfl rfl hl.1 rfl (Nat.le_of_ble_eq_true rfl) dX3_laysNow_58 ⟨Nat.zero_le _, Nat.zero_le _⟩) hD hS hA (fun H locs hP hD hS => ?_)
        refine lv_lsub hx hb dX3_laysNow_61 ?_
        refine lv_lstore (lv' := [(5, .long (q_8 - q_10)), (0, .ref (ad 0 0)), (1, .int x1), (2, .int x2), (3, .int x3), (4, .int x4)]) hx hb dX3_laysNow_62 hl (by decide) rfl (fun ls hl => ?_)
        refine lv_aload_n hx hb dX3_laysNow_64 rfl (lv_at hl 1 rfl) ?_
        refine va_get (D := D) (ci := 3) (v := .ref (ad 7 0)) (C := RX3) (T := TX3) (N := 20) hx hb hts iwX3_laysNow_X3 hown hK.1 hP 0 mw_0 rfl 18 (by decide) (hts _ lkX3_laysNow_55) (fun _ h9 => h9) rfl dX3_laysNow_65 ?_
        refine lv_iload_n hx hb dX3_laysNow_68 rfl (lv_at hl 4 rfl) ?_
        obtain ⟨h_11, hm⟩ := gd_some hm
        refine va_iald hx hb hK.1 hP 7 0 mw_7 rfl (inb_vp h_11) dX3_laysNow_69 ?_
        refine lv_iconst (v := -1) hx hb dX3_laysNow_70 (by decide) ?_
        refine lv_icmp_eq (tgt := 89) hx hb dX3_laysNow_71 (by decide) (fun c_12 => ?_) (fun c_12 => ?_)
        · have hm := ifp c_12 hm
          exact kX3_laysNow_89_ok C q ih σ x1 x2 x3 x4 (q_8 - q_10) _ _ hP hD hS _ (lv_sub hl [1, 2, 3, 4, 5, 0] rfl) hm
        · have hm := ifn c_12 hm
          refine lv_lload hx hb dX3_laysNow_74 (lv_at hl 0 rfl) ?_
          refine lv_aload_n hx hb dX3_laysNow_76 rfl (lv_at hl 1 rfl) ?_
          refine va_get (D := D) (ci := 3) (v := .ref (ad 5 0)) (C := RX3) (T := TX3) (N := 20) hx hb hts iwX3_laysNow_X3 hown hK.1 hP 0 mw_0 rfl 16 (by decide) (hts _ lkX3_laysNow_49) (fun _ h9 => h9) rfl dX3_laysNow_77 ?_
          refine lv_iload_n hx hb dX3_laysNow_80 rfl (lv_at hl 4 rfl) ?_
          obtain ⟨h_13, hm⟩ := gd_some hm
          refine va_lald hx hb hK.1 hP 5 1 mw_5 rfl (inb_vp h_13) dX3_laysNow_81 ?_
          refine W.lcmp hx hb dX3_laysNow_82 ?_
          refine lv_if_gt (tgt := 89) hx hb dX3_laysNow_83 (by decide) (fun c_14 => ?_) (fun c_14 => ?_)
          · have hm := ifp c_14 hm
            exact kX3_laysNow_89_ok C q ih σ x1 x2 x3 x4 (q_8 - q_10) _ _ hP hD hS _ (lv_sub hl [1, 2, 3, 4, 5, 0] rfl) hm
          · have hm := ifn c_14 hm
            refine lv_goto (tgt := 105) hx hb dX3_laysNow_86 (by decide) ?_
            refine lv_iinc (v := (x4 + (1 : Int32))) (lv' := [(4, .int (x4 + (1 : Int32))), (5, .long (q_8 - q_10)), (0, .ref (ad 0 0)), (1, .int x1), (2, .int x2), (3, .int x3)]) hx hb dX3_laysNow_105 hl (k := 5) rfl rfl (by decide) rfl (fun ls hl => ?_)
            refine lv_goto (tgt := 17) hx hb dX3_laysNow_108 (by decide) ?_
            exact ih σ x1 x2 x3 (x4 + (1 : Int32)) _ _ hP hD hS _ (lv_sub hl [2, 3, 4, 5, 0] rfl) hm
      · have hm := ifp c_7 hm
        refine lv_goto (tgt := 105) hx hb dX3_laysNow_35 (by decide) ?_
        refine lv_iinc (v := (x4 + (1 : Int32))) (lv' := [(4, .int (x4 + (1 : Int32))), (0, .ref (ad 0 0)), (1, .int x1), (2, .int x2), (3, .int x3)]) hx hb dX3_laysNow_105 hl (k := 4) rfl rfl (by decide) rfl (fun ls hl => ?_)
        refine lv_goto (tgt := 17) hx hb dX3_laysNow_108 (by decide) ?_
        exact ih σ x1 x2 x3 (x4 + (1 : Int32)) _ _ hP hD hS _ (lv_sub hl [1, 2, 3, 4, 0] rfl) hm
def mX3_laysNow (σ : ST) (a1 : Int32) (a2 : Int32) : Option (ST) := gd (inb (((21 : Int32) * a1) + a2) 441) (sv (sI σ 3 0 (Int32.toNatClampNeg (((21 : Int32) * a1) + a2)) (-1 : Int32)) fun σ_16 => kX3_laysNow_17 FU (σ_16, a1, a2, (((21 : Int32) * a1) + a2), (0 : Int32)))
set_option maxHeartbeats 4000000 in
set_option maxRecDepth 100000 in
theorem ctX3_laysNow (l : Launch) (D : va_G) (cy : Nat → ClassId) (ad : Nat → Nat → Nat) (σ : ST) (a1 : Int32) (a2 : Int32) (q : ST) (hm : mX3_laysNow σ a1 a2 = some q) : zMv l yX3_laysNow wsX3_laysNow rmX3_laysNow D cy [.ref (ad 0 0), .int a1, .int a2] (mw cy ad σ) (mw cy ad q) := by
  intro sz
  refine Met.ofW (cc := cX3_laysNow) (maxL := 7) (ret := none) (by decide) rfl ?_
  intro p e s m args below meth c s₁ B hml hv
  obtain ⟨rfl, hsz, hP, hK, hD0⟩ := hv
  have hx := B.exec
  have hb := B.bytes
  have hr := B.returns
  have hts := atoms_spec (ws := wsX3_laysNow) B.pre
  have hown : s.vm.findClass RX3 = some m.cls := findClass_of_methodNamed B.named
  have hlocks := B.notSynchronized
  subst hsz
  have hD := hD0.self (sz := s.heap.size)
  generalize hAe : va_A (mw cy ad σ) s.heap.size = A at hD ⊢
  have hA : ∀ q : Nat, s.heap.size ≤ q → A q := fun q h => by rw [← hAe]; exact Or.inr h
  have hS : va_S A s.heap s.heap [] := va_S.rf
  have C : Cx p s m _ meth c cX3_laysNow 7 none RX3 wsX3_laysNow D cy A := ⟨hx, hb, hml, hown, hts, hr, hlocks, hK, hA⟩
  have hl := lv_entry ([.ref (ad 0 0), .int a1, .int a2]) (n := 7) (Nat.le_of_ble_eq_true rfl)
  rw [lg_entry_eq]
  generalize (lg_sl ([.ref (ad 0 0), .int a1, .int a2]) ++ List.replicate (7 - (lg_sl ([.ref (ad 0 0), .int a1, .int a2])).length) Slot.unset).toArray = ls at hl ⊢
  have hl : lv_has ls 7 [(0, .ref (ad 0 0)), (1, .int a1), (2, .int a2)] := hl
  unfold mX3_laysNow at hm
  refine lv_bipush (v := 21) hx hb dX3_laysNow_0 (by decide) ?_
  refine lv_iload_n hx hb dX3_laysNow_2 rfl (lv_at hl 1 rfl) ?_
  refine lv_imul hx hb dX3_laysNow_3 ?_
  refine lv_iload_n hx hb dX3_laysNow_4 rfl (lv_at hl 2 rfl) ?_
  refine lv_iadd hx hb dX3_laysNow_5 ?_
  refine lv_istore_n (lv' := [(3, .int (((21 : Int32) * a1) + a2)), (0, .ref (ad 0 0)), (1, .int a1), (2, .int a2)]) hx hb dX3_laysNow_6 rfl hl (by decide) rfl (fun ls hl => ?_)
  refine lv_aload_n hx hb dX3_laysNow_7 rfl (lv_at hl 1 rfl) ?_
  refine va_get (D := D) (ci := 3) (v := .ref (ad 7 0)) (C := RX3) (T := TX3) (N := 20) hx hb hts iwX3_laysNow_X3 hown hK.1 hP 0 mw_0 rfl 18 (by decide) (hts _ lkX3_laysNow_55) (fun _ h9 => h9) rfl dX3_laysNow_8 ?_
  refine lv_iload_n hx hb dX3_laysNow_11 rfl (lv_at hl 0 rfl) ?_
  refine lv_iconst (v := -1) hx hb dX3_laysNow_12 (by decide) ?_
  obtain ⟨h_15, hm⟩ := gd_some hm
  refine va_iast hx hb hK.1 hP hD hS 7 0 mw_7 rfl (inb_vp h_15) dX3_laysNow_13 (fun H locs hP hD hS => ?_)
  have hP := eP mw_s7 hP
  have hD := eD mw_s7 hD
  obtain ⟨σ_16, e_16, hm⟩ := sv_some hm
  have hP : va_P D vwCl (mw cy ad σ_16) H := by rw [e_16]; exact hP
  have hD : va_D A (mw cy ad σ_16) := by rw [e_16]; exact hD
  refine lv_iconst (v := 0) hx hb dX3_laysNow_14 (by decide) ?_
  refine lv_istore (lv' := [(4, .int (0 : Int32)), (3, .int (((21 : Int32) * a1) + a2)), (0, .ref (ad 0 0)), (1, .int a1), (2, .int a2)]) hx hb dX3_laysNow_15 hl (by decide) rfl (fun ls hl => ?_)
  exact kX3_laysNow_17_ok C q FU σ_16 a1 a2 (((21 : Int32) * a1) + a2) (0 : Int32) _ _ hP hD hS _ (lv_sub hl [2, 3, 4, 1, 0] rfl) hm
abbrev rmX3_laysTree : Room := { frames := 8, cells := 0, slots := 0, locals := 186 }
theorem lkX3_laysTree_46 : Cond.fieldLink RX3 46 "DeliveryBasketModel" "value" "[J" ∈ wsX3_laysTree := by decide +kernel
theorem iwX3_laysTree_X3 : ∀ w ∈ wsX30, w ∈ wsX3_laysTree := fun _ h => List.mem_cons_of_mem _ (List.mem_append_right _ h)
theorem lkX3_laysTree_52 : Cond.fieldLink RX3 52 "DeliveryBasketModel" "waits" "[J" ∈ wsX3_laysTree := by decide +kernel
theorem lkX3_laysTree_49 : Cond.fieldLink RX3 49 "DeliveryBasketModel" "nows" "[J" ∈ wsX3_laysTree := by decide +kernel
theorem lkX3_laysTree_91 : Cond.constantLong RX3 91 (2) ∈ wsX3_laysTree := by decide +kernel
theorem lkX3_laysTree_144 : Cond.fieldLink RX3 144 "DeliveryBasketModel" "carry" "I" ∈ wsX3_laysTree := by decide +kernel
theorem lkX3_laysTree_141 : Cond.fieldLink RX3 141 "DeliveryBasketModel" "days" "I" ∈ wsX3_laysTree := by decide +kernel
def bkX3_laysTree_111 (rc20 : ST × Int32 × Int32 × Int32 → Option (ST)) (σ : ST) (x1 : Int32) (x2 : Int32) (x3 : Int32) (x4 : Int32) (x5 : Int32) (y1 : Int32) (y2 : Int64) : Option (ST) := gd (inb y1 441) (sv (sJ σ 3 0 (Int32.toNatClampNeg y1) y2) fun σ_2 => if x5 = (0 : Int32) then (if x1 = (-1 : Int32) then (gd (inb x4 441) (gd (inb x4 441) (if (lg_cmp (gJ σ_2 2 0 (Int32.toNatClampNeg x4)) (gJ σ_2 3 0 (Int32.toNatClampNeg x4))) ≤ (0 : Int32) then (gd (inb x4 441) (gd (inb x4 441) (sv (sJ σ_2 1 0 (Int32.toNatClampNeg x4) (gJ σ_2 3 0 (Int32.toNatClampNeg x4))) fun σ_13 => rc20 (σ_13, x1, x2, (x3 + (1 : Int32)))))) else (gd (inb x4 441) (gd (inb x4 441) (sv (sJ σ_2 1 0 (Int32.toNatClampNeg x4) (gJ σ_2 2 0 (Int32.toNatClampNeg x4))) fun σ_16 => rc20 (σ_16, x1, x2, (x3 + (1 : Int32))))))))) else (gd (inb x4 441) (gd (inb x4 441) (sv (sJ σ_2 1 0 (Int32.toNatClampNeg x4) (gJ σ_2 3 0 (Int32.toNatClampNeg x4))) fun σ_7 => rc20 (σ_7, x1, x2, (x3 + (1 : Int32))))))) else (gd (inb x4 441) (gd (inb x4 441) (sv (sJ σ_2 1 0 (Int32.toNatClampNeg x4) (gJ σ_2 2 0 (Int32.toNatClampNeg x4))) fun σ_19 => rc20 (σ_19, x1, x2, (x3 + (1 : Int32)))))))
def kX3_laysTree_111 (rc20 : ST × Int32 × Int32 × Int32 → Option (ST)) (a : ST × Int32 × Int32 × Int32 × Int32 × Int32 × Int32 × Int64) : Option (ST) := bkX3_laysTree_111 rc20 a.1 a.2.1 a.2.2.1 a.2.2.2.1 a.2.2.2.2.1 a.2.2.2.2.2.1 a.2.2.2.2.2.2.1 a.2.2.2.2.2.2.2
set_option maxHeartbeats 4000000 in
set_option maxRecDepth 100000 in
theorem kX3_laysTree_111_ok {p : Program} {l : Launch} {e : Env} {s : State} {m : MethodId} {args : Array Value} {below : List Frame} {meth : Method} {c : Code} {D : va_G} {cy : Nat → ClassId} {ad : Nat → Nat → Nat} {A : Nat → Prop} (C : Cx p s m args meth c cX3_laysTree 6 none RX3 wsX3_laysTree D cy A) (q : ST) {rc20 : ST × Int32 × Int32 × Int32 → Option (ST)} (hr20 : ∀ (σ : ST) (x1 : Int32) (x2 : Int32) (x3 : Int32), ∀ (H : Heap) (locs : List Loc), va_P D vwCl (mw cy ad σ) H → va_D A (mw cy ad σ) → va_S A s.heap H locs → ∀ ls : Array Slot, lv_has ls 6 [(0, .ref (ad 0 0)), (1, .int x1), (2, .int x2), (3, .int x3)] → rc20 (σ, x1, x2, x3) = some q → W p l e rmX3_laysTree s m args below meth c H locs 0 0 (MQ below (zQv D (mw cy ad q) A) args s 0 0 A) (F0 m 20 ls [])) : ∀ (σ : ST) (x1 : Int32) (x2 : Int32) (x3 : Int32) (x4 : Int32) (x5 : Int32) (y1 : Int32) (y2 : Int64), ∀ (H : Heap) (locs : List Loc), va_P D vwCl (mw cy ad σ) H → va_D A (mw cy ad σ) → va_S A s.heap H locs → ∀ ls : Array Slot, lv_has ls 6 [(0, .ref (ad 0 0)), (1, .int x1), (2, .int x2), (3, .int x3), (4, .int x4), (5, .int x5)] → kX3_laysTree_111 rc20 (σ, x1, x2, x3, x4, x5, y1, y2) = some q → W p l e rmX3_laysTree s m args below meth c H locs 0 0 (MQ below (zQv D (mw cy ad q) A) args s 0 0 A) (F0 m 111 ls [.long y2, .int y1, .ref (ad 6 0)]) := by
  obtain ⟨hx, hb, hml, hown, hts, hr, hlocks, hK, hA⟩ := id C
  intro σ x1 x2 x3 x4 x5 y1 y2 H locs hP hD hS ls hl hm
  have hm : bkX3_laysTree_111 rc20 σ x1 x2 x3 x4 x5 y1 y2 = some q := hm
  unfold bkX3_laysTree_111 at hm
  obtain ⟨h_1, hm⟩ := gd_some hm
  refine va_last hx hb hK.1 hP hD hS 6 1 mw_6 rfl (inb_vp h_1) dX3_laysTree_111 (fun H locs hP hD hS => ?_)
  have hP := eP mw_s6 hP
  have hD := eD mw_s6 hD
  obtain ⟨σ_2, e_2, hm⟩ := sv_some hm
  have hP : va_P D vwCl (mw cy ad σ_2) H := by rw [e_2]; exact hP
  have hD : va_D A (mw cy ad σ_2) := by rw [e_2]; exact hD
  refine lv_aload_n hx hb dX3_laysTree_112 rfl (lv_at hl 0 rfl) ?_
  refine va_get (D := D) (ci := 3) (v := .ref (ad 4 0)) (C := RX3) (T := TX3) (N := 20) hx hb hts iwX3_laysTree_X3 hown hK.1 hP 0 mw_0 rfl 15 (by decide) (hts _ lkX3_laysTree_46) (fun _ h9 => h9) rfl dX3_laysTree_113 ?_
  refine lv_iload hx hb dX3_laysTree_116 (lv_at hl 4 rfl) ?_
  refine lv_iload hx hb dX3_laysTree_118 (lv_at hl 5 rfl) ?_
  refine lv_if_eq (tgt := 133) hx hb dX3_laysTree_120 (by decide) (fun c_3 => ?_) (fun c_3 => ?_)
  · have hm := ifp c_3 hm
    refine lv_iload_n hx hb dX3_laysTree_133 rfl (lv_at hl 1 rfl) ?_
    refine lv_iconst (v := -1) hx hb dX3_laysTree_134 (by decide) ?_
    refine lv_icmp_ne (tgt := 166) hx hb dX3_laysTree_135 (by decide) (fun c_4 => ?_) (fun c_4 => ?_)
    · have hm := ifn c_4 hm
      refine lv_aload_n hx hb dX3_laysTree_166 rfl (lv_at hl 0 rfl) ?_
      refine va_get (D := D) (ci := 3) (v := .ref (ad 6 0)) (C := RX3) (T := TX3) (N := 20) hx hb hts iwX3_laysTree_X3 hown hK.1 hP 0 mw_0 rfl 17 (by decide) (hts _ lkX3_laysTree_52) (fun _ h9 => h9) rfl dX3_laysTree_167 ?_
      refine lv_iload hx hb dX3_laysTree_170 (lv_at hl 4 rfl) ?_
      obtain ⟨h_5, hm⟩ := gd_some hm
      refine va_lald hx hb hK.1 hP 6 1 mw_6 rfl (inb_vp h_5) dX3_laysTree_172 ?_
      obtain ⟨h_6, hm⟩ := gd_some hm
      refine va_last hx hb hK.1 hP hD hS 4 1 mw_4 rfl (inb_vp h_6) dX3_laysTree_173 (fun H locs hP hD hS => ?_)
      have hP := eP mw_s4 hP
      have hD := eD mw_s4 hD
      obtain ⟨σ_7, e_7, hm⟩ := sv_some hm
      have hP : va_P D vwCl (mw cy ad σ_7) H := by rw [e_7]; exact hP
      have hD : va_D A (mw cy ad σ_7) := by rw [e_7]; exact hD
      refine lv_iinc (v := (x3 + (1 : Int32))) (lv' := [(3, .int (x3 + (1 : Int32))), (0, .ref (ad 0 0)), (1, .int x1), (2, .int x2), (4, .int x4), (5, .int x5)]) hx hb dX3_laysTree_174 hl (k := 3) rfl rfl (by decide) rfl (fun ls hl => ?_)
      refine lv_goto (tgt := 20) hx hb dX3_laysTree_177 (by decide) ?_
      exact hr20 σ_7 x1 x2 (x3 + (1 : Int32)) _ _ hP hD hS _ (lv_sub hl [1, 2, 3, 0] rfl) hm
    · have hm := ifp c_4 hm
      refine lv_aload_n hx hb dX3_laysTree_138 rfl (lv_at hl 0 rfl) ?_
      refine va_get (D := D) (ci := 3) (v := .ref (ad 5 0)) (C := RX3) (T := TX3) (N := 20) hx hb hts iwX3_laysTree_X3 hown hK.1 hP 0 mw_0 rfl 16 (by decide) (hts _ lkX3_laysTree_49) (fun _ h9 => h9) rfl dX3_laysTree_139 ?_
      refine lv_iload hx hb dX3_laysTree_142 (lv_at hl 4 rfl) ?_
      obtain ⟨h_8, hm⟩ := gd_some hm
      refine va_lald hx hb hK.1 hP 5 1 mw_5 rfl (inb_vp h_8) dX3_laysTree_144 ?_
      refine lv_aload_n hx hb dX3_laysTree_145 rfl (lv_at hl 0 rfl) ?_
      refine va_get (D := D) (ci := 3) (v := .ref (ad 6 0)) (C := RX3) (T := TX3) (N := 20) hx hb hts iwX3_laysTree_X3 hown hK.1 hP 0 mw_0 rfl 17 (by decide) (hts _ lkX3_laysTree_52) (fun _ h9 => h9) rfl dX3_laysTree_146 ?_
      refine lv_iload hx hb dX3_laysTree_149 (lv_at hl 4 rfl) ?_
      obtain ⟨h_9, hm⟩ := gd_some hm
      refine va_lald hx hb hK.1 hP 6 1 mw_6 rfl (inb_vp h_9) dX3_laysTree_151 ?_
      refine W.lcmp hx hb dX3_laysTree_152 ?_
      refine lv_if_le (tgt := 166) hx hb dX3_laysTree_153 (by decide) (fun c_10 => ?_) (fun c_10 => ?_)
      · have hm := ifp c_10 hm
        refine lv_aload_n hx hb dX3_laysTree_166 rfl (lv_at hl 0 rfl) ?_
        refine va_get (D := D) (ci := 3) (v := .ref (ad 6 0)) (C := RX3) (T := TX3) (N := 20) hx hb hts iwX3_laysTree_X3 hown hK.1 hP 0 mw_0 rfl 17 (by decide) (hts _ lkX3_laysTree_52) (fun _ h9 => h9) rfl dX3_laysTree_167 ?_
        refine lv_iload hx hb dX3_laysTree_170 (lv_at hl 4 rfl) ?_
        obtain ⟨h_11, hm⟩ := gd_some hm
        refine va_lald hx hb hK.1 hP 6 1 mw_6 rfl (inb_vp h_11) dX3_laysTree_172 ?_
        obtain ⟨h_12, hm⟩ := gd_some hm
        refine va_last hx hb hK.1 hP hD hS 4 1 mw_4 rfl (inb_vp h_12) dX3_laysTree_173 (fun H locs hP hD hS => ?_)
        have hP := eP mw_s4 hP
        have hD := eD mw_s4 hD
        obtain ⟨σ_13, e_13, hm⟩ := sv_some hm
        have hP : va_P D vwCl (mw cy ad σ_13) H := by rw [e_13]; exact hP
        have hD : va_D A (mw cy ad σ_13) := by rw [e_13]; exact hD
        refine lv_iinc (v := (x3 + (1 : Int32))) (lv' := [(3, .int (x3 + (1 : Int32))), (0, .ref (ad 0 0)), (1, .int x1), (2, .int x2), (4, .int x4), (5, .int x5)]) hx hb dX3_laysTree_174 hl (k := 3) rfl rfl (by decide) rfl (fun ls hl => ?_)
        refine lv_goto (tgt := 20) hx hb dX3_laysTree_177 (by decide) ?_
        exact hr20 σ_13 x1 x2 (x3 + (1 : Int32)) _ _ hP hD hS _ (lv_sub hl [1, 2, 3, 0] rfl) hm
      · have hm := ifn c_10 hm
        refine lv_aload_n hx hb dX3_laysTree_156 rfl (lv_at hl 0 rfl) ?_
        refine va_get (D := D) (ci := 3) (v := .ref (ad 5 0)) (C := RX3) (T := TX3) (N := 20) hx hb hts iwX3_laysTree_X3 hown hK.1 hP 0 mw_0 rfl 16 (by decide) (hts _ lkX3_laysTree_49) (fun _ h9 => h9) rfl dX3_laysTree_157 ?_
        refine lv_iload hx hb dX3_laysTree_160 (lv_at hl 4 rfl) ?_
        obtain ⟨h_14, hm⟩ := gd_some hm
        refine va_lald hx hb hK.1 hP 5 1 mw_5 rfl (inb_vp h_14) dX3_laysTree_162 ?_
        refine lv_goto (tgt := 173) hx hb dX3_laysTree_163 (by decide) ?_
        obtain ⟨h_15, hm⟩ := gd_some hm
        refine va_last hx hb hK.1 hP hD hS 4 1 mw_4 rfl (inb_vp h_15) dX3_laysTree_173 (fun H locs hP hD hS => ?_)
        have hP := eP mw_s4 hP
        have hD := eD mw_s4 hD
        obtain ⟨σ_16, e_16, hm⟩ := sv_some hm
        have hP : va_P D vwCl (mw cy ad σ_16) H := by rw [e_16]; exact hP
        have hD : va_D A (mw cy ad σ_16) := by rw [e_16]; exact hD
        refine lv_iinc (v := (x3 + (1 : Int32))) (lv' := [(3, .int (x3 + (1 : Int32))), (0, .ref (ad 0 0)), (1, .int x1), (2, .int x2), (4, .int x4), (5, .int x5)]) hx hb dX3_laysTree_174 hl (k := 3) rfl rfl (by decide) rfl (fun ls hl => ?_)
        refine lv_goto (tgt := 20) hx hb dX3_laysTree_177 (by decide) ?_
        exact hr20 σ_16 x1 x2 (x3 + (1 : Int32)) _ _ hP hD hS _ (lv_sub hl [1, 2, 3, 0] rfl) hm
  · have hm := ifn c_3 hm
    refine lv_aload_n hx hb dX3_laysTree_123 rfl (lv_at hl 0 rfl) ?_
    refine va_get (D := D) (ci := 3) (v := .ref (ad 5 0)) (C := RX3) (T := TX3) (N := 20) hx hb hts iwX3_laysTree_X3 hown hK.1 hP 0 mw_0 rfl 16 (by decide) (hts _ lkX3_laysTree_49) (fun _ h9 => h9) rfl dX3_laysTree_124 ?_
    refine lv_iload hx hb dX3_laysTree_127 (lv_at hl 4 rfl) ?_
    obtain ⟨h_17, hm⟩ := gd_some hm
    refine va_lald hx hb hK.1 hP 5 1 mw_5 rfl (inb_vp h_17) dX3_laysTree_129 ?_
    refine lv_goto (tgt := 173) hx hb dX3_laysTree_130 (by decide) ?_
    obtain ⟨h_18, hm⟩ := gd_some hm
    refine va_last hx hb hK.1 hP hD hS 4 1 mw_4 rfl (inb_vp h_18) dX3_laysTree_173 (fun H locs hP hD hS => ?_)
    have hP := eP mw_s4 hP
    have hD := eD mw_s4 hD
    obtain ⟨σ_19, e_19, hm⟩ := sv_some hm
    have hP : va_P D vwCl (mw cy ad σ_19) H := by rw [e_19]; exact hP
    have hD : va_D A (mw cy ad σ_19) := by rw [e_19]; exact hD
    refine lv_iinc (v := (x3 + (1 : Int32))) (lv' := [(3, .int (x3 + (1 : Int32))), (0, .ref (ad 0 0)), (1, .int x1), (2, .int x2), (4, .int x4), (5, .int x5)]) hx hb dX3_laysTree_174 hl (k := 3) rfl rfl (by decide) rfl (fun ls hl => ?_)
    refine lv_goto (tgt := 20) hx hb dX3_laysTree_177 (by decide) ?_
    exact hr20 σ_19 x1 x2 (x3 + (1 : Int32)) _ _ hP hD hS _ (lv_sub hl [1, 2, 3, 0] rfl) hm
def bkX3_laysTree_61 (rc20 : ST × Int32 × Int32 × Int32 → Option (ST)) (σ : ST) (x1 : Int32) (x2 : Int32) (x3 : Int32) (x4 : Int32) (y0 : Int32) : Option (ST) := if y0 = (0 : Int32) then (gd (inb (x4 + (21 : Int32)) 441) (gd (inb (x4 + (22 : Int32)) 441) ((mX3_down ((gJ σ 1 0 (Int32.toNatClampNeg (x4 + (21 : Int32)))) + (gJ σ 1 0 (Int32.toNatClampNeg (x4 + (22 : Int32))))) (2 : Int64)).bind fun q_23 => kX3_laysTree_111 rc20 (σ, x1, x2, x3, x4, y0, x4, (q_23 - (Int32.toInt64 (gI σ 0 0 8))))))) else (kX3_laysTree_111 rc20 (σ, x1, x2, x3, x4, y0, x4, (0 : Int64)))
def kX3_laysTree_61 (rc20 : ST × Int32 × Int32 × Int32 → Option (ST)) (a : ST × Int32 × Int32 × Int32 × Int32 × Int32) : Option (ST) := bkX3_laysTree_61 rc20 a.1 a.2.1 a.2.2.1 a.2.2.2.1 a.2.2.2.2.1 a.2.2.2.2.2
set_option maxHeartbeats 4000000 in
set_option maxRecDepth 100000 in
theorem kX3_laysTree_61_ok {p : Program} {l : Launch} {e : Env} {s : State} {m : MethodId} {args : Array Value} {below : List Frame} {meth : Method} {c : Code} {D : va_G} {cy : Nat → ClassId} {ad : Nat → Nat → Nat} {A : Nat → Prop} (C : Cx p s m args meth c cX3_laysTree 6 none RX3 wsX3_laysTree D cy A) (q : ST) {rc20 : ST × Int32 × Int32 × Int32 → Option (ST)} (hr20 : ∀ (σ : ST) (x1 : Int32) (x2 : Int32) (x3 : Int32), ∀ (H : Heap) (locs : List Loc), va_P D vwCl (mw cy ad σ) H → va_D A (mw cy ad σ) → va_S A s.heap H locs → ∀ ls : Array Slot, lv_has ls 6 [(0, .ref (ad 0 0)), (1, .int x1), (2, .int x2), (3, .int x3)] → rc20 (σ, x1, x2, x3) = some q → W p l e rmX3_laysTree s m args below meth c H locs 0 0 (MQ below (zQv D (mw cy ad q) A) args s 0 0 A) (F0 m 20 ls [])) : ∀ (σ : ST) (x1 : Int32) (x2 : Int32) (x3 : Int32) (x4 : Int32) (y0 : Int32), ∀ (H : Heap) (locs : List Loc), va_P D vwCl (mw cy ad σ) H → va_D A (mw cy ad σ) → va_S A s.heap H locs → ∀ ls : Array Slot, lv_has ls 6 [(0, .ref (ad 0 0)), (1, .int x1), (2, .int x2), (3, .int x3), (4, .int x4)] → kX3_laysTree_61 rc20 (σ, x1, x2, x3, x4, y0) = some q → W p l e rmX3_laysTree s m args below meth c H locs 0 0 (MQ below (zQv D (mw cy ad q) A) args s 0 0 A) (F0 m 61 ls [.int y0]) := by
  obtain ⟨hx, hb, hml, hown, hts, hr, hlocks, hK, hA⟩ := id C
  intro σ x1 x2 x3 x4 y0 H locs hP hD hS ls hl hm
  have hm : bkX3_laysTree_61 rc20 σ x1 x2 x3 x4 y0 = some q := hm
  unfold bkX3_laysTree_61 at hm
  refine lv_istore (lv' := [(5, .int y0), (0, .ref (ad 0 0)), (1, .int x1), (2, .int x2), (3, .int x3), (4, .int x4)]) hx hb dX3_laysTree_61 hl (by decide) rfl (fun ls hl => ?_)
  refine lv_aload_n hx hb dX3_laysTree_63 rfl (lv_at hl 1 rfl) ?_
  refine va_get (D := D) (ci := 3) (v := .ref (ad 6 0)) (C := RX3) (T := TX3) (N := 20) hx hb hts iwX3_laysTree_X3 hown hK.1 hP 0 mw_0 rfl 17 (by decide) (hts _ lkX3_laysTree_52) (fun _ h9 => h9) rfl dX3_laysTree_64 ?_
  refine lv_iload hx hb dX3_laysTree_67 (lv_at hl 5 rfl) ?_
  refine lv_iload hx hb dX3_laysTree_69 (lv_at hl 0 rfl) ?_
  refine lv_if_eq (tgt := 78) hx hb dX3_laysTree_71 (by decide) (fun c_20 => ?_) (fun c_20 => ?_)
  · have hm := ifp c_20 hm
    refine lv_aload_n hx hb dX3_laysTree_78 rfl (lv_at hl 1 rfl) ?_
    refine va_get (D := D) (ci := 3) (v := .ref (ad 4 0)) (C := RX3) (T := TX3) (N := 20) hx hb hts iwX3_laysTree_X3 hown hK.1 hP 0 mw_0 rfl 15 (by decide) (hts _ lkX3_laysTree_46) (fun _ h9 => h9) rfl dX3_laysTree_79 ?_
    refine lv_iload hx hb dX3_laysTree_82 (lv_at hl 5 rfl) ?_
    refine lv_bipush (v := 21) hx hb dX3_laysTree_84 (by decide) ?_
    refine lv_iadd hx hb dX3_laysTree_86 ?_
    obtain ⟨h_21, hm⟩ := gd_some hm
    refine va_lald hx hb hK.1 hP 4 1 mw_4 rfl (inb_vp h_21) dX3_laysTree_87 ?_
    refine lv_aload_n hx hb dX3_laysTree_88 rfl (lv_at hl 1 rfl) ?_
    refine va_get (D := D) (ci := 3) (v := .ref (ad 4 0)) (C := RX3) (T := TX3) (N := 20) hx hb hts iwX3_laysTree_X3 hown hK.1 hP 0 mw_0 rfl 15 (by decide) (hts _ lkX3_laysTree_46) (fun _ h9 => h9) rfl dX3_laysTree_89 ?_
    refine lv_iload hx hb dX3_laysTree_92 (lv_at hl 5 rfl) ?_
    refine lv_bipush (v := 22) hx hb dX3_laysTree_94 (by decide) ?_
    refine lv_iadd hx hb dX3_laysTree_96 ?_
    obtain ⟨h_22, hm⟩ := gd_some hm
    refine va_lald hx hb hK.1 hP 4 1 mw_4 rfl (inb_vp h_22) dX3_laysTree_97 ?_
    refine lv_ladd hx hb dX3_laysTree_98 ?_
    refine lv_ldc2 (v := 2) hx hb hown (hts _ lkX3_laysTree_91) dX3_laysTree_99 ?_
    obtain ⟨q_23, hq_23, hm⟩ := ob hm
    refine zc_l (zr_S [.long ((gJ σ 1 0 (Int32.toNatClampNeg (x4 + (21 : Int32)))) + (gJ σ 1 0 (Int32.toNatClampNeg (x4 + (22 : Int32))))), .long (2 : Int64)] [.int x4, .ref (ad 6 0)] ⟨hx, hb, hml, hown, hts⟩ (ctX3_down l D cy (mw cy ad σ)  ((gJ σ 1 0 (Int32.toNatClampNeg (x4 + (21 : Int32)))) + (gJ σ 1 0 (Int32.toNatClampNeg (x4 + (22 : Int32))))) (2 : Int64) q_23 hq_23 _) (va_cwS 2 hts gX3_laysTree_X3_down rfl rfl rfl (by decide +kernel) ⟨Nat.le_of_ble_eq_true rfl, Nat.le_of_ble_eq_true rfl⟩) hK hP hD rfl hl.1 rfl (Nat.le_of_ble_eq_true rfl) dX3_laysTree_102 ⟨Nat.zero_le _, Nat.zero_le _⟩) hD hS hA (fun H locs hP hD hS => ?_)
    refine lv_aload_n hx hb dX3_laysTree_105 rfl (lv_at hl 1 rfl) ?_
    refine va_get (D := D) (ci := 3) (v := .int (gI σ 0 0 8)) (C := RX3) (T := TX3) (N := 20) hx hb hts iwX3_laysTree_X3 hown hK.1 hP 0 mw_0 rfl 8 (by decide) (hts _ lkX3_laysTree_144) (fun _ h9 => h9) rfl dX3_laysTree_106 ?_
    refine lv_i2l hx hb dX3_laysTree_109 rfl ?_
    refine lv_lsub hx hb dX3_laysTree_110 ?_
    exact kX3_laysTree_111_ok C q hr20 σ x1 x2 x3 x4 y0 x4 (q_23 - (Int32.toInt64 (gI σ 0 0 8))) _ _ hP hD hS _ (lv_sub hl [1, 2, 3, 4, 5, 0] rfl) hm
  · have hm := ifn c_20 hm
    refine lv_lconst (v := 0) hx hb dX3_laysTree_74 (by decide) ?_
    refine lv_goto (tgt := 111) hx hb dX3_laysTree_75 (by decide) ?_
    exact kX3_laysTree_111_ok C q hr20 σ x1 x2 x3 x4 y0 x4 (0 : Int64) _ _ hP hD hS _ (lv_sub hl [1, 2, 3, 4, 5, 0] rfl) hm
def bkX3_laysTree_20 (rc14 : ST × Int32 × Int32 → Option (ST)) (rec : ST × Int32 × Int32 × Int32 → Option (ST)) (σ : ST) (x1 : Int32) (x2 : Int32) (x3 : Int32) : Option (ST) := if x2 < x3 then (rc14 (σ, x1, (x2 + (-1 : Int32)))) else ((mX3_laysNow σ x2 x3).bind fun q_25 => if x1 = (-1 : Int32) then (if x2 = (gI q_25 0 0 5) then (kX3_laysTree_61 rec (q_25, x1, x2, x3, (((21 : Int32) * x2) + x3), (1 : Int32))) else (kX3_laysTree_61 rec (q_25, x1, x2, x3, (((21 : Int32) * x2) + x3), (0 : Int32)))) else (if x2 = x1 then (kX3_laysTree_61 rec (q_25, x1, x2, x3, (((21 : Int32) * x2) + x3), (1 : Int32))) else (kX3_laysTree_61 rec (q_25, x1, x2, x3, (((21 : Int32) * x2) + x3), (0 : Int32)))))
def kX3_laysTree_20 (rc14 : ST × Int32 × Int32 → Option (ST)) (n : Nat) (a : ST × Int32 × Int32 × Int32) : Option (ST) := fx (fun rec a => bkX3_laysTree_20 rc14 rec a.1 a.2.1 a.2.2.1 a.2.2.2) n a
set_option maxHeartbeats 4000000 in
set_option maxRecDepth 100000 in
theorem kX3_laysTree_20_ok {p : Program} {l : Launch} {e : Env} {s : State} {m : MethodId} {args : Array Value} {below : List Frame} {meth : Method} {c : Code} {D : va_G} {cy : Nat → ClassId} {ad : Nat → Nat → Nat} {A : Nat → Prop} (C : Cx p s m args meth c cX3_laysTree 6 none RX3 wsX3_laysTree D cy A) (q : ST) {rc14 : ST × Int32 × Int32 → Option (ST)} (hr14 : ∀ (σ : ST) (x1 : Int32) (x2 : Int32), ∀ (H : Heap) (locs : List Loc), va_P D vwCl (mw cy ad σ) H → va_D A (mw cy ad σ) → va_S A s.heap H locs → ∀ ls : Array Slot, lv_has ls 6 [(0, .ref (ad 0 0)), (1, .int x1), (2, .int x2)] → rc14 (σ, x1, x2) = some q → W p l e rmX3_laysTree s m args below meth c H locs 0 0 (MQ below (zQv D (mw cy ad q) A) args s 0 0 A) (F0 m 14 ls [])) : ∀ (n : Nat) (σ : ST) (x1 : Int32) (x2 : Int32) (x3 : Int32), ∀ (H : Heap) (locs : List Loc), va_P D vwCl (mw cy ad σ) H → va_D A (mw cy ad σ) → va_S A s.heap H locs → ∀ ls : Array Slot, lv_has ls 6 [(0, .ref (ad 0 0)), (1, .int x1), (2, .int x2), (3, .int x3)] → kX3_laysTree_20 rc14 n (σ, x1, x2, x3) = some q → W p l e rmX3_laysTree s m args below meth c H locs 0 0 (MQ below (zQv D (mw cy ad q) A) args s 0 0 A) (F0 m 20 ls []) := by
  obtain ⟨hx, hb, hml, hown, hts, hr, hlocks, hK, hA⟩ := id C
  intro n
  induction n with
  | zero => intro σ x1 x2 x3 H locs hP hD hS ls hl hm; cases hm
  | succ n ih =>
    intro σ x1 x2 x3 H locs hP hD hS ls hl hm
    have hm : bkX3_laysTree_20 rc14 (kX3_laysTree_20 rc14 n) σ x1 x2 x3 = some q := hm
    unfold bkX3_laysTree_20 at hm
    refine lv_iload_n hx hb dX3_laysTree_20 rfl (lv_at hl 3 rfl) ?_
    refine lv_iload_n hx hb dX3_laysTree_21 rfl (lv_at hl 2 rfl) ?_
    refine lv_icmp_gt (tgt := 180) hx hb dX3_laysTree_22 (by decide) (fun c_24 => ?_) (fun c_24 => ?_)
    · have hm := ifp c_24 hm
      refine lv_iinc (v := (x2 + (-1 : Int32))) (lv' := [(2, .int (x2 + (-1 : Int32))), (0, .ref (ad 0 0)), (1, .int x1), (3, .int x3)]) hx hb dX3_laysTree_180 hl (k := 2) rfl rfl (by decide) rfl (fun ls hl => ?_)
      refine lv_goto (tgt := 14) hx hb dX3_laysTree_183 (by decide) ?_
      exact hr14 σ x1 (x2 + (-1 : Int32)) _ _ hP hD hS _ (lv_sub hl [1, 2, 0] rfl) hm
    · have hm := ifn c_24 hm
      refine lv_bipush (v := 21) hx hb dX3_laysTree_25 (by decide) ?_
      refine lv_iload_n hx hb dX3_laysTree_27 rfl (lv_at hl 2 rfl) ?_
      refine lv_imul hx hb dX3_laysTree_28 ?_
      refine lv_iload_n hx hb dX3_laysTree_29 rfl (lv_at hl 3 rfl) ?_
      refine lv_iadd hx hb dX3_laysTree_30 ?_
      refine lv_istore (lv' := [(4, .int (((21 : Int32) * x2) + x3)), (0, .ref (ad 0 0)), (1, .int x1), (2, .int x2), (3, .int x3)]) hx hb dX3_laysTree_31 hl (by decide) rfl (fun ls hl => ?_)
      refine lv_aload_n hx hb dX3_laysTree_33 rfl (lv_at hl 1 rfl) ?_
      refine lv_iload_n hx hb dX3_laysTree_34 rfl (lv_at hl 3 rfl) ?_
      refine lv_iload_n hx hb dX3_laysTree_35 rfl (lv_at hl 4 rfl) ?_
      obtain ⟨q_25, hq_25, hm⟩ := ob hm
      refine zc_v (zr_V [.int x2, .int x3] [] ⟨hx, hb, hml, hown, hts⟩ (ctX3_laysNow l D cy ad σ  x2 x3 q_25 hq_25 _) (cwV 2 hts gX3_laysTree_X3_laysNow rfl rfl rfl (by decide +kernel) ⟨Nat.le_of_ble_eq_true rfl, Nat.le_of_ble_eq_true rfl⟩) hK hP hD 0 mw_0 rfl rfl rfl hl.1 rfl (Nat.le_of_ble_eq_true rfl) dX3_laysTree_36 ⟨Nat.zero_le _, Nat.zero_le _⟩) hD hS hA (fun H locs hP hD hS => ?_)
      refine lv_iload_n hx hb dX3_laysTree_39 rfl (lv_at hl 3 rfl) ?_
      refine lv_iload_n hx hb dX3_laysTree_40 rfl (lv_at hl 2 rfl) ?_
      refine lv_iconst (v := -1) hx hb dX3_laysTree_41 (by decide) ?_
      refine lv_icmp_ne (tgt := 52) hx hb dX3_laysTree_42 (by decide) (fun c_26 => ?_) (fun c_26 => ?_)
      · have hm := ifn c_26 hm
        refine lv_iload_n hx hb dX3_laysTree_52 rfl (lv_at hl 2 rfl) ?_
        refine lv_icmp_ne (tgt := 60) hx hb dX3_laysTree_53 (by decide) (fun c_27 => ?_) (fun c_27 => ?_)
        · have hm := ifn c_27 hm
          refine lv_iconst (v := 0) hx hb dX3_laysTree_60 (by decide) ?_
          exact kX3_laysTree_61_ok C q ih q_25 x1 x2 x3 (((21 : Int32) * x2) + x3) (0 : Int32) _ _ hP hD hS _ (lv_sub hl [1, 2, 3, 4, 0] rfl) hm
        · have hm := ifp c_27 hm
          refine lv_iconst (v := 1) hx hb dX3_laysTree_56 (by decide) ?_
          refine lv_goto (tgt := 61) hx hb dX3_laysTree_57 (by decide) ?_
          exact kX3_laysTree_61_ok C q ih q_25 x1 x2 x3 (((21 : Int32) * x2) + x3) (1 : Int32) _ _ hP hD hS _ (lv_sub hl [1, 2, 3, 4, 0] rfl) hm
      · have hm := ifp c_26 hm
        refine lv_aload_n hx hb dX3_laysTree_45 rfl (lv_at hl 1 rfl) ?_
        refine va_get (D := D) (ci := 3) (v := .int (gI q_25 0 0 5)) (C := RX3) (T := TX3) (N := 20) hx hb hts iwX3_laysTree_X3 hown hK.1 hP 0 mw_0 rfl 5 (by decide) (hts _ lkX3_laysTree_141) (fun _ h9 => h9) rfl dX3_laysTree_46 ?_
        refine lv_goto (tgt := 53) hx hb dX3_laysTree_49 (by decide) ?_
        refine lv_icmp_ne (tgt := 60) hx hb dX3_laysTree_53 (by decide) (fun c_28 => ?_) (fun c_28 => ?_)
        · have hm := ifn c_28 hm
          refine lv_iconst (v := 0) hx hb dX3_laysTree_60 (by decide) ?_
          exact kX3_laysTree_61_ok C q ih q_25 x1 x2 x3 (((21 : Int32) * x2) + x3) (0 : Int32) _ _ hP hD hS _ (lv_sub hl [1, 2, 3, 4, 0] rfl) hm
        · have hm := ifp c_28 hm
          refine lv_iconst (v := 1) hx hb dX3_laysTree_56 (by decide) ?_
          refine lv_goto (tgt := 61) hx hb dX3_laysTree_57 (by decide) ?_
          exact kX3_laysTree_61_ok C q ih q_25 x1 x2 x3 (((21 : Int32) * x2) + x3) (1 : Int32) _ _ hP hD hS _ (lv_sub hl [1, 2, 3, 4, 0] rfl) hm
def bkX3_laysTree_14  (rec : ST × Int32 × Int32 → Option (ST)) (σ : ST) (x1 : Int32) (x2 : Int32) : Option (ST) := if x2 < (0 : Int32) then (some σ) else (kX3_laysTree_20 rec FU (σ, x1, x2, (0 : Int32)))
def kX3_laysTree_14  (n : Nat) (a : ST × Int32 × Int32) : Option (ST) := fx (fun rec a => bkX3_laysTree_14  rec a.1 a.2.1 a.2.2) n a
set_option maxHeartbeats 4000000 in
set_option maxRecDepth 100000 in
theorem kX3_laysTree_14_ok {p : Program} {l : Launch} {e : Env} {s : State} {m : MethodId} {args : Array Value} {below : List Frame} {meth : Method} {c : Code} {D : va_G} {cy : Nat → ClassId} {ad : Nat → Nat → Nat} {A : Nat → Prop} (C : Cx p s m args meth c cX3_laysTree 6 none RX3 wsX3_laysTree D cy A) (q : ST) : ∀ (n : Nat) (σ : ST) (x1 : Int32) (x2 : Int32), ∀ (H : Heap) (locs : List Loc), va_P D vwCl (mw cy ad σ) H → va_D A (mw cy ad σ) → va_S A s.heap H locs → ∀ ls : Array Slot, lv_has ls 6 [(0, .ref (ad 0 0)), (1, .int x1), (2, .int x2)] → kX3_laysTree_14 n (σ, x1, x2) = some q → W p l e rmX3_laysTree s m args below meth c H locs 0 0 (MQ below (zQv D (mw cy ad q) A) args s 0 0 A) (F0 m 14 ls []) := by
  obtain ⟨hx, hb, hml, hown, hts, hr, hlocks, hK, hA⟩ := id C
  intro n
  induction n with
  | zero => intro σ x1 x2 H locs hP hD hS ls hl hm; cases hm
  | succ n ih =>
    intro σ x1 x2 H locs hP hD hS ls hl hm
    have hm : bkX3_laysTree_14  (kX3_laysTree_14 n) σ x1 x2 = some q := hm
    unfold bkX3_laysTree_14 at hm
    refine lv_iload_n hx hb dX3_laysTree_14 rfl (lv_at hl 2 rfl) ?_
    refine lv_if_lt (tgt := 186) hx hb dX3_laysTree_15 (by decide) (fun c_29 => ?_) (fun c_29 => ?_)
    · have hm := ifp c_29 hm
      exact z_v hx hb hr hlocks hm hP hD hS dX3_laysTree_186
    · have hm := ifn c_29 hm
      refine lv_iconst (v := 0) hx hb dX3_laysTree_18 (by decide) ?_
      refine lv_istore_n (lv' := [(3, .int (0 : Int32)), (0, .ref (ad 0 0)), (1, .int x1), (2, .int x2)]) hx hb dX3_laysTree_19 rfl hl (by decide) rfl (fun ls hl => ?_)
      exact kX3_laysTree_20_ok C q ih FU σ x1 x2 (0 : Int32) _ _ hP hD hS _ (lv_sub hl [1, 2, 3, 0] rfl) hm
def mX3_laysTree (σ : ST) (a1 : Int32) : Option (ST) := if a1 = (-1 : Int32) then (kX3_laysTree_14 FU (σ, a1, (gI σ 0 0 5))) else (kX3_laysTree_14 FU (σ, a1, a1))
set_option maxHeartbeats 4000000 in
set_option maxRecDepth 100000 in
theorem ctX3_laysTree (l : Launch) (D : va_G) (cy : Nat → ClassId) (ad : Nat → Nat → Nat) (σ : ST) (a1 : Int32) (q : ST) (hm : mX3_laysTree σ a1 = some q) : zMv l yX3_laysTree wsX3_laysTree rmX3_laysTree D cy [.ref (ad 0 0), .int a1] (mw cy ad σ) (mw cy ad q) := by
  intro sz
  refine Met.ofW (cc := cX3_laysTree) (maxL := 6) (ret := none) (by decide) rfl ?_
  intro p e s m args below meth c s₁ B hml hv
  obtain ⟨rfl, hsz, hP, hK, hD0⟩ := hv
  have hx := B.exec
  have hb := B.bytes
  have hr := B.returns
  have hts := atoms_spec (ws := wsX3_laysTree) B.pre
  have hown : s.vm.findClass RX3 = some m.cls := findClass_of_methodNamed B.named
  have hlocks := B.notSynchronized
  subst hsz
  have hD := hD0.self (sz := s.heap.size)
  generalize hAe : va_A (mw cy ad σ) s.heap.size = A at hD ⊢
  have hA : ∀ q : Nat, s.heap.size ≤ q → A q := fun q h => by rw [← hAe]; exact Or.inr h
  have hS : va_S A s.heap s.heap [] := va_S.rf
  have C : Cx p s m _ meth c cX3_laysTree 6 none RX3 wsX3_laysTree D cy A := ⟨hx, hb, hml, hown, hts, hr, hlocks, hK, hA⟩
  have hl := lv_entry ([.ref (ad 0 0), .int a1]) (n := 6) (Nat.le_of_ble_eq_true rfl)
  rw [lg_entry_eq]
  generalize (lg_sl ([.ref (ad 0 0), .int a1]) ++ List.replicate (6 - (lg_sl ([.ref (ad 0 0), .int a1])).length) Slot.unset).toArray = ls at hl ⊢
  have hl : lv_has ls 6 [(0, .ref (ad 0 0)), (1, .int a1)] := hl
  unfold mX3_laysTree at hm
  refine lv_iload_n hx hb dX3_laysTree_0 rfl (lv_at hl 1 rfl) ?_
  refine lv_iconst (v := -1) hx hb dX3_laysTree_1 (by decide) ?_
  refine lv_icmp_ne (tgt := 12) hx hb dX3_laysTree_2 (by decide) (fun c_30 => ?_) (fun c_30 => ?_)
  · have hm := ifn c_30 hm
    refine lv_iload_n hx hb dX3_laysTree_12 rfl (lv_at hl 1 rfl) ?_
    refine lv_istore_n (lv' := [(2, .int a1), (0, .ref (ad 0 0)), (1, .int a1)]) hx hb dX3_laysTree_13 rfl hl (by decide) rfl (fun ls hl => ?_)
    exact kX3_laysTree_14_ok C q FU σ a1 a1 _ _ hP hD hS _ (lv_sub hl [1, 2, 0] rfl) hm
  · have hm := ifp c_30 hm
    refine lv_aload_n hx hb dX3_laysTree_5 rfl (lv_at hl 0 rfl) ?_
    refine va_get (D := D) (ci := 3) (v := .int (gI σ 0 0 5)) (C := RX3) (T := TX3) (N := 20) hx hb hts iwX3_laysTree_X3 hown hK.1 hP 0 mw_0 rfl 5 (by decide) (hts _ lkX3_laysTree_141) (fun _ h9 => h9) rfl dX3_laysTree_6 ?_
    refine lv_goto (tgt := 13) hx hb dX3_laysTree_9 (by decide) ?_
    refine lv_istore_n (lv' := [(2, .int (gI σ 0 0 5)), (0, .ref (ad 0 0)), (1, .int a1)]) hx hb dX3_laysTree_13 rfl hl (by decide) rfl (fun ls hl => ?_)
    exact kX3_laysTree_14_ok C q FU σ a1 (gI σ 0 0 5) _ _ hP hD hS _ (lv_sub hl [1, 2, 0] rfl) hm
abbrev rmX3_delivers : Room := { frames := 0, cells := 0, slots := 0, locals := 0 }
theorem lkX3_delivers_141 : Cond.fieldLink RX3 141 "DeliveryBasketModel" "days" "I" ∈ wsX3_delivers := by decide +kernel
theorem iwX3_delivers_X3 : ∀ w ∈ wsX30, w ∈ wsX3_delivers := fun _ h => List.mem_cons_of_mem _ (List.mem_append_right _ h)
theorem lkX3_delivers_49 : Cond.fieldLink RX3 49 "DeliveryBasketModel" "nows" "[J" ∈ wsX3_delivers := by decide +kernel
theorem lkX3_delivers_52 : Cond.fieldLink RX3 52 "DeliveryBasketModel" "waits" "[J" ∈ wsX3_delivers := by decide +kernel
def mX3_delivers (σ : ST) (a1 : Int32) (a2 : Int32) : Option (Int32) := if a1 = (gI σ 0 0 5) then (some (1 : Int32)) else (gd (inb (((21 : Int32) * a1) + a2) 441) (gd (inb (((21 : Int32) * a1) + a2) 441) (if (lg_cmp (gJ σ 2 0 (Int32.toNatClampNeg (((21 : Int32) * a1) + a2))) (gJ σ 3 0 (Int32.toNatClampNeg (((21 : Int32) * a1) + a2)))) < (0 : Int32) then (some (0 : Int32)) else (some (1 : Int32)))))
set_option maxHeartbeats 4000000 in
set_option maxRecDepth 100000 in
theorem ctX3_delivers (l : Launch) (D : va_G) (cy : Nat → ClassId) (ad : Nat → Nat → Nat) (σ : ST) (a1 : Int32) (a2 : Int32) (q : Int32) (hm : mX3_delivers σ a1 a2 = some q) : zMi l yX3_delivers wsX3_delivers rmX3_delivers D cy [.ref (ad 0 0), .int a1, .int a2] (mw cy ad σ) q (mw cy ad σ) := by
  intro sz
  refine Met.ofW (cc := cX3_delivers) (maxL := 3) (ret := (some .boolean)) (by decide) rfl ?_
  intro p e s m args below meth c s₁ B hml hv
  obtain ⟨rfl, hsz, hP, hK, hD0⟩ := hv
  have hx := B.exec
  have hb := B.bytes
  have hr := B.returns
  have hts := atoms_spec (ws := wsX3_delivers) B.pre
  have hown : s.vm.findClass RX3 = some m.cls := findClass_of_methodNamed B.named
  have hlocks := B.notSynchronized
  subst hsz
  have hD := hD0.self (sz := s.heap.size)
  generalize hAe : va_A (mw cy ad σ) s.heap.size = A at hD ⊢
  have hA : ∀ q : Nat, s.heap.size ≤ q → A q := fun q h => by rw [← hAe]; exact Or.inr h
  have hS : va_S A s.heap s.heap [] := va_S.rf
  have C : Cx p s m _ meth c cX3_delivers 3 (some .boolean) RX3 wsX3_delivers D cy A := ⟨hx, hb, hml, hown, hts, hr, hlocks, hK, hA⟩
  have hl := lv_entry ([.ref (ad 0 0), .int a1, .int a2]) (n := 3) (Nat.le_of_ble_eq_true rfl)
  rw [lg_entry_eq]
  generalize (lg_sl ([.ref (ad 0 0), .int a1, .int a2]) ++ List.replicate (3 - (lg_sl ([.ref (ad 0 0), .int a1, .int a2])).length) Slot.unset).toArray = ls at hl ⊢
  have hl : lv_has ls 3 [(0, .ref (ad 0 0)), (1, .int a1), (2, .int a2)] := hl
  unfold mX3_delivers at hm
  refine lv_iload_n hx hb dX3_delivers_0 rfl (lv_at hl 1 rfl) ?_
  refine lv_aload_n hx hb dX3_delivers_1 rfl (lv_at hl 0 rfl) ?_
  refine va_get (D := D) (ci := 3) (v := .int (gI σ 0 0 5)) (C := RX3) (T := TX3) (N := 20) hx hb hts iwX3_delivers_X3 hown hK.1 hP 0 mw_0 rfl 5 (by decide) (hts _ lkX3_delivers_141) (fun _ h9 => h9) rfl dX3_delivers_2 ?_
  refine lv_icmp_eq (tgt := 34) hx hb dX3_delivers_5 (by decide) (fun c_1 => ?_) (fun c_1 => ?_)
  · have hm := ifp c_1 hm
    refine lv_iconst (v := 1) hx hb dX3_delivers_34 (by decide) ?_
    refine lv_goto (tgt := 39) hx hb dX3_delivers_35 (by decide) ?_
    exact z_pz hx hb hr hlocks (by decide) hm hP hD hS dX3_delivers_39
  · have hm := ifn c_1 hm
    refine lv_aload_n hx hb dX3_delivers_8 rfl (lv_at hl 0 rfl) ?_
    refine va_get (D := D) (ci := 3) (v := .ref (ad 5 0)) (C := RX3) (T := TX3) (N := 20) hx hb hts iwX3_delivers_X3 hown hK.1 hP 0 mw_0 rfl 16 (by decide) (hts _ lkX3_delivers_49) (fun _ h9 => h9) rfl dX3_delivers_9 ?_
    refine lv_bipush (v := 21) hx hb dX3_delivers_12 (by decide) ?_
    refine lv_iload_n hx hb dX3_delivers_14 rfl (lv_at hl 1 rfl) ?_
    refine lv_imul hx hb dX3_delivers_15 ?_
    refine lv_iload_n hx hb dX3_delivers_16 rfl (lv_at hl 2 rfl) ?_
    refine lv_iadd hx hb dX3_delivers_17 ?_
    obtain ⟨h_2, hm⟩ := gd_some hm
    refine va_lald hx hb hK.1 hP 5 1 mw_5 rfl (inb_vp h_2) dX3_delivers_18 ?_
    refine lv_aload_n hx hb dX3_delivers_19 rfl (lv_at hl 0 rfl) ?_
    refine va_get (D := D) (ci := 3) (v := .ref (ad 6 0)) (C := RX3) (T := TX3) (N := 20) hx hb hts iwX3_delivers_X3 hown hK.1 hP 0 mw_0 rfl 17 (by decide) (hts _ lkX3_delivers_52) (fun _ h9 => h9) rfl dX3_delivers_20 ?_
    refine lv_bipush (v := 21) hx hb dX3_delivers_23 (by decide) ?_
    refine lv_iload_n hx hb dX3_delivers_25 rfl (lv_at hl 1 rfl) ?_
    refine lv_imul hx hb dX3_delivers_26 ?_
    refine lv_iload_n hx hb dX3_delivers_27 rfl (lv_at hl 2 rfl) ?_
    refine lv_iadd hx hb dX3_delivers_28 ?_
    obtain ⟨h_3, hm⟩ := gd_some hm
    refine va_lald hx hb hK.1 hP 6 1 mw_6 rfl (inb_vp h_3) dX3_delivers_29 ?_
    refine W.lcmp hx hb dX3_delivers_30 ?_
    refine lv_if_lt (tgt := 38) hx hb dX3_delivers_31 (by decide) (fun c_4 => ?_) (fun c_4 => ?_)
    · have hm := ifp c_4 hm
      refine lv_iconst (v := 0) hx hb dX3_delivers_38 (by decide) ?_
      exact z_pz hx hb hr hlocks (by decide) hm hP hD hS dX3_delivers_39
    · have hm := ifn c_4 hm
      refine lv_iconst (v := 1) hx hb dX3_delivers_34 (by decide) ?_
      refine lv_goto (tgt := 39) hx hb dX3_delivers_35 (by decide) ?_
      exact z_pz hx hb hr hlocks (by decide) hm hP hD hS dX3_delivers_39
abbrev rmX3_value : Room := { frames := 9, cells := 0, slots := 0, locals := 211 }
theorem lkX3_value_61 : Cond.fieldLink RX3 61 "DeliveryBasketModel" "thrown" "I" ∈ wsX3_value := by decide +kernel
theorem iwX3_value_X3 : ∀ w ∈ wsX30, w ∈ wsX3_value := fun _ h => List.mem_cons_of_mem _ (List.mem_append_right _ h)
theorem lkX3_value_46 : Cond.fieldLink RX3 46 "DeliveryBasketModel" "value" "[J" ∈ wsX3_value := by decide +kernel
def mX3_value (σ : ST) (a1 : Int32) (a2 : Int32) : Option (Int64 × ST) := sv (sI σ 0 0 10 (0 : Int32)) fun σ_1 => (mX3_isNode σ_1 a1 a2).bind fun q_2 => if q_2 = (0 : Int32) then ((mX3_refuse σ_1).bind fun q_4 => some ((Int32.toInt64 q_4.1), q_4.2)) else ((mX3_isAny σ_1).bind fun q_5 => if q_5 = (0 : Int32) then ((mX3_refuse σ_1).bind fun q_9 => some ((Int32.toInt64 q_9.1), q_9.2)) else ((mX3_laysTree σ_1 (-1 : Int32)).bind fun q_7 => gd (inb (((21 : Int32) * a1) + a2) 441) (some ((gJ q_7 1 0 (Int32.toNatClampNeg (((21 : Int32) * a1) + a2))), q_7))))
set_option maxHeartbeats 4000000 in
set_option maxRecDepth 100000 in
theorem ctX3_value (l : Launch) (D : va_G) (cy : Nat → ClassId) (ad : Nat → Nat → Nat) (σ : ST) (a1 : Int32) (a2 : Int32) (q : Int64 × ST) (hm : mX3_value σ a1 a2 = some q) : zMl l yX3_value wsX3_value rmX3_value D cy [.ref (ad 0 0), .int a1, .int a2] (mw cy ad σ) q.1 (mw cy ad q.2) := by
  intro sz
  refine Met.ofW (cc := cX3_value) (maxL := 3) (ret := (some .long)) (by decide) rfl ?_
  intro p e s m args below meth c s₁ B hml hv
  obtain ⟨rfl, hsz, hP, hK, hD0⟩ := hv
  have hx := B.exec
  have hb := B.bytes
  have hr := B.returns
  have hts := atoms_spec (ws := wsX3_value) B.pre
  have hown : s.vm.findClass RX3 = some m.cls := findClass_of_methodNamed B.named
  have hlocks := B.notSynchronized
  subst hsz
  have hD := hD0.self (sz := s.heap.size)
  generalize hAe : va_A (mw cy ad σ) s.heap.size = A at hD ⊢
  have hA : ∀ q : Nat, s.heap.size ≤ q → A q := fun q h => by rw [← hAe]; exact Or.inr h
  have hS : va_S A s.heap s.heap [] := va_S.rf
  have C : Cx p s m _ meth c cX3_value 3 (some .long) RX3 wsX3_value D cy A := ⟨hx, hb, hml, hown, hts, hr, hlocks, hK, hA⟩
  have hl := lv_entry ([.ref (ad 0 0), .int a1, .int a2]) (n := 3) (Nat.le_of_ble_eq_true rfl)
  rw [lg_entry_eq]
  generalize (lg_sl ([.ref (ad 0 0), .int a1, .int a2]) ++ List.replicate (3 - (lg_sl ([.ref (ad 0 0), .int a1, .int a2])).length) Slot.unset).toArray = ls at hl ⊢
  have hl : lv_has ls 3 [(0, .ref (ad 0 0)), (1, .int a1), (2, .int a2)] := hl
  unfold mX3_value at hm
  refine lv_aload_n hx hb dX3_value_0 rfl (lv_at hl 0 rfl) ?_
  refine lv_iconst (v := 0) hx hb dX3_value_1 (by decide) ?_
  refine va_put (D := D) (ci := 3) (v := .int (0 : Int32)) (ty := .int) (C := RX3) (T := TX3) (N := 20) hx hb hts iwX3_value_X3 tyX3 tyX3_ok nmX3 hown hK.1 hP hD hS 0 mw_0 rfl 10 (by decide) (hts _ lkX3_value_61) (fun _ h9 => h9) rfl (by decide +kernel) rfl rfl (Nat.le_of_ble_eq_true rfl) dX3_value_2 (fun H locs hP hD hS => ?_)
  have hP := eP (mw_s0 (σ := σ) (j := 10) (v := (0 : Int32)) (by rfl)) hP
  have hD := eD (mw_s0 (σ := σ) (j := 10) (v := (0 : Int32)) (by rfl)) hD
  obtain ⟨σ_1, e_1, hm⟩ := sv_some hm
  have hP : va_P D vwCl (mw cy ad σ_1) H := by rw [e_1]; exact hP
  have hD : va_D A (mw cy ad σ_1) := by rw [e_1]; exact hD
  refine lv_aload_n hx hb dX3_value_5 rfl (lv_at hl 0 rfl) ?_
  refine lv_iload_n hx hb dX3_value_6 rfl (lv_at hl 1 rfl) ?_
  refine lv_iload_n hx hb dX3_value_7 rfl (lv_at hl 2 rfl) ?_
  obtain ⟨q_2, hq_2, hm⟩ := ob hm
  refine zc_i (zr_V [.int a1, .int a2] [] ⟨hx, hb, hml, hown, hts⟩ (ctX3_isNode l D cy ad σ_1  a1 a2 q_2 hq_2 _) (cwV 2 hts gX3_value_X3_isNode rfl rfl rfl (by decide +kernel) ⟨Nat.le_of_ble_eq_true rfl, Nat.le_of_ble_eq_true rfl⟩) hK hP hD 0 mw_0 rfl rfl rfl hl.1 rfl (Nat.le_of_ble_eq_true rfl) dX3_value_8 ⟨Nat.zero_le _, Nat.zero_le _⟩) hD hS hA (fun H locs hP hD hS => ?_)
  refine lv_if_eq (tgt := 21) hx hb dX3_value_11 (by decide) (fun c_3 => ?_) (fun c_3 => ?_)
  · have hm := ifp c_3 hm
    refine lv_aload_n hx hb dX3_value_21 rfl (lv_at hl 0 rfl) ?_
    obtain ⟨q_4, hq_4, hm⟩ := ob hm
    refine zc_i (zr_V [] [] ⟨hx, hb, hml, hown, hts⟩ (ctX3_refuse l D cy ad σ_1   q_4 hq_4 _) (cwV 0 hts gX3_value_X3_refuse rfl rfl rfl (by decide +kernel) ⟨Nat.le_of_ble_eq_true rfl, Nat.le_of_ble_eq_true rfl⟩) hK hP hD 0 mw_0 rfl rfl rfl hl.1 rfl (Nat.le_of_ble_eq_true rfl) dX3_value_22 ⟨Nat.zero_le _, Nat.zero_le _⟩) hD hS hA (fun H locs hP hD hS => ?_)
    refine lv_i2l hx hb dX3_value_25 rfl ?_
    exact z_l hx hb hr hlocks hm hP hD hS dX3_value_26
  · have hm := ifn c_3 hm
    refine lv_aload_n hx hb dX3_value_14 rfl (lv_at hl 0 rfl) ?_
    obtain ⟨q_5, hq_5, hm⟩ := ob hm
    refine zc_i (zr_V [] [] ⟨hx, hb, hml, hown, hts⟩ (ctX3_isAny l D cy ad σ_1   q_5 hq_5 _) (cwV 0 hts gX3_value_X3_isAny rfl rfl rfl (by decide +kernel) ⟨Nat.le_of_ble_eq_true rfl, Nat.le_of_ble_eq_true rfl⟩) hK hP hD 0 mw_0 rfl rfl rfl hl.1 rfl (Nat.le_of_ble_eq_true rfl) dX3_value_15 ⟨Nat.zero_le _, Nat.zero_le _⟩) hD hS hA (fun H locs hP hD hS => ?_)
    refine lv_if_ne (tgt := 27) hx hb dX3_value_18 (by decide) (fun c_6 => ?_) (fun c_6 => ?_)
    · have hm := ifn c_6 hm
      refine lv_aload_n hx hb dX3_value_27 rfl (lv_at hl 0 rfl) ?_
      refine lv_iconst (v := -1) hx hb dX3_value_28 (by decide) ?_
      obtain ⟨q_7, hq_7, hm⟩ := ob hm
      refine zc_v (zr_V [.int (-1 : Int32)] [] ⟨hx, hb, hml, hown, hts⟩ (ctX3_laysTree l D cy ad σ_1  (-1 : Int32) q_7 hq_7 _) (cwV 1 hts gX3_value_X3_laysTree rfl rfl rfl (by decide +kernel) ⟨Nat.le_of_ble_eq_true rfl, Nat.le_of_ble_eq_true rfl⟩) hK hP hD 0 mw_0 rfl rfl rfl hl.1 rfl (Nat.le_of_ble_eq_true rfl) dX3_value_29 ⟨Nat.zero_le _, Nat.zero_le _⟩) hD hS hA (fun H locs hP hD hS => ?_)
      refine lv_aload_n hx hb dX3_value_32 rfl (lv_at hl 0 rfl) ?_
      refine va_get (D := D) (ci := 3) (v := .ref (ad 4 0)) (C := RX3) (T := TX3) (N := 20) hx hb hts iwX3_value_X3 hown hK.1 hP 0 mw_0 rfl 15 (by decide) (hts _ lkX3_value_46) (fun _ h9 => h9) rfl dX3_value_33 ?_
      refine lv_bipush (v := 21) hx hb dX3_value_36 (by decide) ?_
      refine lv_iload_n hx hb dX3_value_38 rfl (lv_at hl 1 rfl) ?_
      refine lv_imul hx hb dX3_value_39 ?_
      refine lv_iload_n hx hb dX3_value_40 rfl (lv_at hl 2 rfl) ?_
      refine lv_iadd hx hb dX3_value_41 ?_
      obtain ⟨h_8, hm⟩ := gd_some hm
      refine va_lald hx hb hK.1 hP 4 1 mw_4 rfl (inb_vp h_8) dX3_value_42 ?_
      exact z_l hx hb hr hlocks hm hP hD hS dX3_value_43
    · have hm := ifp c_6 hm
      refine lv_aload_n hx hb dX3_value_21 rfl (lv_at hl 0 rfl) ?_
      obtain ⟨q_9, hq_9, hm⟩ := ob hm
      refine zc_i (zr_V [] [] ⟨hx, hb, hml, hown, hts⟩ (ctX3_refuse l D cy ad σ_1   q_9 hq_9 _) (cwV 0 hts gX3_value_X3_refuse rfl rfl rfl (by decide +kernel) ⟨Nat.le_of_ble_eq_true rfl, Nat.le_of_ble_eq_true rfl⟩) hK hP hD 0 mw_0 rfl rfl rfl hl.1 rfl (Nat.le_of_ble_eq_true rfl) dX3_value_22 ⟨Nat.zero_le _, Nat.zero_le _⟩) hD hS hA (fun H locs hP hD hS => ?_)
      refine lv_i2l hx hb dX3_value_25 rfl ?_
      exact z_l hx hb hr hlocks hm hP hD hS dX3_value_26

abbrev rmX1_deliverAt : Room := { frames := 1, cells := 0, slots := 0, locals := 22 }
theorem lkX1_deliverAt_24 : Cond.fieldLink RX1 24 "DeliveryBasket$Lattice" "values" "[[J" ∈ wsX1_deliverAt := by decide +kernel
theorem iwX1_deliverAt_X1 : ∀ w ∈ wsX10, w ∈ wsX1_deliverAt := fun _ h => List.mem_cons_of_mem _ (List.mem_append_right _ h)
theorem lkX1_deliverAt_35 : Cond.fieldLink RX1 35 "DeliveryBasket$Lattice" "levelNow" "[J" ∈ wsX1_deliverAt := by decide +kernel
theorem lkX1_deliverAt_29 : Cond.fieldLink RX1 29 "DeliveryBasket$Lattice" "acts" "[[I" ∈ wsX1_deliverAt := by decide +kernel
theorem lkX1_deliverAt_39 : Cond.fieldLink RX1 39 "DeliveryBasket$Lattice" "levelPick" "[I" ∈ wsX1_deliverAt := by decide +kernel
def mX1_deliverAt (σ : ST) (a1 : Int32) (a2 : Int32) : Option (ST) := (mX1_level σ a1 a2).bind fun q_1 => gd (inb a1 21) (gd (inb q_1 41) (gd (inb a2 21) (sv (sJ σ 1 (Int32.toNatClampNeg a1) (Int32.toNatClampNeg a2) (gJ σ 2 0 (Int32.toNatClampNeg q_1))) fun σ_5 => gd (inb a1 21) (gd (inb q_1 41) (gd (inb a2 21) (sv (sI σ_5 6 (Int32.toNatClampNeg a1) (Int32.toNatClampNeg a2) (gI σ_5 8 0 (Int32.toNatClampNeg q_1))) fun σ_9 => some σ_9))))))
set_option maxHeartbeats 4000000 in
set_option maxRecDepth 100000 in
theorem ctX1_deliverAt (l : Launch) (D : va_G) (cy : Nat → ClassId) (ad : Nat → Nat → Nat) (σ : ST) (a1 : Int32) (a2 : Int32) (q : ST) (hm : mX1_deliverAt σ a1 a2 = some q) : zMv l yX1_deliverAt wsX1_deliverAt rmX1_deliverAt D cy [.ref (ad 2 0), .int a1, .int a2] (cw cy ad σ) (cw cy ad q) := by
  intro sz
  refine Met.ofW (cc := cX1_deliverAt) (maxL := 4) (ret := none) (by decide) rfl ?_
  intro p e s m args below meth c s₁ B hml hv
  obtain ⟨rfl, hsz, hP, hK, hD0⟩ := hv
  have hx := B.exec
  have hb := B.bytes
  have hr := B.returns
  have hts := atoms_spec (ws := wsX1_deliverAt) B.pre
  have hown : s.vm.findClass RX1 = some m.cls := findClass_of_methodNamed B.named
  have hlocks := B.notSynchronized
  subst hsz
  have hD := hD0.self (sz := s.heap.size)
  generalize hAe : va_A (cw cy ad σ) s.heap.size = A at hD ⊢
  have hA : ∀ q : Nat, s.heap.size ≤ q → A q := fun q h => by rw [← hAe]; exact Or.inr h
  have hS : va_S A s.heap s.heap [] := va_S.rf
  have C : Cx p s m _ meth c cX1_deliverAt 4 none RX1 wsX1_deliverAt D cy A := ⟨hx, hb, hml, hown, hts, hr, hlocks, hK, hA⟩
  have hl := lv_entry ([.ref (ad 2 0), .int a1, .int a2]) (n := 4) (Nat.le_of_ble_eq_true rfl)
  rw [lg_entry_eq]
  generalize (lg_sl ([.ref (ad 2 0), .int a1, .int a2]) ++ List.replicate (4 - (lg_sl ([.ref (ad 2 0), .int a1, .int a2])).length) Slot.unset).toArray = ls at hl ⊢
  have hl : lv_has ls 4 [(0, .ref (ad 2 0)), (1, .int a1), (2, .int a2)] := hl
  unfold mX1_deliverAt at hm
  refine lv_aload_n hx hb dX1_deliverAt_0 rfl (lv_at hl 0 rfl) ?_
  refine lv_iload_n hx hb dX1_deliverAt_1 rfl (lv_at hl 1 rfl) ?_
  refine lv_iload_n hx hb dX1_deliverAt_2 rfl (lv_at hl 2 rfl) ?_
  obtain ⟨q_1, hq_1, hm⟩ := ob hm
  refine zc_i (zr_V [.int a1, .int a2] [] ⟨hx, hb, hml, hown, hts⟩ (ctX1_level l D cy ad σ  a1 a2 q_1 hq_1 _) (cwV 2 hts gX1_deliverAt_X1_level rfl rfl rfl (by decide +kernel) ⟨Nat.le_of_ble_eq_true rfl, Nat.le_of_ble_eq_true rfl⟩) hK hP hD 2 cw_2 rfl rfl rfl hl.1 rfl (Nat.le_of_ble_eq_true rfl) dX1_deliverAt_3 ⟨Nat.zero_le _, Nat.zero_le _⟩) hD hS hA (fun H locs hP hD hS => ?_)
  refine lv_istore_n (lv' := [(3, .int q_1), (0, .ref (ad 2 0)), (1, .int a1), (2, .int a2)]) hx hb dX1_deliverAt_6 rfl hl (by decide) rfl (fun ls hl => ?_)
  refine lv_aload_n hx hb dX1_deliverAt_7 rfl (lv_at hl 1 rfl) ?_
  refine va_get (D := D) (ci := 1) (v := .ref (ad 6 0)) (C := RX1) (T := TX1) (N := 12) hx hb hts iwX1_deliverAt_X1 hown hK.1 hP 2 cw_2 rfl 5 (by decide) (hts _ lkX1_deliverAt_24) (fun _ h9 => h9) rfl dX1_deliverAt_8 ?_
  refine lv_iload_n hx hb dX1_deliverAt_11 rfl (lv_at hl 2 rfl) ?_
  obtain ⟨h_2, hm⟩ := gd_some hm
  refine z_ald (f := fun i => ad 15 i) hx hb hK.1 hP 6 4 cw_6 rfl rfl (inb_vp h_2) dX1_deliverAt_12 ?_
  refine lv_iload_n hx hb dX1_deliverAt_13 rfl (lv_at hl 3 rfl) ?_
  refine lv_aload_n hx hb dX1_deliverAt_14 rfl (lv_at hl 1 rfl) ?_
  refine va_get (D := D) (ci := 1) (v := .ref (ad 9 0)) (C := RX1) (T := TX1) (N := 12) hx hb hts iwX1_deliverAt_X1 hown hK.1 hP 2 cw_2 rfl 8 (by decide) (hts _ lkX1_deliverAt_35) (fun _ h9 => h9) rfl dX1_deliverAt_15 ?_
  refine lv_iload_n hx hb dX1_deliverAt_18 rfl (lv_at hl 0 rfl) ?_
  obtain ⟨h_3, hm⟩ := gd_some hm
  refine va_lald hx hb hK.1 hP 9 1 cw_9 rfl (inb_vp h_3) dX1_deliverAt_19 ?_
  obtain ⟨h_4, hm⟩ := gd_some hm
  refine va_last hx hb hK.1 hP hD hS (13 + (8 + (8 + (Int32.toNatClampNeg a1)))) 1 (cw_15 (inb_lt h_2)) rfl (inb_vp h_4) dX1_deliverAt_20 (fun H locs hP hD hS => ?_)
  have hP := eP (cw_s15 (k := (Int32.toNatClampNeg a1)) (inb_lt h_2)) hP
  have hD := eD (cw_s15 (k := (Int32.toNatClampNeg a1)) (inb_lt h_2)) hD
  obtain ⟨σ_5, e_5, hm⟩ := sv_some hm
  have hP : va_P D vwCl (cw cy ad σ_5) H := by rw [e_5]; exact hP
  have hD : va_D A (cw cy ad σ_5) := by rw [e_5]; exact hD
  refine lv_aload_n hx hb dX1_deliverAt_21 rfl (lv_at hl 1 rfl) ?_
  refine va_get (D := D) (ci := 1) (v := .ref (ad 7 0)) (C := RX1) (T := TX1) (N := 12) hx hb hts iwX1_deliverAt_X1 hown hK.1 hP 2 cw_2 rfl 6 (by decide) (hts _ lkX1_deliverAt_29) (fun _ h9 => h9) rfl dX1_deliverAt_22 ?_
  refine lv_iload_n hx hb dX1_deliverAt_25 rfl (lv_at hl 2 rfl) ?_
  obtain ⟨h_6, hm⟩ := gd_some hm
  refine z_ald (f := fun i => ad 16 i) hx hb hK.1 hP 7 3 cw_7 rfl rfl (inb_vp h_6) dX1_deliverAt_26 ?_
  refine lv_iload_n hx hb dX1_deliverAt_27 rfl (lv_at hl 3 rfl) ?_
  refine lv_aload_n hx hb dX1_deliverAt_28 rfl (lv_at hl 1 rfl) ?_
  refine va_get (D := D) (ci := 1) (v := .ref (ad 10 0)) (C := RX1) (T := TX1) (N := 12) hx hb hts iwX1_deliverAt_X1 hown hK.1 hP 2 cw_2 rfl 9 (by decide) (hts _ lkX1_deliverAt_39) (fun _ h9 => h9) rfl dX1_deliverAt_29 ?_
  refine lv_iload_n hx hb dX1_deliverAt_32 rfl (lv_at hl 0 rfl) ?_
  obtain ⟨h_7, hm⟩ := gd_some hm
  refine va_iald hx hb hK.1 hP 10 0 cw_10 rfl (inb_vp h_7) dX1_deliverAt_33 ?_
  obtain ⟨h_8, hm⟩ := gd_some hm
  refine va_iast hx hb hK.1 hP hD hS (13 + (8 + (8 + (21 + (Int32.toNatClampNeg a1))))) 0 (cw_16 (inb_lt h_6)) rfl (inb_vp h_8) dX1_deliverAt_34 (fun H locs hP hD hS => ?_)
  have hP := eP (cw_s16 (k := (Int32.toNatClampNeg a1)) (inb_lt h_6)) hP
  have hD := eD (cw_s16 (k := (Int32.toNatClampNeg a1)) (inb_lt h_6)) hD
  obtain ⟨σ_9, e_9, hm⟩ := sv_some hm
  have hP : va_P D vwCl (cw cy ad σ_9) H := by rw [e_9]; exact hP
  have hD : va_D A (cw cy ad σ_9) := by rw [e_9]; exact hD
  exact z_v hx hb hr hlocks hm hP hD hS dX1_deliverAt_35
abbrev rmX1_rollBack : Room := { frames := 2, cells := 0, slots := 0, locals := 45 }
theorem lkX1_rollBack_24 : Cond.fieldLink RX1 24 "DeliveryBasket$Lattice" "values" "[[J" ∈ wsX1_rollBack := by decide +kernel
theorem iwX1_rollBack_X1 : ∀ w ∈ wsX10, w ∈ wsX1_rollBack := fun _ h => List.mem_cons_of_mem _ (List.mem_append_right _ h)
theorem lkX1_rollBack_29 : Cond.fieldLink RX1 29 "DeliveryBasket$Lattice" "acts" "[[I" ∈ wsX1_rollBack := by decide +kernel
theorem lkX1_rollBack_96 : Cond.constantLong RX1 96 (2) ∈ wsX1_rollBack := by decide +kernel
theorem lkX1_rollBack_52 : Cond.fieldLink RX1 52 "DeliveryBasket$Lattice" "carry" "I" ∈ wsX1_rollBack := by decide +kernel
theorem lkX1_rollBack_35 : Cond.fieldLink RX1 35 "DeliveryBasket$Lattice" "levelNow" "[J" ∈ wsX1_rollBack := by decide +kernel
def bkX1_rollBack_107 (rc30 : ST × Int32 × Int32 × Int32 → Option (Int64 × ST)) (σ : ST) (x2 : Int32) (x3 : Int32) (x4 : Int32) (x5 : Int64) : Option (Int64 × ST) := gd (inb x3 21) (gd (inb x4 21) (sv (sJ σ 1 (Int32.toNatClampNeg x3) (Int32.toNatClampNeg x4) x5) fun σ_3 => gd (inb x3 21) (gd (inb x4 21) (sv (sI σ_3 6 (Int32.toNatClampNeg x3) (Int32.toNatClampNeg x4) (-2 : Int32)) fun σ_6 => rc30 (σ_6, x2, x3, (x4 + (1 : Int32)))))))
def kX1_rollBack_107 (rc30 : ST × Int32 × Int32 × Int32 → Option (Int64 × ST)) (a : ST × Int32 × Int32 × Int32 × Int64) : Option (Int64 × ST) := bkX1_rollBack_107 rc30 a.1 a.2.1 a.2.2.1 a.2.2.2.1 a.2.2.2.2
set_option maxHeartbeats 4000000 in
set_option maxRecDepth 100000 in
theorem kX1_rollBack_107_ok {p : Program} {l : Launch} {e : Env} {s : State} {m : MethodId} {args : Array Value} {below : List Frame} {meth : Method} {c : Code} {D : va_G} {cy : Nat → ClassId} {ad : Nat → Nat → Nat} {A : Nat → Prop} (C : Cx p s m args meth c cX1_rollBack 7 (some .long) RX1 wsX1_rollBack D cy A) (q : Int64 × ST) {rc30 : ST × Int32 × Int32 × Int32 → Option (Int64 × ST)} (hr30 : ∀ (σ : ST) (x2 : Int32) (x3 : Int32) (x4 : Int32), ∀ (H : Heap) (locs : List Loc), va_P D vwCl (cw cy ad σ) H → va_D A (cw cy ad σ) → va_S A s.heap H locs → ∀ ls : Array Slot, lv_has ls 7 [(0, .ref (ad 2 0)), (2, .int x2), (3, .int x3), (4, .int x4)] → rc30 (σ, x2, x3, x4) = some q → W p l e rmX1_rollBack s m args below meth c H locs 0 0 (MQ below (zQl D (cw cy ad q.2) A q.1) args s 0 0 A) (F0 m 30 ls [])) : ∀ (σ : ST) (x2 : Int32) (x3 : Int32) (x4 : Int32) (x5 : Int64), ∀ (H : Heap) (locs : List Loc), va_P D vwCl (cw cy ad σ) H → va_D A (cw cy ad σ) → va_S A s.heap H locs → ∀ ls : Array Slot, lv_has ls 7 [(0, .ref (ad 2 0)), (2, .int x2), (3, .int x3), (4, .int x4), (5, .long x5)] → kX1_rollBack_107 rc30 (σ, x2, x3, x4, x5) = some q → W p l e rmX1_rollBack s m args below meth c H locs 0 0 (MQ below (zQl D (cw cy ad q.2) A q.1) args s 0 0 A) (F0 m 107 ls []) := by
  obtain ⟨hx, hb, hml, hown, hts, hr, hlocks, hK, hA⟩ := id C
  intro σ x2 x3 x4 x5 H locs hP hD hS ls hl hm
  have hm : bkX1_rollBack_107 rc30 σ x2 x3 x4 x5 = some q := hm
  unfold bkX1_rollBack_107 at hm
  refine lv_aload_n hx hb dX1_rollBack_107 rfl (lv_at hl 0 rfl) ?_
  refine va_get (D := D) (ci := 1) (v := .ref (ad 6 0)) (C := RX1) (T := TX1) (N := 12) hx hb hts iwX1_rollBack_X1 hown hK.1 hP 2 cw_2 rfl 5 (by decide) (hts _ lkX1_rollBack_24) (fun _ h9 => h9) rfl dX1_rollBack_108 ?_
  refine lv_iload_n hx hb dX1_rollBack_111 rfl (lv_at hl 2 rfl) ?_
  obtain ⟨h_1, hm⟩ := gd_some hm
  refine z_ald (f := fun i => ad 15 i) hx hb hK.1 hP 6 4 cw_6 rfl rfl (inb_vp h_1) dX1_rollBack_112 ?_
  refine lv_iload hx hb dX1_rollBack_113 (lv_at hl 3 rfl) ?_
  refine lv_lload hx hb dX1_rollBack_115 (lv_at hl 4 rfl) ?_
  obtain ⟨h_2, hm⟩ := gd_some hm
  refine va_last hx hb hK.1 hP hD hS (13 + (8 + (8 + (Int32.toNatClampNeg x3)))) 1 (cw_15 (inb_lt h_1)) rfl (inb_vp h_2) dX1_rollBack_117 (fun H locs hP hD hS => ?_)
  have hP := eP (cw_s15 (k := (Int32.toNatClampNeg x3)) (inb_lt h_1)) hP
  have hD := eD (cw_s15 (k := (Int32.toNatClampNeg x3)) (inb_lt h_1)) hD
  obtain ⟨σ_3, e_3, hm⟩ := sv_some hm
  have hP : va_P D vwCl (cw cy ad σ_3) H := by rw [e_3]; exact hP
  have hD : va_D A (cw cy ad σ_3) := by rw [e_3]; exact hD
  refine lv_aload_n hx hb dX1_rollBack_118 rfl (lv_at hl 0 rfl) ?_
  refine va_get (D := D) (ci := 1) (v := .ref (ad 7 0)) (C := RX1) (T := TX1) (N := 12) hx hb hts iwX1_rollBack_X1 hown hK.1 hP 2 cw_2 rfl 6 (by decide) (hts _ lkX1_rollBack_29) (fun _ h9 => h9) rfl dX1_rollBack_119 ?_
  refine lv_iload_n hx hb dX1_rollBack_122 rfl (lv_at hl 2 rfl) ?_
  obtain ⟨h_4, hm⟩ := gd_some hm
  refine z_ald (f := fun i => ad 16 i) hx hb hK.1 hP 7 3 cw_7 rfl rfl (inb_vp h_4) dX1_rollBack_123 ?_
  refine lv_iload hx hb dX1_rollBack_124 (lv_at hl 3 rfl) ?_
  refine lv_bipush (v := -2) hx hb dX1_rollBack_126 (by decide) ?_
  obtain ⟨h_5, hm⟩ := gd_some hm
  refine va_iast hx hb hK.1 hP hD hS (13 + (8 + (8 + (21 + (Int32.toNatClampNeg x3))))) 0 (cw_16 (inb_lt h_4)) rfl (inb_vp h_5) dX1_rollBack_128 (fun H locs hP hD hS => ?_)
  have hP := eP (cw_s16 (k := (Int32.toNatClampNeg x3)) (inb_lt h_4)) hP
  have hD := eD (cw_s16 (k := (Int32.toNatClampNeg x3)) (inb_lt h_4)) hD
  obtain ⟨σ_6, e_6, hm⟩ := sv_some hm
  have hP : va_P D vwCl (cw cy ad σ_6) H := by rw [e_6]; exact hP
  have hD : va_D A (cw cy ad σ_6) := by rw [e_6]; exact hD
  refine lv_iinc (v := (x4 + (1 : Int32))) (lv' := [(4, .int (x4 + (1 : Int32))), (0, .ref (ad 2 0)), (2, .int x2), (3, .int x3), (5, .long x5)]) hx hb dX1_rollBack_129 hl (k := 3) rfl rfl (by decide) rfl (fun ls hl => ?_)
  refine lv_goto (tgt := 30) hx hb dX1_rollBack_132 (by decide) ?_
  exact hr30 σ_6 x2 x3 (x4 + (1 : Int32)) _ _ hP hD hS _ (lv_sub hl [1, 2, 3, 0] rfl) hm
def bkX1_rollBack_30 (rc23 : ST × Int32 × Int32 → Option (Int64 × ST)) (rec : ST × Int32 × Int32 × Int32 → Option (Int64 × ST)) (σ : ST) (x2 : Int32) (x3 : Int32) (x4 : Int32) : Option (Int64 × ST) := if x3 < x4 then (rc23 (σ, x2, (x3 + (-1 : Int32)))) else (gd (inb (x3 + (1 : Int32)) 21) (gd (inb x4 21) (gd (inb (x3 + (1 : Int32)) 21) (gd (inb (x4 + (1 : Int32)) 21) ((mJ9_floorDiv_f86c9 ((gJ σ 1 (Int32.toNatClampNeg (x3 + (1 : Int32))) (Int32.toNatClampNeg x4)) + (gJ σ 1 (Int32.toNatClampNeg (x3 + (1 : Int32))) (Int32.toNatClampNeg (x4 + (1 : Int32))))) (2 : Int64)).bind fun q_12 => if x2 = (0 : Int32) then (kX1_rollBack_107 rec (σ, x2, x3, x4, (q_12 - (Int32.toInt64 (gI σ 1 0 3))))) else ((mX1_level σ x3 x4).bind fun q_14 => gd (inb q_14 41) (if (lg_cmp (gJ σ 2 0 (Int32.toNatClampNeg q_14)) (q_12 - (Int32.toInt64 (gI σ 1 0 3)))) < (0 : Int32) then (kX1_rollBack_107 rec (σ, x2, x3, x4, (q_12 - (Int32.toInt64 (gI σ 1 0 3))))) else ((mX1_deliverAt σ x3 x4).bind fun q_17 => rec (q_17, x2, x3, (x4 + (1 : Int32)))))))))))
def kX1_rollBack_30 (rc23 : ST × Int32 × Int32 → Option (Int64 × ST)) (n : Nat) (a : ST × Int32 × Int32 × Int32) : Option (Int64 × ST) := fx (fun rec a => bkX1_rollBack_30 rc23 rec a.1 a.2.1 a.2.2.1 a.2.2.2) n a
set_option maxHeartbeats 4000000 in
set_option maxRecDepth 100000 in
theorem kX1_rollBack_30_ok {p : Program} {l : Launch} {e : Env} {s : State} {m : MethodId} {args : Array Value} {below : List Frame} {meth : Method} {c : Code} {D : va_G} {cy : Nat → ClassId} {ad : Nat → Nat → Nat} {A : Nat → Prop} (C : Cx p s m args meth c cX1_rollBack 7 (some .long) RX1 wsX1_rollBack D cy A) (q : Int64 × ST) {rc23 : ST × Int32 × Int32 → Option (Int64 × ST)} (hr23 : ∀ (σ : ST) (x2 : Int32) (x3 : Int32), ∀ (H : Heap) (locs : List Loc), va_P D vwCl (cw cy ad σ) H → va_D A (cw cy ad σ) → va_S A s.heap H locs → ∀ ls : Array Slot, lv_has ls 7 [(0, .ref (ad 2 0)), (2, .int x2), (3, .int x3)] → rc23 (σ, x2, x3) = some q → W p l e rmX1_rollBack s m args below meth c H locs 0 0 (MQ below (zQl D (cw cy ad q.2) A q.1) args s 0 0 A) (F0 m 23 ls [])) : ∀ (n : Nat) (σ : ST) (x2 : Int32) (x3 : Int32) (x4 : Int32), ∀ (H : Heap) (locs : List Loc), va_P D vwCl (cw cy ad σ) H → va_D A (cw cy ad σ) → va_S A s.heap H locs → ∀ ls : Array Slot, lv_has ls 7 [(0, .ref (ad 2 0)), (2, .int x2), (3, .int x3), (4, .int x4)] → kX1_rollBack_30 rc23 n (σ, x2, x3, x4) = some q → W p l e rmX1_rollBack s m args below meth c H locs 0 0 (MQ below (zQl D (cw cy ad q.2) A q.1) args s 0 0 A) (F0 m 30 ls []) := by
  obtain ⟨hx, hb, hml, hown, hts, hr, hlocks, hK, hA⟩ := id C
  intro n
  induction n with
  | zero => intro σ x2 x3 x4 H locs hP hD hS ls hl hm; cases hm
  | succ n ih =>
    intro σ x2 x3 x4 H locs hP hD hS ls hl hm
    have hm : bkX1_rollBack_30 rc23 (kX1_rollBack_30 rc23 n) σ x2 x3 x4 = some q := hm
    unfold bkX1_rollBack_30 at hm
    refine lv_iload hx hb dX1_rollBack_30 (lv_at hl 3 rfl) ?_
    refine lv_iload_n hx hb dX1_rollBack_32 rfl (lv_at hl 2 rfl) ?_
    refine lv_icmp_gt (tgt := 135) hx hb dX1_rollBack_33 (by decide) (fun c_7 => ?_) (fun c_7 => ?_)
    · have hm := ifp c_7 hm
      refine lv_iinc (v := (x3 + (-1 : Int32))) (lv' := [(3, .int (x3 + (-1 : Int32))), (0, .ref (ad 2 0)), (2, .int x2), (4, .int x4)]) hx hb dX1_rollBack_135 hl (k := 2) rfl rfl (by decide) rfl (fun ls hl => ?_)
      refine lv_goto (tgt := 23) hx hb dX1_rollBack_138 (by decide) ?_
      exact hr23 σ x2 (x3 + (-1 : Int32)) _ _ hP hD hS _ (lv_sub hl [1, 2, 0] rfl) hm
    · have hm := ifn c_7 hm
      refine lv_aload_n hx hb dX1_rollBack_36 rfl (lv_at hl 0 rfl) ?_
      refine va_get (D := D) (ci := 1) (v := .ref (ad 6 0)) (C := RX1) (T := TX1) (N := 12) hx hb hts iwX1_rollBack_X1 hown hK.1 hP 2 cw_2 rfl 5 (by decide) (hts _ lkX1_rollBack_24) (fun _ h9 => h9) rfl dX1_rollBack_37 ?_
      refine lv_iload_n hx hb dX1_rollBack_40 rfl (lv_at hl 2 rfl) ?_
      refine lv_iconst (v := 1) hx hb dX1_rollBack_41 (by decide) ?_
      refine lv_iadd hx hb dX1_rollBack_42 ?_
      obtain ⟨h_8, hm⟩ := gd_some hm
      refine z_ald (f := fun i => ad 15 i) hx hb hK.1 hP 6 4 cw_6 rfl rfl (inb_vp h_8) dX1_rollBack_43 ?_
      refine lv_iload hx hb dX1_rollBack_44 (lv_at hl 3 rfl) ?_
      obtain ⟨h_9, hm⟩ := gd_some hm
      refine va_lald hx hb hK.1 hP (13 + (8 + (8 + (Int32.toNatClampNeg (x3 + (1 : Int32)))))) 1 (cw_15 (inb_lt h_8)) rfl (inb_vp h_9) dX1_rollBack_46 ?_
      refine lv_aload_n hx hb dX1_rollBack_47 rfl (lv_at hl 0 rfl) ?_
      refine va_get (D := D) (ci := 1) (v := .ref (ad 6 0)) (C := RX1) (T := TX1) (N := 12) hx hb hts iwX1_rollBack_X1 hown hK.1 hP 2 cw_2 rfl 5 (by decide) (hts _ lkX1_rollBack_24) (fun _ h9 => h9) rfl dX1_rollBack_48 ?_
      refine lv_iload_n hx hb dX1_rollBack_51 rfl (lv_at hl 2 rfl) ?_
      refine lv_iconst (v := 1) hx hb dX1_rollBack_52 (by decide) ?_
      refine lv_iadd hx hb dX1_rollBack_53 ?_
      obtain ⟨h_10, hm⟩ := gd_some hm
      refine z_ald (f := fun i => ad 15 i) hx hb hK.1 hP 6 4 cw_6 rfl rfl (inb_vp h_10) dX1_rollBack_54 ?_
      refine lv_iload hx hb dX1_rollBack_55 (lv_at hl 3 rfl) ?_
      refine lv_iconst (v := 1) hx hb dX1_rollBack_57 (by decide) ?_
      refine lv_iadd hx hb dX1_rollBack_58 ?_
      obtain ⟨h_11, hm⟩ := gd_some hm
      refine va_lald hx hb hK.1 hP (13 + (8 + (8 + (Int32.toNatClampNeg (x3 + (1 : Int32)))))) 1 (cw_15 (inb_lt h_10)) rfl (inb_vp h_11) dX1_rollBack_59 ?_
      refine lv_ladd hx hb dX1_rollBack_60 ?_
      refine lv_ldc2 (v := 2) hx hb hown (hts _ lkX1_rollBack_96) dX1_rollBack_61 ?_
      obtain ⟨q_12, hq_12, hm⟩ := ob hm
      refine zc_l (zr_S [.long ((gJ σ 1 (Int32.toNatClampNeg (x3 + (1 : Int32))) (Int32.toNatClampNeg x4)) + (gJ σ 1 (Int32.toNatClampNeg (x3 + (1 : Int32))) (Int32.toNatClampNeg (x4 + (1 : Int32))))), .long (2 : Int64)] [] ⟨hx, hb, hml, hown, hts⟩ (ctJ9_floorDiv_f86c9 l D cy (cw cy ad σ)  ((gJ σ 1 (Int32.toNatClampNeg (x3 + (1 : Int32))) (Int32.toNatClampNeg x4)) + (gJ σ 1 (Int32.toNatClampNeg (x3 + (1 : Int32))) (Int32.toNatClampNeg (x4 + (1 : Int32))))) (2 : Int64) q_12 hq_12 _) (va_cwS 2 hts gX1_rollBack_J9_floorDiv_f86c9 rfl rfl rfl (by decide +kernel) ⟨Nat.le_of_ble_eq_true rfl, Nat.le_of_ble_eq_true rfl⟩) hK hP hD rfl hl.1 rfl (Nat.le_of_ble_eq_true rfl) dX1_rollBack_64 ⟨Nat.zero_le _, Nat.zero_le _⟩) hD hS hA (fun H locs hP hD hS => ?_)
      refine lv_aload_n hx hb dX1_rollBack_67 rfl (lv_at hl 0 rfl) ?_
      refine va_get (D := D) (ci := 1) (v := .int (gI σ 1 0 3)) (C := RX1) (T := TX1) (N := 12) hx hb hts iwX1_rollBack_X1 hown hK.1 hP 2 cw_2 rfl 3 (by decide) (hts _ lkX1_rollBack_52) (fun _ h9 => h9) rfl dX1_rollBack_68 ?_
      refine lv_i2l hx hb dX1_rollBack_71 rfl ?_
      refine lv_lsub hx hb dX1_rollBack_72 ?_
      refine lv_lstore (lv' := [(5, .long (q_12 - (Int32.toInt64 (gI σ 1 0 3)))), (0, .ref (ad 2 0)), (2, .int x2), (3, .int x3), (4, .int x4)]) hx hb dX1_rollBack_73 hl (by decide) rfl (fun ls hl => ?_)
      refine lv_iload_n hx hb dX1_rollBack_75 rfl (lv_at hl 2 rfl) ?_
      refine lv_if_eq (tgt := 107) hx hb dX1_rollBack_76 (by decide) (fun c_13 => ?_) (fun c_13 => ?_)
      · have hm := ifp c_13 hm
        exact kX1_rollBack_107_ok C q ih σ x2 x3 x4 (q_12 - (Int32.toInt64 (gI σ 1 0 3))) _ _ hP hD hS _ (lv_sub hl [1, 2, 3, 4, 0] rfl) hm
      · have hm := ifn c_13 hm
        refine lv_aload_n hx hb dX1_rollBack_79 rfl (lv_at hl 1 rfl) ?_
        refine va_get (D := D) (ci := 1) (v := .ref (ad 9 0)) (C := RX1) (T := TX1) (N := 12) hx hb hts iwX1_rollBack_X1 hown hK.1 hP 2 cw_2 rfl 8 (by decide) (hts _ lkX1_rollBack_35) (fun _ h9 => h9) rfl dX1_rollBack_80 ?_
        refine lv_aload_n hx hb dX1_rollBack_83 rfl (lv_at hl 1 rfl) ?_
        refine lv_iload_n hx hb dX1_rollBack_84 rfl (lv_at hl 3 rfl) ?_
        refine lv_iload hx hb dX1_rollBack_85 (lv_at hl 4 rfl) ?_
        obtain ⟨q_14, hq_14, hm⟩ := ob hm
        refine zc_i (zr_V [.int x3, .int x4] [.ref (ad 9 0)] ⟨hx, hb, hml, hown, hts⟩ (ctX1_level l D cy ad σ  x3 x4 q_14 hq_14 _) (cwV 2 hts gX1_rollBack_X1_level rfl rfl rfl (by decide +kernel) ⟨Nat.le_of_ble_eq_true rfl, Nat.le_of_ble_eq_true rfl⟩) hK hP hD 2 cw_2 rfl rfl rfl hl.1 rfl (Nat.le_of_ble_eq_true rfl) dX1_rollBack_87 ⟨Nat.zero_le _, Nat.zero_le _⟩) hD hS hA (fun H locs hP hD hS => ?_)
        obtain ⟨h_15, hm⟩ := gd_some hm
        refine va_lald hx hb hK.1 hP 9 1 cw_9 rfl (inb_vp h_15) dX1_rollBack_90 ?_
        refine lv_lload hx hb dX1_rollBack_91 (lv_at hl 0 rfl) ?_
        refine W.lcmp hx hb dX1_rollBack_93 ?_
        refine lv_if_lt (tgt := 107) hx hb dX1_rollBack_94 (by decide) (fun c_16 => ?_) (fun c_16 => ?_)
        · have hm := ifp c_16 hm
          exact kX1_rollBack_107_ok C q ih σ x2 x3 x4 (q_12 - (Int32.toInt64 (gI σ 1 0 3))) _ _ hP hD hS _ (lv_sub hl [1, 2, 3, 4, 0] rfl) hm
        · have hm := ifn c_16 hm
          refine lv_aload_n hx hb dX1_rollBack_97 rfl (lv_at hl 1 rfl) ?_
          refine lv_iload_n hx hb dX1_rollBack_98 rfl (lv_at hl 3 rfl) ?_
          refine lv_iload hx hb dX1_rollBack_99 (lv_at hl 4 rfl) ?_
          obtain ⟨q_17, hq_17, hm⟩ := ob hm
          refine zc_v (zr_V [.int x3, .int x4] [] ⟨hx, hb, hml, hown, hts⟩ (ctX1_deliverAt l D cy ad σ  x3 x4 q_17 hq_17 _) (cwV 2 hts gX1_rollBack_X1_deliverAt rfl rfl rfl (by decide +kernel) ⟨Nat.le_of_ble_eq_true rfl, Nat.le_of_ble_eq_true rfl⟩) hK hP hD 2 cw_2 rfl rfl rfl hl.1 rfl (Nat.le_of_ble_eq_true rfl) dX1_rollBack_101 ⟨Nat.zero_le _, Nat.zero_le _⟩) hD hS hA (fun H locs hP hD hS => ?_)
          refine lv_goto (tgt := 129) hx hb dX1_rollBack_104 (by decide) ?_
          refine lv_iinc (v := (x4 + (1 : Int32))) (lv' := [(4, .int (x4 + (1 : Int32))), (5, .long (q_12 - (Int32.toInt64 (gI σ 1 0 3)))), (0, .ref (ad 2 0)), (2, .int x2), (3, .int x3)]) hx hb dX1_rollBack_129 hl (k := 4) rfl rfl (by decide) rfl (fun ls hl => ?_)
          refine lv_goto (tgt := 30) hx hb dX1_rollBack_132 (by decide) ?_
          exact ih q_17 x2 x3 (x4 + (1 : Int32)) _ _ hP hD hS _ (lv_sub hl [2, 3, 4, 0] rfl) hm
def bkX1_rollBack_23  (rec : ST × Int32 × Int32 → Option (Int64 × ST)) (σ : ST) (x2 : Int32) (x3 : Int32) : Option (Int64 × ST) := if x3 < (0 : Int32) then (gd (inb (0 : Int32) 21) (gd (inb (0 : Int32) 21) (some ((gJ σ 1 (Int32.toNatClampNeg (0 : Int32)) (Int32.toNatClampNeg (0 : Int32))), σ)))) else (kX1_rollBack_30 rec FU (σ, x2, x3, (0 : Int32)))
def kX1_rollBack_23  (n : Nat) (a : ST × Int32 × Int32) : Option (Int64 × ST) := fx (fun rec a => bkX1_rollBack_23  rec a.1 a.2.1 a.2.2) n a
set_option maxHeartbeats 4000000 in
set_option maxRecDepth 100000 in
theorem kX1_rollBack_23_ok {p : Program} {l : Launch} {e : Env} {s : State} {m : MethodId} {args : Array Value} {below : List Frame} {meth : Method} {c : Code} {D : va_G} {cy : Nat → ClassId} {ad : Nat → Nat → Nat} {A : Nat → Prop} (C : Cx p s m args meth c cX1_rollBack 7 (some .long) RX1 wsX1_rollBack D cy A) (q : Int64 × ST) : ∀ (n : Nat) (σ : ST) (x2 : Int32) (x3 : Int32), ∀ (H : Heap) (locs : List Loc), va_P D vwCl (cw cy ad σ) H → va_D A (cw cy ad σ) → va_S A s.heap H locs → ∀ ls : Array Slot, lv_has ls 7 [(0, .ref (ad 2 0)), (2, .int x2), (3, .int x3)] → kX1_rollBack_23 n (σ, x2, x3) = some q → W p l e rmX1_rollBack s m args below meth c H locs 0 0 (MQ below (zQl D (cw cy ad q.2) A q.1) args s 0 0 A) (F0 m 23 ls []) := by
  obtain ⟨hx, hb, hml, hown, hts, hr, hlocks, hK, hA⟩ := id C
  intro n
  induction n with
  | zero => intro σ x2 x3 H locs hP hD hS ls hl hm; cases hm
  | succ n ih =>
    intro σ x2 x3 H locs hP hD hS ls hl hm
    have hm : bkX1_rollBack_23  (kX1_rollBack_23 n) σ x2 x3 = some q := hm
    unfold bkX1_rollBack_23 at hm
    refine lv_iload_n hx hb dX1_rollBack_23 rfl (lv_at hl 2 rfl) ?_
    refine lv_if_lt (tgt := 141) hx hb dX1_rollBack_24 (by decide) (fun c_18 => ?_) (fun c_18 => ?_)
    · have hm := ifp c_18 hm
      refine lv_aload_n hx hb dX1_rollBack_141 rfl (lv_at hl 0 rfl) ?_
      refine va_get (D := D) (ci := 1) (v := .ref (ad 6 0)) (C := RX1) (T := TX1) (N := 12) hx hb hts iwX1_rollBack_X1 hown hK.1 hP 2 cw_2 rfl 5 (by decide) (hts _ lkX1_rollBack_24) (fun _ h9 => h9) rfl dX1_rollBack_142 ?_
      refine lv_iconst (v := 0) hx hb dX1_rollBack_145 (by decide) ?_
      obtain ⟨h_19, hm⟩ := gd_some hm
      refine z_ald (f := fun i => ad 15 i) hx hb hK.1 hP 6 4 cw_6 rfl rfl (inb_vp h_19) dX1_rollBack_146 ?_
      refine lv_iconst (v := 0) hx hb dX1_rollBack_147 (by decide) ?_
      obtain ⟨h_20, hm⟩ := gd_some hm
      refine va_lald hx hb hK.1 hP (13 + (8 + (8 + (Int32.toNatClampNeg (0 : Int32))))) 1 (cw_15 (inb_lt h_19)) rfl (inb_vp h_20) dX1_rollBack_148 ?_
      exact z_l hx hb hr hlocks hm hP hD hS dX1_rollBack_149
    · have hm := ifn c_18 hm
      refine lv_iconst (v := 0) hx hb dX1_rollBack_27 (by decide) ?_
      refine lv_istore (lv' := [(4, .int (0 : Int32)), (0, .ref (ad 2 0)), (2, .int x2), (3, .int x3)]) hx hb dX1_rollBack_28 hl (by decide) rfl (fun ls hl => ?_)
      exact kX1_rollBack_30_ok C q ih FU σ x2 x3 (0 : Int32) _ _ hP hD hS _ (lv_sub hl [1, 2, 3, 0] rfl) hm
def bkX1_rollBack_2  (rec : ST × Int32 × Int32 × Int32 → Option (Int64 × ST)) (σ : ST) (x1 : Int32) (x2 : Int32) (x3 : Int32) : Option (Int64 × ST) := if x1 < x3 then (kX1_rollBack_23 FU (σ, x2, (x1 - (1 : Int32)))) else ((mX1_deliverAt σ x1 x3).bind fun q_22 => rec (q_22, x1, x2, (x3 + (1 : Int32))))
def kX1_rollBack_2  (n : Nat) (a : ST × Int32 × Int32 × Int32) : Option (Int64 × ST) := fx (fun rec a => bkX1_rollBack_2  rec a.1 a.2.1 a.2.2.1 a.2.2.2) n a
set_option maxHeartbeats 4000000 in
set_option maxRecDepth 100000 in
theorem kX1_rollBack_2_ok {p : Program} {l : Launch} {e : Env} {s : State} {m : MethodId} {args : Array Value} {below : List Frame} {meth : Method} {c : Code} {D : va_G} {cy : Nat → ClassId} {ad : Nat → Nat → Nat} {A : Nat → Prop} (C : Cx p s m args meth c cX1_rollBack 7 (some .long) RX1 wsX1_rollBack D cy A) (q : Int64 × ST) : ∀ (n : Nat) (σ : ST) (x1 : Int32) (x2 : Int32) (x3 : Int32), ∀ (H : Heap) (locs : List Loc), va_P D vwCl (cw cy ad σ) H → va_D A (cw cy ad σ) → va_S A s.heap H locs → ∀ ls : Array Slot, lv_has ls 7 [(0, .ref (ad 2 0)), (1, .int x1), (2, .int x2), (3, .int x3)] → kX1_rollBack_2 n (σ, x1, x2, x3) = some q → W p l e rmX1_rollBack s m args below meth c H locs 0 0 (MQ below (zQl D (cw cy ad q.2) A q.1) args s 0 0 A) (F0 m 2 ls []) := by
  obtain ⟨hx, hb, hml, hown, hts, hr, hlocks, hK, hA⟩ := id C
  intro n
  induction n with
  | zero => intro σ x1 x2 x3 H locs hP hD hS ls hl hm; cases hm
  | succ n ih =>
    intro σ x1 x2 x3 H locs hP hD hS ls hl hm
    have hm : bkX1_rollBack_2  (kX1_rollBack_2 n) σ x1 x2 x3 = some q := hm
    unfold bkX1_rollBack_2 at hm
    refine lv_iload_n hx hb dX1_rollBack_2 rfl (lv_at hl 3 rfl) ?_
    refine lv_iload_n hx hb dX1_rollBack_3 rfl (lv_at hl 1 rfl) ?_
    refine lv_icmp_gt (tgt := 19) hx hb dX1_rollBack_4 (by decide) (fun c_21 => ?_) (fun c_21 => ?_)
    · have hm := ifp c_21 hm
      refine lv_iload_n hx hb dX1_rollBack_19 rfl (lv_at hl 1 rfl) ?_
      refine lv_iconst (v := 1) hx hb dX1_rollBack_20 (by decide) ?_
      refine lv_isub hx hb dX1_rollBack_21 ?_
      refine lv_istore_n (lv' := [(3, .int (x1 - (1 : Int32))), (0, .ref (ad 2 0)), (1, .int x1), (2, .int x2)]) hx hb dX1_rollBack_22 rfl hl (by decide) rfl (fun ls hl => ?_)
      exact kX1_rollBack_23_ok C q FU σ x2 (x1 - (1 : Int32)) _ _ hP hD hS _ (lv_sub hl [1, 3, 0] rfl) hm
    · have hm := ifn c_21 hm
      refine lv_aload_n hx hb dX1_rollBack_7 rfl (lv_at hl 0 rfl) ?_
      refine lv_iload_n hx hb dX1_rollBack_8 rfl (lv_at hl 1 rfl) ?_
      refine lv_iload_n hx hb dX1_rollBack_9 rfl (lv_at hl 3 rfl) ?_
      obtain ⟨q_22, hq_22, hm⟩ := ob hm
      refine zc_v (zr_V [.int x1, .int x3] [] ⟨hx, hb, hml, hown, hts⟩ (ctX1_deliverAt l D cy ad σ  x1 x3 q_22 hq_22 _) (cwV 2 hts gX1_rollBack_X1_deliverAt rfl rfl rfl (by decide +kernel) ⟨Nat.le_of_ble_eq_true rfl, Nat.le_of_ble_eq_true rfl⟩) hK hP hD 2 cw_2 rfl rfl rfl hl.1 rfl (Nat.le_of_ble_eq_true rfl) dX1_rollBack_10 ⟨Nat.zero_le _, Nat.zero_le _⟩) hD hS hA (fun H locs hP hD hS => ?_)
      refine lv_iinc (v := (x3 + (1 : Int32))) (lv' := [(3, .int (x3 + (1 : Int32))), (0, .ref (ad 2 0)), (1, .int x1), (2, .int x2)]) hx hb dX1_rollBack_13 hl (k := 3) rfl rfl (by decide) rfl (fun ls hl => ?_)
      refine lv_goto (tgt := 2) hx hb dX1_rollBack_16 (by decide) ?_
      exact ih q_22 x1 x2 (x3 + (1 : Int32)) _ _ hP hD hS _ (lv_sub hl [1, 2, 3, 0] rfl) hm
def mX1_rollBack (σ : ST) (a1 : Int32) (a2 : Int32) : Option (Int64 × ST) := kX1_rollBack_2 FU (σ, a1, a2, (0 : Int32))
set_option maxHeartbeats 4000000 in
set_option maxRecDepth 100000 in
theorem ctX1_rollBack (l : Launch) (D : va_G) (cy : Nat → ClassId) (ad : Nat → Nat → Nat) (σ : ST) (a1 : Int32) (a2 : Int32) (q : Int64 × ST) (hm : mX1_rollBack σ a1 a2 = some q) : zMl l yX1_rollBack wsX1_rollBack rmX1_rollBack D cy [.ref (ad 2 0), .int a1, .int a2] (cw cy ad σ) q.1 (cw cy ad q.2) := by
  intro sz
  refine Met.ofW (cc := cX1_rollBack) (maxL := 7) (ret := (some .long)) (by decide) rfl ?_
  intro p e s m args below meth c s₁ B hml hv
  obtain ⟨rfl, hsz, hP, hK, hD0⟩ := hv
  have hx := B.exec
  have hb := B.bytes
  have hr := B.returns
  have hts := atoms_spec (ws := wsX1_rollBack) B.pre
  have hown : s.vm.findClass RX1 = some m.cls := findClass_of_methodNamed B.named
  have hlocks := B.notSynchronized
  subst hsz
  have hD := hD0.self (sz := s.heap.size)
  generalize hAe : va_A (cw cy ad σ) s.heap.size = A at hD ⊢
  have hA : ∀ q : Nat, s.heap.size ≤ q → A q := fun q h => by rw [← hAe]; exact Or.inr h
  have hS : va_S A s.heap s.heap [] := va_S.rf
  have C : Cx p s m _ meth c cX1_rollBack 7 (some .long) RX1 wsX1_rollBack D cy A := ⟨hx, hb, hml, hown, hts, hr, hlocks, hK, hA⟩
  have hl := lv_entry ([.ref (ad 2 0), .int a1, .int a2]) (n := 7) (Nat.le_of_ble_eq_true rfl)
  rw [lg_entry_eq]
  generalize (lg_sl ([.ref (ad 2 0), .int a1, .int a2]) ++ List.replicate (7 - (lg_sl ([.ref (ad 2 0), .int a1, .int a2])).length) Slot.unset).toArray = ls at hl ⊢
  have hl : lv_has ls 7 [(0, .ref (ad 2 0)), (1, .int a1), (2, .int a2)] := hl
  unfold mX1_rollBack at hm
  refine lv_iconst (v := 0) hx hb dX1_rollBack_0 (by decide) ?_
  refine lv_istore_n (lv' := [(3, .int (0 : Int32)), (0, .ref (ad 2 0)), (1, .int a1), (2, .int a2)]) hx hb dX1_rollBack_1 rfl hl (by decide) rfl (fun ls hl => ?_)
  exact kX1_rollBack_2_ok C q FU σ a1 a2 (0 : Int32) _ _ hP hD hS _ (lv_sub hl [1, 2, 3, 0] rfl) hm
abbrev rmX1_pathsThatEndOn : Room := { frames := 1, cells := 0, slots := 0, locals := 23 }
theorem lkX1_pathsThatEndOn_49 : Cond.fieldLink RX1 49 "DeliveryBasket$Lattice" "days" "I" ∈ wsX1_pathsThatEndOn := by decide +kernel
theorem iwX1_pathsThatEndOn_X1 : ∀ w ∈ wsX10, w ∈ wsX1_pathsThatEndOn := fun _ h => List.mem_cons_of_mem _ (List.mem_append_right _ h)
theorem lkX1_pathsThatEndOn_29 : Cond.fieldLink RX1 29 "DeliveryBasket$Lattice" "acts" "[[I" ∈ wsX1_pathsThatEndOn := by decide +kernel
theorem lkX1_pathsThatEndOn_46 : Cond.fieldLink RX1 46 "DeliveryBasket$Lattice" "ways" "[I" ∈ wsX1_pathsThatEndOn := by decide +kernel
def bkX1_pathsThatEndOn_81  (rec : ST × Int32 × Int32 × Int32 → Option (Int32 × ST)) (σ : ST) (x1 : Int32) (x2 : Int32) (x3 : Int32) : Option (Int32 × ST) := if x1 < x3 then (some ((x2 <<< (((gI σ 1 0 0) - x1) &&& 31)), σ)) else (gd (inb x1 21) (gd (inb x3 21) (if (gI σ 6 (Int32.toNatClampNeg x1) (Int32.toNatClampNeg x3)) = (-2 : Int32) then (rec (σ, x1, x2, (x3 + (1 : Int32)))) else (gd (inb x3 22) (rec (σ, x1, (x2 + (gI σ 9 0 (Int32.toNatClampNeg x3))), (x3 + (1 : Int32))))))))
def kX1_pathsThatEndOn_81  (n : Nat) (a : ST × Int32 × Int32 × Int32) : Option (Int32 × ST) := fx (fun rec a => bkX1_pathsThatEndOn_81  rec a.1 a.2.1 a.2.2.1 a.2.2.2) n a
set_option maxHeartbeats 4000000 in
set_option maxRecDepth 100000 in
theorem kX1_pathsThatEndOn_81_ok {p : Program} {l : Launch} {e : Env} {s : State} {m : MethodId} {args : Array Value} {below : List Frame} {meth : Method} {c : Code} {D : va_G} {cy : Nat → ClassId} {ad : Nat → Nat → Nat} {A : Nat → Prop} (C : Cx p s m args meth c cX1_pathsThatEndOn 4 (some .int) RX1 wsX1_pathsThatEndOn D cy A) (q : Int32 × ST) : ∀ (n : Nat) (σ : ST) (x1 : Int32) (x2 : Int32) (x3 : Int32), ∀ (H : Heap) (locs : List Loc), va_P D vwCl (cw cy ad σ) H → va_D A (cw cy ad σ) → va_S A s.heap H locs → ∀ ls : Array Slot, lv_has ls 4 [(0, .ref (ad 2 0)), (1, .int x1), (2, .int x2), (3, .int x3)] → kX1_pathsThatEndOn_81 n (σ, x1, x2, x3) = some q → W p l e rmX1_pathsThatEndOn s m args below meth c H locs 0 0 (MQ below (zQi D (cw cy ad q.2) A q.1) args s 0 0 A) (F0 m 81 ls []) := by
  obtain ⟨hx, hb, hml, hown, hts, hr, hlocks, hK, hA⟩ := id C
  intro n
  induction n with
  | zero => intro σ x1 x2 x3 H locs hP hD hS ls hl hm; cases hm
  | succ n ih =>
    intro σ x1 x2 x3 H locs hP hD hS ls hl hm
    have hm : bkX1_pathsThatEndOn_81  (kX1_pathsThatEndOn_81 n) σ x1 x2 x3 = some q := hm
    unfold bkX1_pathsThatEndOn_81 at hm
    refine lv_iload_n hx hb dX1_pathsThatEndOn_81 rfl (lv_at hl 3 rfl) ?_
    refine lv_iload_n hx hb dX1_pathsThatEndOn_82 rfl (lv_at hl 1 rfl) ?_
    refine lv_icmp_gt (tgt := 114) hx hb dX1_pathsThatEndOn_83 (by decide) (fun c_1 => ?_) (fun c_1 => ?_)
    · have hm := ifp c_1 hm
      refine lv_iload_n hx hb dX1_pathsThatEndOn_114 rfl (lv_at hl 2 rfl) ?_
      refine lv_aload_n hx hb dX1_pathsThatEndOn_115 rfl (lv_at hl 0 rfl) ?_
      refine va_get (D := D) (ci := 1) (v := .int (gI σ 1 0 0)) (C := RX1) (T := TX1) (N := 12) hx hb hts iwX1_pathsThatEndOn_X1 hown hK.1 hP 2 cw_2 rfl 0 (by decide) (hts _ lkX1_pathsThatEndOn_49) (fun _ h9 => h9) rfl dX1_pathsThatEndOn_116 ?_
      refine lv_iload_n hx hb dX1_pathsThatEndOn_119 rfl (lv_at hl 1 rfl) ?_
      refine lv_isub hx hb dX1_pathsThatEndOn_120 ?_
      refine lv_ishl hx hb dX1_pathsThatEndOn_121 ?_
      exact z_i hx hb hr hlocks hm hP hD hS dX1_pathsThatEndOn_122
    · have hm := ifn c_1 hm
      refine lv_aload_n hx hb dX1_pathsThatEndOn_86 rfl (lv_at hl 0 rfl) ?_
      refine va_get (D := D) (ci := 1) (v := .ref (ad 7 0)) (C := RX1) (T := TX1) (N := 12) hx hb hts iwX1_pathsThatEndOn_X1 hown hK.1 hP 2 cw_2 rfl 6 (by decide) (hts _ lkX1_pathsThatEndOn_29) (fun _ h9 => h9) rfl dX1_pathsThatEndOn_87 ?_
      refine lv_iload_n hx hb dX1_pathsThatEndOn_90 rfl (lv_at hl 1 rfl) ?_
      obtain ⟨h_2, hm⟩ := gd_some hm
      refine z_ald (f := fun i => ad 16 i) hx hb hK.1 hP 7 3 cw_7 rfl rfl (inb_vp h_2) dX1_pathsThatEndOn_91 ?_
      refine lv_iload_n hx hb dX1_pathsThatEndOn_92 rfl (lv_at hl 3 rfl) ?_
      obtain ⟨h_3, hm⟩ := gd_some hm
      refine va_iald hx hb hK.1 hP (13 + (8 + (8 + (21 + (Int32.toNatClampNeg x1))))) 0 (cw_16 (inb_lt h_2)) rfl (inb_vp h_3) dX1_pathsThatEndOn_93 ?_
      refine lv_bipush (v := -2) hx hb dX1_pathsThatEndOn_94 (by decide) ?_
      refine lv_icmp_eq (tgt := 108) hx hb dX1_pathsThatEndOn_96 (by decide) (fun c_4 => ?_) (fun c_4 => ?_)
      · have hm := ifp c_4 hm
        refine lv_iinc (v := (x3 + (1 : Int32))) (lv' := [(3, .int (x3 + (1 : Int32))), (0, .ref (ad 2 0)), (1, .int x1), (2, .int x2)]) hx hb dX1_pathsThatEndOn_108 hl (k := 3) rfl rfl (by decide) rfl (fun ls hl => ?_)
        refine lv_goto (tgt := 81) hx hb dX1_pathsThatEndOn_111 (by decide) ?_
        exact ih σ x1 x2 (x3 + (1 : Int32)) _ _ hP hD hS _ (lv_sub hl [1, 2, 3, 0] rfl) hm
      · have hm := ifn c_4 hm
        refine lv_iload_n hx hb dX1_pathsThatEndOn_99 rfl (lv_at hl 2 rfl) ?_
        refine lv_aload_n hx hb dX1_pathsThatEndOn_100 rfl (lv_at hl 0 rfl) ?_
        refine va_get (D := D) (ci := 1) (v := .ref (ad 12 0)) (C := RX1) (T := TX1) (N := 12) hx hb hts iwX1_pathsThatEndOn_X1 hown hK.1 hP 2 cw_2 rfl 11 (by decide) (hts _ lkX1_pathsThatEndOn_46) (fun _ h9 => h9) rfl dX1_pathsThatEndOn_101 ?_
        refine lv_iload_n hx hb dX1_pathsThatEndOn_104 rfl (lv_at hl 3 rfl) ?_
        obtain ⟨h_5, hm⟩ := gd_some hm
        refine va_iald hx hb hK.1 hP 12 0 cw_12 rfl (inb_vp h_5) dX1_pathsThatEndOn_105 ?_
        refine lv_iadd hx hb dX1_pathsThatEndOn_106 ?_
        refine lv_istore_n (lv' := [(2, .int (x2 + (gI σ 9 0 (Int32.toNatClampNeg x3)))), (0, .ref (ad 2 0)), (1, .int x1), (3, .int x3)]) hx hb dX1_pathsThatEndOn_107 rfl hl (by decide) rfl (fun ls hl => ?_)
        refine lv_iinc (v := (x3 + (1 : Int32))) (lv' := [(3, .int (x3 + (1 : Int32))), (2, .int (x2 + (gI σ 9 0 (Int32.toNatClampNeg x3)))), (0, .ref (ad 2 0)), (1, .int x1)]) hx hb dX1_pathsThatEndOn_108 hl (k := 3) rfl rfl (by decide) rfl (fun ls hl => ?_)
        refine lv_goto (tgt := 81) hx hb dX1_pathsThatEndOn_111 (by decide) ?_
        exact ih σ x1 (x2 + (gI σ 9 0 (Int32.toNatClampNeg x3))) (x3 + (1 : Int32)) _ _ hP hD hS _ (lv_sub hl [2, 3, 1, 0] rfl) hm
def bkX1_pathsThatEndOn_48 (rc24 : ST × Int32 × Int32 × Int32 → Option (Int32 × ST)) (σ : ST) (x1 : Int32) (x2 : Int32) (x3 : Int32) : Option (Int32 × ST) := gd (inb (x3 + (1 : Int32)) 22) (gd (inb x3 22) (gd (inb (x3 + (1 : Int32)) 22) (sv (sI σ 9 0 (Int32.toNatClampNeg (x3 + (1 : Int32))) ((gI σ 9 0 (Int32.toNatClampNeg (x3 + (1 : Int32)))) + (gI σ 9 0 (Int32.toNatClampNeg x3)))) fun σ_9 => rc24 (σ_9, x1, x2, (x3 + (-1 : Int32))))))
def kX1_pathsThatEndOn_48 (rc24 : ST × Int32 × Int32 × Int32 → Option (Int32 × ST)) (a : ST × Int32 × Int32 × Int32) : Option (Int32 × ST) := bkX1_pathsThatEndOn_48 rc24 a.1 a.2.1 a.2.2.1 a.2.2.2
set_option maxHeartbeats 4000000 in
set_option maxRecDepth 100000 in
theorem kX1_pathsThatEndOn_48_ok {p : Program} {l : Launch} {e : Env} {s : State} {m : MethodId} {args : Array Value} {below : List Frame} {meth : Method} {c : Code} {D : va_G} {cy : Nat → ClassId} {ad : Nat → Nat → Nat} {A : Nat → Prop} (C : Cx p s m args meth c cX1_pathsThatEndOn 4 (some .int) RX1 wsX1_pathsThatEndOn D cy A) (q : Int32 × ST) {rc24 : ST × Int32 × Int32 × Int32 → Option (Int32 × ST)} (hr24 : ∀ (σ : ST) (x1 : Int32) (x2 : Int32) (x3 : Int32), ∀ (H : Heap) (locs : List Loc), va_P D vwCl (cw cy ad σ) H → va_D A (cw cy ad σ) → va_S A s.heap H locs → ∀ ls : Array Slot, lv_has ls 4 [(0, .ref (ad 2 0)), (1, .int x1), (2, .int x2), (3, .int x3)] → rc24 (σ, x1, x2, x3) = some q → W p l e rmX1_pathsThatEndOn s m args below meth c H locs 0 0 (MQ below (zQi D (cw cy ad q.2) A q.1) args s 0 0 A) (F0 m 24 ls [])) : ∀ (σ : ST) (x1 : Int32) (x2 : Int32) (x3 : Int32), ∀ (H : Heap) (locs : List Loc), va_P D vwCl (cw cy ad σ) H → va_D A (cw cy ad σ) → va_S A s.heap H locs → ∀ ls : Array Slot, lv_has ls 4 [(0, .ref (ad 2 0)), (1, .int x1), (2, .int x2), (3, .int x3)] → kX1_pathsThatEndOn_48 rc24 (σ, x1, x2, x3) = some q → W p l e rmX1_pathsThatEndOn s m args below meth c H locs 0 0 (MQ below (zQi D (cw cy ad q.2) A q.1) args s 0 0 A) (F0 m 48 ls []) := by
  obtain ⟨hx, hb, hml, hown, hts, hr, hlocks, hK, hA⟩ := id C
  intro σ x1 x2 x3 H locs hP hD hS ls hl hm
  have hm : bkX1_pathsThatEndOn_48 rc24 σ x1 x2 x3 = some q := hm
  unfold bkX1_pathsThatEndOn_48 at hm
  refine lv_aload_n hx hb dX1_pathsThatEndOn_48 rfl (lv_at hl 0 rfl) ?_
  refine va_get (D := D) (ci := 1) (v := .ref (ad 12 0)) (C := RX1) (T := TX1) (N := 12) hx hb hts iwX1_pathsThatEndOn_X1 hown hK.1 hP 2 cw_2 rfl 11 (by decide) (hts _ lkX1_pathsThatEndOn_46) (fun _ h9 => h9) rfl dX1_pathsThatEndOn_49 ?_
  refine lv_iload_n hx hb dX1_pathsThatEndOn_52 rfl (lv_at hl 3 rfl) ?_
  refine lv_iconst (v := 1) hx hb dX1_pathsThatEndOn_53 (by decide) ?_
  refine lv_iadd hx hb dX1_pathsThatEndOn_54 ?_
  refine lv_dup2_11 hx hb dX1_pathsThatEndOn_55 rfl rfl ?_
  obtain ⟨h_6, hm⟩ := gd_some hm
  refine va_iald hx hb hK.1 hP 12 0 cw_12 rfl (inb_vp h_6) dX1_pathsThatEndOn_56 ?_
  refine lv_aload_n hx hb dX1_pathsThatEndOn_57 rfl (lv_at hl 0 rfl) ?_
  refine va_get (D := D) (ci := 1) (v := .ref (ad 12 0)) (C := RX1) (T := TX1) (N := 12) hx hb hts iwX1_pathsThatEndOn_X1 hown hK.1 hP 2 cw_2 rfl 11 (by decide) (hts _ lkX1_pathsThatEndOn_46) (fun _ h9 => h9) rfl dX1_pathsThatEndOn_58 ?_
  refine lv_iload_n hx hb dX1_pathsThatEndOn_61 rfl (lv_at hl 3 rfl) ?_
  obtain ⟨h_7, hm⟩ := gd_some hm
  refine va_iald hx hb hK.1 hP 12 0 cw_12 rfl (inb_vp h_7) dX1_pathsThatEndOn_62 ?_
  refine lv_iadd hx hb dX1_pathsThatEndOn_63 ?_
  obtain ⟨h_8, hm⟩ := gd_some hm
  refine va_iast hx hb hK.1 hP hD hS 12 0 cw_12 rfl (inb_vp h_8) dX1_pathsThatEndOn_64 (fun H locs hP hD hS => ?_)
  have hP := eP cw_s12 hP
  have hD := eD cw_s12 hD
  obtain ⟨σ_9, e_9, hm⟩ := sv_some hm
  have hP : va_P D vwCl (cw cy ad σ_9) H := by rw [e_9]; exact hP
  have hD : va_D A (cw cy ad σ_9) := by rw [e_9]; exact hD
  refine lv_iinc (v := (x3 + (-1 : Int32))) (lv' := [(3, .int (x3 + (-1 : Int32))), (0, .ref (ad 2 0)), (1, .int x1), (2, .int x2)]) hx hb dX1_pathsThatEndOn_65 hl (k := 3) rfl rfl (by decide) rfl (fun ls hl => ?_)
  refine lv_goto (tgt := 24) hx hb dX1_pathsThatEndOn_68 (by decide) ?_
  exact hr24 σ_9 x1 x2 (x3 + (-1 : Int32)) _ _ hP hD hS _ (lv_sub hl [1, 2, 3, 0] rfl) hm
def bkX1_pathsThatEndOn_24 (rc17 : ST × Int32 × Int32 → Option (Int32 × ST)) (rec : ST × Int32 × Int32 × Int32 → Option (Int32 × ST)) (σ : ST) (x1 : Int32) (x2 : Int32) (x3 : Int32) : Option (Int32 × ST) := if x3 < (0 : Int32) then (rc17 (σ, x1, (x2 + (1 : Int32)))) else (gd (inb x2 21) (gd (inb x3 21) (if (gI σ 6 (Int32.toNatClampNeg x2) (Int32.toNatClampNeg x3)) = (-2 : Int32) then (kX1_pathsThatEndOn_48 rec (σ, x1, x2, x3)) else (gd (inb x3 22) (sv (sI σ 9 0 (Int32.toNatClampNeg x3) (0 : Int32)) fun σ_15 => kX1_pathsThatEndOn_48 rec (σ_15, x1, x2, x3))))))
def kX1_pathsThatEndOn_24 (rc17 : ST × Int32 × Int32 → Option (Int32 × ST)) (n : Nat) (a : ST × Int32 × Int32 × Int32) : Option (Int32 × ST) := fx (fun rec a => bkX1_pathsThatEndOn_24 rc17 rec a.1 a.2.1 a.2.2.1 a.2.2.2) n a
set_option maxHeartbeats 4000000 in
set_option maxRecDepth 100000 in
theorem kX1_pathsThatEndOn_24_ok {p : Program} {l : Launch} {e : Env} {s : State} {m : MethodId} {args : Array Value} {below : List Frame} {meth : Method} {c : Code} {D : va_G} {cy : Nat → ClassId} {ad : Nat → Nat → Nat} {A : Nat → Prop} (C : Cx p s m args meth c cX1_pathsThatEndOn 4 (some .int) RX1 wsX1_pathsThatEndOn D cy A) (q : Int32 × ST) {rc17 : ST × Int32 × Int32 → Option (Int32 × ST)} (hr17 : ∀ (σ : ST) (x1 : Int32) (x2 : Int32), ∀ (H : Heap) (locs : List Loc), va_P D vwCl (cw cy ad σ) H → va_D A (cw cy ad σ) → va_S A s.heap H locs → ∀ ls : Array Slot, lv_has ls 4 [(0, .ref (ad 2 0)), (1, .int x1), (2, .int x2)] → rc17 (σ, x1, x2) = some q → W p l e rmX1_pathsThatEndOn s m args below meth c H locs 0 0 (MQ below (zQi D (cw cy ad q.2) A q.1) args s 0 0 A) (F0 m 17 ls [])) : ∀ (n : Nat) (σ : ST) (x1 : Int32) (x2 : Int32) (x3 : Int32), ∀ (H : Heap) (locs : List Loc), va_P D vwCl (cw cy ad σ) H → va_D A (cw cy ad σ) → va_S A s.heap H locs → ∀ ls : Array Slot, lv_has ls 4 [(0, .ref (ad 2 0)), (1, .int x1), (2, .int x2), (3, .int x3)] → kX1_pathsThatEndOn_24 rc17 n (σ, x1, x2, x3) = some q → W p l e rmX1_pathsThatEndOn s m args below meth c H locs 0 0 (MQ below (zQi D (cw cy ad q.2) A q.1) args s 0 0 A) (F0 m 24 ls []) := by
  obtain ⟨hx, hb, hml, hown, hts, hr, hlocks, hK, hA⟩ := id C
  intro n
  induction n with
  | zero => intro σ x1 x2 x3 H locs hP hD hS ls hl hm; cases hm
  | succ n ih =>
    intro σ x1 x2 x3 H locs hP hD hS ls hl hm
    have hm : bkX1_pathsThatEndOn_24 rc17 (kX1_pathsThatEndOn_24 rc17 n) σ x1 x2 x3 = some q := hm
    unfold bkX1_pathsThatEndOn_24 at hm
    refine lv_iload_n hx hb dX1_pathsThatEndOn_24 rfl (lv_at hl 3 rfl) ?_
    refine lv_if_lt (tgt := 71) hx hb dX1_pathsThatEndOn_25 (by decide) (fun c_10 => ?_) (fun c_10 => ?_)
    · have hm := ifp c_10 hm
      refine lv_iinc (v := (x2 + (1 : Int32))) (lv' := [(2, .int (x2 + (1 : Int32))), (0, .ref (ad 2 0)), (1, .int x1), (3, .int x3)]) hx hb dX1_pathsThatEndOn_71 hl (k := 2) rfl rfl (by decide) rfl (fun ls hl => ?_)
      refine lv_goto (tgt := 17) hx hb dX1_pathsThatEndOn_74 (by decide) ?_
      exact hr17 σ x1 (x2 + (1 : Int32)) _ _ hP hD hS _ (lv_sub hl [1, 2, 0] rfl) hm
    · have hm := ifn c_10 hm
      refine lv_aload_n hx hb dX1_pathsThatEndOn_28 rfl (lv_at hl 0 rfl) ?_
      refine va_get (D := D) (ci := 1) (v := .ref (ad 7 0)) (C := RX1) (T := TX1) (N := 12) hx hb hts iwX1_pathsThatEndOn_X1 hown hK.1 hP 2 cw_2 rfl 6 (by decide) (hts _ lkX1_pathsThatEndOn_29) (fun _ h9 => h9) rfl dX1_pathsThatEndOn_29 ?_
      refine lv_iload_n hx hb dX1_pathsThatEndOn_32 rfl (lv_at hl 2 rfl) ?_
      obtain ⟨h_11, hm⟩ := gd_some hm
      refine z_ald (f := fun i => ad 16 i) hx hb hK.1 hP 7 3 cw_7 rfl rfl (inb_vp h_11) dX1_pathsThatEndOn_33 ?_
      refine lv_iload_n hx hb dX1_pathsThatEndOn_34 rfl (lv_at hl 3 rfl) ?_
      obtain ⟨h_12, hm⟩ := gd_some hm
      refine va_iald hx hb hK.1 hP (13 + (8 + (8 + (21 + (Int32.toNatClampNeg x2))))) 0 (cw_16 (inb_lt h_11)) rfl (inb_vp h_12) dX1_pathsThatEndOn_35 ?_
      refine lv_bipush (v := -2) hx hb dX1_pathsThatEndOn_36 (by decide) ?_
      refine lv_icmp_eq (tgt := 48) hx hb dX1_pathsThatEndOn_38 (by decide) (fun c_13 => ?_) (fun c_13 => ?_)
      · have hm := ifp c_13 hm
        exact kX1_pathsThatEndOn_48_ok C q ih σ x1 x2 x3 _ _ hP hD hS _ (lv_sub hl [0, 1, 2, 3] rfl) hm
      · have hm := ifn c_13 hm
        refine lv_aload_n hx hb dX1_pathsThatEndOn_41 rfl (lv_at hl 0 rfl) ?_
        refine va_get (D := D) (ci := 1) (v := .ref (ad 12 0)) (C := RX1) (T := TX1) (N := 12) hx hb hts iwX1_pathsThatEndOn_X1 hown hK.1 hP 2 cw_2 rfl 11 (by decide) (hts _ lkX1_pathsThatEndOn_46) (fun _ h9 => h9) rfl dX1_pathsThatEndOn_42 ?_
        refine lv_iload_n hx hb dX1_pathsThatEndOn_45 rfl (lv_at hl 3 rfl) ?_
        refine lv_iconst (v := 0) hx hb dX1_pathsThatEndOn_46 (by decide) ?_
        obtain ⟨h_14, hm⟩ := gd_some hm
        refine va_iast hx hb hK.1 hP hD hS 12 0 cw_12 rfl (inb_vp h_14) dX1_pathsThatEndOn_47 (fun H locs hP hD hS => ?_)
        have hP := eP cw_s12 hP
        have hD := eD cw_s12 hD
        obtain ⟨σ_15, e_15, hm⟩ := sv_some hm
        have hP : va_P D vwCl (cw cy ad σ_15) H := by rw [e_15]; exact hP
        have hD : va_D A (cw cy ad σ_15) := by rw [e_15]; exact hD
        exact kX1_pathsThatEndOn_48_ok C q ih σ_15 x1 x2 x3 _ _ hP hD hS _ (lv_sub hl [0, 1, 2, 3] rfl) hm
def bkX1_pathsThatEndOn_17  (rec : ST × Int32 × Int32 → Option (Int32 × ST)) (σ : ST) (x1 : Int32) (x2 : Int32) : Option (Int32 × ST) := if x1 ≤ x2 then (kX1_pathsThatEndOn_81 FU (σ, x1, (0 : Int32), (0 : Int32))) else (kX1_pathsThatEndOn_24 rec FU (σ, x1, x2, x2))
def kX1_pathsThatEndOn_17  (n : Nat) (a : ST × Int32 × Int32) : Option (Int32 × ST) := fx (fun rec a => bkX1_pathsThatEndOn_17  rec a.1 a.2.1 a.2.2) n a
set_option maxHeartbeats 4000000 in
set_option maxRecDepth 100000 in
theorem kX1_pathsThatEndOn_17_ok {p : Program} {l : Launch} {e : Env} {s : State} {m : MethodId} {args : Array Value} {below : List Frame} {meth : Method} {c : Code} {D : va_G} {cy : Nat → ClassId} {ad : Nat → Nat → Nat} {A : Nat → Prop} (C : Cx p s m args meth c cX1_pathsThatEndOn 4 (some .int) RX1 wsX1_pathsThatEndOn D cy A) (q : Int32 × ST) : ∀ (n : Nat) (σ : ST) (x1 : Int32) (x2 : Int32), ∀ (H : Heap) (locs : List Loc), va_P D vwCl (cw cy ad σ) H → va_D A (cw cy ad σ) → va_S A s.heap H locs → ∀ ls : Array Slot, lv_has ls 4 [(0, .ref (ad 2 0)), (1, .int x1), (2, .int x2)] → kX1_pathsThatEndOn_17 n (σ, x1, x2) = some q → W p l e rmX1_pathsThatEndOn s m args below meth c H locs 0 0 (MQ below (zQi D (cw cy ad q.2) A q.1) args s 0 0 A) (F0 m 17 ls []) := by
  obtain ⟨hx, hb, hml, hown, hts, hr, hlocks, hK, hA⟩ := id C
  intro n
  induction n with
  | zero => intro σ x1 x2 H locs hP hD hS ls hl hm; cases hm
  | succ n ih =>
    intro σ x1 x2 H locs hP hD hS ls hl hm
    have hm : bkX1_pathsThatEndOn_17  (kX1_pathsThatEndOn_17 n) σ x1 x2 = some q := hm
    unfold bkX1_pathsThatEndOn_17 at hm
    refine lv_iload_n hx hb dX1_pathsThatEndOn_17 rfl (lv_at hl 2 rfl) ?_
    refine lv_iload_n hx hb dX1_pathsThatEndOn_18 rfl (lv_at hl 1 rfl) ?_
    refine lv_icmp_ge (tgt := 77) hx hb dX1_pathsThatEndOn_19 (by decide) (fun c_16 => ?_) (fun c_16 => ?_)
    · have hm := ifp c_16 hm
      refine lv_iconst (v := 0) hx hb dX1_pathsThatEndOn_77 (by decide) ?_
      refine lv_istore_n (lv' := [(2, .int (0 : Int32)), (0, .ref (ad 2 0)), (1, .int x1)]) hx hb dX1_pathsThatEndOn_78 rfl hl (by decide) rfl (fun ls hl => ?_)
      refine lv_iconst (v := 0) hx hb dX1_pathsThatEndOn_79 (by decide) ?_
      refine lv_istore_n (lv' := [(3, .int (0 : Int32)), (2, .int (0 : Int32)), (0, .ref (ad 2 0)), (1, .int x1)]) hx hb dX1_pathsThatEndOn_80 rfl hl (by decide) rfl (fun ls hl => ?_)
      exact kX1_pathsThatEndOn_81_ok C q FU σ x1 (0 : Int32) (0 : Int32) _ _ hP hD hS _ (lv_sub hl [2, 3, 1, 0] rfl) hm
    · have hm := ifn c_16 hm
      refine lv_iload_n hx hb dX1_pathsThatEndOn_22 rfl (lv_at hl 2 rfl) ?_
      refine lv_istore_n (lv' := [(3, .int x2), (0, .ref (ad 2 0)), (1, .int x1), (2, .int x2)]) hx hb dX1_pathsThatEndOn_23 rfl hl (by decide) rfl (fun ls hl => ?_)
      exact kX1_pathsThatEndOn_24_ok C q ih FU σ x1 x2 x2 _ _ hP hD hS _ (lv_sub hl [1, 2, 3, 0] rfl) hm
def mX1_pathsThatEndOn (σ : ST) (a1 : Int32) : Option (Int32 × ST) := sv (sR σ 9 0 (fun _ => (0 : Int32))) fun σ_18 => gd (inb (0 : Int32) 22) (sv (sI σ_18 9 0 (Int32.toNatClampNeg (0 : Int32)) (1 : Int32)) fun σ_20 => kX1_pathsThatEndOn_17 FU (σ_20, a1, (0 : Int32)))
set_option maxHeartbeats 4000000 in
set_option maxRecDepth 100000 in
theorem ctX1_pathsThatEndOn (l : Launch) (D : va_G) (cy : Nat → ClassId) (ad : Nat → Nat → Nat) (σ : ST) (a1 : Int32) (q : Int32 × ST) (hm : mX1_pathsThatEndOn σ a1 = some q) : zMi l yX1_pathsThatEndOn wsX1_pathsThatEndOn rmX1_pathsThatEndOn D cy [.ref (ad 2 0), .int a1] (cw cy ad σ) q.1 (cw cy ad q.2) := by
  intro sz
  refine Met.ofW (cc := cX1_pathsThatEndOn) (maxL := 4) (ret := (some .int)) (by decide) rfl ?_
  intro p e s m args below meth c s₁ B hml hv
  obtain ⟨rfl, hsz, hP, hK, hD0⟩ := hv
  have hx := B.exec
  have hb := B.bytes
  have hr := B.returns
  have hts := atoms_spec (ws := wsX1_pathsThatEndOn) B.pre
  have hown : s.vm.findClass RX1 = some m.cls := findClass_of_methodNamed B.named
  have hlocks := B.notSynchronized
  subst hsz
  have hD := hD0.self (sz := s.heap.size)
  generalize hAe : va_A (cw cy ad σ) s.heap.size = A at hD ⊢
  have hA : ∀ q : Nat, s.heap.size ≤ q → A q := fun q h => by rw [← hAe]; exact Or.inr h
  have hS : va_S A s.heap s.heap [] := va_S.rf
  have C : Cx p s m _ meth c cX1_pathsThatEndOn 4 (some .int) RX1 wsX1_pathsThatEndOn D cy A := ⟨hx, hb, hml, hown, hts, hr, hlocks, hK, hA⟩
  have hl := lv_entry ([.ref (ad 2 0), .int a1]) (n := 4) (Nat.le_of_ble_eq_true rfl)
  rw [lg_entry_eq]
  generalize (lg_sl ([.ref (ad 2 0), .int a1]) ++ List.replicate (4 - (lg_sl ([.ref (ad 2 0), .int a1])).length) Slot.unset).toArray = ls at hl ⊢
  have hl : lv_has ls 4 [(0, .ref (ad 2 0)), (1, .int a1)] := hl
  unfold mX1_pathsThatEndOn at hm
  refine lv_aload_n hx hb dX1_pathsThatEndOn_0 rfl (lv_at hl 0 rfl) ?_
  refine va_get (D := D) (ci := 1) (v := .ref (ad 12 0)) (C := RX1) (T := TX1) (N := 12) hx hb hts iwX1_pathsThatEndOn_X1 hown hK.1 hP 2 cw_2 rfl 11 (by decide) (hts _ lkX1_pathsThatEndOn_46) (fun _ h9 => h9) rfl dX1_pathsThatEndOn_1 ?_
  refine lv_iconst (v := 0) hx hb dX1_pathsThatEndOn_4 (by decide) ?_
  refine zc_v (zr_S [.ref (ad 12 0), .int (0 : Int32)] [] ⟨hx, hb, hml, hown, hts⟩ (ctJ7_fill l D cy (cw cy ad σ) 12 (ad 12 0) (0 : Int32) (by decide) cw_12 _) (va_cwS 2 hts gX1_pathsThatEndOn_J7_fill_53178 rfl rfl rfl (by decide +kernel) ⟨Nat.le_of_ble_eq_true rfl, Nat.le_of_ble_eq_true rfl⟩) hK hP hD rfl hl.1 rfl (Nat.le_of_ble_eq_true rfl) dX1_pathsThatEndOn_5 ⟨Nat.zero_le _, Nat.zero_le _⟩) hD hS hA (fun H locs hP hD hS => ?_)
  have hP := eP cw_r12 hP
  have hD := eD cw_r12 hD
  obtain ⟨σ_18, e_18, hm⟩ := sv_some hm
  have hP : va_P D vwCl (cw cy ad σ_18) H := by rw [e_18]; exact hP
  have hD : va_D A (cw cy ad σ_18) := by rw [e_18]; exact hD
  refine lv_aload_n hx hb dX1_pathsThatEndOn_8 rfl (lv_at hl 0 rfl) ?_
  refine va_get (D := D) (ci := 1) (v := .ref (ad 12 0)) (C := RX1) (T := TX1) (N := 12) hx hb hts iwX1_pathsThatEndOn_X1 hown hK.1 hP 2 cw_2 rfl 11 (by decide) (hts _ lkX1_pathsThatEndOn_46) (fun _ h9 => h9) rfl dX1_pathsThatEndOn_9 ?_
  refine lv_iconst (v := 0) hx hb dX1_pathsThatEndOn_12 (by decide) ?_
  refine lv_iconst (v := 1) hx hb dX1_pathsThatEndOn_13 (by decide) ?_
  obtain ⟨h_19, hm⟩ := gd_some hm
  refine va_iast hx hb hK.1 hP hD hS 12 0 cw_12 rfl (inb_vp h_19) dX1_pathsThatEndOn_14 (fun H locs hP hD hS => ?_)
  have hP := eP cw_s12 hP
  have hD := eD cw_s12 hD
  obtain ⟨σ_20, e_20, hm⟩ := sv_some hm
  have hP : va_P D vwCl (cw cy ad σ_20) H := by rw [e_20]; exact hP
  have hD : va_D A (cw cy ad σ_20) := by rw [e_20]; exact hD
  refine lv_iconst (v := 0) hx hb dX1_pathsThatEndOn_15 (by decide) ?_
  refine lv_istore_n (lv' := [(2, .int (0 : Int32)), (0, .ref (ad 2 0)), (1, .int a1)]) hx hb dX1_pathsThatEndOn_16 rfl hl (by decide) rfl (fun ls hl => ?_)
  exact kX1_pathsThatEndOn_17_ok C q FU σ_20 a1 (0 : Int32) _ _ hP hD hS _ (lv_sub hl [1, 2, 0] rfl) hm

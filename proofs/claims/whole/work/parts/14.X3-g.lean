abbrev rmX3_act : Room := { frames := 9, cells := 0, slots := 0, locals := 211 }
theorem lkX3_act_61 : Cond.fieldLink RX3 61 "DeliveryBasketModel" "thrown" "I" ∈ wsX3_act := by decide +kernel
theorem iwX3_act_X3 : ∀ w ∈ wsX30, w ∈ wsX3_act := fun _ h => List.mem_cons_of_mem _ (List.mem_append_right _ h)
theorem lkX3_act_55 : Cond.fieldLink RX3 55 "DeliveryBasketModel" "bonds" "[I" ∈ wsX3_act := by decide +kernel
def mX3_act (σ : ST) (a1 : Int32) (a2 : Int32) : Option (Int32 × ST) := sv (sI σ 0 0 10 (0 : Int32)) fun σ_1 => (mX3_isNode σ_1 a1 a2).bind fun q_2 => if q_2 = (0 : Int32) then (some ((-1 : Int32), σ_1)) else ((mX3_isAny σ_1).bind fun q_4 => if q_4 = (0 : Int32) then (some ((-1 : Int32), σ_1)) else ((mX3_laysTree σ_1 (-1 : Int32)).bind fun q_6 => (mX3_delivers q_6 a1 a2).bind fun q_7 => if q_7 = (0 : Int32) then (some ((-2 : Int32), q_6)) else (gd (inb (((21 : Int32) * a1) + a2) 441) (some ((gI q_6 3 0 (Int32.toNatClampNeg (((21 : Int32) * a1) + a2))), q_6)))))
set_option maxHeartbeats 4000000 in
set_option maxRecDepth 100000 in
theorem ctX3_act (l : Launch) (D : va_G) (cy : Nat → ClassId) (ad : Nat → Nat → Nat) (σ : ST) (a1 : Int32) (a2 : Int32) (q : Int32 × ST) (hm : mX3_act σ a1 a2 = some q) : zMi l yX3_act wsX3_act rmX3_act D cy [.ref (ad 0 0), .int a1, .int a2] (mw cy ad σ) q.1 (mw cy ad q.2) := by
  intro sz
  refine Met.ofW (cc := cX3_act) (maxL := 3) (ret := (some .int)) (by decide) rfl ?_
  intro p e s m args below meth c s₁ B hml hv
  obtain ⟨rfl, hsz, hP, hK, hD0⟩ := hv
  have hx := B.exec
  have hb := B.bytes
  have hr := B.returns
  have hts := atoms_spec (ws := wsX3_act) B.pre
  have hown : s.vm.findClass RX3 = some m.cls := findClass_of_methodNamed B.named
  have hlocks := B.notSynchronized
  subst hsz
  have hD := hD0.self (sz := s.heap.size)
  generalize hAe : va_A (mw cy ad σ) s.heap.size = A at hD ⊢
  have hA : ∀ q : Nat, s.heap.size ≤ q → A q := fun q h => by rw [← hAe]; exact Or.inr h
  have hS : va_S A s.heap s.heap [] := va_S.rf
  have C : Cx p s m _ meth c cX3_act 3 (some .int) RX3 wsX3_act D cy A := ⟨hx, hb, hml, hown, hts, hr, hlocks, hK, hA⟩
  have hl := lv_entry ([.ref (ad 0 0), .int a1, .int a2]) (n := 3) (Nat.le_of_ble_eq_true rfl)
  rw [lg_entry_eq]
  generalize (lg_sl ([.ref (ad 0 0), .int a1, .int a2]) ++ List.replicate (3 - (lg_sl ([.ref (ad 0 0), .int a1, .int a2])).length) Slot.unset).toArray = ls at hl ⊢
  have hl : lv_has ls 3 [(0, .ref (ad 0 0)), (1, .int a1), (2, .int a2)] := hl
  unfold mX3_act at hm
  refine lv_aload_n hx hb dX3_act_0 rfl (lv_at hl 0 rfl) ?_
  refine lv_iconst (v := 0) hx hb dX3_act_1 (by decide) ?_
  refine va_put (D := D) (ci := 3) (v := .int (0 : Int32)) (ty := .int) (C := RX3) (T := TX3) (N := 20) hx hb hts iwX3_act_X3 tyX3 tyX3_ok nmX3 hown hK.1 hP hD hS 0 mw_0 rfl 10 (by decide) (hts _ lkX3_act_61) (fun _ h9 => h9) rfl (by decide +kernel) rfl rfl (Nat.le_of_ble_eq_true rfl) dX3_act_2 (fun H locs hP hD hS => ?_)
  have hP := eP (mw_s0 (σ := σ) (j := 10) (v := (0 : Int32)) (by rfl)) hP
  have hD := eD (mw_s0 (σ := σ) (j := 10) (v := (0 : Int32)) (by rfl)) hD
  obtain ⟨σ_1, e_1, hm⟩ := sv_some hm
  have hP : va_P D vwCl (mw cy ad σ_1) H := by rw [e_1]; exact hP
  have hD : va_D A (mw cy ad σ_1) := by rw [e_1]; exact hD
  refine lv_aload_n hx hb dX3_act_5 rfl (lv_at hl 0 rfl) ?_
  refine lv_iload_n hx hb dX3_act_6 rfl (lv_at hl 1 rfl) ?_
  refine lv_iload_n hx hb dX3_act_7 rfl (lv_at hl 2 rfl) ?_
  obtain ⟨q_2, hq_2, hm⟩ := ob hm
  refine zc_i (zr_V [.int a1, .int a2] [] ⟨hx, hb, hml, hown, hts⟩ (ctX3_isNode l D cy ad σ_1  a1 a2 q_2 hq_2 _) (cwV 2 hts gX3_act_X3_isNode rfl rfl rfl (by decide +kernel) ⟨Nat.le_of_ble_eq_true rfl, Nat.le_of_ble_eq_true rfl⟩) hK hP hD 0 mw_0 rfl rfl rfl hl.1 rfl (Nat.le_of_ble_eq_true rfl) dX3_act_8 ⟨Nat.zero_le _, Nat.zero_le _⟩) hD hS hA (fun H locs hP hD hS => ?_)
  refine lv_if_eq (tgt := 21) hx hb dX3_act_11 (by decide) (fun c_3 => ?_) (fun c_3 => ?_)
  · have hm := ifp c_3 hm
    refine lv_iconst (v := -1) hx hb dX3_act_21 (by decide) ?_
    exact z_i hx hb hr hlocks hm hP hD hS dX3_act_22
  · have hm := ifn c_3 hm
    refine lv_aload_n hx hb dX3_act_14 rfl (lv_at hl 0 rfl) ?_
    obtain ⟨q_4, hq_4, hm⟩ := ob hm
    refine zc_i (zr_V [] [] ⟨hx, hb, hml, hown, hts⟩ (ctX3_isAny l D cy ad σ_1   q_4 hq_4 _) (cwV 0 hts gX3_act_X3_isAny rfl rfl rfl (by decide +kernel) ⟨Nat.le_of_ble_eq_true rfl, Nat.le_of_ble_eq_true rfl⟩) hK hP hD 0 mw_0 rfl rfl rfl hl.1 rfl (Nat.le_of_ble_eq_true rfl) dX3_act_15 ⟨Nat.zero_le _, Nat.zero_le _⟩) hD hS hA (fun H locs hP hD hS => ?_)
    refine lv_if_ne (tgt := 23) hx hb dX3_act_18 (by decide) (fun c_5 => ?_) (fun c_5 => ?_)
    · have hm := ifn c_5 hm
      refine lv_aload_n hx hb dX3_act_23 rfl (lv_at hl 0 rfl) ?_
      refine lv_iconst (v := -1) hx hb dX3_act_24 (by decide) ?_
      obtain ⟨q_6, hq_6, hm⟩ := ob hm
      refine zc_v (zr_V [.int (-1 : Int32)] [] ⟨hx, hb, hml, hown, hts⟩ (ctX3_laysTree l D cy ad σ_1  (-1 : Int32) q_6 hq_6 _) (cwV 1 hts gX3_act_X3_laysTree rfl rfl rfl (by decide +kernel) ⟨Nat.le_of_ble_eq_true rfl, Nat.le_of_ble_eq_true rfl⟩) hK hP hD 0 mw_0 rfl rfl rfl hl.1 rfl (Nat.le_of_ble_eq_true rfl) dX3_act_25 ⟨Nat.zero_le _, Nat.zero_le _⟩) hD hS hA (fun H locs hP hD hS => ?_)
      refine lv_aload_n hx hb dX3_act_28 rfl (lv_at hl 0 rfl) ?_
      refine lv_iload_n hx hb dX3_act_29 rfl (lv_at hl 1 rfl) ?_
      refine lv_iload_n hx hb dX3_act_30 rfl (lv_at hl 2 rfl) ?_
      obtain ⟨q_7, hq_7, hm⟩ := ob hm
      refine zc_i (zr_V [.int a1, .int a2] [] ⟨hx, hb, hml, hown, hts⟩ (ctX3_delivers l D cy ad q_6  a1 a2 q_7 hq_7 _) (cwV 2 hts gX3_act_X3_delivers rfl rfl rfl (by decide +kernel) ⟨Nat.le_of_ble_eq_true rfl, Nat.le_of_ble_eq_true rfl⟩) hK hP hD 0 mw_0 rfl rfl rfl hl.1 rfl (Nat.le_of_ble_eq_true rfl) dX3_act_31 ⟨Nat.zero_le _, Nat.zero_le _⟩) hD hS hA (fun H locs hP hD hS => ?_)
      refine lv_if_eq (tgt := 51) hx hb dX3_act_34 (by decide) (fun c_8 => ?_) (fun c_8 => ?_)
      · have hm := ifp c_8 hm
        refine lv_bipush (v := -2) hx hb dX3_act_51 (by decide) ?_
        exact z_i hx hb hr hlocks hm hP hD hS dX3_act_53
      · have hm := ifn c_8 hm
        refine lv_aload_n hx hb dX3_act_37 rfl (lv_at hl 0 rfl) ?_
        refine va_get (D := D) (ci := 3) (v := .ref (ad 7 0)) (C := RX3) (T := TX3) (N := 20) hx hb hts iwX3_act_X3 hown hK.1 hP 0 mw_0 rfl 18 (by decide) (hts _ lkX3_act_55) (fun _ h9 => h9) rfl dX3_act_38 ?_
        refine lv_bipush (v := 21) hx hb dX3_act_41 (by decide) ?_
        refine lv_iload_n hx hb dX3_act_43 rfl (lv_at hl 1 rfl) ?_
        refine lv_imul hx hb dX3_act_44 ?_
        refine lv_iload_n hx hb dX3_act_45 rfl (lv_at hl 2 rfl) ?_
        refine lv_iadd hx hb dX3_act_46 ?_
        obtain ⟨h_9, hm⟩ := gd_some hm
        refine va_iald hx hb hK.1 hP 7 0 mw_7 rfl (inb_vp h_9) dX3_act_47 ?_
        refine lv_goto (tgt := 53) hx hb dX3_act_48 (by decide) ?_
        exact z_i hx hb hr hlocks hm hP hD hS dX3_act_53
    · have hm := ifp c_5 hm
      refine lv_iconst (v := -1) hx hb dX3_act_21 (by decide) ?_
      exact z_i hx hb hr hlocks hm hP hD hS dX3_act_22
abbrev rmX3_path : Room := { frames := 9, cells := 0, slots := 0, locals := 211 }
theorem lkX3_path_55 : Cond.fieldLink RX3 55 "DeliveryBasketModel" "bonds" "[I" ∈ wsX3_path := by decide +kernel
theorem iwX3_path_X3 : ∀ w ∈ wsX30, w ∈ wsX3_path := fun _ h => List.mem_cons_of_mem _ (List.mem_append_right _ h)
theorem lkX3_path_61 : Cond.fieldLink RX3 61 "DeliveryBasketModel" "thrown" "I" ∈ wsX3_path := by decide +kernel
theorem lkX3_path_141 : Cond.fieldLink RX3 141 "DeliveryBasketModel" "days" "I" ∈ wsX3_path := by decide +kernel
def bkX3_path_42  (rec : ST × Int32 × Int32 × Int32 × Int32 → Option (Int32 × ST)) (σ : ST) (x1 : Int32) (x2 : Int32) (x3 : Int32) (x4 : Int32) : Option (Int32 × ST) := (mX3_delivers σ x3 x4).bind fun q_1 => if q_1 = (0 : Int32) then (rec (σ, x1, x2, (x3 + (1 : Int32)), (x4 + ((x1 >>> (x3 &&& 31)) &&& (1 : Int32))))) else (if x2 = (0 : Int32) then (some (x3, σ)) else (gd (inb (((21 : Int32) * x3) + x4) 441) (some ((gI σ 3 0 (Int32.toNatClampNeg (((21 : Int32) * x3) + x4))), σ))))
def kX3_path_42  (n : Nat) (a : ST × Int32 × Int32 × Int32 × Int32) : Option (Int32 × ST) := fx (fun rec a => bkX3_path_42  rec a.1 a.2.1 a.2.2.1 a.2.2.2.1 a.2.2.2.2) n a
set_option maxHeartbeats 4000000 in
set_option maxRecDepth 100000 in
theorem kX3_path_42_ok {p : Program} {l : Launch} {e : Env} {s : State} {m : MethodId} {args : Array Value} {below : List Frame} {meth : Method} {c : Code} {D : va_G} {cy : Nat → ClassId} {ad : Nat → Nat → Nat} {A : Nat → Prop} (C : Cx p s m args meth c cX3_path 5 (some .int) RX3 wsX3_path D cy A) (q : Int32 × ST) : ∀ (n : Nat) (σ : ST) (x1 : Int32) (x2 : Int32) (x3 : Int32) (x4 : Int32), ∀ (H : Heap) (locs : List Loc), va_P D vwCl (mw cy ad σ) H → va_D A (mw cy ad σ) → va_S A s.heap H locs → ∀ ls : Array Slot, lv_has ls 5 [(0, .ref (ad 0 0)), (1, .int x1), (2, .int x2), (3, .int x3), (4, .int x4)] → kX3_path_42 n (σ, x1, x2, x3, x4) = some q → W p l e rmX3_path s m args below meth c H locs 0 0 (MQ below (zQi D (mw cy ad q.2) A q.1) args s 0 0 A) (F0 m 42 ls []) := by
  obtain ⟨hx, hb, hml, hown, hts, hr, hlocks, hK, hA⟩ := id C
  intro n
  induction n with
  | zero => intro σ x1 x2 x3 x4 H locs hP hD hS ls hl hm; cases hm
  | succ n ih =>
    intro σ x1 x2 x3 x4 H locs hP hD hS ls hl hm
    have hm : bkX3_path_42  (kX3_path_42 n) σ x1 x2 x3 x4 = some q := hm
    unfold bkX3_path_42 at hm
    refine lv_aload_n hx hb dX3_path_42 rfl (lv_at hl 0 rfl) ?_
    refine lv_iload_n hx hb dX3_path_43 rfl (lv_at hl 3 rfl) ?_
    refine lv_iload hx hb dX3_path_44 (lv_at hl 4 rfl) ?_
    obtain ⟨q_1, hq_1, hm⟩ := ob hm
    refine zc_i (zr_V [.int x3, .int x4] [] ⟨hx, hb, hml, hown, hts⟩ (ctX3_delivers l D cy ad σ  x3 x4 q_1 hq_1 _) (cwV 2 hts gX3_path_X3_delivers rfl rfl rfl (by decide +kernel) ⟨Nat.le_of_ble_eq_true rfl, Nat.le_of_ble_eq_true rfl⟩) hK hP hD 0 mw_0 rfl rfl rfl hl.1 rfl (Nat.le_of_ble_eq_true rfl) dX3_path_46 ⟨Nat.zero_le _, Nat.zero_le _⟩) hD hS hA (fun H locs hP hD hS => ?_)
    refine lv_if_ne (tgt := 68) hx hb dX3_path_49 (by decide) (fun c_2 => ?_) (fun c_2 => ?_)
    · have hm := ifn c_2 hm
      refine lv_iload_n hx hb dX3_path_68 rfl (lv_at hl 2 rfl) ?_
      refine lv_if_eq (tgt := 87) hx hb dX3_path_69 (by decide) (fun c_3 => ?_) (fun c_3 => ?_)
      · have hm := ifp c_3 hm
        refine lv_iload_n hx hb dX3_path_87 rfl (lv_at hl 3 rfl) ?_
        exact z_i hx hb hr hlocks hm hP hD hS dX3_path_88
      · have hm := ifn c_3 hm
        refine lv_aload_n hx hb dX3_path_72 rfl (lv_at hl 0 rfl) ?_
        refine va_get (D := D) (ci := 3) (v := .ref (ad 7 0)) (C := RX3) (T := TX3) (N := 20) hx hb hts iwX3_path_X3 hown hK.1 hP 0 mw_0 rfl 18 (by decide) (hts _ lkX3_path_55) (fun _ h9 => h9) rfl dX3_path_73 ?_
        refine lv_bipush (v := 21) hx hb dX3_path_76 (by decide) ?_
        refine lv_iload_n hx hb dX3_path_78 rfl (lv_at hl 3 rfl) ?_
        refine lv_imul hx hb dX3_path_79 ?_
        refine lv_iload hx hb dX3_path_80 (lv_at hl 4 rfl) ?_
        refine lv_iadd hx hb dX3_path_82 ?_
        obtain ⟨h_4, hm⟩ := gd_some hm
        refine va_iald hx hb hK.1 hP 7 0 mw_7 rfl (inb_vp h_4) dX3_path_83 ?_
        refine lv_goto (tgt := 88) hx hb dX3_path_84 (by decide) ?_
        exact z_i hx hb hr hlocks hm hP hD hS dX3_path_88
    · have hm := ifp c_2 hm
      refine lv_iload hx hb dX3_path_52 (lv_at hl 4 rfl) ?_
      refine lv_iload_n hx hb dX3_path_54 rfl (lv_at hl 1 rfl) ?_
      refine lv_iload_n hx hb dX3_path_55 rfl (lv_at hl 3 rfl) ?_
      refine lv_ishr hx hb dX3_path_56 ?_
      refine lv_iconst (v := 1) hx hb dX3_path_57 (by decide) ?_
      refine lv_iand hx hb dX3_path_58 ?_
      refine lv_iadd hx hb dX3_path_59 ?_
      refine lv_istore (lv' := [(4, .int (x4 + ((x1 >>> (x3 &&& 31)) &&& (1 : Int32)))), (0, .ref (ad 0 0)), (1, .int x1), (2, .int x2), (3, .int x3)]) hx hb dX3_path_60 hl (by decide) rfl (fun ls hl => ?_)
      refine lv_iinc (v := (x3 + (1 : Int32))) (lv' := [(3, .int (x3 + (1 : Int32))), (4, .int (x4 + ((x1 >>> (x3 &&& 31)) &&& (1 : Int32)))), (0, .ref (ad 0 0)), (1, .int x1), (2, .int x2)]) hx hb dX3_path_62 hl (k := 4) rfl rfl (by decide) rfl (fun ls hl => ?_)
      refine lv_goto (tgt := 42) hx hb dX3_path_65 (by decide) ?_
      exact ih σ x1 x2 (x3 + (1 : Int32)) (x4 + ((x1 >>> (x3 &&& 31)) &&& (1 : Int32))) _ _ hP hD hS _ (lv_sub hl [2, 3, 4, 0, 1] rfl) hm
def mX3_path (σ : ST) (a1 : Int32) (a2 : Int32) : Option (Int32 × ST) := sv (sI σ 0 0 10 (0 : Int32)) fun σ_5 => (mX3_isIn (Int32.toInt64 a1) (0 : Int64) (Int32.toInt64 (((1 : Int32) <<< ((gI σ_5 0 0 5) &&& 31)) - (1 : Int32)))).bind fun q_6 => if q_6 = (0 : Int32) then (some ((-1 : Int32), σ_5)) else ((mX3_isAny σ_5).bind fun q_8 => if q_8 = (0 : Int32) then (some ((-1 : Int32), σ_5)) else ((mX3_laysTree σ_5 (-1 : Int32)).bind fun q_10 => kX3_path_42 FU (q_10, a1, a2, (0 : Int32), (0 : Int32))))
set_option maxHeartbeats 4000000 in
set_option maxRecDepth 100000 in
theorem ctX3_path (l : Launch) (D : va_G) (cy : Nat → ClassId) (ad : Nat → Nat → Nat) (σ : ST) (a1 : Int32) (a2 : Int32) (q : Int32 × ST) (hm : mX3_path σ a1 a2 = some q) : zMi l yX3_path wsX3_path rmX3_path D cy [.ref (ad 0 0), .int a1, .int a2] (mw cy ad σ) q.1 (mw cy ad q.2) := by
  intro sz
  refine Met.ofW (cc := cX3_path) (maxL := 5) (ret := (some .int)) (by decide) rfl ?_
  intro p e s m args below meth c s₁ B hml hv
  obtain ⟨rfl, hsz, hP, hK, hD0⟩ := hv
  have hx := B.exec
  have hb := B.bytes
  have hr := B.returns
  have hts := atoms_spec (ws := wsX3_path) B.pre
  have hown : s.vm.findClass RX3 = some m.cls := findClass_of_methodNamed B.named
  have hlocks := B.notSynchronized
  subst hsz
  have hD := hD0.self (sz := s.heap.size)
  generalize hAe : va_A (mw cy ad σ) s.heap.size = A at hD ⊢
  have hA : ∀ q : Nat, s.heap.size ≤ q → A q := fun q h => by rw [← hAe]; exact Or.inr h
  have hS : va_S A s.heap s.heap [] := va_S.rf
  have C : Cx p s m _ meth c cX3_path 5 (some .int) RX3 wsX3_path D cy A := ⟨hx, hb, hml, hown, hts, hr, hlocks, hK, hA⟩
  have hl := lv_entry ([.ref (ad 0 0), .int a1, .int a2]) (n := 5) (Nat.le_of_ble_eq_true rfl)
  rw [lg_entry_eq]
  generalize (lg_sl ([.ref (ad 0 0), .int a1, .int a2]) ++ List.replicate (5 - (lg_sl ([.ref (ad 0 0), .int a1, .int a2])).length) Slot.unset).toArray = ls at hl ⊢
  have hl : lv_has ls 5 [(0, .ref (ad 0 0)), (1, .int a1), (2, .int a2)] := hl
  unfold mX3_path at hm
  refine lv_aload_n hx hb dX3_path_0 rfl (lv_at hl 0 rfl) ?_
  refine lv_iconst (v := 0) hx hb dX3_path_1 (by decide) ?_
  refine va_put (D := D) (ci := 3) (v := .int (0 : Int32)) (ty := .int) (C := RX3) (T := TX3) (N := 20) hx hb hts iwX3_path_X3 tyX3 tyX3_ok nmX3 hown hK.1 hP hD hS 0 mw_0 rfl 10 (by decide) (hts _ lkX3_path_61) (fun _ h9 => h9) rfl (by decide +kernel) rfl rfl (Nat.le_of_ble_eq_true rfl) dX3_path_2 (fun H locs hP hD hS => ?_)
  have hP := eP (mw_s0 (σ := σ) (j := 10) (v := (0 : Int32)) (by rfl)) hP
  have hD := eD (mw_s0 (σ := σ) (j := 10) (v := (0 : Int32)) (by rfl)) hD
  obtain ⟨σ_5, e_5, hm⟩ := sv_some hm
  have hP : va_P D vwCl (mw cy ad σ_5) H := by rw [e_5]; exact hP
  have hD : va_D A (mw cy ad σ_5) := by rw [e_5]; exact hD
  refine lv_iload_n hx hb dX3_path_5 rfl (lv_at hl 1 rfl) ?_
  refine lv_i2l hx hb dX3_path_6 rfl ?_
  refine lv_lconst (v := 0) hx hb dX3_path_7 (by decide) ?_
  refine lv_iconst (v := 1) hx hb dX3_path_8 (by decide) ?_
  refine lv_aload_n hx hb dX3_path_9 rfl (lv_at hl 0 rfl) ?_
  refine va_get (D := D) (ci := 3) (v := .int (gI σ_5 0 0 5)) (C := RX3) (T := TX3) (N := 20) hx hb hts iwX3_path_X3 hown hK.1 hP 0 mw_0 rfl 5 (by decide) (hts _ lkX3_path_141) (fun _ h9 => h9) rfl dX3_path_10 ?_
  refine lv_ishl hx hb dX3_path_13 ?_
  refine lv_iconst (v := 1) hx hb dX3_path_14 (by decide) ?_
  refine lv_isub hx hb dX3_path_15 ?_
  refine lv_i2l hx hb dX3_path_16 rfl ?_
  obtain ⟨q_6, hq_6, hm⟩ := ob hm
  refine zc_i (zr_S [.long (Int32.toInt64 a1), .long (0 : Int64), .long (Int32.toInt64 (((1 : Int32) <<< ((gI σ_5 0 0 5) &&& 31)) - (1 : Int32)))] [] ⟨hx, hb, hml, hown, hts⟩ (ctX3_isIn l D cy (mw cy ad σ_5)  (Int32.toInt64 a1) (0 : Int64) (Int32.toInt64 (((1 : Int32) <<< ((gI σ_5 0 0 5) &&& 31)) - (1 : Int32))) q_6 hq_6 _) (va_cwS 3 hts gX3_path_X3_isIn rfl rfl rfl (by decide +kernel) ⟨Nat.le_of_ble_eq_true rfl, Nat.le_of_ble_eq_true rfl⟩) hK hP hD rfl hl.1 rfl (Nat.le_of_ble_eq_true rfl) dX3_path_17 ⟨Nat.zero_le _, Nat.zero_le _⟩) hD hS hA (fun H locs hP hD hS => ?_)
  refine lv_if_eq (tgt := 30) hx hb dX3_path_20 (by decide) (fun c_7 => ?_) (fun c_7 => ?_)
  · have hm := ifp c_7 hm
    refine lv_iconst (v := -1) hx hb dX3_path_30 (by decide) ?_
    exact z_i hx hb hr hlocks hm hP hD hS dX3_path_31
  · have hm := ifn c_7 hm
    refine lv_aload_n hx hb dX3_path_23 rfl (lv_at hl 0 rfl) ?_
    obtain ⟨q_8, hq_8, hm⟩ := ob hm
    refine zc_i (zr_V [] [] ⟨hx, hb, hml, hown, hts⟩ (ctX3_isAny l D cy ad σ_5   q_8 hq_8 _) (cwV 0 hts gX3_path_X3_isAny rfl rfl rfl (by decide +kernel) ⟨Nat.le_of_ble_eq_true rfl, Nat.le_of_ble_eq_true rfl⟩) hK hP hD 0 mw_0 rfl rfl rfl hl.1 rfl (Nat.le_of_ble_eq_true rfl) dX3_path_24 ⟨Nat.zero_le _, Nat.zero_le _⟩) hD hS hA (fun H locs hP hD hS => ?_)
    refine lv_if_ne (tgt := 32) hx hb dX3_path_27 (by decide) (fun c_9 => ?_) (fun c_9 => ?_)
    · have hm := ifn c_9 hm
      refine lv_aload_n hx hb dX3_path_32 rfl (lv_at hl 0 rfl) ?_
      refine lv_iconst (v := -1) hx hb dX3_path_33 (by decide) ?_
      obtain ⟨q_10, hq_10, hm⟩ := ob hm
      refine zc_v (zr_V [.int (-1 : Int32)] [] ⟨hx, hb, hml, hown, hts⟩ (ctX3_laysTree l D cy ad σ_5  (-1 : Int32) q_10 hq_10 _) (cwV 1 hts gX3_path_X3_laysTree rfl rfl rfl (by decide +kernel) ⟨Nat.le_of_ble_eq_true rfl, Nat.le_of_ble_eq_true rfl⟩) hK hP hD 0 mw_0 rfl rfl rfl hl.1 rfl (Nat.le_of_ble_eq_true rfl) dX3_path_34 ⟨Nat.zero_le _, Nat.zero_le _⟩) hD hS hA (fun H locs hP hD hS => ?_)
      refine lv_iconst (v := 0) hx hb dX3_path_37 (by decide) ?_
      refine lv_istore_n (lv' := [(3, .int (0 : Int32)), (0, .ref (ad 0 0)), (1, .int a1), (2, .int a2)]) hx hb dX3_path_38 rfl hl (by decide) rfl (fun ls hl => ?_)
      refine lv_iconst (v := 0) hx hb dX3_path_39 (by decide) ?_
      refine lv_istore (lv' := [(4, .int (0 : Int32)), (3, .int (0 : Int32)), (0, .ref (ad 0 0)), (1, .int a1), (2, .int a2)]) hx hb dX3_path_40 hl (by decide) rfl (fun ls hl => ?_)
      exact kX3_path_42_ok C q FU q_10 a1 a2 (0 : Int32) (0 : Int32) _ _ hP hD hS _ (lv_sub hl [2, 3, 4, 1, 0] rfl) hm
    · have hm := ifp c_9 hm
      refine lv_iconst (v := -1) hx hb dX3_path_30 (by decide) ?_
      exact z_i hx hb hr hlocks hm hP hD hS dX3_path_31
abbrev rmX3_often : Room := { frames := 9, cells := 0, slots := 0, locals := 211 }
theorem lkX3_often_58 : Cond.fieldLink RX3 58 "DeliveryBasketModel" "ways" "[I" ∈ wsX3_often := by decide +kernel
theorem iwX3_often_X3 : ∀ w ∈ wsX30, w ∈ wsX3_often := fun _ h => List.mem_cons_of_mem _ (List.mem_append_right _ h)
theorem lkX3_often_141 : Cond.fieldLink RX3 141 "DeliveryBasketModel" "days" "I" ∈ wsX3_often := by decide +kernel
theorem lkX3_often_61 : Cond.fieldLink RX3 61 "DeliveryBasketModel" "thrown" "I" ∈ wsX3_often := by decide +kernel
def bkX3_often_161 (rc45 : ST × Int32 × Int32 × Int32 × Int32 → Option (Int32 × ST)) (σ : ST) (x1 : Int32) (x2 : Int32) (x3 : Int32) (x4 : Int32) (x5 : Int32) : Option (Int32 × ST) := if x3 = x1 then ((mX3_delivers σ x3 x4).bind fun q_2 => if q_2 = (0 : Int32) then (rc45 (σ, x1, (x2 + (0 : Int32)), x3, (x4 + (1 : Int32)))) else (gd (inb x5 441) (rc45 (σ, x1, (x2 + (gI σ 4 0 (Int32.toNatClampNeg x5))), x3, (x4 + (1 : Int32)))))) else (rc45 (σ, x1, (x2 + (0 : Int32)), x3, (x4 + (1 : Int32))))
def kX3_often_161 (rc45 : ST × Int32 × Int32 × Int32 × Int32 → Option (Int32 × ST)) (a : ST × Int32 × Int32 × Int32 × Int32 × Int32) : Option (Int32 × ST) := bkX3_often_161 rc45 a.1 a.2.1 a.2.2.1 a.2.2.2.1 a.2.2.2.2.1 a.2.2.2.2.2
set_option maxHeartbeats 4000000 in
set_option maxRecDepth 100000 in
theorem kX3_often_161_ok {p : Program} {l : Launch} {e : Env} {s : State} {m : MethodId} {args : Array Value} {below : List Frame} {meth : Method} {c : Code} {D : va_G} {cy : Nat → ClassId} {ad : Nat → Nat → Nat} {A : Nat → Prop} (C : Cx p s m args meth c cX3_often 6 (some .int) RX3 wsX3_often D cy A) (q : Int32 × ST) {rc45 : ST × Int32 × Int32 × Int32 × Int32 → Option (Int32 × ST)} (hr45 : ∀ (σ : ST) (x1 : Int32) (x2 : Int32) (x3 : Int32) (x4 : Int32), ∀ (H : Heap) (locs : List Loc), va_P D vwCl (mw cy ad σ) H → va_D A (mw cy ad σ) → va_S A s.heap H locs → ∀ ls : Array Slot, lv_has ls 6 [(0, .ref (ad 0 0)), (1, .int x1), (2, .int x2), (3, .int x3), (4, .int x4)] → rc45 (σ, x1, x2, x3, x4) = some q → W p l e rmX3_often s m args below meth c H locs 0 0 (MQ below (zQi D (mw cy ad q.2) A q.1) args s 0 0 A) (F0 m 45 ls [])) : ∀ (σ : ST) (x1 : Int32) (x2 : Int32) (x3 : Int32) (x4 : Int32) (x5 : Int32), ∀ (H : Heap) (locs : List Loc), va_P D vwCl (mw cy ad σ) H → va_D A (mw cy ad σ) → va_S A s.heap H locs → ∀ ls : Array Slot, lv_has ls 6 [(0, .ref (ad 0 0)), (1, .int x1), (2, .int x2), (3, .int x3), (4, .int x4), (5, .int x5)] → kX3_often_161 rc45 (σ, x1, x2, x3, x4, x5) = some q → W p l e rmX3_often s m args below meth c H locs 0 0 (MQ below (zQi D (mw cy ad q.2) A q.1) args s 0 0 A) (F0 m 161 ls []) := by
  obtain ⟨hx, hb, hml, hown, hts, hr, hlocks, hK, hA⟩ := id C
  intro σ x1 x2 x3 x4 x5 H locs hP hD hS ls hl hm
  have hm : bkX3_often_161 rc45 σ x1 x2 x3 x4 x5 = some q := hm
  unfold bkX3_often_161 at hm
  refine lv_iload_n hx hb dX3_often_161 rfl (lv_at hl 2 rfl) ?_
  refine lv_iload_n hx hb dX3_often_162 rfl (lv_at hl 3 rfl) ?_
  refine lv_iload_n hx hb dX3_often_163 rfl (lv_at hl 1 rfl) ?_
  refine lv_icmp_ne (tgt := 187) hx hb dX3_often_164 (by decide) (fun c_1 => ?_) (fun c_1 => ?_)
  · have hm := ifn c_1 hm
    refine lv_iconst (v := 0) hx hb dX3_often_187 (by decide) ?_
    refine lv_iadd hx hb dX3_often_188 ?_
    refine lv_istore_n (lv' := [(2, .int (x2 + (0 : Int32))), (0, .ref (ad 0 0)), (1, .int x1), (3, .int x3), (4, .int x4), (5, .int x5)]) hx hb dX3_often_189 rfl hl (by decide) rfl (fun ls hl => ?_)
    refine lv_iinc (v := (x4 + (1 : Int32))) (lv' := [(4, .int (x4 + (1 : Int32))), (2, .int (x2 + (0 : Int32))), (0, .ref (ad 0 0)), (1, .int x1), (3, .int x3), (5, .int x5)]) hx hb dX3_often_190 hl (k := 4) rfl rfl (by decide) rfl (fun ls hl => ?_)
    refine lv_goto (tgt := 45) hx hb dX3_often_193 (by decide) ?_
    exact hr45 σ x1 (x2 + (0 : Int32)) x3 (x4 + (1 : Int32)) _ _ hP hD hS _ (lv_sub hl [2, 3, 1, 4, 0] rfl) hm
  · have hm := ifp c_1 hm
    refine lv_aload_n hx hb dX3_often_167 rfl (lv_at hl 0 rfl) ?_
    refine lv_iload_n hx hb dX3_often_168 rfl (lv_at hl 3 rfl) ?_
    refine lv_iload hx hb dX3_often_169 (lv_at hl 4 rfl) ?_
    obtain ⟨q_2, hq_2, hm⟩ := ob hm
    refine zc_i (zr_V [.int x3, .int x4] [.int x2] ⟨hx, hb, hml, hown, hts⟩ (ctX3_delivers l D cy ad σ  x3 x4 q_2 hq_2 _) (cwV 2 hts gX3_often_X3_delivers rfl rfl rfl (by decide +kernel) ⟨Nat.le_of_ble_eq_true rfl, Nat.le_of_ble_eq_true rfl⟩) hK hP hD 0 mw_0 rfl rfl rfl hl.1 rfl (Nat.le_of_ble_eq_true rfl) dX3_often_171 ⟨Nat.zero_le _, Nat.zero_le _⟩) hD hS hA (fun H locs hP hD hS => ?_)
    refine lv_if_eq (tgt := 187) hx hb dX3_often_174 (by decide) (fun c_3 => ?_) (fun c_3 => ?_)
    · have hm := ifp c_3 hm
      refine lv_iconst (v := 0) hx hb dX3_often_187 (by decide) ?_
      refine lv_iadd hx hb dX3_often_188 ?_
      refine lv_istore_n (lv' := [(2, .int (x2 + (0 : Int32))), (0, .ref (ad 0 0)), (1, .int x1), (3, .int x3), (4, .int x4), (5, .int x5)]) hx hb dX3_often_189 rfl hl (by decide) rfl (fun ls hl => ?_)
      refine lv_iinc (v := (x4 + (1 : Int32))) (lv' := [(4, .int (x4 + (1 : Int32))), (2, .int (x2 + (0 : Int32))), (0, .ref (ad 0 0)), (1, .int x1), (3, .int x3), (5, .int x5)]) hx hb dX3_often_190 hl (k := 4) rfl rfl (by decide) rfl (fun ls hl => ?_)
      refine lv_goto (tgt := 45) hx hb dX3_often_193 (by decide) ?_
      exact hr45 σ x1 (x2 + (0 : Int32)) x3 (x4 + (1 : Int32)) _ _ hP hD hS _ (lv_sub hl [2, 3, 1, 4, 0] rfl) hm
    · have hm := ifn c_3 hm
      refine lv_aload_n hx hb dX3_often_177 rfl (lv_at hl 0 rfl) ?_
      refine va_get (D := D) (ci := 3) (v := .ref (ad 8 0)) (C := RX3) (T := TX3) (N := 20) hx hb hts iwX3_often_X3 hown hK.1 hP 0 mw_0 rfl 19 (by decide) (hts _ lkX3_often_58) (fun _ h9 => h9) rfl dX3_often_178 ?_
      refine lv_iload hx hb dX3_often_181 (lv_at hl 5 rfl) ?_
      obtain ⟨h_4, hm⟩ := gd_some hm
      refine va_iald hx hb hK.1 hP 8 0 mw_8 rfl (inb_vp h_4) dX3_often_183 ?_
      refine lv_goto (tgt := 188) hx hb dX3_often_184 (by decide) ?_
      refine lv_iadd hx hb dX3_often_188 ?_
      refine lv_istore_n (lv' := [(2, .int (x2 + (gI σ 4 0 (Int32.toNatClampNeg x5)))), (0, .ref (ad 0 0)), (1, .int x1), (3, .int x3), (4, .int x4), (5, .int x5)]) hx hb dX3_often_189 rfl hl (by decide) rfl (fun ls hl => ?_)
      refine lv_iinc (v := (x4 + (1 : Int32))) (lv' := [(4, .int (x4 + (1 : Int32))), (2, .int (x2 + (gI σ 4 0 (Int32.toNatClampNeg x5)))), (0, .ref (ad 0 0)), (1, .int x1), (3, .int x3), (5, .int x5)]) hx hb dX3_often_190 hl (k := 4) rfl rfl (by decide) rfl (fun ls hl => ?_)
      refine lv_goto (tgt := 45) hx hb dX3_often_193 (by decide) ?_
      exact hr45 σ x1 (x2 + (gI σ 4 0 (Int32.toNatClampNeg x5))) x3 (x4 + (1 : Int32)) _ _ hP hD hS _ (lv_sub hl [2, 3, 1, 4, 0] rfl) hm
def bkX3_often_119 (rc45 : ST × Int32 × Int32 × Int32 × Int32 → Option (Int32 × ST)) (σ : ST) (x1 : Int32) (x2 : Int32) (x3 : Int32) (x4 : Int32) (x5 : Int32) : Option (Int32 × ST) := if x3 ≤ (0 : Int32) then (kX3_often_161 rc45 (σ, x1, x2, x3, x4, x5)) else (if x3 ≤ x4 then (kX3_often_161 rc45 (σ, x1, x2, x3, x4, x5)) else ((mX3_delivers σ (x3 - (1 : Int32)) x4).bind fun q_7 => if q_7 = (0 : Int32) then (gd (inb x5 441) (gd (inb (x5 - (21 : Int32)) 441) (gd (inb x5 441) (sv (sI σ 4 0 (Int32.toNatClampNeg x5) ((gI σ 4 0 (Int32.toNatClampNeg x5)) + (gI σ 4 0 (Int32.toNatClampNeg (x5 - (21 : Int32)))))) fun σ_12 => kX3_often_161 rc45 (σ_12, x1, x2, x3, x4, x5))))) else (kX3_often_161 rc45 (σ, x1, x2, x3, x4, x5))))
def kX3_often_119 (rc45 : ST × Int32 × Int32 × Int32 × Int32 → Option (Int32 × ST)) (a : ST × Int32 × Int32 × Int32 × Int32 × Int32) : Option (Int32 × ST) := bkX3_often_119 rc45 a.1 a.2.1 a.2.2.1 a.2.2.2.1 a.2.2.2.2.1 a.2.2.2.2.2
set_option maxHeartbeats 4000000 in
set_option maxRecDepth 100000 in
theorem kX3_often_119_ok {p : Program} {l : Launch} {e : Env} {s : State} {m : MethodId} {args : Array Value} {below : List Frame} {meth : Method} {c : Code} {D : va_G} {cy : Nat → ClassId} {ad : Nat → Nat → Nat} {A : Nat → Prop} (C : Cx p s m args meth c cX3_often 6 (some .int) RX3 wsX3_often D cy A) (q : Int32 × ST) {rc45 : ST × Int32 × Int32 × Int32 × Int32 → Option (Int32 × ST)} (hr45 : ∀ (σ : ST) (x1 : Int32) (x2 : Int32) (x3 : Int32) (x4 : Int32), ∀ (H : Heap) (locs : List Loc), va_P D vwCl (mw cy ad σ) H → va_D A (mw cy ad σ) → va_S A s.heap H locs → ∀ ls : Array Slot, lv_has ls 6 [(0, .ref (ad 0 0)), (1, .int x1), (2, .int x2), (3, .int x3), (4, .int x4)] → rc45 (σ, x1, x2, x3, x4) = some q → W p l e rmX3_often s m args below meth c H locs 0 0 (MQ below (zQi D (mw cy ad q.2) A q.1) args s 0 0 A) (F0 m 45 ls [])) : ∀ (σ : ST) (x1 : Int32) (x2 : Int32) (x3 : Int32) (x4 : Int32) (x5 : Int32), ∀ (H : Heap) (locs : List Loc), va_P D vwCl (mw cy ad σ) H → va_D A (mw cy ad σ) → va_S A s.heap H locs → ∀ ls : Array Slot, lv_has ls 6 [(0, .ref (ad 0 0)), (1, .int x1), (2, .int x2), (3, .int x3), (4, .int x4), (5, .int x5)] → kX3_often_119 rc45 (σ, x1, x2, x3, x4, x5) = some q → W p l e rmX3_often s m args below meth c H locs 0 0 (MQ below (zQi D (mw cy ad q.2) A q.1) args s 0 0 A) (F0 m 119 ls []) := by
  obtain ⟨hx, hb, hml, hown, hts, hr, hlocks, hK, hA⟩ := id C
  intro σ x1 x2 x3 x4 x5 H locs hP hD hS ls hl hm
  have hm : bkX3_often_119 rc45 σ x1 x2 x3 x4 x5 = some q := hm
  unfold bkX3_often_119 at hm
  refine lv_iload_n hx hb dX3_often_119 rfl (lv_at hl 3 rfl) ?_
  refine lv_if_le (tgt := 161) hx hb dX3_often_120 (by decide) (fun c_5 => ?_) (fun c_5 => ?_)
  · have hm := ifp c_5 hm
    exact kX3_often_161_ok C q hr45 σ x1 x2 x3 x4 x5 _ _ hP hD hS _ (lv_sub hl [0, 1, 2, 3, 4, 5] rfl) hm
  · have hm := ifn c_5 hm
    refine lv_iload hx hb dX3_often_123 (lv_at hl 4 rfl) ?_
    refine lv_iload_n hx hb dX3_often_125 rfl (lv_at hl 3 rfl) ?_
    refine lv_icmp_ge (tgt := 161) hx hb dX3_often_126 (by decide) (fun c_6 => ?_) (fun c_6 => ?_)
    · have hm := ifp c_6 hm
      exact kX3_often_161_ok C q hr45 σ x1 x2 x3 x4 x5 _ _ hP hD hS _ (lv_sub hl [0, 1, 2, 3, 4, 5] rfl) hm
    · have hm := ifn c_6 hm
      refine lv_aload_n hx hb dX3_often_129 rfl (lv_at hl 0 rfl) ?_
      refine lv_iload_n hx hb dX3_often_130 rfl (lv_at hl 3 rfl) ?_
      refine lv_iconst (v := 1) hx hb dX3_often_131 (by decide) ?_
      refine lv_isub hx hb dX3_often_132 ?_
      refine lv_iload hx hb dX3_often_133 (lv_at hl 4 rfl) ?_
      obtain ⟨q_7, hq_7, hm⟩ := ob hm
      refine zc_i (zr_V [.int (x3 - (1 : Int32)), .int x4] [] ⟨hx, hb, hml, hown, hts⟩ (ctX3_delivers l D cy ad σ  (x3 - (1 : Int32)) x4 q_7 hq_7 _) (cwV 2 hts gX3_often_X3_delivers rfl rfl rfl (by decide +kernel) ⟨Nat.le_of_ble_eq_true rfl, Nat.le_of_ble_eq_true rfl⟩) hK hP hD 0 mw_0 rfl rfl rfl hl.1 rfl (Nat.le_of_ble_eq_true rfl) dX3_often_135 ⟨Nat.zero_le _, Nat.zero_le _⟩) hD hS hA (fun H locs hP hD hS => ?_)
      refine lv_if_ne (tgt := 161) hx hb dX3_often_138 (by decide) (fun c_8 => ?_) (fun c_8 => ?_)
      · have hm := ifn c_8 hm
        exact kX3_often_161_ok C q hr45 σ x1 x2 x3 x4 x5 _ _ hP hD hS _ (lv_sub hl [0, 1, 2, 3, 4, 5] rfl) hm
      · have hm := ifp c_8 hm
        refine lv_aload_n hx hb dX3_often_141 rfl (lv_at hl 0 rfl) ?_
        refine va_get (D := D) (ci := 3) (v := .ref (ad 8 0)) (C := RX3) (T := TX3) (N := 20) hx hb hts iwX3_often_X3 hown hK.1 hP 0 mw_0 rfl 19 (by decide) (hts _ lkX3_often_58) (fun _ h9 => h9) rfl dX3_often_142 ?_
        refine lv_iload hx hb dX3_often_145 (lv_at hl 5 rfl) ?_
        refine lv_dup2_11 hx hb dX3_often_147 rfl rfl ?_
        obtain ⟨h_9, hm⟩ := gd_some hm
        refine va_iald hx hb hK.1 hP 8 0 mw_8 rfl (inb_vp h_9) dX3_often_148 ?_
        refine lv_aload_n hx hb dX3_often_149 rfl (lv_at hl 0 rfl) ?_
        refine va_get (D := D) (ci := 3) (v := .ref (ad 8 0)) (C := RX3) (T := TX3) (N := 20) hx hb hts iwX3_often_X3 hown hK.1 hP 0 mw_0 rfl 19 (by decide) (hts _ lkX3_often_58) (fun _ h9 => h9) rfl dX3_often_150 ?_
        refine lv_iload hx hb dX3_often_153 (lv_at hl 5 rfl) ?_
        refine lv_bipush (v := 21) hx hb dX3_often_155 (by decide) ?_
        refine lv_isub hx hb dX3_often_157 ?_
        obtain ⟨h_10, hm⟩ := gd_some hm
        refine va_iald hx hb hK.1 hP 8 0 mw_8 rfl (inb_vp h_10) dX3_often_158 ?_
        refine lv_iadd hx hb dX3_often_159 ?_
        obtain ⟨h_11, hm⟩ := gd_some hm
        refine va_iast hx hb hK.1 hP hD hS 8 0 mw_8 rfl (inb_vp h_11) dX3_often_160 (fun H locs hP hD hS => ?_)
        have hP := eP mw_s8 hP
        have hD := eD mw_s8 hD
        obtain ⟨σ_12, e_12, hm⟩ := sv_some hm
        have hP : va_P D vwCl (mw cy ad σ_12) H := by rw [e_12]; exact hP
        have hD : va_D A (mw cy ad σ_12) := by rw [e_12]; exact hD
        exact kX3_often_161_ok C q hr45 σ_12 x1 x2 x3 x4 x5 _ _ hP hD hS _ (lv_sub hl [0, 1, 2, 3, 4, 5] rfl) hm
def bkX3_often_75 (rc45 : ST × Int32 × Int32 × Int32 × Int32 → Option (Int32 × ST)) (σ : ST) (x1 : Int32) (x2 : Int32) (x3 : Int32) (x4 : Int32) (x5 : Int32) (y1 : Int32) (y2 : Int32) : Option (Int32 × ST) := gd (inb y1 441) (sv (sI σ 4 0 (Int32.toNatClampNeg y1) y2) fun σ_14 => if x3 ≤ (0 : Int32) then (kX3_often_119 rc45 (σ_14, x1, x2, x3, x4, x5)) else (if x4 ≤ (0 : Int32) then (kX3_often_119 rc45 (σ_14, x1, x2, x3, x4, x5)) else ((mX3_delivers σ_14 (x3 - (1 : Int32)) (x4 - (1 : Int32))).bind fun q_17 => if q_17 = (0 : Int32) then (gd (inb x5 441) (gd (inb (x5 - (22 : Int32)) 441) (gd (inb x5 441) (sv (sI σ_14 4 0 (Int32.toNatClampNeg x5) ((gI σ_14 4 0 (Int32.toNatClampNeg x5)) + (gI σ_14 4 0 (Int32.toNatClampNeg (x5 - (22 : Int32)))))) fun σ_22 => kX3_often_119 rc45 (σ_22, x1, x2, x3, x4, x5))))) else (kX3_often_119 rc45 (σ_14, x1, x2, x3, x4, x5)))))
def kX3_often_75 (rc45 : ST × Int32 × Int32 × Int32 × Int32 → Option (Int32 × ST)) (a : ST × Int32 × Int32 × Int32 × Int32 × Int32 × Int32 × Int32) : Option (Int32 × ST) := bkX3_often_75 rc45 a.1 a.2.1 a.2.2.1 a.2.2.2.1 a.2.2.2.2.1 a.2.2.2.2.2.1 a.2.2.2.2.2.2.1 a.2.2.2.2.2.2.2
set_option maxHeartbeats 4000000 in
set_option maxRecDepth 100000 in
theorem kX3_often_75_ok {p : Program} {l : Launch} {e : Env} {s : State} {m : MethodId} {args : Array Value} {below : List Frame} {meth : Method} {c : Code} {D : va_G} {cy : Nat → ClassId} {ad : Nat → Nat → Nat} {A : Nat → Prop} (C : Cx p s m args meth c cX3_often 6 (some .int) RX3 wsX3_often D cy A) (q : Int32 × ST) {rc45 : ST × Int32 × Int32 × Int32 × Int32 → Option (Int32 × ST)} (hr45 : ∀ (σ : ST) (x1 : Int32) (x2 : Int32) (x3 : Int32) (x4 : Int32), ∀ (H : Heap) (locs : List Loc), va_P D vwCl (mw cy ad σ) H → va_D A (mw cy ad σ) → va_S A s.heap H locs → ∀ ls : Array Slot, lv_has ls 6 [(0, .ref (ad 0 0)), (1, .int x1), (2, .int x2), (3, .int x3), (4, .int x4)] → rc45 (σ, x1, x2, x3, x4) = some q → W p l e rmX3_often s m args below meth c H locs 0 0 (MQ below (zQi D (mw cy ad q.2) A q.1) args s 0 0 A) (F0 m 45 ls [])) : ∀ (σ : ST) (x1 : Int32) (x2 : Int32) (x3 : Int32) (x4 : Int32) (x5 : Int32) (y1 : Int32) (y2 : Int32), ∀ (H : Heap) (locs : List Loc), va_P D vwCl (mw cy ad σ) H → va_D A (mw cy ad σ) → va_S A s.heap H locs → ∀ ls : Array Slot, lv_has ls 6 [(0, .ref (ad 0 0)), (1, .int x1), (2, .int x2), (3, .int x3), (4, .int x4), (5, .int x5)] → kX3_often_75 rc45 (σ, x1, x2, x3, x4, x5, y1, y2) = some q → W p l e rmX3_often s m args below meth c H locs 0 0 (MQ below (zQi D (mw cy ad q.2) A q.1) args s 0 0 A) (F0 m 75 ls [.int y2, .int y1, .ref (ad 8 0)]) := by
  obtain ⟨hx, hb, hml, hown, hts, hr, hlocks, hK, hA⟩ := id C
  intro σ x1 x2 x3 x4 x5 y1 y2 H locs hP hD hS ls hl hm
  have hm : bkX3_often_75 rc45 σ x1 x2 x3 x4 x5 y1 y2 = some q := hm
  unfold bkX3_often_75 at hm
  obtain ⟨h_13, hm⟩ := gd_some hm
  refine va_iast hx hb hK.1 hP hD hS 8 0 mw_8 rfl (inb_vp h_13) dX3_often_75 (fun H locs hP hD hS => ?_)
  have hP := eP mw_s8 hP
  have hD := eD mw_s8 hD
  obtain ⟨σ_14, e_14, hm⟩ := sv_some hm
  have hP : va_P D vwCl (mw cy ad σ_14) H := by rw [e_14]; exact hP
  have hD : va_D A (mw cy ad σ_14) := by rw [e_14]; exact hD
  refine lv_iload_n hx hb dX3_often_76 rfl (lv_at hl 3 rfl) ?_
  refine lv_if_le (tgt := 119) hx hb dX3_often_77 (by decide) (fun c_15 => ?_) (fun c_15 => ?_)
  · have hm := ifp c_15 hm
    exact kX3_often_119_ok C q hr45 σ_14 x1 x2 x3 x4 x5 _ _ hP hD hS _ (lv_sub hl [0, 1, 2, 3, 4, 5] rfl) hm
  · have hm := ifn c_15 hm
    refine lv_iload hx hb dX3_often_80 (lv_at hl 4 rfl) ?_
    refine lv_if_le (tgt := 119) hx hb dX3_often_82 (by decide) (fun c_16 => ?_) (fun c_16 => ?_)
    · have hm := ifp c_16 hm
      exact kX3_often_119_ok C q hr45 σ_14 x1 x2 x3 x4 x5 _ _ hP hD hS _ (lv_sub hl [0, 1, 2, 3, 4, 5] rfl) hm
    · have hm := ifn c_16 hm
      refine lv_aload_n hx hb dX3_often_85 rfl (lv_at hl 0 rfl) ?_
      refine lv_iload_n hx hb dX3_often_86 rfl (lv_at hl 3 rfl) ?_
      refine lv_iconst (v := 1) hx hb dX3_often_87 (by decide) ?_
      refine lv_isub hx hb dX3_often_88 ?_
      refine lv_iload hx hb dX3_often_89 (lv_at hl 4 rfl) ?_
      refine lv_iconst (v := 1) hx hb dX3_often_91 (by decide) ?_
      refine lv_isub hx hb dX3_often_92 ?_
      obtain ⟨q_17, hq_17, hm⟩ := ob hm
      refine zc_i (zr_V [.int (x3 - (1 : Int32)), .int (x4 - (1 : Int32))] [] ⟨hx, hb, hml, hown, hts⟩ (ctX3_delivers l D cy ad σ_14  (x3 - (1 : Int32)) (x4 - (1 : Int32)) q_17 hq_17 _) (cwV 2 hts gX3_often_X3_delivers rfl rfl rfl (by decide +kernel) ⟨Nat.le_of_ble_eq_true rfl, Nat.le_of_ble_eq_true rfl⟩) hK hP hD 0 mw_0 rfl rfl rfl hl.1 rfl (Nat.le_of_ble_eq_true rfl) dX3_often_93 ⟨Nat.zero_le _, Nat.zero_le _⟩) hD hS hA (fun H locs hP hD hS => ?_)
      refine lv_if_ne (tgt := 119) hx hb dX3_often_96 (by decide) (fun c_18 => ?_) (fun c_18 => ?_)
      · have hm := ifn c_18 hm
        exact kX3_often_119_ok C q hr45 σ_14 x1 x2 x3 x4 x5 _ _ hP hD hS _ (lv_sub hl [0, 1, 2, 3, 4, 5] rfl) hm
      · have hm := ifp c_18 hm
        refine lv_aload_n hx hb dX3_often_99 rfl (lv_at hl 0 rfl) ?_
        refine va_get (D := D) (ci := 3) (v := .ref (ad 8 0)) (C := RX3) (T := TX3) (N := 20) hx hb hts iwX3_often_X3 hown hK.1 hP 0 mw_0 rfl 19 (by decide) (hts _ lkX3_often_58) (fun _ h9 => h9) rfl dX3_often_100 ?_
        refine lv_iload hx hb dX3_often_103 (lv_at hl 5 rfl) ?_
        refine lv_dup2_11 hx hb dX3_often_105 rfl rfl ?_
        obtain ⟨h_19, hm⟩ := gd_some hm
        refine va_iald hx hb hK.1 hP 8 0 mw_8 rfl (inb_vp h_19) dX3_often_106 ?_
        refine lv_aload_n hx hb dX3_often_107 rfl (lv_at hl 0 rfl) ?_
        refine va_get (D := D) (ci := 3) (v := .ref (ad 8 0)) (C := RX3) (T := TX3) (N := 20) hx hb hts iwX3_often_X3 hown hK.1 hP 0 mw_0 rfl 19 (by decide) (hts _ lkX3_often_58) (fun _ h9 => h9) rfl dX3_often_108 ?_
        refine lv_iload hx hb dX3_often_111 (lv_at hl 5 rfl) ?_
        refine lv_bipush (v := 22) hx hb dX3_often_113 (by decide) ?_
        refine lv_isub hx hb dX3_often_115 ?_
        obtain ⟨h_20, hm⟩ := gd_some hm
        refine va_iald hx hb hK.1 hP 8 0 mw_8 rfl (inb_vp h_20) dX3_often_116 ?_
        refine lv_iadd hx hb dX3_often_117 ?_
        obtain ⟨h_21, hm⟩ := gd_some hm
        refine va_iast hx hb hK.1 hP hD hS 8 0 mw_8 rfl (inb_vp h_21) dX3_often_118 (fun H locs hP hD hS => ?_)
        have hP := eP mw_s8 hP
        have hD := eD mw_s8 hD
        obtain ⟨σ_22, e_22, hm⟩ := sv_some hm
        have hP : va_P D vwCl (mw cy ad σ_22) H := by rw [e_22]; exact hP
        have hD : va_D A (mw cy ad σ_22) := by rw [e_22]; exact hD
        exact kX3_often_119_ok C q hr45 σ_22 x1 x2 x3 x4 x5 _ _ hP hD hS _ (lv_sub hl [0, 1, 2, 3, 4, 5] rfl) hm
def bkX3_often_45 (rc37 : ST × Int32 × Int32 × Int32 → Option (Int32 × ST)) (rec : ST × Int32 × Int32 × Int32 × Int32 → Option (Int32 × ST)) (σ : ST) (x1 : Int32) (x2 : Int32) (x3 : Int32) (x4 : Int32) : Option (Int32 × ST) := if x3 < x4 then (rc37 (σ, x1, x2, (x3 + (1 : Int32)))) else (if x3 = (0 : Int32) then (kX3_often_75 rec (σ, x1, x2, x3, x4, (((21 : Int32) * x3) + x4), (((21 : Int32) * x3) + x4), (1 : Int32))) else (kX3_often_75 rec (σ, x1, x2, x3, x4, (((21 : Int32) * x3) + x4), (((21 : Int32) * x3) + x4), (0 : Int32))))
def kX3_often_45 (rc37 : ST × Int32 × Int32 × Int32 → Option (Int32 × ST)) (n : Nat) (a : ST × Int32 × Int32 × Int32 × Int32) : Option (Int32 × ST) := fx (fun rec a => bkX3_often_45 rc37 rec a.1 a.2.1 a.2.2.1 a.2.2.2.1 a.2.2.2.2) n a
set_option maxHeartbeats 4000000 in
set_option maxRecDepth 100000 in
theorem kX3_often_45_ok {p : Program} {l : Launch} {e : Env} {s : State} {m : MethodId} {args : Array Value} {below : List Frame} {meth : Method} {c : Code} {D : va_G} {cy : Nat → ClassId} {ad : Nat → Nat → Nat} {A : Nat → Prop} (C : Cx p s m args meth c cX3_often 6 (some .int) RX3 wsX3_often D cy A) (q : Int32 × ST) {rc37 : ST × Int32 × Int32 × Int32 → Option (Int32 × ST)} (hr37 : ∀ (σ : ST) (x1 : Int32) (x2 : Int32) (x3 : Int32), ∀ (H : Heap) (locs : List Loc), va_P D vwCl (mw cy ad σ) H → va_D A (mw cy ad σ) → va_S A s.heap H locs → ∀ ls : Array Slot, lv_has ls 6 [(0, .ref (ad 0 0)), (1, .int x1), (2, .int x2), (3, .int x3)] → rc37 (σ, x1, x2, x3) = some q → W p l e rmX3_often s m args below meth c H locs 0 0 (MQ below (zQi D (mw cy ad q.2) A q.1) args s 0 0 A) (F0 m 37 ls [])) : ∀ (n : Nat) (σ : ST) (x1 : Int32) (x2 : Int32) (x3 : Int32) (x4 : Int32), ∀ (H : Heap) (locs : List Loc), va_P D vwCl (mw cy ad σ) H → va_D A (mw cy ad σ) → va_S A s.heap H locs → ∀ ls : Array Slot, lv_has ls 6 [(0, .ref (ad 0 0)), (1, .int x1), (2, .int x2), (3, .int x3), (4, .int x4)] → kX3_often_45 rc37 n (σ, x1, x2, x3, x4) = some q → W p l e rmX3_often s m args below meth c H locs 0 0 (MQ below (zQi D (mw cy ad q.2) A q.1) args s 0 0 A) (F0 m 45 ls []) := by
  obtain ⟨hx, hb, hml, hown, hts, hr, hlocks, hK, hA⟩ := id C
  intro n
  induction n with
  | zero => intro σ x1 x2 x3 x4 H locs hP hD hS ls hl hm; cases hm
  | succ n ih =>
    intro σ x1 x2 x3 x4 H locs hP hD hS ls hl hm
    have hm : bkX3_often_45 rc37 (kX3_often_45 rc37 n) σ x1 x2 x3 x4 = some q := hm
    unfold bkX3_often_45 at hm
    refine lv_iload hx hb dX3_often_45 (lv_at hl 4 rfl) ?_
    refine lv_iload_n hx hb dX3_often_47 rfl (lv_at hl 3 rfl) ?_
    refine lv_icmp_gt (tgt := 196) hx hb dX3_often_48 (by decide) (fun c_23 => ?_) (fun c_23 => ?_)
    · have hm := ifp c_23 hm
      refine lv_iinc (v := (x3 + (1 : Int32))) (lv' := [(3, .int (x3 + (1 : Int32))), (0, .ref (ad 0 0)), (1, .int x1), (2, .int x2), (4, .int x4)]) hx hb dX3_often_196 hl (k := 3) rfl rfl (by decide) rfl (fun ls hl => ?_)
      refine lv_goto (tgt := 37) hx hb dX3_often_199 (by decide) ?_
      exact hr37 σ x1 x2 (x3 + (1 : Int32)) _ _ hP hD hS _ (lv_sub hl [1, 2, 3, 0] rfl) hm
    · have hm := ifn c_23 hm
      refine lv_bipush (v := 21) hx hb dX3_often_51 (by decide) ?_
      refine lv_iload_n hx hb dX3_often_53 rfl (lv_at hl 3 rfl) ?_
      refine lv_imul hx hb dX3_often_54 ?_
      refine lv_iload hx hb dX3_often_55 (lv_at hl 4 rfl) ?_
      refine lv_iadd hx hb dX3_often_57 ?_
      refine lv_istore (lv' := [(5, .int (((21 : Int32) * x3) + x4)), (0, .ref (ad 0 0)), (1, .int x1), (2, .int x2), (3, .int x3), (4, .int x4)]) hx hb dX3_often_58 hl (by decide) rfl (fun ls hl => ?_)
      refine lv_aload_n hx hb dX3_often_60 rfl (lv_at hl 1 rfl) ?_
      refine va_get (D := D) (ci := 3) (v := .ref (ad 8 0)) (C := RX3) (T := TX3) (N := 20) hx hb hts iwX3_often_X3 hown hK.1 hP 0 mw_0 rfl 19 (by decide) (hts _ lkX3_often_58) (fun _ h9 => h9) rfl dX3_often_61 ?_
      refine lv_iload hx hb dX3_often_64 (lv_at hl 0 rfl) ?_
      refine lv_iload_n hx hb dX3_often_66 rfl (lv_at hl 4 rfl) ?_
      refine lv_if_ne (tgt := 74) hx hb dX3_often_67 (by decide) (fun c_24 => ?_) (fun c_24 => ?_)
      · have hm := ifn c_24 hm
        refine lv_iconst (v := 0) hx hb dX3_often_74 (by decide) ?_
        exact kX3_often_75_ok C q ih σ x1 x2 x3 x4 (((21 : Int32) * x3) + x4) (((21 : Int32) * x3) + x4) (0 : Int32) _ _ hP hD hS _ (lv_sub hl [1, 2, 3, 4, 5, 0] rfl) hm
      · have hm := ifp c_24 hm
        refine lv_iconst (v := 1) hx hb dX3_often_70 (by decide) ?_
        refine lv_goto (tgt := 75) hx hb dX3_often_71 (by decide) ?_
        exact kX3_often_75_ok C q ih σ x1 x2 x3 x4 (((21 : Int32) * x3) + x4) (((21 : Int32) * x3) + x4) (1 : Int32) _ _ hP hD hS _ (lv_sub hl [1, 2, 3, 4, 5, 0] rfl) hm
def bkX3_often_37  (rec : ST × Int32 × Int32 × Int32 → Option (Int32 × ST)) (σ : ST) (x1 : Int32) (x2 : Int32) (x3 : Int32) : Option (Int32 × ST) := if x1 < x3 then (some ((x2 <<< (((gI σ 0 0 5) - x1) &&& 31)), σ)) else (kX3_often_45 rec FU (σ, x1, x2, x3, (0 : Int32)))
def kX3_often_37  (n : Nat) (a : ST × Int32 × Int32 × Int32) : Option (Int32 × ST) := fx (fun rec a => bkX3_often_37  rec a.1 a.2.1 a.2.2.1 a.2.2.2) n a
set_option maxHeartbeats 4000000 in
set_option maxRecDepth 100000 in
theorem kX3_often_37_ok {p : Program} {l : Launch} {e : Env} {s : State} {m : MethodId} {args : Array Value} {below : List Frame} {meth : Method} {c : Code} {D : va_G} {cy : Nat → ClassId} {ad : Nat → Nat → Nat} {A : Nat → Prop} (C : Cx p s m args meth c cX3_often 6 (some .int) RX3 wsX3_often D cy A) (q : Int32 × ST) : ∀ (n : Nat) (σ : ST) (x1 : Int32) (x2 : Int32) (x3 : Int32), ∀ (H : Heap) (locs : List Loc), va_P D vwCl (mw cy ad σ) H → va_D A (mw cy ad σ) → va_S A s.heap H locs → ∀ ls : Array Slot, lv_has ls 6 [(0, .ref (ad 0 0)), (1, .int x1), (2, .int x2), (3, .int x3)] → kX3_often_37 n (σ, x1, x2, x3) = some q → W p l e rmX3_often s m args below meth c H locs 0 0 (MQ below (zQi D (mw cy ad q.2) A q.1) args s 0 0 A) (F0 m 37 ls []) := by
  obtain ⟨hx, hb, hml, hown, hts, hr, hlocks, hK, hA⟩ := id C
  intro n
  induction n with
  | zero => intro σ x1 x2 x3 H locs hP hD hS ls hl hm; cases hm
  | succ n ih =>
    intro σ x1 x2 x3 H locs hP hD hS ls hl hm
    have hm : bkX3_often_37  (kX3_often_37 n) σ x1 x2 x3 = some q := hm
    unfold bkX3_often_37 at hm
    refine lv_iload_n hx hb dX3_often_37 rfl (lv_at hl 3 rfl) ?_
    refine lv_iload_n hx hb dX3_often_38 rfl (lv_at hl 1 rfl) ?_
    refine lv_icmp_gt (tgt := 202) hx hb dX3_often_39 (by decide) (fun c_25 => ?_) (fun c_25 => ?_)
    · have hm := ifp c_25 hm
      refine lv_iload_n hx hb dX3_often_202 rfl (lv_at hl 2 rfl) ?_
      refine lv_aload_n hx hb dX3_often_203 rfl (lv_at hl 0 rfl) ?_
      refine va_get (D := D) (ci := 3) (v := .int (gI σ 0 0 5)) (C := RX3) (T := TX3) (N := 20) hx hb hts iwX3_often_X3 hown hK.1 hP 0 mw_0 rfl 5 (by decide) (hts _ lkX3_often_141) (fun _ h9 => h9) rfl dX3_often_204 ?_
      refine lv_iload_n hx hb dX3_often_207 rfl (lv_at hl 1 rfl) ?_
      refine lv_isub hx hb dX3_often_208 ?_
      refine lv_ishl hx hb dX3_often_209 ?_
      exact z_i hx hb hr hlocks hm hP hD hS dX3_often_210
    · have hm := ifn c_25 hm
      refine lv_iconst (v := 0) hx hb dX3_often_42 (by decide) ?_
      refine lv_istore (lv' := [(4, .int (0 : Int32)), (0, .ref (ad 0 0)), (1, .int x1), (2, .int x2), (3, .int x3)]) hx hb dX3_often_43 hl (by decide) rfl (fun ls hl => ?_)
      exact kX3_often_45_ok C q ih FU σ x1 x2 x3 (0 : Int32) _ _ hP hD hS _ (lv_sub hl [1, 2, 3, 4, 0] rfl) hm
def mX3_often (σ : ST) (a1 : Int32) : Option (Int32 × ST) := sv (sI σ 0 0 10 (0 : Int32)) fun σ_26 => (mX3_isIn (Int32.toInt64 a1) (0 : Int64) (Int32.toInt64 (gI σ_26 0 0 5))).bind fun q_27 => if q_27 = (0 : Int32) then (some ((-1 : Int32), σ_26)) else ((mX3_isAny σ_26).bind fun q_29 => if q_29 = (0 : Int32) then (some ((-1 : Int32), σ_26)) else ((mX3_laysTree σ_26 (-1 : Int32)).bind fun q_31 => kX3_often_37 FU (q_31, a1, (0 : Int32), (0 : Int32))))
set_option maxHeartbeats 4000000 in
set_option maxRecDepth 100000 in
theorem ctX3_often (l : Launch) (D : va_G) (cy : Nat → ClassId) (ad : Nat → Nat → Nat) (σ : ST) (a1 : Int32) (q : Int32 × ST) (hm : mX3_often σ a1 = some q) : zMi l yX3_often wsX3_often rmX3_often D cy [.ref (ad 0 0), .int a1] (mw cy ad σ) q.1 (mw cy ad q.2) := by
  intro sz
  refine Met.ofW (cc := cX3_often) (maxL := 6) (ret := (some .int)) (by decide) rfl ?_
  intro p e s m args below meth c s₁ B hml hv
  obtain ⟨rfl, hsz, hP, hK, hD0⟩ := hv
  have hx := B.exec
  have hb := B.bytes
  have hr := B.returns
  have hts := atoms_spec (ws := wsX3_often) B.pre
  have hown : s.vm.findClass RX3 = some m.cls := findClass_of_methodNamed B.named
  have hlocks := B.notSynchronized
  subst hsz
  have hD := hD0.self (sz := s.heap.size)
  generalize hAe : va_A (mw cy ad σ) s.heap.size = A at hD ⊢
  have hA : ∀ q : Nat, s.heap.size ≤ q → A q := fun q h => by rw [← hAe]; exact Or.inr h
  have hS : va_S A s.heap s.heap [] := va_S.rf
  have C : Cx p s m _ meth c cX3_often 6 (some .int) RX3 wsX3_often D cy A := ⟨hx, hb, hml, hown, hts, hr, hlocks, hK, hA⟩
  have hl := lv_entry ([.ref (ad 0 0), .int a1]) (n := 6) (Nat.le_of_ble_eq_true rfl)
  rw [lg_entry_eq]
  generalize (lg_sl ([.ref (ad 0 0), .int a1]) ++ List.replicate (6 - (lg_sl ([.ref (ad 0 0), .int a1])).length) Slot.unset).toArray = ls at hl ⊢
  have hl : lv_has ls 6 [(0, .ref (ad 0 0)), (1, .int a1)] := hl
  unfold mX3_often at hm
  refine lv_aload_n hx hb dX3_often_0 rfl (lv_at hl 0 rfl) ?_
  refine lv_iconst (v := 0) hx hb dX3_often_1 (by decide) ?_
  refine va_put (D := D) (ci := 3) (v := .int (0 : Int32)) (ty := .int) (C := RX3) (T := TX3) (N := 20) hx hb hts iwX3_often_X3 tyX3 tyX3_ok nmX3 hown hK.1 hP hD hS 0 mw_0 rfl 10 (by decide) (hts _ lkX3_often_61) (fun _ h9 => h9) rfl (by decide +kernel) rfl rfl (Nat.le_of_ble_eq_true rfl) dX3_often_2 (fun H locs hP hD hS => ?_)
  have hP := eP (mw_s0 (σ := σ) (j := 10) (v := (0 : Int32)) (by rfl)) hP
  have hD := eD (mw_s0 (σ := σ) (j := 10) (v := (0 : Int32)) (by rfl)) hD
  obtain ⟨σ_26, e_26, hm⟩ := sv_some hm
  have hP : va_P D vwCl (mw cy ad σ_26) H := by rw [e_26]; exact hP
  have hD : va_D A (mw cy ad σ_26) := by rw [e_26]; exact hD
  refine lv_iload_n hx hb dX3_often_5 rfl (lv_at hl 1 rfl) ?_
  refine lv_i2l hx hb dX3_often_6 rfl ?_
  refine lv_lconst (v := 0) hx hb dX3_often_7 (by decide) ?_
  refine lv_aload_n hx hb dX3_often_8 rfl (lv_at hl 0 rfl) ?_
  refine va_get (D := D) (ci := 3) (v := .int (gI σ_26 0 0 5)) (C := RX3) (T := TX3) (N := 20) hx hb hts iwX3_often_X3 hown hK.1 hP 0 mw_0 rfl 5 (by decide) (hts _ lkX3_often_141) (fun _ h9 => h9) rfl dX3_often_9 ?_
  refine lv_i2l hx hb dX3_often_12 rfl ?_
  obtain ⟨q_27, hq_27, hm⟩ := ob hm
  refine zc_i (zr_S [.long (Int32.toInt64 a1), .long (0 : Int64), .long (Int32.toInt64 (gI σ_26 0 0 5))] [] ⟨hx, hb, hml, hown, hts⟩ (ctX3_isIn l D cy (mw cy ad σ_26)  (Int32.toInt64 a1) (0 : Int64) (Int32.toInt64 (gI σ_26 0 0 5)) q_27 hq_27 _) (va_cwS 3 hts gX3_often_X3_isIn rfl rfl rfl (by decide +kernel) ⟨Nat.le_of_ble_eq_true rfl, Nat.le_of_ble_eq_true rfl⟩) hK hP hD rfl hl.1 rfl (Nat.le_of_ble_eq_true rfl) dX3_often_13 ⟨Nat.zero_le _, Nat.zero_le _⟩) hD hS hA (fun H locs hP hD hS => ?_)
  refine lv_if_eq (tgt := 26) hx hb dX3_often_16 (by decide) (fun c_28 => ?_) (fun c_28 => ?_)
  · have hm := ifp c_28 hm
    refine lv_iconst (v := -1) hx hb dX3_often_26 (by decide) ?_
    exact z_i hx hb hr hlocks hm hP hD hS dX3_often_27
  · have hm := ifn c_28 hm
    refine lv_aload_n hx hb dX3_often_19 rfl (lv_at hl 0 rfl) ?_
    obtain ⟨q_29, hq_29, hm⟩ := ob hm
    refine zc_i (zr_V [] [] ⟨hx, hb, hml, hown, hts⟩ (ctX3_isAny l D cy ad σ_26   q_29 hq_29 _) (cwV 0 hts gX3_often_X3_isAny rfl rfl rfl (by decide +kernel) ⟨Nat.le_of_ble_eq_true rfl, Nat.le_of_ble_eq_true rfl⟩) hK hP hD 0 mw_0 rfl rfl rfl hl.1 rfl (Nat.le_of_ble_eq_true rfl) dX3_often_20 ⟨Nat.zero_le _, Nat.zero_le _⟩) hD hS hA (fun H locs hP hD hS => ?_)
    refine lv_if_ne (tgt := 28) hx hb dX3_often_23 (by decide) (fun c_30 => ?_) (fun c_30 => ?_)
    · have hm := ifn c_30 hm
      refine lv_aload_n hx hb dX3_often_28 rfl (lv_at hl 0 rfl) ?_
      refine lv_iconst (v := -1) hx hb dX3_often_29 (by decide) ?_
      obtain ⟨q_31, hq_31, hm⟩ := ob hm
      refine zc_v (zr_V [.int (-1 : Int32)] [] ⟨hx, hb, hml, hown, hts⟩ (ctX3_laysTree l D cy ad σ_26  (-1 : Int32) q_31 hq_31 _) (cwV 1 hts gX3_often_X3_laysTree rfl rfl rfl (by decide +kernel) ⟨Nat.le_of_ble_eq_true rfl, Nat.le_of_ble_eq_true rfl⟩) hK hP hD 0 mw_0 rfl rfl rfl hl.1 rfl (Nat.le_of_ble_eq_true rfl) dX3_often_30 ⟨Nat.zero_le _, Nat.zero_le _⟩) hD hS hA (fun H locs hP hD hS => ?_)
      refine lv_iconst (v := 0) hx hb dX3_often_33 (by decide) ?_
      refine lv_istore_n (lv' := [(2, .int (0 : Int32)), (0, .ref (ad 0 0)), (1, .int a1)]) hx hb dX3_often_34 rfl hl (by decide) rfl (fun ls hl => ?_)
      refine lv_iconst (v := 0) hx hb dX3_often_35 (by decide) ?_
      refine lv_istore_n (lv' := [(3, .int (0 : Int32)), (2, .int (0 : Int32)), (0, .ref (ad 0 0)), (1, .int a1)]) hx hb dX3_often_36 rfl hl (by decide) rfl (fun ls hl => ?_)
      exact kX3_often_37_ok C q FU q_31 a1 (0 : Int32) (0 : Int32) _ _ hP hD hS _ (lv_sub hl [2, 3, 1, 0] rfl) hm
    · have hm := ifp c_30 hm
      refine lv_iconst (v := -1) hx hb dX3_often_26 (by decide) ?_
      exact z_i hx hb hr hlocks hm hP hD hS dX3_often_27
abbrev rmX3_fixed : Room := { frames := 9, cells := 0, slots := 0, locals := 211 }
theorem lkX3_fixed_61 : Cond.fieldLink RX3 61 "DeliveryBasketModel" "thrown" "I" ∈ wsX3_fixed := by decide +kernel
theorem iwX3_fixed_X3 : ∀ w ∈ wsX30, w ∈ wsX3_fixed := fun _ h => List.mem_cons_of_mem _ (List.mem_append_right _ h)
theorem lkX3_fixed_141 : Cond.fieldLink RX3 141 "DeliveryBasketModel" "days" "I" ∈ wsX3_fixed := by decide +kernel
theorem lkX3_fixed_46 : Cond.fieldLink RX3 46 "DeliveryBasketModel" "value" "[J" ∈ wsX3_fixed := by decide +kernel
def mX3_fixed (σ : ST) (a1 : Int32) : Option (Int64 × ST) := sv (sI σ 0 0 10 (0 : Int32)) fun σ_1 => (mX3_isIn (Int32.toInt64 a1) (0 : Int64) (Int32.toInt64 (gI σ_1 0 0 5))).bind fun q_2 => if q_2 = (0 : Int32) then ((mX3_refuse σ_1).bind fun q_4 => some ((Int32.toInt64 q_4.1), q_4.2)) else ((mX3_isAny σ_1).bind fun q_5 => if q_5 = (0 : Int32) then ((mX3_refuse σ_1).bind fun q_9 => some ((Int32.toInt64 q_9.1), q_9.2)) else ((mX3_laysTree σ_1 a1).bind fun q_7 => gd (inb (0 : Int32) 441) (some ((gJ q_7 1 0 (Int32.toNatClampNeg (0 : Int32))), q_7))))
set_option maxHeartbeats 4000000 in
set_option maxRecDepth 100000 in
theorem ctX3_fixed (l : Launch) (D : va_G) (cy : Nat → ClassId) (ad : Nat → Nat → Nat) (σ : ST) (a1 : Int32) (q : Int64 × ST) (hm : mX3_fixed σ a1 = some q) : zMl l yX3_fixed wsX3_fixed rmX3_fixed D cy [.ref (ad 0 0), .int a1] (mw cy ad σ) q.1 (mw cy ad q.2) := by
  intro sz
  refine Met.ofW (cc := cX3_fixed) (maxL := 2) (ret := (some .long)) (by decide) rfl ?_
  intro p e s m args below meth c s₁ B hml hv
  obtain ⟨rfl, hsz, hP, hK, hD0⟩ := hv
  have hx := B.exec
  have hb := B.bytes
  have hr := B.returns
  have hts := atoms_spec (ws := wsX3_fixed) B.pre
  have hown : s.vm.findClass RX3 = some m.cls := findClass_of_methodNamed B.named
  have hlocks := B.notSynchronized
  subst hsz
  have hD := hD0.self (sz := s.heap.size)
  generalize hAe : va_A (mw cy ad σ) s.heap.size = A at hD ⊢
  have hA : ∀ q : Nat, s.heap.size ≤ q → A q := fun q h => by rw [← hAe]; exact Or.inr h
  have hS : va_S A s.heap s.heap [] := va_S.rf
  have C : Cx p s m _ meth c cX3_fixed 2 (some .long) RX3 wsX3_fixed D cy A := ⟨hx, hb, hml, hown, hts, hr, hlocks, hK, hA⟩
  have hl := lv_entry ([.ref (ad 0 0), .int a1]) (n := 2) (Nat.le_of_ble_eq_true rfl)
  rw [lg_entry_eq]
  generalize (lg_sl ([.ref (ad 0 0), .int a1]) ++ List.replicate (2 - (lg_sl ([.ref (ad 0 0), .int a1])).length) Slot.unset).toArray = ls at hl ⊢
  have hl : lv_has ls 2 [(0, .ref (ad 0 0)), (1, .int a1)] := hl
  unfold mX3_fixed at hm
  refine lv_aload_n hx hb dX3_fixed_0 rfl (lv_at hl 0 rfl) ?_
  refine lv_iconst (v := 0) hx hb dX3_fixed_1 (by decide) ?_
  refine va_put (D := D) (ci := 3) (v := .int (0 : Int32)) (ty := .int) (C := RX3) (T := TX3) (N := 20) hx hb hts iwX3_fixed_X3 tyX3 tyX3_ok nmX3 hown hK.1 hP hD hS 0 mw_0 rfl 10 (by decide) (hts _ lkX3_fixed_61) (fun _ h9 => h9) rfl (by decide +kernel) rfl rfl (Nat.le_of_ble_eq_true rfl) dX3_fixed_2 (fun H locs hP hD hS => ?_)
  have hP := eP (mw_s0 (σ := σ) (j := 10) (v := (0 : Int32)) (by rfl)) hP
  have hD := eD (mw_s0 (σ := σ) (j := 10) (v := (0 : Int32)) (by rfl)) hD
  obtain ⟨σ_1, e_1, hm⟩ := sv_some hm
  have hP : va_P D vwCl (mw cy ad σ_1) H := by rw [e_1]; exact hP
  have hD : va_D A (mw cy ad σ_1) := by rw [e_1]; exact hD
  refine lv_iload_n hx hb dX3_fixed_5 rfl (lv_at hl 1 rfl) ?_
  refine lv_i2l hx hb dX3_fixed_6 rfl ?_
  refine lv_lconst (v := 0) hx hb dX3_fixed_7 (by decide) ?_
  refine lv_aload_n hx hb dX3_fixed_8 rfl (lv_at hl 0 rfl) ?_
  refine va_get (D := D) (ci := 3) (v := .int (gI σ_1 0 0 5)) (C := RX3) (T := TX3) (N := 20) hx hb hts iwX3_fixed_X3 hown hK.1 hP 0 mw_0 rfl 5 (by decide) (hts _ lkX3_fixed_141) (fun _ h9 => h9) rfl dX3_fixed_9 ?_
  refine lv_i2l hx hb dX3_fixed_12 rfl ?_
  obtain ⟨q_2, hq_2, hm⟩ := ob hm
  refine zc_i (zr_S [.long (Int32.toInt64 a1), .long (0 : Int64), .long (Int32.toInt64 (gI σ_1 0 0 5))] [] ⟨hx, hb, hml, hown, hts⟩ (ctX3_isIn l D cy (mw cy ad σ_1)  (Int32.toInt64 a1) (0 : Int64) (Int32.toInt64 (gI σ_1 0 0 5)) q_2 hq_2 _) (va_cwS 3 hts gX3_fixed_X3_isIn rfl rfl rfl (by decide +kernel) ⟨Nat.le_of_ble_eq_true rfl, Nat.le_of_ble_eq_true rfl⟩) hK hP hD rfl hl.1 rfl (Nat.le_of_ble_eq_true rfl) dX3_fixed_13 ⟨Nat.zero_le _, Nat.zero_le _⟩) hD hS hA (fun H locs hP hD hS => ?_)
  refine lv_if_eq (tgt := 26) hx hb dX3_fixed_16 (by decide) (fun c_3 => ?_) (fun c_3 => ?_)
  · have hm := ifp c_3 hm
    refine lv_aload_n hx hb dX3_fixed_26 rfl (lv_at hl 0 rfl) ?_
    obtain ⟨q_4, hq_4, hm⟩ := ob hm
    refine zc_i (zr_V [] [] ⟨hx, hb, hml, hown, hts⟩ (ctX3_refuse l D cy ad σ_1   q_4 hq_4 _) (cwV 0 hts gX3_fixed_X3_refuse rfl rfl rfl (by decide +kernel) ⟨Nat.le_of_ble_eq_true rfl, Nat.le_of_ble_eq_true rfl⟩) hK hP hD 0 mw_0 rfl rfl rfl hl.1 rfl (Nat.le_of_ble_eq_true rfl) dX3_fixed_27 ⟨Nat.zero_le _, Nat.zero_le _⟩) hD hS hA (fun H locs hP hD hS => ?_)
    refine lv_i2l hx hb dX3_fixed_30 rfl ?_
    exact z_l hx hb hr hlocks hm hP hD hS dX3_fixed_31
  · have hm := ifn c_3 hm
    refine lv_aload_n hx hb dX3_fixed_19 rfl (lv_at hl 0 rfl) ?_
    obtain ⟨q_5, hq_5, hm⟩ := ob hm
    refine zc_i (zr_V [] [] ⟨hx, hb, hml, hown, hts⟩ (ctX3_isAny l D cy ad σ_1   q_5 hq_5 _) (cwV 0 hts gX3_fixed_X3_isAny rfl rfl rfl (by decide +kernel) ⟨Nat.le_of_ble_eq_true rfl, Nat.le_of_ble_eq_true rfl⟩) hK hP hD 0 mw_0 rfl rfl rfl hl.1 rfl (Nat.le_of_ble_eq_true rfl) dX3_fixed_20 ⟨Nat.zero_le _, Nat.zero_le _⟩) hD hS hA (fun H locs hP hD hS => ?_)
    refine lv_if_ne (tgt := 32) hx hb dX3_fixed_23 (by decide) (fun c_6 => ?_) (fun c_6 => ?_)
    · have hm := ifn c_6 hm
      refine lv_aload_n hx hb dX3_fixed_32 rfl (lv_at hl 0 rfl) ?_
      refine lv_iload_n hx hb dX3_fixed_33 rfl (lv_at hl 1 rfl) ?_
      obtain ⟨q_7, hq_7, hm⟩ := ob hm
      refine zc_v (zr_V [.int a1] [] ⟨hx, hb, hml, hown, hts⟩ (ctX3_laysTree l D cy ad σ_1  a1 q_7 hq_7 _) (cwV 1 hts gX3_fixed_X3_laysTree rfl rfl rfl (by decide +kernel) ⟨Nat.le_of_ble_eq_true rfl, Nat.le_of_ble_eq_true rfl⟩) hK hP hD 0 mw_0 rfl rfl rfl hl.1 rfl (Nat.le_of_ble_eq_true rfl) dX3_fixed_34 ⟨Nat.zero_le _, Nat.zero_le _⟩) hD hS hA (fun H locs hP hD hS => ?_)
      refine lv_aload_n hx hb dX3_fixed_37 rfl (lv_at hl 0 rfl) ?_
      refine va_get (D := D) (ci := 3) (v := .ref (ad 4 0)) (C := RX3) (T := TX3) (N := 20) hx hb hts iwX3_fixed_X3 hown hK.1 hP 0 mw_0 rfl 15 (by decide) (hts _ lkX3_fixed_46) (fun _ h9 => h9) rfl dX3_fixed_38 ?_
      refine lv_iconst (v := 0) hx hb dX3_fixed_41 (by decide) ?_
      obtain ⟨h_8, hm⟩ := gd_some hm
      refine va_lald hx hb hK.1 hP 4 1 mw_4 rfl (inb_vp h_8) dX3_fixed_42 ?_
      exact z_l hx hb hr hlocks hm hP hD hS dX3_fixed_43
    · have hm := ifp c_6 hm
      refine lv_aload_n hx hb dX3_fixed_26 rfl (lv_at hl 0 rfl) ?_
      obtain ⟨q_9, hq_9, hm⟩ := ob hm
      refine zc_i (zr_V [] [] ⟨hx, hb, hml, hown, hts⟩ (ctX3_refuse l D cy ad σ_1   q_9 hq_9 _) (cwV 0 hts gX3_fixed_X3_refuse rfl rfl rfl (by decide +kernel) ⟨Nat.le_of_ble_eq_true rfl, Nat.le_of_ble_eq_true rfl⟩) hK hP hD 0 mw_0 rfl rfl rfl hl.1 rfl (Nat.le_of_ble_eq_true rfl) dX3_fixed_27 ⟨Nat.zero_le _, Nat.zero_le _⟩) hD hS hA (fun H locs hP hD hS => ?_)
      refine lv_i2l hx hb dX3_fixed_30 rfl ?_
      exact z_l hx hb hr hlocks hm hP hD hS dX3_fixed_31
abbrev rmX3_only : Room := { frames := 9, cells := 0, slots := 0, locals := 211 }
theorem lkX3_only_61 : Cond.fieldLink RX3 61 "DeliveryBasketModel" "thrown" "I" ∈ wsX3_only := by decide +kernel
theorem iwX3_only_X3 : ∀ w ∈ wsX30, w ∈ wsX3_only := fun _ h => List.mem_cons_of_mem _ (List.mem_append_right _ h)
theorem lkX3_only_33 : Cond.fieldLink RX3 33 "DeliveryBasketModel" "alone" "I" ∈ wsX3_only := by decide +kernel
theorem lkX3_only_46 : Cond.fieldLink RX3 46 "DeliveryBasketModel" "value" "[J" ∈ wsX3_only := by decide +kernel
def mX3_only (σ : ST) (a1 : Int32) : Option (Int64 × ST) := sv (sI σ 0 0 10 (0 : Int32)) fun σ_1 => (mX3_isBond σ_1 a1).bind fun q_2 => if q_2 = (0 : Int32) then ((mX3_refuse σ_1).bind fun q_4 => some ((Int32.toInt64 q_4.1), q_4.2)) else ((mX3_isEligible σ_1 a1).bind fun q_5 => if q_5 = (0 : Int32) then ((mX3_refuse σ_1).bind fun q_11 => some ((Int32.toInt64 q_11.1), q_11.2)) else (sv (sI σ_1 0 0 11 a1) fun σ_7 => (mX3_laysTree σ_7 (-1 : Int32)).bind fun q_8 => sv (sI q_8 0 0 11 (-1 : Int32)) fun σ_9 => gd (inb (0 : Int32) 441) (some ((gJ σ_9 1 0 (Int32.toNatClampNeg (0 : Int32))), σ_9))))
set_option maxHeartbeats 4000000 in
set_option maxRecDepth 100000 in
theorem ctX3_only (l : Launch) (D : va_G) (cy : Nat → ClassId) (ad : Nat → Nat → Nat) (σ : ST) (a1 : Int32) (q : Int64 × ST) (hm : mX3_only σ a1 = some q) : zMl l yX3_only wsX3_only rmX3_only D cy [.ref (ad 0 0), .int a1] (mw cy ad σ) q.1 (mw cy ad q.2) := by
  intro sz
  refine Met.ofW (cc := cX3_only) (maxL := 2) (ret := (some .long)) (by decide) rfl ?_
  intro p e s m args below meth c s₁ B hml hv
  obtain ⟨rfl, hsz, hP, hK, hD0⟩ := hv
  have hx := B.exec
  have hb := B.bytes
  have hr := B.returns
  have hts := atoms_spec (ws := wsX3_only) B.pre
  have hown : s.vm.findClass RX3 = some m.cls := findClass_of_methodNamed B.named
  have hlocks := B.notSynchronized
  subst hsz
  have hD := hD0.self (sz := s.heap.size)
  generalize hAe : va_A (mw cy ad σ) s.heap.size = A at hD ⊢
  have hA : ∀ q : Nat, s.heap.size ≤ q → A q := fun q h => by rw [← hAe]; exact Or.inr h
  have hS : va_S A s.heap s.heap [] := va_S.rf
  have C : Cx p s m _ meth c cX3_only 2 (some .long) RX3 wsX3_only D cy A := ⟨hx, hb, hml, hown, hts, hr, hlocks, hK, hA⟩
  have hl := lv_entry ([.ref (ad 0 0), .int a1]) (n := 2) (Nat.le_of_ble_eq_true rfl)
  rw [lg_entry_eq]
  generalize (lg_sl ([.ref (ad 0 0), .int a1]) ++ List.replicate (2 - (lg_sl ([.ref (ad 0 0), .int a1])).length) Slot.unset).toArray = ls at hl ⊢
  have hl : lv_has ls 2 [(0, .ref (ad 0 0)), (1, .int a1)] := hl
  unfold mX3_only at hm
  refine lv_aload_n hx hb dX3_only_0 rfl (lv_at hl 0 rfl) ?_
  refine lv_iconst (v := 0) hx hb dX3_only_1 (by decide) ?_
  refine va_put (D := D) (ci := 3) (v := .int (0 : Int32)) (ty := .int) (C := RX3) (T := TX3) (N := 20) hx hb hts iwX3_only_X3 tyX3 tyX3_ok nmX3 hown hK.1 hP hD hS 0 mw_0 rfl 10 (by decide) (hts _ lkX3_only_61) (fun _ h9 => h9) rfl (by decide +kernel) rfl rfl (Nat.le_of_ble_eq_true rfl) dX3_only_2 (fun H locs hP hD hS => ?_)
  have hP := eP (mw_s0 (σ := σ) (j := 10) (v := (0 : Int32)) (by rfl)) hP
  have hD := eD (mw_s0 (σ := σ) (j := 10) (v := (0 : Int32)) (by rfl)) hD
  obtain ⟨σ_1, e_1, hm⟩ := sv_some hm
  have hP : va_P D vwCl (mw cy ad σ_1) H := by rw [e_1]; exact hP
  have hD : va_D A (mw cy ad σ_1) := by rw [e_1]; exact hD
  refine lv_aload_n hx hb dX3_only_5 rfl (lv_at hl 0 rfl) ?_
  refine lv_iload_n hx hb dX3_only_6 rfl (lv_at hl 1 rfl) ?_
  obtain ⟨q_2, hq_2, hm⟩ := ob hm
  refine zc_i (zr_V [.int a1] [] ⟨hx, hb, hml, hown, hts⟩ (ctX3_isBond l D cy ad σ_1  a1 q_2 hq_2 _) (cwV 1 hts gX3_only_X3_isBond rfl rfl rfl (by decide +kernel) ⟨Nat.le_of_ble_eq_true rfl, Nat.le_of_ble_eq_true rfl⟩) hK hP hD 0 mw_0 rfl rfl rfl hl.1 rfl (Nat.le_of_ble_eq_true rfl) dX3_only_7 ⟨Nat.zero_le _, Nat.zero_le _⟩) hD hS hA (fun H locs hP hD hS => ?_)
  refine lv_if_eq (tgt := 21) hx hb dX3_only_10 (by decide) (fun c_3 => ?_) (fun c_3 => ?_)
  · have hm := ifp c_3 hm
    refine lv_aload_n hx hb dX3_only_21 rfl (lv_at hl 0 rfl) ?_
    obtain ⟨q_4, hq_4, hm⟩ := ob hm
    refine zc_i (zr_V [] [] ⟨hx, hb, hml, hown, hts⟩ (ctX3_refuse l D cy ad σ_1   q_4 hq_4 _) (cwV 0 hts gX3_only_X3_refuse rfl rfl rfl (by decide +kernel) ⟨Nat.le_of_ble_eq_true rfl, Nat.le_of_ble_eq_true rfl⟩) hK hP hD 0 mw_0 rfl rfl rfl hl.1 rfl (Nat.le_of_ble_eq_true rfl) dX3_only_22 ⟨Nat.zero_le _, Nat.zero_le _⟩) hD hS hA (fun H locs hP hD hS => ?_)
    refine lv_i2l hx hb dX3_only_25 rfl ?_
    exact z_l hx hb hr hlocks hm hP hD hS dX3_only_26
  · have hm := ifn c_3 hm
    refine lv_aload_n hx hb dX3_only_13 rfl (lv_at hl 0 rfl) ?_
    refine lv_iload_n hx hb dX3_only_14 rfl (lv_at hl 1 rfl) ?_
    obtain ⟨q_5, hq_5, hm⟩ := ob hm
    refine zc_i (zr_V [.int a1] [] ⟨hx, hb, hml, hown, hts⟩ (ctX3_isEligible l D cy ad σ_1  a1 q_5 hq_5 _) (cwV 1 hts gX3_only_X3_isEligible rfl rfl rfl (by decide +kernel) ⟨Nat.le_of_ble_eq_true rfl, Nat.le_of_ble_eq_true rfl⟩) hK hP hD 0 mw_0 rfl rfl rfl hl.1 rfl (Nat.le_of_ble_eq_true rfl) dX3_only_15 ⟨Nat.zero_le _, Nat.zero_le _⟩) hD hS hA (fun H locs hP hD hS => ?_)
    refine lv_if_ne (tgt := 27) hx hb dX3_only_18 (by decide) (fun c_6 => ?_) (fun c_6 => ?_)
    · have hm := ifn c_6 hm
      refine lv_aload_n hx hb dX3_only_27 rfl (lv_at hl 0 rfl) ?_
      refine lv_iload_n hx hb dX3_only_28 rfl (lv_at hl 1 rfl) ?_
      refine va_put (D := D) (ci := 3) (v := .int a1) (ty := .int) (C := RX3) (T := TX3) (N := 20) hx hb hts iwX3_only_X3 tyX3 tyX3_ok nmX3 hown hK.1 hP hD hS 0 mw_0 rfl 11 (by decide) (hts _ lkX3_only_33) (fun _ h9 => h9) rfl (by decide +kernel) rfl rfl (Nat.le_of_ble_eq_true rfl) dX3_only_29 (fun H locs hP hD hS => ?_)
      have hP := eP (mw_s0 (σ := σ_1) (j := 11) (v := a1) (by rfl)) hP
      have hD := eD (mw_s0 (σ := σ_1) (j := 11) (v := a1) (by rfl)) hD
      obtain ⟨σ_7, e_7, hm⟩ := sv_some hm
      have hP : va_P D vwCl (mw cy ad σ_7) H := by rw [e_7]; exact hP
      have hD : va_D A (mw cy ad σ_7) := by rw [e_7]; exact hD
      refine lv_aload_n hx hb dX3_only_32 rfl (lv_at hl 0 rfl) ?_
      refine lv_iconst (v := -1) hx hb dX3_only_33 (by decide) ?_
      obtain ⟨q_8, hq_8, hm⟩ := ob hm
      refine zc_v (zr_V [.int (-1 : Int32)] [] ⟨hx, hb, hml, hown, hts⟩ (ctX3_laysTree l D cy ad σ_7  (-1 : Int32) q_8 hq_8 _) (cwV 1 hts gX3_only_X3_laysTree rfl rfl rfl (by decide +kernel) ⟨Nat.le_of_ble_eq_true rfl, Nat.le_of_ble_eq_true rfl⟩) hK hP hD 0 mw_0 rfl rfl rfl hl.1 rfl (Nat.le_of_ble_eq_true rfl) dX3_only_34 ⟨Nat.zero_le _, Nat.zero_le _⟩) hD hS hA (fun H locs hP hD hS => ?_)
      refine lv_aload_n hx hb dX3_only_37 rfl (lv_at hl 0 rfl) ?_
      refine lv_iconst (v := -1) hx hb dX3_only_38 (by decide) ?_
      refine va_put (D := D) (ci := 3) (v := .int (-1 : Int32)) (ty := .int) (C := RX3) (T := TX3) (N := 20) hx hb hts iwX3_only_X3 tyX3 tyX3_ok nmX3 hown hK.1 hP hD hS 0 mw_0 rfl 11 (by decide) (hts _ lkX3_only_33) (fun _ h9 => h9) rfl (by decide +kernel) rfl rfl (Nat.le_of_ble_eq_true rfl) dX3_only_39 (fun H locs hP hD hS => ?_)
      have hP := eP (mw_s0 (σ := q_8) (j := 11) (v := (-1 : Int32)) (by rfl)) hP
      have hD := eD (mw_s0 (σ := q_8) (j := 11) (v := (-1 : Int32)) (by rfl)) hD
      obtain ⟨σ_9, e_9, hm⟩ := sv_some hm
      have hP : va_P D vwCl (mw cy ad σ_9) H := by rw [e_9]; exact hP
      have hD : va_D A (mw cy ad σ_9) := by rw [e_9]; exact hD
      refine lv_aload_n hx hb dX3_only_42 rfl (lv_at hl 0 rfl) ?_
      refine va_get (D := D) (ci := 3) (v := .ref (ad 4 0)) (C := RX3) (T := TX3) (N := 20) hx hb hts iwX3_only_X3 hown hK.1 hP 0 mw_0 rfl 15 (by decide) (hts _ lkX3_only_46) (fun _ h9 => h9) rfl dX3_only_43 ?_
      refine lv_iconst (v := 0) hx hb dX3_only_46 (by decide) ?_
      obtain ⟨h_10, hm⟩ := gd_some hm
      refine va_lald hx hb hK.1 hP 4 1 mw_4 rfl (inb_vp h_10) dX3_only_47 ?_
      exact z_l hx hb hr hlocks hm hP hD hS dX3_only_48
    · have hm := ifp c_6 hm
      refine lv_aload_n hx hb dX3_only_21 rfl (lv_at hl 0 rfl) ?_
      obtain ⟨q_11, hq_11, hm⟩ := ob hm
      refine zc_i (zr_V [] [] ⟨hx, hb, hml, hown, hts⟩ (ctX3_refuse l D cy ad σ_1   q_11 hq_11 _) (cwV 0 hts gX3_only_X3_refuse rfl rfl rfl (by decide +kernel) ⟨Nat.le_of_ble_eq_true rfl, Nat.le_of_ble_eq_true rfl⟩) hK hP hD 0 mw_0 rfl rfl rfl hl.1 rfl (Nat.le_of_ble_eq_true rfl) dX3_only_22 ⟨Nat.zero_le _, Nat.zero_le _⟩) hD hS hA (fun H locs hP hD hS => ?_)
      refine lv_i2l hx hb dX3_only_25 rfl ?_
      exact z_l hx hb hr hlocks hm hP hD hS dX3_only_26

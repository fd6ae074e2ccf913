abbrev rmX2_often : Room := { frames := 5, cells := 0, slots := 0, locals := 113 }
theorem lkX2_often_28 : Cond.fieldLink RX2 28 "DeliveryBasket" "lattice" "LDeliveryBasket$Lattice;" ∈ wsX2_often := by decide +kernel
theorem iwX2_often_X2 : ∀ w ∈ wsX20, w ∈ wsX2_often := fun _ h => List.mem_cons_of_mem _ (List.mem_append_left _ (List.mem_append_left _ (List.mem_append_right _ h)))
def mX2_often (σ : ST) (a1 : Int32) : Option (Int32 × ST) := (mX2_eligibleBits σ).bind fun q_1 => (mX1_hasDay σ a1).bind fun q_2 => if q_2 = (0 : Int32) then (some ((-1 : Int32), σ)) else (if q_1 = (0 : Int32) then (some ((-1 : Int32), σ)) else ((mX2_valueBy σ q_1).bind fun q_5 => (mX1_pathsThatEndOn q_5.2 a1).bind fun q_6 => some (q_6.1, q_6.2)))
set_option maxHeartbeats 4000000 in
set_option maxRecDepth 100000 in
theorem ctX2_often (l : Launch) (D : va_G) (cy : Nat → ClassId) (ad : Nat → Nat → Nat) (σ : ST) (a1 : Int32) (q : Int32 × ST) (hm : mX2_often σ a1 = some q) : zMi l yX2_often wsX2_often rmX2_often D cy [.ref (ad 0 0), .int a1] (cw cy ad σ) q.1 (cw cy ad q.2) := by
  intro sz
  refine Met.ofW (cc := cX2_often) (maxL := 3) (ret := (some .int)) (by decide) rfl ?_
  intro p e s m args below meth c s₁ B hml hv
  obtain ⟨rfl, hsz, hP, hK, hD0⟩ := hv
  have hx := B.exec
  have hb := B.bytes
  have hr := B.returns
  have hts := atoms_spec (ws := wsX2_often) B.pre
  have hown : s.vm.findClass RX2 = some m.cls := findClass_of_methodNamed B.named
  have hlocks := B.notSynchronized
  subst hsz
  have hD := hD0.self (sz := s.heap.size)
  generalize hAe : va_A (cw cy ad σ) s.heap.size = A at hD ⊢
  have hA : ∀ q : Nat, s.heap.size ≤ q → A q := fun q h => by rw [← hAe]; exact Or.inr h
  have hS : va_S A s.heap s.heap [] := va_S.rf
  have C : Cx p s m _ meth c cX2_often 3 (some .int) RX2 wsX2_often D cy A := ⟨hx, hb, hml, hown, hts, hr, hlocks, hK, hA⟩
  have hl := lv_entry ([.ref (ad 0 0), .int a1]) (n := 3) (Nat.le_of_ble_eq_true rfl)
  rw [lg_entry_eq]
  generalize (lg_sl ([.ref (ad 0 0), .int a1]) ++ List.replicate (3 - (lg_sl ([.ref (ad 0 0), .int a1])).length) Slot.unset).toArray = ls at hl ⊢
  have hl : lv_has ls 3 [(0, .ref (ad 0 0)), (1, .int a1)] := hl
  unfold mX2_often at hm
  refine lv_aload_n hx hb dX2_often_0 rfl (lv_at hl 0 rfl) ?_
  obtain ⟨q_1, hq_1, hm⟩ := ob hm
  refine zc_i (zr_V [] [] ⟨hx, hb, hml, hown, hts⟩ (ctX2_eligibleBits l D cy ad σ   q_1 hq_1 _) (cwV 0 hts gX2_often_X2_eligibleBits rfl rfl rfl (by decide +kernel) ⟨Nat.le_of_ble_eq_true rfl, Nat.le_of_ble_eq_true rfl⟩) hK hP hD 0 cw_0 rfl rfl rfl hl.1 rfl (Nat.le_of_ble_eq_true rfl) dX2_often_1 ⟨Nat.zero_le _, Nat.zero_le _⟩) hD hS hA (fun H locs hP hD hS => ?_)
  refine lv_istore_n (lv' := [(2, .int q_1), (0, .ref (ad 0 0)), (1, .int a1)]) hx hb dX2_often_4 rfl hl (by decide) rfl (fun ls hl => ?_)
  refine lv_aload_n hx hb dX2_often_5 rfl (lv_at hl 1 rfl) ?_
  refine va_get (D := D) (ci := 2) (v := .ref (ad 2 0)) (C := RX2) (T := TX2) (N := 9) hx hb hts iwX2_often_X2 hown hK.1 hP 0 cw_0 rfl 5 (by decide) (hts _ lkX2_often_28) (fun _ h9 => h9) rfl dX2_often_6 ?_
  refine lv_iload_n hx hb dX2_often_9 rfl (lv_at hl 2 rfl) ?_
  obtain ⟨q_2, hq_2, hm⟩ := ob hm
  refine zc_i (zr_V [.int a1] [] ⟨hx, hb, hml, hown, hts⟩ (ctX1_hasDay l D cy ad σ  a1 q_2 hq_2 _) (cwV 1 hts gX2_often_X1_hasDay rfl rfl rfl (by decide +kernel) ⟨Nat.le_of_ble_eq_true rfl, Nat.le_of_ble_eq_true rfl⟩) hK hP hD 2 cw_2 rfl rfl rfl hl.1 rfl (Nat.le_of_ble_eq_true rfl) dX2_often_10 ⟨Nat.zero_le _, Nat.zero_le _⟩) hD hS hA (fun H locs hP hD hS => ?_)
  refine lv_if_eq (tgt := 20) hx hb dX2_often_13 (by decide) (fun c_3 => ?_) (fun c_3 => ?_)
  · have hm := ifp c_3 hm
    refine lv_iconst (v := -1) hx hb dX2_often_20 (by decide) ?_
    exact z_i hx hb hr hlocks hm hP hD hS dX2_often_21
  · have hm := ifn c_3 hm
    refine lv_iload_n hx hb dX2_often_16 rfl (lv_at hl 0 rfl) ?_
    refine lv_if_ne (tgt := 22) hx hb dX2_often_17 (by decide) (fun c_4 => ?_) (fun c_4 => ?_)
    · have hm := ifn c_4 hm
      refine lv_aload_n hx hb dX2_often_22 rfl (lv_at hl 1 rfl) ?_
      refine lv_iload_n hx hb dX2_often_23 rfl (lv_at hl 0 rfl) ?_
      obtain ⟨q_5, hq_5, hm⟩ := ob hm
      refine zc_l (zr_V [.int q_1] [] ⟨hx, hb, hml, hown, hts⟩ (ctX2_valueBy l D cy ad σ  q_1 q_5 hq_5 _) (cwV 1 hts gX2_often_X2_valueBy rfl rfl rfl (by decide +kernel) ⟨Nat.le_of_ble_eq_true rfl, Nat.le_of_ble_eq_true rfl⟩) hK hP hD 0 cw_0 rfl rfl rfl hl.1 rfl (Nat.le_of_ble_eq_true rfl) dX2_often_24 ⟨Nat.zero_le _, Nat.zero_le _⟩) hD hS hA (fun H locs hP hD hS => ?_)
      refine lv_pop2_2 hx hb dX2_often_27 rfl ?_
      refine lv_aload_n hx hb dX2_often_28 rfl (lv_at hl 1 rfl) ?_
      refine va_get (D := D) (ci := 2) (v := .ref (ad 2 0)) (C := RX2) (T := TX2) (N := 9) hx hb hts iwX2_often_X2 hown hK.1 hP 0 cw_0 rfl 5 (by decide) (hts _ lkX2_often_28) (fun _ h9 => h9) rfl dX2_often_29 ?_
      refine lv_iload_n hx hb dX2_often_32 rfl (lv_at hl 2 rfl) ?_
      obtain ⟨q_6, hq_6, hm⟩ := ob hm
      refine zc_i (zr_V [.int a1] [] ⟨hx, hb, hml, hown, hts⟩ (ctX1_pathsThatEndOn l D cy ad q_5.2  a1 q_6 hq_6 _) (cwV 1 hts gX2_often_X1_pathsThatEndOn rfl rfl rfl (by decide +kernel) ⟨Nat.le_of_ble_eq_true rfl, Nat.le_of_ble_eq_true rfl⟩) hK hP hD 2 cw_2 rfl rfl rfl hl.1 rfl (Nat.le_of_ble_eq_true rfl) dX2_often_33 ⟨Nat.zero_le _, Nat.zero_le _⟩) hD hS hA (fun H locs hP hD hS => ?_)
      exact z_i hx hb hr hlocks hm hP hD hS dX2_often_36
    · have hm := ifp c_4 hm
      refine lv_iconst (v := -1) hx hb dX2_often_20 (by decide) ?_
      exact z_i hx hb hr hlocks hm hP hD hS dX2_often_21
abbrev rmX2_fair : Room := { frames := 4, cells := 0, slots := 0, locals := 92 }
theorem lkX2_fair_184 : Cond.constant RX2 184 (999999999) ∈ wsX2_fair := by decide +kernel
theorem lkX2_fair_28 : Cond.fieldLink RX2 28 "DeliveryBasket" "lattice" "LDeliveryBasket$Lattice;" ∈ wsX2_fair := by decide +kernel
theorem iwX2_fair_X2 : ∀ w ∈ wsX20, w ∈ wsX2_fair := fun _ h => List.mem_cons_of_mem _ (List.mem_append_left _ (List.mem_append_left _ (List.mem_append_right _ h)))
theorem lkX2_fair_11 : Cond.fieldLink RX2 11 "DeliveryBasket" "bonds" "[LDeliveryBasket$Bond;" ∈ wsX2_fair := by decide +kernel
theorem lkX2_fair_129 : Cond.fieldLink RX2 129 "DeliveryBasket$Lattice" "days" "I" ∈ wsX2_fair := by decide +kernel
theorem iwX2_fair_X1 : ∀ w ∈ wsX10, w ∈ wsX2_fair := fun _ h => List.mem_cons_of_mem _ (List.mem_append_left _ (List.mem_append_right _ h))
theorem lkX2_fair_44 : Cond.fieldLink RX2 44 "DeliveryBasket" "size" "I" ∈ wsX2_fair := by decide +kernel
theorem lkX2_fair_235 : Cond.constant RX2 235 (536870912) ∈ wsX2_fair := by decide +kernel
def bkX2_fair_31  (rec : ST × Int32 × Int32 × Int32 → Option (Int32 × ST)) (σ : ST) (x1 : Int32) (x2 : Int32) (x3 : Int32) : Option (Int32 × ST) := if x3 ≤ (0 : Int32) then (if x2 = (999999999 : Int32) then (some ((-1 : Int32), σ)) else (some ((x2 + (1 : Int32)), σ))) else (if (999999999 : Int32) < (x2 + x3) then (rec (σ, x1, x2, (x3 / (2 : Int32)))) else ((mX1_layNow σ x1 (x2 + x3)).bind fun q_4 => (mX1_rollBack q_4 (gI q_4 1 0 0) (1 : Int32)).bind fun q_5 => if (0 : Int32) ≤ (lg_cmp q_5.1 (0 : Int64)) then (rec (q_5.2, x1, x2, (x3 / (2 : Int32)))) else (rec (q_5.2, x1, (x2 + x3), (x3 / (2 : Int32))))))
def kX2_fair_31  (n : Nat) (a : ST × Int32 × Int32 × Int32) : Option (Int32 × ST) := fx (fun rec a => bkX2_fair_31  rec a.1 a.2.1 a.2.2.1 a.2.2.2) n a
set_option maxHeartbeats 4000000 in
set_option maxRecDepth 100000 in
theorem kX2_fair_31_ok {p : Program} {l : Launch} {e : Env} {s : State} {m : MethodId} {args : Array Value} {below : List Frame} {meth : Method} {c : Code} {D : va_G} {cy : Nat → ClassId} {ad : Nat → Nat → Nat} {A : Nat → Prop} (C : Cx p s m args meth c cX2_fair 4 (some .int) RX2 wsX2_fair D cy A) (q : Int32 × ST) : ∀ (n : Nat) (σ : ST) (x1 : Int32) (x2 : Int32) (x3 : Int32), ∀ (H : Heap) (locs : List Loc), va_P D vwCl (cw cy ad σ) H → va_D A (cw cy ad σ) → va_S A s.heap H locs → ∀ ls : Array Slot, lv_has ls 4 [(0, .ref (ad 0 0)), (1, .int x1), (2, .int x2), (3, .int x3)] → kX2_fair_31 n (σ, x1, x2, x3) = some q → W p l e rmX2_fair s m args below meth c H locs 0 0 (MQ below (zQi D (cw cy ad q.2) A q.1) args s 0 0 A) (F0 m 31 ls []) := by
  obtain ⟨hx, hb, hml, hown, hts, hr, hlocks, hK, hA⟩ := id C
  intro n
  induction n with
  | zero => intro σ x1 x2 x3 H locs hP hD hS ls hl hm; cases hm
  | succ n ih =>
    intro σ x1 x2 x3 H locs hP hD hS ls hl hm
    have hm : bkX2_fair_31  (kX2_fair_31 n) σ x1 x2 x3 = some q := hm
    unfold bkX2_fair_31 at hm
    refine lv_iload_n hx hb dX2_fair_31 rfl (lv_at hl 3 rfl) ?_
    refine lv_if_le (tgt := 89) hx hb dX2_fair_32 (by decide) (fun c_1 => ?_) (fun c_1 => ?_)
    · have hm := ifp c_1 hm
      refine lv_iload_n hx hb dX2_fair_89 rfl (lv_at hl 2 rfl) ?_
      refine lv_ldc (v := 999999999) hx hb hown (hts _ lkX2_fair_184) dX2_fair_90 ?_
      refine lv_icmp_ne (tgt := 99) hx hb dX2_fair_92 (by decide) (fun c_2 => ?_) (fun c_2 => ?_)
      · have hm := ifn c_2 hm
        refine lv_iload_n hx hb dX2_fair_99 rfl (lv_at hl 2 rfl) ?_
        refine lv_iconst (v := 1) hx hb dX2_fair_100 (by decide) ?_
        refine lv_iadd hx hb dX2_fair_101 ?_
        exact z_i hx hb hr hlocks hm hP hD hS dX2_fair_102
      · have hm := ifp c_2 hm
        refine lv_iconst (v := -1) hx hb dX2_fair_95 (by decide) ?_
        refine lv_goto (tgt := 102) hx hb dX2_fair_96 (by decide) ?_
        exact z_i hx hb hr hlocks hm hP hD hS dX2_fair_102
    · have hm := ifn c_1 hm
      refine lv_iload_n hx hb dX2_fair_35 rfl (lv_at hl 2 rfl) ?_
      refine lv_iload_n hx hb dX2_fair_36 rfl (lv_at hl 3 rfl) ?_
      refine lv_iadd hx hb dX2_fair_37 ?_
      refine lv_ldc (v := 999999999) hx hb hown (hts _ lkX2_fair_184) dX2_fair_38 ?_
      refine lv_icmp_gt (tgt := 82) hx hb dX2_fair_40 (by decide) (fun c_3 => ?_) (fun c_3 => ?_)
      · have hm := ifp c_3 hm
        refine lv_iload_n hx hb dX2_fair_82 rfl (lv_at hl 3 rfl) ?_
        refine lv_iconst (v := 2) hx hb dX2_fair_83 (by decide) ?_
        refine lv_idiv hx hb dX2_fair_84 (by decide) ?_
        refine lv_istore_n (lv' := [(3, .int (x3 / (2 : Int32))), (0, .ref (ad 0 0)), (1, .int x1), (2, .int x2)]) hx hb dX2_fair_85 rfl hl (by decide) rfl (fun ls hl => ?_)
        refine lv_goto (tgt := 31) hx hb dX2_fair_86 (by decide) ?_
        exact ih σ x1 x2 (x3 / (2 : Int32)) _ _ hP hD hS _ (lv_sub hl [1, 2, 3, 0] rfl) hm
      · have hm := ifn c_3 hm
        refine lv_aload_n hx hb dX2_fair_43 rfl (lv_at hl 0 rfl) ?_
        refine va_get (D := D) (ci := 2) (v := .ref (ad 2 0)) (C := RX2) (T := TX2) (N := 9) hx hb hts iwX2_fair_X2 hown hK.1 hP 0 cw_0 rfl 5 (by decide) (hts _ lkX2_fair_28) (fun _ h9 => h9) rfl dX2_fair_44 ?_
        refine lv_aload_n hx hb dX2_fair_47 rfl (lv_at hl 0 rfl) ?_
        refine va_get (D := D) (ci := 2) (v := .ref (ad 1 0)) (C := RX2) (T := TX2) (N := 9) hx hb hts iwX2_fair_X2 hown hK.1 hP 0 cw_0 rfl 0 (by decide) (hts _ lkX2_fair_11) (fun _ h9 => h9) rfl dX2_fair_48 ?_
        refine lv_iload_n hx hb dX2_fair_51 rfl (lv_at hl 1 rfl) ?_
        refine lv_iload_n hx hb dX2_fair_52 rfl (lv_at hl 2 rfl) ?_
        refine lv_iload_n hx hb dX2_fair_53 rfl (lv_at hl 3 rfl) ?_
        refine lv_iadd hx hb dX2_fair_54 ?_
        obtain ⟨q_4, hq_4, hm⟩ := ob hm
        refine zc_v (zr_V [.ref (ad 1 0), .int x1, .int (x2 + x3)] [] ⟨hx, hb, hml, hown, hts⟩ (ctX1_layNow l D cy ad σ  x1 (x2 + x3) q_4 hq_4 _) (cwV 3 hts gX2_fair_X1_layNow rfl rfl rfl (by decide +kernel) ⟨Nat.le_of_ble_eq_true rfl, Nat.le_of_ble_eq_true rfl⟩) hK hP hD 2 cw_2 rfl rfl rfl hl.1 rfl (Nat.le_of_ble_eq_true rfl) dX2_fair_55 ⟨Nat.zero_le _, Nat.zero_le _⟩) hD hS hA (fun H locs hP hD hS => ?_)
        refine lv_aload_n hx hb dX2_fair_58 rfl (lv_at hl 0 rfl) ?_
        refine va_get (D := D) (ci := 2) (v := .ref (ad 2 0)) (C := RX2) (T := TX2) (N := 9) hx hb hts iwX2_fair_X2 hown hK.1 hP 0 cw_0 rfl 5 (by decide) (hts _ lkX2_fair_28) (fun _ h9 => h9) rfl dX2_fair_59 ?_
        refine lv_aload_n hx hb dX2_fair_62 rfl (lv_at hl 0 rfl) ?_
        refine va_get (D := D) (ci := 2) (v := .ref (ad 2 0)) (C := RX2) (T := TX2) (N := 9) hx hb hts iwX2_fair_X2 hown hK.1 hP 0 cw_0 rfl 5 (by decide) (hts _ lkX2_fair_28) (fun _ h9 => h9) rfl dX2_fair_63 ?_
        refine va_get (D := D) (ci := 1) (v := .int (gI q_4 1 0 0)) (C := RX1) (T := TX1) (N := 12) hx hb hts iwX2_fair_X1 hown hK.1 hP 2 cw_2 rfl 0 (by decide) (hts _ lkX2_fair_129) (fun _ h9 => h9) rfl dX2_fair_66 ?_
        refine lv_iconst (v := 1) hx hb dX2_fair_69 (by decide) ?_
        obtain ⟨q_5, hq_5, hm⟩ := ob hm
        refine zc_l (zr_V [.int (gI q_4 1 0 0), .int (1 : Int32)] [] ⟨hx, hb, hml, hown, hts⟩ (ctX1_rollBack l D cy ad q_4  (gI q_4 1 0 0) (1 : Int32) q_5 hq_5 _) (cwV 2 hts gX2_fair_X1_rollBack rfl rfl rfl (by decide +kernel) ⟨Nat.le_of_ble_eq_true rfl, Nat.le_of_ble_eq_true rfl⟩) hK hP hD 2 cw_2 rfl rfl rfl hl.1 rfl (Nat.le_of_ble_eq_true rfl) dX2_fair_70 ⟨Nat.zero_le _, Nat.zero_le _⟩) hD hS hA (fun H locs hP hD hS => ?_)
        refine lv_lconst (v := 0) hx hb dX2_fair_73 (by decide) ?_
        refine W.lcmp hx hb dX2_fair_74 ?_
        refine lv_if_ge (tgt := 82) hx hb dX2_fair_75 (by decide) (fun c_6 => ?_) (fun c_6 => ?_)
        · have hm := ifp c_6 hm
          refine lv_iload_n hx hb dX2_fair_82 rfl (lv_at hl 3 rfl) ?_
          refine lv_iconst (v := 2) hx hb dX2_fair_83 (by decide) ?_
          refine lv_idiv hx hb dX2_fair_84 (by decide) ?_
          refine lv_istore_n (lv' := [(3, .int (x3 / (2 : Int32))), (0, .ref (ad 0 0)), (1, .int x1), (2, .int x2)]) hx hb dX2_fair_85 rfl hl (by decide) rfl (fun ls hl => ?_)
          refine lv_goto (tgt := 31) hx hb dX2_fair_86 (by decide) ?_
          exact ih q_5.2 x1 x2 (x3 / (2 : Int32)) _ _ hP hD hS _ (lv_sub hl [1, 2, 3, 0] rfl) hm
        · have hm := ifn c_6 hm
          refine lv_iload_n hx hb dX2_fair_78 rfl (lv_at hl 2 rfl) ?_
          refine lv_iload_n hx hb dX2_fair_79 rfl (lv_at hl 3 rfl) ?_
          refine lv_iadd hx hb dX2_fair_80 ?_
          refine lv_istore_n (lv' := [(2, .int (x2 + x3)), (0, .ref (ad 0 0)), (1, .int x1), (3, .int x3)]) hx hb dX2_fair_81 rfl hl (by decide) rfl (fun ls hl => ?_)
          refine lv_iload_n hx hb dX2_fair_82 rfl (lv_at hl 3 rfl) ?_
          refine lv_iconst (v := 2) hx hb dX2_fair_83 (by decide) ?_
          refine lv_idiv hx hb dX2_fair_84 (by decide) ?_
          refine lv_istore_n (lv' := [(3, .int (x3 / (2 : Int32))), (2, .int (x2 + x3)), (0, .ref (ad 0 0)), (1, .int x1)]) hx hb dX2_fair_85 rfl hl (by decide) rfl (fun ls hl => ?_)
          refine lv_goto (tgt := 31) hx hb dX2_fair_86 (by decide) ?_
          exact ih q_5.2 x1 (x2 + x3) (x3 / (2 : Int32)) _ _ hP hD hS _ (lv_sub hl [2, 3, 1, 0] rfl) hm
def mX2_fair (σ : ST) : Option (Int32 × ST) := (mX2_eligibleBits σ).bind fun q_7 => if q_7 = (0 : Int32) then (some ((-1 : Int32), σ)) else ((mX1_layPrices σ (gI σ 0 0 1)).bind fun q_9 => kX2_fair_31 FU (q_9, q_7, (-1 : Int32), (536870912 : Int32)))
set_option maxHeartbeats 4000000 in
set_option maxRecDepth 100000 in
theorem ctX2_fair (l : Launch) (D : va_G) (cy : Nat → ClassId) (ad : Nat → Nat → Nat) (σ : ST)  (q : Int32 × ST) (hm : mX2_fair σ = some q) : zMi l yX2_fair wsX2_fair rmX2_fair D cy [.ref (ad 0 0)] (cw cy ad σ) q.1 (cw cy ad q.2) := by
  intro sz
  refine Met.ofW (cc := cX2_fair) (maxL := 4) (ret := (some .int)) (by decide) rfl ?_
  intro p e s m args below meth c s₁ B hml hv
  obtain ⟨rfl, hsz, hP, hK, hD0⟩ := hv
  have hx := B.exec
  have hb := B.bytes
  have hr := B.returns
  have hts := atoms_spec (ws := wsX2_fair) B.pre
  have hown : s.vm.findClass RX2 = some m.cls := findClass_of_methodNamed B.named
  have hlocks := B.notSynchronized
  subst hsz
  have hD := hD0.self (sz := s.heap.size)
  generalize hAe : va_A (cw cy ad σ) s.heap.size = A at hD ⊢
  have hA : ∀ q : Nat, s.heap.size ≤ q → A q := fun q h => by rw [← hAe]; exact Or.inr h
  have hS : va_S A s.heap s.heap [] := va_S.rf
  have C : Cx p s m _ meth c cX2_fair 4 (some .int) RX2 wsX2_fair D cy A := ⟨hx, hb, hml, hown, hts, hr, hlocks, hK, hA⟩
  have hl := lv_entry ([.ref (ad 0 0)]) (n := 4) (Nat.le_of_ble_eq_true rfl)
  rw [lg_entry_eq]
  generalize (lg_sl ([.ref (ad 0 0)]) ++ List.replicate (4 - (lg_sl ([.ref (ad 0 0)])).length) Slot.unset).toArray = ls at hl ⊢
  have hl : lv_has ls 4 [(0, .ref (ad 0 0))] := hl
  unfold mX2_fair at hm
  refine lv_aload_n hx hb dX2_fair_0 rfl (lv_at hl 0 rfl) ?_
  obtain ⟨q_7, hq_7, hm⟩ := ob hm
  refine zc_i (zr_V [] [] ⟨hx, hb, hml, hown, hts⟩ (ctX2_eligibleBits l D cy ad σ   q_7 hq_7 _) (cwV 0 hts gX2_fair_X2_eligibleBits rfl rfl rfl (by decide +kernel) ⟨Nat.le_of_ble_eq_true rfl, Nat.le_of_ble_eq_true rfl⟩) hK hP hD 0 cw_0 rfl rfl rfl hl.1 rfl (Nat.le_of_ble_eq_true rfl) dX2_fair_1 ⟨Nat.zero_le _, Nat.zero_le _⟩) hD hS hA (fun H locs hP hD hS => ?_)
  refine lv_istore_n (lv' := [(1, .int q_7), (0, .ref (ad 0 0))]) hx hb dX2_fair_4 rfl hl (by decide) rfl (fun ls hl => ?_)
  refine lv_iload_n hx hb dX2_fair_5 rfl (lv_at hl 0 rfl) ?_
  refine lv_if_ne (tgt := 11) hx hb dX2_fair_6 (by decide) (fun c_8 => ?_) (fun c_8 => ?_)
  · have hm := ifn c_8 hm
    refine lv_aload_n hx hb dX2_fair_11 rfl (lv_at hl 1 rfl) ?_
    refine va_get (D := D) (ci := 2) (v := .ref (ad 2 0)) (C := RX2) (T := TX2) (N := 9) hx hb hts iwX2_fair_X2 hown hK.1 hP 0 cw_0 rfl 5 (by decide) (hts _ lkX2_fair_28) (fun _ h9 => h9) rfl dX2_fair_12 ?_
    refine lv_aload_n hx hb dX2_fair_15 rfl (lv_at hl 1 rfl) ?_
    refine va_get (D := D) (ci := 2) (v := .ref (ad 1 0)) (C := RX2) (T := TX2) (N := 9) hx hb hts iwX2_fair_X2 hown hK.1 hP 0 cw_0 rfl 0 (by decide) (hts _ lkX2_fair_11) (fun _ h9 => h9) rfl dX2_fair_16 ?_
    refine lv_aload_n hx hb dX2_fair_19 rfl (lv_at hl 1 rfl) ?_
    refine va_get (D := D) (ci := 2) (v := .int (gI σ 0 0 1)) (C := RX2) (T := TX2) (N := 9) hx hb hts iwX2_fair_X2 hown hK.1 hP 0 cw_0 rfl 1 (by decide) (hts _ lkX2_fair_44) (fun _ h9 => h9) rfl dX2_fair_20 ?_
    obtain ⟨q_9, hq_9, hm⟩ := ob hm
    refine zc_v (zr_V [.ref (ad 1 0), .int (gI σ 0 0 1)] [] ⟨hx, hb, hml, hown, hts⟩ (ctX1_layPrices l D cy ad σ  (gI σ 0 0 1) q_9 hq_9 _) (cwV 2 hts gX2_fair_X1_layPrices rfl rfl rfl (by decide +kernel) ⟨Nat.le_of_ble_eq_true rfl, Nat.le_of_ble_eq_true rfl⟩) hK hP hD 2 cw_2 rfl rfl rfl hl.1 rfl (Nat.le_of_ble_eq_true rfl) dX2_fair_23 ⟨Nat.zero_le _, Nat.zero_le _⟩) hD hS hA (fun H locs hP hD hS => ?_)
    refine lv_iconst (v := -1) hx hb dX2_fair_26 (by decide) ?_
    refine lv_istore_n (lv' := [(2, .int (-1 : Int32)), (1, .int q_7), (0, .ref (ad 0 0))]) hx hb dX2_fair_27 rfl hl (by decide) rfl (fun ls hl => ?_)
    refine lv_ldc (v := 536870912) hx hb hown (hts _ lkX2_fair_235) dX2_fair_28 ?_
    refine lv_istore_n (lv' := [(3, .int (536870912 : Int32)), (2, .int (-1 : Int32)), (1, .int q_7), (0, .ref (ad 0 0))]) hx hb dX2_fair_30 rfl hl (by decide) rfl (fun ls hl => ?_)
    exact kX2_fair_31_ok C q FU q_9 q_7 (-1 : Int32) (536870912 : Int32) _ _ hP hD hS _ (lv_sub hl [3, 2, 1, 0] rfl) hm
  · have hm := ifp c_8 hm
    refine lv_iconst (v := -1) hx hb dX2_fair_9 (by decide) ?_
    exact z_i hx hb hr hlocks hm hP hD hS dX2_fair_10

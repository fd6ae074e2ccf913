abbrev rmX2_cheapest : Room := { frames := 5, cells := 0, slots := 0, locals := 114 }
def mX2_cheapest (σ : ST) (a1 : Int32) : Option (Int32 × ST) := (mX2_isRate a1).bind fun q_1 => if q_1 = (0 : Int32) then (some ((-1 : Int32), σ)) else ((mX2_eligibleBits σ).bind fun q_3 => (mX2_cheapestAt σ a1 q_3).bind fun q_4 => some (q_4.1, q_4.2))
set_option maxHeartbeats 4000000 in
set_option maxRecDepth 100000 in
theorem ctX2_cheapest (l : Launch) (D : va_G) (cy : Nat → ClassId) (ad : Nat → Nat → Nat) (σ : ST) (a1 : Int32) (q : Int32 × ST) (hm : mX2_cheapest σ a1 = some q) : zMi l yX2_cheapest wsX2_cheapest rmX2_cheapest D cy [.ref (ad 0 0), .int a1] (cw cy ad σ) q.1 (cw cy ad q.2) := by
  intro sz
  refine Met.ofW (cc := cX2_cheapest) (maxL := 2) (ret := (some .int)) (by decide) rfl ?_
  intro p e s m args below meth c s₁ B hml hv
  obtain ⟨rfl, hsz, hP, hK, hD0⟩ := hv
  have hx := B.exec
  have hb := B.bytes
  have hr := B.returns
  have hts := atoms_spec (ws := wsX2_cheapest) B.pre
  have hown : s.vm.findClass RX2 = some m.cls := findClass_of_methodNamed B.named
  have hlocks := B.notSynchronized
  subst hsz
  have hD := hD0.self (sz := s.heap.size)
  generalize hAe : va_A (cw cy ad σ) s.heap.size = A at hD ⊢
  have hA : ∀ q : Nat, s.heap.size ≤ q → A q := fun q h => by rw [← hAe]; exact Or.inr h
  have hS : va_S A s.heap s.heap [] := va_S.rf
  have C : Cx p s m _ meth c cX2_cheapest 2 (some .int) RX2 wsX2_cheapest D cy A := ⟨hx, hb, hml, hown, hts, hr, hlocks, hK, hA⟩
  have hl := lv_entry ([.ref (ad 0 0), .int a1]) (n := 2) (Nat.le_of_ble_eq_true rfl)
  rw [lg_entry_eq]
  generalize (lg_sl ([.ref (ad 0 0), .int a1]) ++ List.replicate (2 - (lg_sl ([.ref (ad 0 0), .int a1])).length) Slot.unset).toArray = ls at hl ⊢
  have hl : lv_has ls 2 [(0, .ref (ad 0 0)), (1, .int a1)] := hl
  unfold mX2_cheapest at hm
  refine lv_iload_n hx hb dX2_cheapest_0 rfl (lv_at hl 1 rfl) ?_
  obtain ⟨q_1, hq_1, hm⟩ := ob hm
  refine zc_i (zr_S [.int a1] [] ⟨hx, hb, hml, hown, hts⟩ (ctX2_isRate l D cy (cw cy ad σ)  a1 q_1 hq_1 _) (va_cwS 1 hts gX2_cheapest_X2_isRate rfl rfl rfl (by decide +kernel) ⟨Nat.le_of_ble_eq_true rfl, Nat.le_of_ble_eq_true rfl⟩) hK hP hD rfl hl.1 rfl (Nat.le_of_ble_eq_true rfl) dX2_cheapest_1 ⟨Nat.zero_le _, Nat.zero_le _⟩) hD hS hA (fun H locs hP hD hS => ?_)
  refine lv_if_eq (tgt := 19) hx hb dX2_cheapest_4 (by decide) (fun c_2 => ?_) (fun c_2 => ?_)
  · have hm := ifp c_2 hm
    refine lv_iconst (v := -1) hx hb dX2_cheapest_19 (by decide) ?_
    exact z_i hx hb hr hlocks hm hP hD hS dX2_cheapest_20
  · have hm := ifn c_2 hm
    refine lv_aload_n hx hb dX2_cheapest_7 rfl (lv_at hl 0 rfl) ?_
    refine lv_iload_n hx hb dX2_cheapest_8 rfl (lv_at hl 1 rfl) ?_
    refine lv_aload_n hx hb dX2_cheapest_9 rfl (lv_at hl 0 rfl) ?_
    obtain ⟨q_3, hq_3, hm⟩ := ob hm
    refine zc_i (zr_V [] [.int a1, .ref (ad 0 0)] ⟨hx, hb, hml, hown, hts⟩ (ctX2_eligibleBits l D cy ad σ   q_3 hq_3 _) (cwV 0 hts gX2_cheapest_X2_eligibleBits rfl rfl rfl (by decide +kernel) ⟨Nat.le_of_ble_eq_true rfl, Nat.le_of_ble_eq_true rfl⟩) hK hP hD 0 cw_0 rfl rfl rfl hl.1 rfl (Nat.le_of_ble_eq_true rfl) dX2_cheapest_10 ⟨Nat.zero_le _, Nat.zero_le _⟩) hD hS hA (fun H locs hP hD hS => ?_)
    obtain ⟨q_4, hq_4, hm⟩ := ob hm
    refine zc_i (zr_V [.int a1, .int q_3] [] ⟨hx, hb, hml, hown, hts⟩ (ctX2_cheapestAt l D cy ad σ  a1 q_3 q_4 hq_4 _) (cwV 2 hts gX2_cheapest_X2_cheapestAt rfl rfl rfl (by decide +kernel) ⟨Nat.le_of_ble_eq_true rfl, Nat.le_of_ble_eq_true rfl⟩) hK hP hD 0 cw_0 rfl rfl rfl hl.1 rfl (Nat.le_of_ble_eq_true rfl) dX2_cheapest_13 ⟨Nat.zero_le _, Nat.zero_le _⟩) hD hS hA (fun H locs hP hD hS => ?_)
    refine lv_goto (tgt := 20) hx hb dX2_cheapest_16 (by decide) ?_
    exact z_i hx hb hr hlocks hm hP hD hS dX2_cheapest_20
abbrev rmX2_howManyAhead : Room := { frames := 1, cells := 0, slots := 0, locals := 26 }
theorem lkX2_howManyAhead_44 : Cond.fieldLink RX2 44 "DeliveryBasket" "size" "I" ∈ wsX2_howManyAhead := by decide +kernel
theorem iwX2_howManyAhead_X2 : ∀ w ∈ wsX20, w ∈ wsX2_howManyAhead := fun _ h => List.mem_cons_of_mem _ (List.mem_append_left _ (List.mem_append_right _ h))
def bkX2_howManyAhead_5 (σ : ST)  (rec : Int32 × Int32 × Int32 × Int32 → Option (Int32)) (x1 : Int32) (x2 : Int32) (x3 : Int32) (x4 : Int32) : Option (Int32) := if (gI σ 0 0 1) ≤ x4 then (some x3) else ((mX2_isIn x2 x4).bind fun q_2 => if q_2 = (0 : Int32) then (rec (x1, x2, x3, (x4 + (1 : Int32)))) else ((mX2_comesAhead σ x4 x1).bind fun q_4 => if q_4 = (0 : Int32) then (rec (x1, x2, x3, (x4 + (1 : Int32)))) else (rec (x1, x2, (x3 + (1 : Int32)), (x4 + (1 : Int32))))))
def kX2_howManyAhead_5 (σ : ST)  (n : Nat) (a : Int32 × Int32 × Int32 × Int32) : Option (Int32) := fx (fun rec a => bkX2_howManyAhead_5 σ  rec a.1 a.2.1 a.2.2.1 a.2.2.2) n a
set_option maxHeartbeats 4000000 in
set_option maxRecDepth 100000 in
theorem kX2_howManyAhead_5_ok {p : Program} {l : Launch} {e : Env} {s : State} {m : MethodId} {args : Array Value} {below : List Frame} {meth : Method} {c : Code} {D : va_G} {cy : Nat → ClassId} {ad : Nat → Nat → Nat} {A : Nat → Prop} (C : Cx p s m args meth c cX2_howManyAhead 5 (some .int) RX2 wsX2_howManyAhead D cy A) (q : Int32) (σ : ST) : ∀ (n : Nat) (x1 : Int32) (x2 : Int32) (x3 : Int32) (x4 : Int32), ∀ (H : Heap) (locs : List Loc), va_P D vwCl (cw cy ad σ) H → va_D A (cw cy ad σ) → va_S A s.heap H locs → ∀ ls : Array Slot, lv_has ls 5 [(0, .ref (ad 0 0)), (1, .int x1), (2, .int x2), (3, .int x3), (4, .int x4)] → kX2_howManyAhead_5 σ n (x1, x2, x3, x4) = some q → W p l e rmX2_howManyAhead s m args below meth c H locs 0 0 (MQ below (zQi D (cw cy ad σ) A q) args s 0 0 A) (F0 m 5 ls []) := by
  obtain ⟨hx, hb, hml, hown, hts, hr, hlocks, hK, hA⟩ := id C
  intro n
  induction n with
  | zero => intro x1 x2 x3 x4 H locs hP hD hS ls hl hm; cases hm
  | succ n ih =>
    intro x1 x2 x3 x4 H locs hP hD hS ls hl hm
    have hm : bkX2_howManyAhead_5 σ  (kX2_howManyAhead_5 σ n) x1 x2 x3 x4 = some q := hm
    unfold bkX2_howManyAhead_5 at hm
    refine lv_iload hx hb dX2_howManyAhead_5 (lv_at hl 4 rfl) ?_
    refine lv_aload_n hx hb dX2_howManyAhead_7 rfl (lv_at hl 0 rfl) ?_
    refine va_get (D := D) (ci := 2) (v := .int (gI σ 0 0 1)) (C := RX2) (T := TX2) (N := 9) hx hb hts iwX2_howManyAhead_X2 hown hK.1 hP 0 cw_0 rfl 1 (by decide) (hts _ lkX2_howManyAhead_44) (fun _ h9 => h9) rfl dX2_howManyAhead_8 ?_
    refine lv_icmp_ge (tgt := 42) hx hb dX2_howManyAhead_11 (by decide) (fun c_1 => ?_) (fun c_1 => ?_)
    · have hm := ifp c_1 hm
      refine lv_iload_n hx hb dX2_howManyAhead_42 rfl (lv_at hl 3 rfl) ?_
      exact z_pi hx hb hr hlocks hm hP hD hS dX2_howManyAhead_43
    · have hm := ifn c_1 hm
      refine lv_iload_n hx hb dX2_howManyAhead_14 rfl (lv_at hl 2 rfl) ?_
      refine lv_iload hx hb dX2_howManyAhead_15 (lv_at hl 4 rfl) ?_
      obtain ⟨q_2, hq_2, hm⟩ := ob hm
      refine zc_i (zr_S [.int x2, .int x4] [] ⟨hx, hb, hml, hown, hts⟩ (ctX2_isIn l D cy (cw cy ad σ)  x2 x4 q_2 hq_2 _) (va_cwS 2 hts gX2_howManyAhead_X2_isIn rfl rfl rfl (by decide +kernel) ⟨Nat.le_of_ble_eq_true rfl, Nat.le_of_ble_eq_true rfl⟩) hK hP hD rfl hl.1 rfl (Nat.le_of_ble_eq_true rfl) dX2_howManyAhead_17 ⟨Nat.zero_le _, Nat.zero_le _⟩) hD hS hA (fun H locs hP hD hS => ?_)
      refine lv_if_eq (tgt := 36) hx hb dX2_howManyAhead_20 (by decide) (fun c_3 => ?_) (fun c_3 => ?_)
      · have hm := ifp c_3 hm
        refine lv_iinc (v := (x4 + (1 : Int32))) (lv' := [(4, .int (x4 + (1 : Int32))), (0, .ref (ad 0 0)), (1, .int x1), (2, .int x2), (3, .int x3)]) hx hb dX2_howManyAhead_36 hl (k := 4) rfl rfl (by decide) rfl (fun ls hl => ?_)
        refine lv_goto (tgt := 5) hx hb dX2_howManyAhead_39 (by decide) ?_
        exact ih x1 x2 x3 (x4 + (1 : Int32)) _ _ hP hD hS _ (lv_sub hl [1, 2, 3, 4, 0] rfl) hm
      · have hm := ifn c_3 hm
        refine lv_aload_n hx hb dX2_howManyAhead_23 rfl (lv_at hl 0 rfl) ?_
        refine lv_iload hx hb dX2_howManyAhead_24 (lv_at hl 4 rfl) ?_
        refine lv_iload_n hx hb dX2_howManyAhead_26 rfl (lv_at hl 1 rfl) ?_
        obtain ⟨q_4, hq_4, hm⟩ := ob hm
        refine zc_i (zr_V [.int x4, .int x1] [] ⟨hx, hb, hml, hown, hts⟩ (ctX2_comesAhead l D cy ad σ  x4 x1 q_4 hq_4 _) (cwV 2 hts gX2_howManyAhead_X2_comesAhead rfl rfl rfl (by decide +kernel) ⟨Nat.le_of_ble_eq_true rfl, Nat.le_of_ble_eq_true rfl⟩) hK hP hD 0 cw_0 rfl rfl rfl hl.1 rfl (Nat.le_of_ble_eq_true rfl) dX2_howManyAhead_27 ⟨Nat.zero_le _, Nat.zero_le _⟩) hD hS hA (fun H locs hP hD hS => ?_)
        refine lv_if_eq (tgt := 36) hx hb dX2_howManyAhead_30 (by decide) (fun c_5 => ?_) (fun c_5 => ?_)
        · have hm := ifp c_5 hm
          refine lv_iinc (v := (x4 + (1 : Int32))) (lv' := [(4, .int (x4 + (1 : Int32))), (0, .ref (ad 0 0)), (1, .int x1), (2, .int x2), (3, .int x3)]) hx hb dX2_howManyAhead_36 hl (k := 4) rfl rfl (by decide) rfl (fun ls hl => ?_)
          refine lv_goto (tgt := 5) hx hb dX2_howManyAhead_39 (by decide) ?_
          exact ih x1 x2 x3 (x4 + (1 : Int32)) _ _ hP hD hS _ (lv_sub hl [1, 2, 3, 4, 0] rfl) hm
        · have hm := ifn c_5 hm
          refine lv_iinc (v := (x3 + (1 : Int32))) (lv' := [(3, .int (x3 + (1 : Int32))), (0, .ref (ad 0 0)), (1, .int x1), (2, .int x2), (4, .int x4)]) hx hb dX2_howManyAhead_33 hl (k := 3) rfl rfl (by decide) rfl (fun ls hl => ?_)
          refine lv_iinc (v := (x4 + (1 : Int32))) (lv' := [(4, .int (x4 + (1 : Int32))), (3, .int (x3 + (1 : Int32))), (0, .ref (ad 0 0)), (1, .int x1), (2, .int x2)]) hx hb dX2_howManyAhead_36 hl (k := 4) rfl rfl (by decide) rfl (fun ls hl => ?_)
          refine lv_goto (tgt := 5) hx hb dX2_howManyAhead_39 (by decide) ?_
          exact ih x1 x2 (x3 + (1 : Int32)) (x4 + (1 : Int32)) _ _ hP hD hS _ (lv_sub hl [2, 3, 4, 1, 0] rfl) hm
def mX2_howManyAhead (σ : ST) (a1 : Int32) (a2 : Int32) : Option (Int32) := kX2_howManyAhead_5 σ FU (a1, a2, (0 : Int32), (0 : Int32))
set_option maxHeartbeats 4000000 in
set_option maxRecDepth 100000 in
theorem ctX2_howManyAhead (l : Launch) (D : va_G) (cy : Nat → ClassId) (ad : Nat → Nat → Nat) (σ : ST) (a1 : Int32) (a2 : Int32) (q : Int32) (hm : mX2_howManyAhead σ a1 a2 = some q) : zMi l yX2_howManyAhead wsX2_howManyAhead rmX2_howManyAhead D cy [.ref (ad 0 0), .int a1, .int a2] (cw cy ad σ) q (cw cy ad σ) := by
  intro sz
  refine Met.ofW (cc := cX2_howManyAhead) (maxL := 5) (ret := (some .int)) (by decide) rfl ?_
  intro p e s m args below meth c s₁ B hml hv
  obtain ⟨rfl, hsz, hP, hK, hD0⟩ := hv
  have hx := B.exec
  have hb := B.bytes
  have hr := B.returns
  have hts := atoms_spec (ws := wsX2_howManyAhead) B.pre
  have hown : s.vm.findClass RX2 = some m.cls := findClass_of_methodNamed B.named
  have hlocks := B.notSynchronized
  subst hsz
  have hD := hD0.self (sz := s.heap.size)
  generalize hAe : va_A (cw cy ad σ) s.heap.size = A at hD ⊢
  have hA : ∀ q : Nat, s.heap.size ≤ q → A q := fun q h => by rw [← hAe]; exact Or.inr h
  have hS : va_S A s.heap s.heap [] := va_S.rf
  have C : Cx p s m _ meth c cX2_howManyAhead 5 (some .int) RX2 wsX2_howManyAhead D cy A := ⟨hx, hb, hml, hown, hts, hr, hlocks, hK, hA⟩
  have hl := lv_entry ([.ref (ad 0 0), .int a1, .int a2]) (n := 5) (Nat.le_of_ble_eq_true rfl)
  rw [lg_entry_eq]
  generalize (lg_sl ([.ref (ad 0 0), .int a1, .int a2]) ++ List.replicate (5 - (lg_sl ([.ref (ad 0 0), .int a1, .int a2])).length) Slot.unset).toArray = ls at hl ⊢
  have hl : lv_has ls 5 [(0, .ref (ad 0 0)), (1, .int a1), (2, .int a2)] := hl
  unfold mX2_howManyAhead at hm
  refine lv_iconst (v := 0) hx hb dX2_howManyAhead_0 (by decide) ?_
  refine lv_istore_n (lv' := [(3, .int (0 : Int32)), (0, .ref (ad 0 0)), (1, .int a1), (2, .int a2)]) hx hb dX2_howManyAhead_1 rfl hl (by decide) rfl (fun ls hl => ?_)
  refine lv_iconst (v := 0) hx hb dX2_howManyAhead_2 (by decide) ?_
  refine lv_istore (lv' := [(4, .int (0 : Int32)), (3, .int (0 : Int32)), (0, .ref (ad 0 0)), (1, .int a1), (2, .int a2)]) hx hb dX2_howManyAhead_3 hl (by decide) rfl (fun ls hl => ?_)
  exact kX2_howManyAhead_5_ok C q σ FU a1 a2 (0 : Int32) (0 : Int32) _ _ hP hD hS _ (lv_sub hl [2, 3, 4, 1, 0] rfl) hm
abbrev rmX2_ranked : Room := { frames := 4, cells := 0, slots := 0, locals := 90 }
theorem lkX2_ranked_44 : Cond.fieldLink RX2 44 "DeliveryBasket" "size" "I" ∈ wsX2_ranked := by decide +kernel
theorem iwX2_ranked_X2 : ∀ w ∈ wsX20, w ∈ wsX2_ranked := fun _ h => List.mem_cons_of_mem _ (List.mem_append_left _ (List.mem_append_right _ h))
def bkX2_ranked_23  (rec : ST × Int32 × Int32 × Int32 → Option (Int32 × ST)) (σ : ST) (x2 : Int32) (x3 : Int32) (x4 : Int32) : Option (Int32 × ST) := if (gI σ 0 0 1) ≤ x4 then (some ((-1 : Int32), σ)) else ((mX2_isIn x3 x4).bind fun q_2 => if q_2 = (0 : Int32) then (rec (σ, x2, x3, (x4 + (1 : Int32)))) else ((mX2_howManyAhead σ x4 x3).bind fun q_4 => if q_4 = x2 then (some (x4, σ)) else (rec (σ, x2, x3, (x4 + (1 : Int32))))))
def kX2_ranked_23  (n : Nat) (a : ST × Int32 × Int32 × Int32) : Option (Int32 × ST) := fx (fun rec a => bkX2_ranked_23  rec a.1 a.2.1 a.2.2.1 a.2.2.2) n a
set_option maxHeartbeats 4000000 in
set_option maxRecDepth 100000 in
theorem kX2_ranked_23_ok {p : Program} {l : Launch} {e : Env} {s : State} {m : MethodId} {args : Array Value} {below : List Frame} {meth : Method} {c : Code} {D : va_G} {cy : Nat → ClassId} {ad : Nat → Nat → Nat} {A : Nat → Prop} (C : Cx p s m args meth c cX2_ranked 5 (some .int) RX2 wsX2_ranked D cy A) (q : Int32 × ST) : ∀ (n : Nat) (σ : ST) (x2 : Int32) (x3 : Int32) (x4 : Int32), ∀ (H : Heap) (locs : List Loc), va_P D vwCl (cw cy ad σ) H → va_D A (cw cy ad σ) → va_S A s.heap H locs → ∀ ls : Array Slot, lv_has ls 5 [(0, .ref (ad 0 0)), (2, .int x2), (3, .int x3), (4, .int x4)] → kX2_ranked_23 n (σ, x2, x3, x4) = some q → W p l e rmX2_ranked s m args below meth c H locs 0 0 (MQ below (zQi D (cw cy ad q.2) A q.1) args s 0 0 A) (F0 m 23 ls []) := by
  obtain ⟨hx, hb, hml, hown, hts, hr, hlocks, hK, hA⟩ := id C
  intro n
  induction n with
  | zero => intro σ x2 x3 x4 H locs hP hD hS ls hl hm; cases hm
  | succ n ih =>
    intro σ x2 x3 x4 H locs hP hD hS ls hl hm
    have hm : bkX2_ranked_23  (kX2_ranked_23 n) σ x2 x3 x4 = some q := hm
    unfold bkX2_ranked_23 at hm
    refine lv_iload hx hb dX2_ranked_23 (lv_at hl 3 rfl) ?_
    refine lv_aload_n hx hb dX2_ranked_25 rfl (lv_at hl 0 rfl) ?_
    refine va_get (D := D) (ci := 2) (v := .int (gI σ 0 0 1)) (C := RX2) (T := TX2) (N := 9) hx hb hts iwX2_ranked_X2 hown hK.1 hP 0 cw_0 rfl 1 (by decide) (hts _ lkX2_ranked_44) (fun _ h9 => h9) rfl dX2_ranked_26 ?_
    refine lv_icmp_ge (tgt := 61) hx hb dX2_ranked_29 (by decide) (fun c_1 => ?_) (fun c_1 => ?_)
    · have hm := ifp c_1 hm
      refine lv_iconst (v := -1) hx hb dX2_ranked_61 (by decide) ?_
      exact z_i hx hb hr hlocks hm hP hD hS dX2_ranked_62
    · have hm := ifn c_1 hm
      refine lv_iload_n hx hb dX2_ranked_32 rfl (lv_at hl 2 rfl) ?_
      refine lv_iload hx hb dX2_ranked_33 (lv_at hl 3 rfl) ?_
      obtain ⟨q_2, hq_2, hm⟩ := ob hm
      refine zc_i (zr_S [.int x3, .int x4] [] ⟨hx, hb, hml, hown, hts⟩ (ctX2_isIn l D cy (cw cy ad σ)  x3 x4 q_2 hq_2 _) (va_cwS 2 hts gX2_ranked_X2_isIn rfl rfl rfl (by decide +kernel) ⟨Nat.le_of_ble_eq_true rfl, Nat.le_of_ble_eq_true rfl⟩) hK hP hD rfl hl.1 rfl (Nat.le_of_ble_eq_true rfl) dX2_ranked_35 ⟨Nat.zero_le _, Nat.zero_le _⟩) hD hS hA (fun H locs hP hD hS => ?_)
      refine lv_if_eq (tgt := 55) hx hb dX2_ranked_38 (by decide) (fun c_3 => ?_) (fun c_3 => ?_)
      · have hm := ifp c_3 hm
        refine lv_iinc (v := (x4 + (1 : Int32))) (lv' := [(4, .int (x4 + (1 : Int32))), (0, .ref (ad 0 0)), (2, .int x2), (3, .int x3)]) hx hb dX2_ranked_55 hl (k := 3) rfl rfl (by decide) rfl (fun ls hl => ?_)
        refine lv_goto (tgt := 23) hx hb dX2_ranked_58 (by decide) ?_
        exact ih σ x2 x3 (x4 + (1 : Int32)) _ _ hP hD hS _ (lv_sub hl [1, 2, 3, 0] rfl) hm
      · have hm := ifn c_3 hm
        refine lv_aload_n hx hb dX2_ranked_41 rfl (lv_at hl 0 rfl) ?_
        refine lv_iload hx hb dX2_ranked_42 (lv_at hl 3 rfl) ?_
        refine lv_iload_n hx hb dX2_ranked_44 rfl (lv_at hl 2 rfl) ?_
        obtain ⟨q_4, hq_4, hm⟩ := ob hm
        refine zc_i (zr_V [.int x4, .int x3] [] ⟨hx, hb, hml, hown, hts⟩ (ctX2_howManyAhead l D cy ad σ  x4 x3 q_4 hq_4 _) (cwV 2 hts gX2_ranked_X2_howManyAhead rfl rfl rfl (by decide +kernel) ⟨Nat.le_of_ble_eq_true rfl, Nat.le_of_ble_eq_true rfl⟩) hK hP hD 0 cw_0 rfl rfl rfl hl.1 rfl (Nat.le_of_ble_eq_true rfl) dX2_ranked_45 ⟨Nat.zero_le _, Nat.zero_le _⟩) hD hS hA (fun H locs hP hD hS => ?_)
        refine lv_iload_n hx hb dX2_ranked_48 rfl (lv_at hl 1 rfl) ?_
        refine lv_icmp_ne (tgt := 55) hx hb dX2_ranked_49 (by decide) (fun c_5 => ?_) (fun c_5 => ?_)
        · have hm := ifn c_5 hm
          refine lv_iinc (v := (x4 + (1 : Int32))) (lv' := [(4, .int (x4 + (1 : Int32))), (0, .ref (ad 0 0)), (2, .int x2), (3, .int x3)]) hx hb dX2_ranked_55 hl (k := 3) rfl rfl (by decide) rfl (fun ls hl => ?_)
          refine lv_goto (tgt := 23) hx hb dX2_ranked_58 (by decide) ?_
          exact ih σ x2 x3 (x4 + (1 : Int32)) _ _ hP hD hS _ (lv_sub hl [1, 2, 3, 0] rfl) hm
        · have hm := ifp c_5 hm
          refine lv_iload hx hb dX2_ranked_52 (lv_at hl 3 rfl) ?_
          exact z_i hx hb hr hlocks hm hP hD hS dX2_ranked_54
def mX2_ranked (σ : ST) (a1 : Int32) (a2 : Int32) : Option (Int32 × ST) := (mX2_isRate a1).bind fun q_6 => if q_6 = (0 : Int32) then (some ((-1 : Int32), σ)) else ((mX2_eligibleBits σ).bind fun q_8 => (mX2_layPrices σ a1 q_8).bind fun q_9 => kX2_ranked_23 FU (q_9, a2, q_8, (0 : Int32)))
set_option maxHeartbeats 4000000 in
set_option maxRecDepth 100000 in
theorem ctX2_ranked (l : Launch) (D : va_G) (cy : Nat → ClassId) (ad : Nat → Nat → Nat) (σ : ST) (a1 : Int32) (a2 : Int32) (q : Int32 × ST) (hm : mX2_ranked σ a1 a2 = some q) : zMi l yX2_ranked wsX2_ranked rmX2_ranked D cy [.ref (ad 0 0), .int a1, .int a2] (cw cy ad σ) q.1 (cw cy ad q.2) := by
  intro sz
  refine Met.ofW (cc := cX2_ranked) (maxL := 5) (ret := (some .int)) (by decide) rfl ?_
  intro p e s m args below meth c s₁ B hml hv
  obtain ⟨rfl, hsz, hP, hK, hD0⟩ := hv
  have hx := B.exec
  have hb := B.bytes
  have hr := B.returns
  have hts := atoms_spec (ws := wsX2_ranked) B.pre
  have hown : s.vm.findClass RX2 = some m.cls := findClass_of_methodNamed B.named
  have hlocks := B.notSynchronized
  subst hsz
  have hD := hD0.self (sz := s.heap.size)
  generalize hAe : va_A (cw cy ad σ) s.heap.size = A at hD ⊢
  have hA : ∀ q : Nat, s.heap.size ≤ q → A q := fun q h => by rw [← hAe]; exact Or.inr h
  have hS : va_S A s.heap s.heap [] := va_S.rf
  have C : Cx p s m _ meth c cX2_ranked 5 (some .int) RX2 wsX2_ranked D cy A := ⟨hx, hb, hml, hown, hts, hr, hlocks, hK, hA⟩
  have hl := lv_entry ([.ref (ad 0 0), .int a1, .int a2]) (n := 5) (Nat.le_of_ble_eq_true rfl)
  rw [lg_entry_eq]
  generalize (lg_sl ([.ref (ad 0 0), .int a1, .int a2]) ++ List.replicate (5 - (lg_sl ([.ref (ad 0 0), .int a1, .int a2])).length) Slot.unset).toArray = ls at hl ⊢
  have hl : lv_has ls 5 [(0, .ref (ad 0 0)), (1, .int a1), (2, .int a2)] := hl
  unfold mX2_ranked at hm
  refine lv_iload_n hx hb dX2_ranked_0 rfl (lv_at hl 1 rfl) ?_
  obtain ⟨q_6, hq_6, hm⟩ := ob hm
  refine zc_i (zr_S [.int a1] [] ⟨hx, hb, hml, hown, hts⟩ (ctX2_isRate l D cy (cw cy ad σ)  a1 q_6 hq_6 _) (va_cwS 1 hts gX2_ranked_X2_isRate rfl rfl rfl (by decide +kernel) ⟨Nat.le_of_ble_eq_true rfl, Nat.le_of_ble_eq_true rfl⟩) hK hP hD rfl hl.1 rfl (Nat.le_of_ble_eq_true rfl) dX2_ranked_1 ⟨Nat.zero_le _, Nat.zero_le _⟩) hD hS hA (fun H locs hP hD hS => ?_)
  refine lv_if_ne (tgt := 9) hx hb dX2_ranked_4 (by decide) (fun c_7 => ?_) (fun c_7 => ?_)
  · have hm := ifn c_7 hm
    refine lv_aload_n hx hb dX2_ranked_9 rfl (lv_at hl 0 rfl) ?_
    obtain ⟨q_8, hq_8, hm⟩ := ob hm
    refine zc_i (zr_V [] [] ⟨hx, hb, hml, hown, hts⟩ (ctX2_eligibleBits l D cy ad σ   q_8 hq_8 _) (cwV 0 hts gX2_ranked_X2_eligibleBits rfl rfl rfl (by decide +kernel) ⟨Nat.le_of_ble_eq_true rfl, Nat.le_of_ble_eq_true rfl⟩) hK hP hD 0 cw_0 rfl rfl rfl hl.1 rfl (Nat.le_of_ble_eq_true rfl) dX2_ranked_10 ⟨Nat.zero_le _, Nat.zero_le _⟩) hD hS hA (fun H locs hP hD hS => ?_)
    refine lv_istore_n (lv' := [(3, .int q_8), (0, .ref (ad 0 0)), (1, .int a1), (2, .int a2)]) hx hb dX2_ranked_13 rfl hl (by decide) rfl (fun ls hl => ?_)
    refine lv_aload_n hx hb dX2_ranked_14 rfl (lv_at hl 1 rfl) ?_
    refine lv_iload_n hx hb dX2_ranked_15 rfl (lv_at hl 2 rfl) ?_
    refine lv_iload_n hx hb dX2_ranked_16 rfl (lv_at hl 0 rfl) ?_
    obtain ⟨q_9, hq_9, hm⟩ := ob hm
    refine zc_v (zr_V [.int a1, .int q_8] [] ⟨hx, hb, hml, hown, hts⟩ (ctX2_layPrices l D cy ad σ  a1 q_8 q_9 hq_9 _) (cwV 2 hts gX2_ranked_X2_layPrices rfl rfl rfl (by decide +kernel) ⟨Nat.le_of_ble_eq_true rfl, Nat.le_of_ble_eq_true rfl⟩) hK hP hD 0 cw_0 rfl rfl rfl hl.1 rfl (Nat.le_of_ble_eq_true rfl) dX2_ranked_17 ⟨Nat.zero_le _, Nat.zero_le _⟩) hD hS hA (fun H locs hP hD hS => ?_)
    refine lv_iconst (v := 0) hx hb dX2_ranked_20 (by decide) ?_
    refine lv_istore (lv' := [(4, .int (0 : Int32)), (3, .int q_8), (0, .ref (ad 0 0)), (1, .int a1), (2, .int a2)]) hx hb dX2_ranked_21 hl (by decide) rfl (fun ls hl => ?_)
    exact kX2_ranked_23_ok C q FU q_9 a2 q_8 (0 : Int32) _ _ hP hD hS _ (lv_sub hl [2, 4, 1, 0] rfl) hm
  · have hm := ifp c_7 hm
    refine lv_iconst (v := -1) hx hb dX2_ranked_7 (by decide) ?_
    exact z_i hx hb hr hlocks hm hP hD hS dX2_ranked_8
abbrev rmX2_markAt : Room := { frames := 5, cells := 0, slots := 0, locals := 114 }
theorem lkX2_markAt_163 : Cond.constantLong RX2 163 (-1) ∈ wsX2_markAt := by decide +kernel
theorem lkX2_markAt_11 : Cond.fieldLink RX2 11 "DeliveryBasket" "bonds" "[LDeliveryBasket$Bond;" ∈ wsX2_markAt := by decide +kernel
theorem iwX2_markAt_X2 : ∀ w ∈ wsX20, w ∈ wsX2_markAt := fun _ h => List.mem_cons_of_mem _ (List.mem_append_left _ (List.mem_append_right _ h))
theorem lkX2_markAt_104 : Cond.fieldLink RX2 104 "DeliveryBasket$Bond" "factor" "I" ∈ wsX2_markAt := by decide +kernel
theorem iwX2_markAt_X0 : ∀ w ∈ wsX00, w ∈ wsX2_markAt := fun _ h => List.mem_cons_of_mem _ (List.mem_append_right _ h)
theorem lkX2_markAt_32 : Cond.fieldLink RX2 32 "DeliveryBasket" "prices" "[I" ∈ wsX2_markAt := by decide +kernel
theorem lkX2_markAt_241 : Cond.constantLong RX2 241 (10000) ∈ wsX2_markAt := by decide +kernel
def mX2_markAt (σ : ST) (a1 : Int32) (a2 : Int32) : Option (Int64 × ST) := (mX2_cheapestAt σ a1 a2).bind fun q_1 => if q_1.1 = (-1 : Int32) then (some ((-1 : Int64), q_1.2)) else (gd (inb q_1.1 8) (gd (decide ((gP q_1.2 (Int32.toNatClampNeg q_1.1)) < 8)) (if (0 : Int32) < (gI q_1.2 2 (gP q_1.2 (Int32.toNatClampNeg q_1.1)) 7) then (gd (inb q_1.1 8) (gd (inb q_1.1 8) (gd (decide ((gP q_1.2 (Int32.toNatClampNeg q_1.1)) < 8)) (gd (nzl (Int32.toInt64 (gI q_1.2 2 (gP q_1.2 (Int32.toNatClampNeg q_1.1)) 7))) (some ((((Int32.toInt64 (gI q_1.2 4 0 (Int32.toNatClampNeg q_1.1))) * (10000 : Int64)) / (Int32.toInt64 (gI q_1.2 2 (gP q_1.2 (Int32.toNatClampNeg q_1.1)) 7))), q_1.2)))))) else (some ((-1 : Int64), q_1.2)))))
set_option maxHeartbeats 4000000 in
set_option maxRecDepth 100000 in
theorem ctX2_markAt (l : Launch) (D : va_G) (cy : Nat → ClassId) (ad : Nat → Nat → Nat) (σ : ST) (a1 : Int32) (a2 : Int32) (q : Int64 × ST) (hm : mX2_markAt σ a1 a2 = some q) : zMl l yX2_markAt wsX2_markAt rmX2_markAt D cy [.ref (ad 0 0), .int a1, .int a2] (cw cy ad σ) q.1 (cw cy ad q.2) := by
  intro sz
  refine Met.ofW (cc := cX2_markAt) (maxL := 4) (ret := (some .long)) (by decide) rfl ?_
  intro p e s m args below meth c s₁ B hml hv
  obtain ⟨rfl, hsz, hP, hK, hD0⟩ := hv
  have hx := B.exec
  have hb := B.bytes
  have hr := B.returns
  have hts := atoms_spec (ws := wsX2_markAt) B.pre
  have hown : s.vm.findClass RX2 = some m.cls := findClass_of_methodNamed B.named
  have hlocks := B.notSynchronized
  subst hsz
  have hD := hD0.self (sz := s.heap.size)
  generalize hAe : va_A (cw cy ad σ) s.heap.size = A at hD ⊢
  have hA : ∀ q : Nat, s.heap.size ≤ q → A q := fun q h => by rw [← hAe]; exact Or.inr h
  have hS : va_S A s.heap s.heap [] := va_S.rf
  have C : Cx p s m _ meth c cX2_markAt 4 (some .long) RX2 wsX2_markAt D cy A := ⟨hx, hb, hml, hown, hts, hr, hlocks, hK, hA⟩
  have hl := lv_entry ([.ref (ad 0 0), .int a1, .int a2]) (n := 4) (Nat.le_of_ble_eq_true rfl)
  rw [lg_entry_eq]
  generalize (lg_sl ([.ref (ad 0 0), .int a1, .int a2]) ++ List.replicate (4 - (lg_sl ([.ref (ad 0 0), .int a1, .int a2])).length) Slot.unset).toArray = ls at hl ⊢
  have hl : lv_has ls 4 [(0, .ref (ad 0 0)), (1, .int a1), (2, .int a2)] := hl
  unfold mX2_markAt at hm
  refine lv_aload_n hx hb dX2_markAt_0 rfl (lv_at hl 0 rfl) ?_
  refine lv_iload_n hx hb dX2_markAt_1 rfl (lv_at hl 1 rfl) ?_
  refine lv_iload_n hx hb dX2_markAt_2 rfl (lv_at hl 2 rfl) ?_
  obtain ⟨q_1, hq_1, hm⟩ := ob hm
  refine zc_i (zr_V [.int a1, .int a2] [] ⟨hx, hb, hml, hown, hts⟩ (ctX2_cheapestAt l D cy ad σ  a1 a2 q_1 hq_1 _) (cwV 2 hts gX2_markAt_X2_cheapestAt rfl rfl rfl (by decide +kernel) ⟨Nat.le_of_ble_eq_true rfl, Nat.le_of_ble_eq_true rfl⟩) hK hP hD 0 cw_0 rfl rfl rfl hl.1 rfl (Nat.le_of_ble_eq_true rfl) dX2_markAt_3 ⟨Nat.zero_le _, Nat.zero_le _⟩) hD hS hA (fun H locs hP hD hS => ?_)
  refine lv_istore_n (lv' := [(3, .int q_1.1), (0, .ref (ad 0 0)), (1, .int a1), (2, .int a2)]) hx hb dX2_markAt_6 rfl hl (by decide) rfl (fun ls hl => ?_)
  refine lv_iload_n hx hb dX2_markAt_7 rfl (lv_at hl 0 rfl) ?_
  refine lv_iconst (v := -1) hx hb dX2_markAt_8 (by decide) ?_
  refine lv_icmp_eq (tgt := 24) hx hb dX2_markAt_9 (by decide) (fun c_2 => ?_) (fun c_2 => ?_)
  · have hm := ifp c_2 hm
    refine lv_ldc2 (v := -1) hx hb hown (hts _ lkX2_markAt_163) dX2_markAt_24 ?_
    exact z_l hx hb hr hlocks hm hP hD hS dX2_markAt_27
  · have hm := ifn c_2 hm
    refine lv_aload_n hx hb dX2_markAt_12 rfl (lv_at hl 1 rfl) ?_
    refine va_get (D := D) (ci := 2) (v := .ref (ad 1 0)) (C := RX2) (T := TX2) (N := 9) hx hb hts iwX2_markAt_X2 hown hK.1 hP 0 cw_0 rfl 0 (by decide) (hts _ lkX2_markAt_11) (fun _ h9 => h9) rfl dX2_markAt_13 ?_
    refine lv_iload_n hx hb dX2_markAt_16 rfl (lv_at hl 0 rfl) ?_
    obtain ⟨h_3, hm⟩ := gd_some hm
    obtain ⟨h_4, hm⟩ := gd_some hm
    have h_4 := lt_of_dec h_4
    refine z_ald (f := fun i => ad 13 (gP q_1.2 i)) hx hb hK.1 hP 1 2 cw_1 rfl rfl (inb_vp h_3) dX2_markAt_17 ?_
    refine va_get (D := D) (ci := 0) (v := .int (gI q_1.2 2 (gP q_1.2 (Int32.toNatClampNeg q_1.1)) 7)) (C := RX0) (T := TX0) (N := 10) hx hb hts iwX2_markAt_X0 hown hK.1 hP (13 + (gP q_1.2 (Int32.toNatClampNeg q_1.1))) (cw_13 h_4) rfl 7 (by decide) (hts _ lkX2_markAt_104) (fun _ h9 => h9) rfl dX2_markAt_18 ?_
    refine lv_if_gt (tgt := 28) hx hb dX2_markAt_21 (by decide) (fun c_5 => ?_) (fun c_5 => ?_)
    · have hm := ifp c_5 hm
      refine lv_aload_n hx hb dX2_markAt_28 rfl (lv_at hl 1 rfl) ?_
      refine va_get (D := D) (ci := 2) (v := .ref (ad 3 0)) (C := RX2) (T := TX2) (N := 9) hx hb hts iwX2_markAt_X2 hown hK.1 hP 0 cw_0 rfl 6 (by decide) (hts _ lkX2_markAt_32) (fun _ h9 => h9) rfl dX2_markAt_29 ?_
      refine lv_iload_n hx hb dX2_markAt_32 rfl (lv_at hl 0 rfl) ?_
      obtain ⟨h_6, hm⟩ := gd_some hm
      refine va_iald hx hb hK.1 hP 3 0 cw_3 rfl (inb_vp h_6) dX2_markAt_33 ?_
      refine lv_i2l hx hb dX2_markAt_34 rfl ?_
      refine lv_ldc2 (v := 10000) hx hb hown (hts _ lkX2_markAt_241) dX2_markAt_35 ?_
      refine lv_lmul hx hb dX2_markAt_38 ?_
      refine lv_aload_n hx hb dX2_markAt_39 rfl (lv_at hl 1 rfl) ?_
      refine va_get (D := D) (ci := 2) (v := .ref (ad 1 0)) (C := RX2) (T := TX2) (N := 9) hx hb hts iwX2_markAt_X2 hown hK.1 hP 0 cw_0 rfl 0 (by decide) (hts _ lkX2_markAt_11) (fun _ h9 => h9) rfl dX2_markAt_40 ?_
      refine lv_iload_n hx hb dX2_markAt_43 rfl (lv_at hl 0 rfl) ?_
      obtain ⟨h_7, hm⟩ := gd_some hm
      obtain ⟨h_8, hm⟩ := gd_some hm
      have h_8 := lt_of_dec h_8
      refine z_ald (f := fun i => ad 13 (gP q_1.2 i)) hx hb hK.1 hP 1 2 cw_1 rfl rfl (inb_vp h_7) dX2_markAt_44 ?_
      refine va_get (D := D) (ci := 0) (v := .int (gI q_1.2 2 (gP q_1.2 (Int32.toNatClampNeg q_1.1)) 7)) (C := RX0) (T := TX0) (N := 10) hx hb hts iwX2_markAt_X0 hown hK.1 hP (13 + (gP q_1.2 (Int32.toNatClampNeg q_1.1))) (cw_13 h_8) rfl 7 (by decide) (hts _ lkX2_markAt_104) (fun _ h9 => h9) rfl dX2_markAt_45 ?_
      refine lv_i2l hx hb dX2_markAt_48 rfl ?_
      obtain ⟨h_9, hm⟩ := gd_some hm
      refine lv_ldiv hx hb dX2_markAt_49 (nzl_n h_9) ?_
      exact z_l hx hb hr hlocks hm hP hD hS dX2_markAt_50
    · have hm := ifn c_5 hm
      refine lv_ldc2 (v := -1) hx hb hown (hts _ lkX2_markAt_163) dX2_markAt_24 ?_
      exact z_l hx hb hr hlocks hm hP hD hS dX2_markAt_27
abbrev rmX2_mark : Room := { frames := 6, cells := 0, slots := 0, locals := 137 }
theorem lkX2_mark_163 : Cond.constantLong RX2 163 (-1) ∈ wsX2_mark := by decide +kernel
def mX2_mark (σ : ST) (a1 : Int32) : Option (Int64 × ST) := (mX2_isRate a1).bind fun q_1 => if q_1 = (0 : Int32) then (some ((-1 : Int64), σ)) else ((mX2_eligibleBits σ).bind fun q_3 => (mX2_markAt σ a1 q_3).bind fun q_4 => some (q_4.1, q_4.2))
set_option maxHeartbeats 4000000 in
set_option maxRecDepth 100000 in
theorem ctX2_mark (l : Launch) (D : va_G) (cy : Nat → ClassId) (ad : Nat → Nat → Nat) (σ : ST) (a1 : Int32) (q : Int64 × ST) (hm : mX2_mark σ a1 = some q) : zMl l yX2_mark wsX2_mark rmX2_mark D cy [.ref (ad 0 0), .int a1] (cw cy ad σ) q.1 (cw cy ad q.2) := by
  intro sz
  refine Met.ofW (cc := cX2_mark) (maxL := 2) (ret := (some .long)) (by decide) rfl ?_
  intro p e s m args below meth c s₁ B hml hv
  obtain ⟨rfl, hsz, hP, hK, hD0⟩ := hv
  have hx := B.exec
  have hb := B.bytes
  have hr := B.returns
  have hts := atoms_spec (ws := wsX2_mark) B.pre
  have hown : s.vm.findClass RX2 = some m.cls := findClass_of_methodNamed B.named
  have hlocks := B.notSynchronized
  subst hsz
  have hD := hD0.self (sz := s.heap.size)
  generalize hAe : va_A (cw cy ad σ) s.heap.size = A at hD ⊢
  have hA : ∀ q : Nat, s.heap.size ≤ q → A q := fun q h => by rw [← hAe]; exact Or.inr h
  have hS : va_S A s.heap s.heap [] := va_S.rf
  have C : Cx p s m _ meth c cX2_mark 2 (some .long) RX2 wsX2_mark D cy A := ⟨hx, hb, hml, hown, hts, hr, hlocks, hK, hA⟩
  have hl := lv_entry ([.ref (ad 0 0), .int a1]) (n := 2) (Nat.le_of_ble_eq_true rfl)
  rw [lg_entry_eq]
  generalize (lg_sl ([.ref (ad 0 0), .int a1]) ++ List.replicate (2 - (lg_sl ([.ref (ad 0 0), .int a1])).length) Slot.unset).toArray = ls at hl ⊢
  have hl : lv_has ls 2 [(0, .ref (ad 0 0)), (1, .int a1)] := hl
  unfold mX2_mark at hm
  refine lv_iload_n hx hb dX2_mark_0 rfl (lv_at hl 1 rfl) ?_
  obtain ⟨q_1, hq_1, hm⟩ := ob hm
  refine zc_i (zr_S [.int a1] [] ⟨hx, hb, hml, hown, hts⟩ (ctX2_isRate l D cy (cw cy ad σ)  a1 q_1 hq_1 _) (va_cwS 1 hts gX2_mark_X2_isRate rfl rfl rfl (by decide +kernel) ⟨Nat.le_of_ble_eq_true rfl, Nat.le_of_ble_eq_true rfl⟩) hK hP hD rfl hl.1 rfl (Nat.le_of_ble_eq_true rfl) dX2_mark_1 ⟨Nat.zero_le _, Nat.zero_le _⟩) hD hS hA (fun H locs hP hD hS => ?_)
  refine lv_if_eq (tgt := 19) hx hb dX2_mark_4 (by decide) (fun c_2 => ?_) (fun c_2 => ?_)
  · have hm := ifp c_2 hm
    refine lv_ldc2 (v := -1) hx hb hown (hts _ lkX2_mark_163) dX2_mark_19 ?_
    exact z_l hx hb hr hlocks hm hP hD hS dX2_mark_22
  · have hm := ifn c_2 hm
    refine lv_aload_n hx hb dX2_mark_7 rfl (lv_at hl 0 rfl) ?_
    refine lv_iload_n hx hb dX2_mark_8 rfl (lv_at hl 1 rfl) ?_
    refine lv_aload_n hx hb dX2_mark_9 rfl (lv_at hl 0 rfl) ?_
    obtain ⟨q_3, hq_3, hm⟩ := ob hm
    refine zc_i (zr_V [] [.int a1, .ref (ad 0 0)] ⟨hx, hb, hml, hown, hts⟩ (ctX2_eligibleBits l D cy ad σ   q_3 hq_3 _) (cwV 0 hts gX2_mark_X2_eligibleBits rfl rfl rfl (by decide +kernel) ⟨Nat.le_of_ble_eq_true rfl, Nat.le_of_ble_eq_true rfl⟩) hK hP hD 0 cw_0 rfl rfl rfl hl.1 rfl (Nat.le_of_ble_eq_true rfl) dX2_mark_10 ⟨Nat.zero_le _, Nat.zero_le _⟩) hD hS hA (fun H locs hP hD hS => ?_)
    obtain ⟨q_4, hq_4, hm⟩ := ob hm
    refine zc_l (zr_V [.int a1, .int q_3] [] ⟨hx, hb, hml, hown, hts⟩ (ctX2_markAt l D cy ad σ  a1 q_3 q_4 hq_4 _) (cwV 2 hts gX2_mark_X2_markAt rfl rfl rfl (by decide +kernel) ⟨Nat.le_of_ble_eq_true rfl, Nat.le_of_ble_eq_true rfl⟩) hK hP hD 0 cw_0 rfl rfl rfl hl.1 rfl (Nat.le_of_ble_eq_true rfl) dX2_mark_13 ⟨Nat.zero_le _, Nat.zero_le _⟩) hD hS hA (fun H locs hP hD hS => ?_)
    refine lv_goto (tgt := 22) hx hb dX2_mark_16 (by decide) ?_
    exact z_l hx hb hr hlocks hm hP hD hS dX2_mark_22
abbrev rmX2_implied : Room := { frames := 6, cells := 0, slots := 0, locals := 137 }
def bkX2_implied_19  (rec : ST × Int64 × Int32 × Int32 × Int32 → Option (Int32 × ST)) (σ : ST) (x1 : Int64) (x3 : Int32) (x4 : Int32) (x5 : Int32) : Option (Int32 × ST) := if x5 ≤ (0 : Int32) then (if x4 = (3000 : Int32) then (some ((-1 : Int32), σ)) else (some ((x4 + (1 : Int32)), σ))) else (if (3000 : Int32) < (x4 + x5) then (rec (σ, x1, x3, x4, (x5 / (2 : Int32)))) else ((mX2_markAt σ (x4 + x5) x3).bind fun q_4 => if (lg_cmp q_4.1 x1) ≤ (0 : Int32) then (rec (q_4.2, x1, x3, x4, (x5 / (2 : Int32)))) else (rec (q_4.2, x1, x3, (x4 + x5), (x5 / (2 : Int32))))))
def kX2_implied_19  (n : Nat) (a : ST × Int64 × Int32 × Int32 × Int32) : Option (Int32 × ST) := fx (fun rec a => bkX2_implied_19  rec a.1 a.2.1 a.2.2.1 a.2.2.2.1 a.2.2.2.2) n a
set_option maxHeartbeats 4000000 in
set_option maxRecDepth 100000 in
theorem kX2_implied_19_ok {p : Program} {l : Launch} {e : Env} {s : State} {m : MethodId} {args : Array Value} {below : List Frame} {meth : Method} {c : Code} {D : va_G} {cy : Nat → ClassId} {ad : Nat → Nat → Nat} {A : Nat → Prop} (C : Cx p s m args meth c cX2_implied 6 (some .int) RX2 wsX2_implied D cy A) (q : Int32 × ST) : ∀ (n : Nat) (σ : ST) (x1 : Int64) (x3 : Int32) (x4 : Int32) (x5 : Int32), ∀ (H : Heap) (locs : List Loc), va_P D vwCl (cw cy ad σ) H → va_D A (cw cy ad σ) → va_S A s.heap H locs → ∀ ls : Array Slot, lv_has ls 6 [(0, .ref (ad 0 0)), (1, .long x1), (3, .int x3), (4, .int x4), (5, .int x5)] → kX2_implied_19 n (σ, x1, x3, x4, x5) = some q → W p l e rmX2_implied s m args below meth c H locs 0 0 (MQ below (zQi D (cw cy ad q.2) A q.1) args s 0 0 A) (F0 m 19 ls []) := by
  obtain ⟨hx, hb, hml, hown, hts, hr, hlocks, hK, hA⟩ := id C
  intro n
  induction n with
  | zero => intro σ x1 x3 x4 x5 H locs hP hD hS ls hl hm; cases hm
  | succ n ih =>
    intro σ x1 x3 x4 x5 H locs hP hD hS ls hl hm
    have hm : bkX2_implied_19  (kX2_implied_19 n) σ x1 x3 x4 x5 = some q := hm
    unfold bkX2_implied_19 at hm
    refine lv_iload hx hb dX2_implied_19 (lv_at hl 4 rfl) ?_
    refine lv_if_le (tgt := 66) hx hb dX2_implied_21 (by decide) (fun c_1 => ?_) (fun c_1 => ?_)
    · have hm := ifp c_1 hm
      refine lv_iload hx hb dX2_implied_66 (lv_at hl 3 rfl) ?_
      refine lv_sipush (v := 3000) hx hb dX2_implied_68 (by decide) ?_
      refine lv_icmp_ne (tgt := 78) hx hb dX2_implied_71 (by decide) (fun c_2 => ?_) (fun c_2 => ?_)
      · have hm := ifn c_2 hm
        refine lv_iload hx hb dX2_implied_78 (lv_at hl 3 rfl) ?_
        refine lv_iconst (v := 1) hx hb dX2_implied_80 (by decide) ?_
        refine lv_iadd hx hb dX2_implied_81 ?_
        exact z_i hx hb hr hlocks hm hP hD hS dX2_implied_82
      · have hm := ifp c_2 hm
        refine lv_iconst (v := -1) hx hb dX2_implied_74 (by decide) ?_
        refine lv_goto (tgt := 82) hx hb dX2_implied_75 (by decide) ?_
        exact z_i hx hb hr hlocks hm hP hD hS dX2_implied_82
    · have hm := ifn c_1 hm
      refine lv_iload hx hb dX2_implied_24 (lv_at hl 3 rfl) ?_
      refine lv_iload hx hb dX2_implied_26 (lv_at hl 4 rfl) ?_
      refine lv_iadd hx hb dX2_implied_28 ?_
      refine lv_sipush (v := 3000) hx hb dX2_implied_29 (by decide) ?_
      refine lv_icmp_gt (tgt := 57) hx hb dX2_implied_32 (by decide) (fun c_3 => ?_) (fun c_3 => ?_)
      · have hm := ifp c_3 hm
        refine lv_iload hx hb dX2_implied_57 (lv_at hl 4 rfl) ?_
        refine lv_iconst (v := 2) hx hb dX2_implied_59 (by decide) ?_
        refine lv_idiv hx hb dX2_implied_60 (by decide) ?_
        refine lv_istore (lv' := [(5, .int (x5 / (2 : Int32))), (0, .ref (ad 0 0)), (1, .long x1), (3, .int x3), (4, .int x4)]) hx hb dX2_implied_61 hl (by decide) rfl (fun ls hl => ?_)
        refine lv_goto (tgt := 19) hx hb dX2_implied_63 (by decide) ?_
        exact ih σ x1 x3 x4 (x5 / (2 : Int32)) _ _ hP hD hS _ (lv_sub hl [1, 2, 3, 4, 0] rfl) hm
      · have hm := ifn c_3 hm
        refine lv_aload_n hx hb dX2_implied_35 rfl (lv_at hl 0 rfl) ?_
        refine lv_iload hx hb dX2_implied_36 (lv_at hl 3 rfl) ?_
        refine lv_iload hx hb dX2_implied_38 (lv_at hl 4 rfl) ?_
        refine lv_iadd hx hb dX2_implied_40 ?_
        refine lv_iload_n hx hb dX2_implied_41 rfl (lv_at hl 2 rfl) ?_
        obtain ⟨q_4, hq_4, hm⟩ := ob hm
        refine zc_l (zr_V [.int (x4 + x5), .int x3] [] ⟨hx, hb, hml, hown, hts⟩ (ctX2_markAt l D cy ad σ  (x4 + x5) x3 q_4 hq_4 _) (cwV 2 hts gX2_implied_X2_markAt rfl rfl rfl (by decide +kernel) ⟨Nat.le_of_ble_eq_true rfl, Nat.le_of_ble_eq_true rfl⟩) hK hP hD 0 cw_0 rfl rfl rfl hl.1 rfl (Nat.le_of_ble_eq_true rfl) dX2_implied_42 ⟨Nat.zero_le _, Nat.zero_le _⟩) hD hS hA (fun H locs hP hD hS => ?_)
        refine lv_lload_n hx hb dX2_implied_45 rfl (lv_at hl 1 rfl) ?_
        refine W.lcmp hx hb dX2_implied_46 ?_
        refine lv_if_le (tgt := 57) hx hb dX2_implied_47 (by decide) (fun c_5 => ?_) (fun c_5 => ?_)
        · have hm := ifp c_5 hm
          refine lv_iload hx hb dX2_implied_57 (lv_at hl 4 rfl) ?_
          refine lv_iconst (v := 2) hx hb dX2_implied_59 (by decide) ?_
          refine lv_idiv hx hb dX2_implied_60 (by decide) ?_
          refine lv_istore (lv' := [(5, .int (x5 / (2 : Int32))), (0, .ref (ad 0 0)), (1, .long x1), (3, .int x3), (4, .int x4)]) hx hb dX2_implied_61 hl (by decide) rfl (fun ls hl => ?_)
          refine lv_goto (tgt := 19) hx hb dX2_implied_63 (by decide) ?_
          exact ih q_4.2 x1 x3 x4 (x5 / (2 : Int32)) _ _ hP hD hS _ (lv_sub hl [1, 2, 3, 4, 0] rfl) hm
        · have hm := ifn c_5 hm
          refine lv_iload hx hb dX2_implied_50 (lv_at hl 3 rfl) ?_
          refine lv_iload hx hb dX2_implied_52 (lv_at hl 4 rfl) ?_
          refine lv_iadd hx hb dX2_implied_54 ?_
          refine lv_istore (lv' := [(4, .int (x4 + x5)), (0, .ref (ad 0 0)), (1, .long x1), (3, .int x3), (5, .int x5)]) hx hb dX2_implied_55 hl (by decide) rfl (fun ls hl => ?_)
          refine lv_iload hx hb dX2_implied_57 (lv_at hl 4 rfl) ?_
          refine lv_iconst (v := 2) hx hb dX2_implied_59 (by decide) ?_
          refine lv_idiv hx hb dX2_implied_60 (by decide) ?_
          refine lv_istore (lv' := [(5, .int (x5 / (2 : Int32))), (4, .int (x4 + x5)), (0, .ref (ad 0 0)), (1, .long x1), (3, .int x3)]) hx hb dX2_implied_61 hl (by decide) rfl (fun ls hl => ?_)
          refine lv_goto (tgt := 19) hx hb dX2_implied_63 (by decide) ?_
          exact ih q_4.2 x1 x3 (x4 + x5) (x5 / (2 : Int32)) _ _ hP hD hS _ (lv_sub hl [2, 3, 4, 1, 0] rfl) hm
def mX2_implied (σ : ST) (a1 : Int64) : Option (Int32 × ST) := (mX2_eligibleBits σ).bind fun q_6 => if q_6 = (0 : Int32) then (some ((-1 : Int32), σ)) else (kX2_implied_19 FU (σ, a1, q_6, (-1 : Int32), (2048 : Int32)))
set_option maxHeartbeats 4000000 in
set_option maxRecDepth 100000 in
theorem ctX2_implied (l : Launch) (D : va_G) (cy : Nat → ClassId) (ad : Nat → Nat → Nat) (σ : ST) (a1 : Int64) (q : Int32 × ST) (hm : mX2_implied σ a1 = some q) : zMi l yX2_implied wsX2_implied rmX2_implied D cy [.ref (ad 0 0), .long a1] (cw cy ad σ) q.1 (cw cy ad q.2) := by
  intro sz
  refine Met.ofW (cc := cX2_implied) (maxL := 6) (ret := (some .int)) (by decide) rfl ?_
  intro p e s m args below meth c s₁ B hml hv
  obtain ⟨rfl, hsz, hP, hK, hD0⟩ := hv
  have hx := B.exec
  have hb := B.bytes
  have hr := B.returns
  have hts := atoms_spec (ws := wsX2_implied) B.pre
  have hown : s.vm.findClass RX2 = some m.cls := findClass_of_methodNamed B.named
  have hlocks := B.notSynchronized
  subst hsz
  have hD := hD0.self (sz := s.heap.size)
  generalize hAe : va_A (cw cy ad σ) s.heap.size = A at hD ⊢
  have hA : ∀ q : Nat, s.heap.size ≤ q → A q := fun q h => by rw [← hAe]; exact Or.inr h
  have hS : va_S A s.heap s.heap [] := va_S.rf
  have C : Cx p s m _ meth c cX2_implied 6 (some .int) RX2 wsX2_implied D cy A := ⟨hx, hb, hml, hown, hts, hr, hlocks, hK, hA⟩
  have hl := lv_entry ([.ref (ad 0 0), .long a1]) (n := 6) (Nat.le_of_ble_eq_true rfl)
  rw [lg_entry_eq]
  generalize (lg_sl ([.ref (ad 0 0), .long a1]) ++ List.replicate (6 - (lg_sl ([.ref (ad 0 0), .long a1])).length) Slot.unset).toArray = ls at hl ⊢
  have hl : lv_has ls 6 [(0, .ref (ad 0 0)), (1, .long a1)] := hl
  unfold mX2_implied at hm
  refine lv_aload_n hx hb dX2_implied_0 rfl (lv_at hl 0 rfl) ?_
  obtain ⟨q_6, hq_6, hm⟩ := ob hm
  refine zc_i (zr_V [] [] ⟨hx, hb, hml, hown, hts⟩ (ctX2_eligibleBits l D cy ad σ   q_6 hq_6 _) (cwV 0 hts gX2_implied_X2_eligibleBits rfl rfl rfl (by decide +kernel) ⟨Nat.le_of_ble_eq_true rfl, Nat.le_of_ble_eq_true rfl⟩) hK hP hD 0 cw_0 rfl rfl rfl hl.1 rfl (Nat.le_of_ble_eq_true rfl) dX2_implied_1 ⟨Nat.zero_le _, Nat.zero_le _⟩) hD hS hA (fun H locs hP hD hS => ?_)
  refine lv_istore_n (lv' := [(3, .int q_6), (0, .ref (ad 0 0)), (1, .long a1)]) hx hb dX2_implied_4 rfl hl (by decide) rfl (fun ls hl => ?_)
  refine lv_iload_n hx hb dX2_implied_5 rfl (lv_at hl 0 rfl) ?_
  refine lv_if_ne (tgt := 11) hx hb dX2_implied_6 (by decide) (fun c_7 => ?_) (fun c_7 => ?_)
  · have hm := ifn c_7 hm
    refine lv_iconst (v := -1) hx hb dX2_implied_11 (by decide) ?_
    refine lv_istore (lv' := [(4, .int (-1 : Int32)), (3, .int q_6), (0, .ref (ad 0 0)), (1, .long a1)]) hx hb dX2_implied_12 hl (by decide) rfl (fun ls hl => ?_)
    refine lv_sipush (v := 2048) hx hb dX2_implied_14 (by decide) ?_
    refine lv_istore (lv' := [(5, .int (2048 : Int32)), (4, .int (-1 : Int32)), (3, .int q_6), (0, .ref (ad 0 0)), (1, .long a1)]) hx hb dX2_implied_17 hl (by decide) rfl (fun ls hl => ?_)
    exact kX2_implied_19_ok C q FU σ a1 q_6 (-1 : Int32) (2048 : Int32) _ _ hP hD hS _ (lv_sub hl [3, 4, 2, 1, 0] rfl) hm
  · have hm := ifp c_7 hm
    refine lv_iconst (v := -1) hx hb dX2_implied_9 (by decide) ?_
    exact z_i hx hb hr hlocks hm hP hD hS dX2_implied_10
abbrev rmX2_leastCost : Room := { frames := 1, cells := 0, slots := 0, locals := 21 }
theorem lkX2_leastCost_44 : Cond.fieldLink RX2 44 "DeliveryBasket" "size" "I" ∈ wsX2_leastCost := by decide +kernel
theorem iwX2_leastCost_X2 : ∀ w ∈ wsX20, w ∈ wsX2_leastCost := fun _ h => List.mem_cons_of_mem _ (List.mem_append_right _ h)
theorem lkX2_leastCost_36 : Cond.fieldLink RX2 36 "DeliveryBasket" "costs" "[J" ∈ wsX2_leastCost := by decide +kernel
def bkX2_leastCost_4 (σ : ST)  (rec : Int32 × Int32 × Int32 → Option (Int32)) (x1 : Int32) (x2 : Int32) (x3 : Int32) : Option (Int32) := if (gI σ 0 0 1) ≤ x3 then (some x2) else ((mX2_isIn x1 x3).bind fun q_2 => if q_2 = (0 : Int32) then (rec (x1, x2, (x3 + (1 : Int32)))) else (if x2 = (-1 : Int32) then (rec (x1, x3, (x3 + (1 : Int32)))) else (gd (inb x3 8) (gd (inb x2 8) (if (0 : Int32) ≤ (lg_cmp (gJ σ 0 0 (Int32.toNatClampNeg x3)) (gJ σ 0 0 (Int32.toNatClampNeg x2))) then (rec (x1, x2, (x3 + (1 : Int32)))) else (rec (x1, x3, (x3 + (1 : Int32)))))))))
def kX2_leastCost_4 (σ : ST)  (n : Nat) (a : Int32 × Int32 × Int32) : Option (Int32) := fx (fun rec a => bkX2_leastCost_4 σ  rec a.1 a.2.1 a.2.2) n a
set_option maxHeartbeats 4000000 in
set_option maxRecDepth 100000 in
theorem kX2_leastCost_4_ok {p : Program} {l : Launch} {e : Env} {s : State} {m : MethodId} {args : Array Value} {below : List Frame} {meth : Method} {c : Code} {D : va_G} {cy : Nat → ClassId} {ad : Nat → Nat → Nat} {A : Nat → Prop} (C : Cx p s m args meth c cX2_leastCost 4 (some .int) RX2 wsX2_leastCost D cy A) (q : Int32) (σ : ST) : ∀ (n : Nat) (x1 : Int32) (x2 : Int32) (x3 : Int32), ∀ (H : Heap) (locs : List Loc), va_P D vwCl (cw cy ad σ) H → va_D A (cw cy ad σ) → va_S A s.heap H locs → ∀ ls : Array Slot, lv_has ls 4 [(0, .ref (ad 0 0)), (1, .int x1), (2, .int x2), (3, .int x3)] → kX2_leastCost_4 σ n (x1, x2, x3) = some q → W p l e rmX2_leastCost s m args below meth c H locs 0 0 (MQ below (zQi D (cw cy ad σ) A q) args s 0 0 A) (F0 m 4 ls []) := by
  obtain ⟨hx, hb, hml, hown, hts, hr, hlocks, hK, hA⟩ := id C
  intro n
  induction n with
  | zero => intro x1 x2 x3 H locs hP hD hS ls hl hm; cases hm
  | succ n ih =>
    intro x1 x2 x3 H locs hP hD hS ls hl hm
    have hm : bkX2_leastCost_4 σ  (kX2_leastCost_4 σ n) x1 x2 x3 = some q := hm
    unfold bkX2_leastCost_4 at hm
    refine lv_iload_n hx hb dX2_leastCost_4 rfl (lv_at hl 3 rfl) ?_
    refine lv_aload_n hx hb dX2_leastCost_5 rfl (lv_at hl 0 rfl) ?_
    refine va_get (D := D) (ci := 2) (v := .int (gI σ 0 0 1)) (C := RX2) (T := TX2) (N := 9) hx hb hts iwX2_leastCost_X2 hown hK.1 hP 0 cw_0 rfl 1 (by decide) (hts _ lkX2_leastCost_44) (fun _ h9 => h9) rfl dX2_leastCost_6 ?_
    refine lv_icmp_ge (tgt := 49) hx hb dX2_leastCost_9 (by decide) (fun c_1 => ?_) (fun c_1 => ?_)
    · have hm := ifp c_1 hm
      refine lv_iload_n hx hb dX2_leastCost_49 rfl (lv_at hl 2 rfl) ?_
      exact z_pi hx hb hr hlocks hm hP hD hS dX2_leastCost_50
    · have hm := ifn c_1 hm
      refine lv_iload_n hx hb dX2_leastCost_12 rfl (lv_at hl 1 rfl) ?_
      refine lv_iload_n hx hb dX2_leastCost_13 rfl (lv_at hl 3 rfl) ?_
      obtain ⟨q_2, hq_2, hm⟩ := ob hm
      refine zc_i (zr_S [.int x1, .int x3] [] ⟨hx, hb, hml, hown, hts⟩ (ctX2_isIn l D cy (cw cy ad σ)  x1 x3 q_2 hq_2 _) (va_cwS 2 hts gX2_leastCost_X2_isIn rfl rfl rfl (by decide +kernel) ⟨Nat.le_of_ble_eq_true rfl, Nat.le_of_ble_eq_true rfl⟩) hK hP hD rfl hl.1 rfl (Nat.le_of_ble_eq_true rfl) dX2_leastCost_14 ⟨Nat.zero_le _, Nat.zero_le _⟩) hD hS hA (fun H locs hP hD hS => ?_)
      refine lv_if_eq (tgt := 43) hx hb dX2_leastCost_17 (by decide) (fun c_3 => ?_) (fun c_3 => ?_)
      · have hm := ifp c_3 hm
        refine lv_iinc (v := (x3 + (1 : Int32))) (lv' := [(3, .int (x3 + (1 : Int32))), (0, .ref (ad 0 0)), (1, .int x1), (2, .int x2)]) hx hb dX2_leastCost_43 hl (k := 3) rfl rfl (by decide) rfl (fun ls hl => ?_)
        refine lv_goto (tgt := 4) hx hb dX2_leastCost_46 (by decide) ?_
        exact ih x1 x2 (x3 + (1 : Int32)) _ _ hP hD hS _ (lv_sub hl [1, 2, 3, 0] rfl) hm
      · have hm := ifn c_3 hm
        refine lv_iload_n hx hb dX2_leastCost_20 rfl (lv_at hl 2 rfl) ?_
        refine lv_iconst (v := -1) hx hb dX2_leastCost_21 (by decide) ?_
        refine lv_icmp_eq (tgt := 41) hx hb dX2_leastCost_22 (by decide) (fun c_4 => ?_) (fun c_4 => ?_)
        · have hm := ifp c_4 hm
          refine lv_iload_n hx hb dX2_leastCost_41 rfl (lv_at hl 3 rfl) ?_
          refine lv_istore_n (lv' := [(2, .int x3), (0, .ref (ad 0 0)), (1, .int x1), (3, .int x3)]) hx hb dX2_leastCost_42 rfl hl (by decide) rfl (fun ls hl => ?_)
          refine lv_iinc (v := (x3 + (1 : Int32))) (lv' := [(3, .int (x3 + (1 : Int32))), (2, .int x3), (0, .ref (ad 0 0)), (1, .int x1)]) hx hb dX2_leastCost_43 hl (k := 3) rfl rfl (by decide) rfl (fun ls hl => ?_)
          refine lv_goto (tgt := 4) hx hb dX2_leastCost_46 (by decide) ?_
          exact ih x1 x3 (x3 + (1 : Int32)) _ _ hP hD hS _ (lv_sub hl [2, 3, 1, 0] rfl) hm
        · have hm := ifn c_4 hm
          refine lv_aload_n hx hb dX2_leastCost_25 rfl (lv_at hl 0 rfl) ?_
          refine va_get (D := D) (ci := 2) (v := .ref (ad 4 0)) (C := RX2) (T := TX2) (N := 9) hx hb hts iwX2_leastCost_X2 hown hK.1 hP 0 cw_0 rfl 7 (by decide) (hts _ lkX2_leastCost_36) (fun _ h9 => h9) rfl dX2_leastCost_26 ?_
          refine lv_iload_n hx hb dX2_leastCost_29 rfl (lv_at hl 3 rfl) ?_
          obtain ⟨h_5, hm⟩ := gd_some hm
          refine va_lald hx hb hK.1 hP 4 1 cw_4 rfl (inb_vp h_5) dX2_leastCost_30 ?_
          refine lv_aload_n hx hb dX2_leastCost_31 rfl (lv_at hl 0 rfl) ?_
          refine va_get (D := D) (ci := 2) (v := .ref (ad 4 0)) (C := RX2) (T := TX2) (N := 9) hx hb hts iwX2_leastCost_X2 hown hK.1 hP 0 cw_0 rfl 7 (by decide) (hts _ lkX2_leastCost_36) (fun _ h9 => h9) rfl dX2_leastCost_32 ?_
          refine lv_iload_n hx hb dX2_leastCost_35 rfl (lv_at hl 2 rfl) ?_
          obtain ⟨h_6, hm⟩ := gd_some hm
          refine va_lald hx hb hK.1 hP 4 1 cw_4 rfl (inb_vp h_6) dX2_leastCost_36 ?_
          refine W.lcmp hx hb dX2_leastCost_37 ?_
          refine lv_if_ge (tgt := 43) hx hb dX2_leastCost_38 (by decide) (fun c_7 => ?_) (fun c_7 => ?_)
          · have hm := ifp c_7 hm
            refine lv_iinc (v := (x3 + (1 : Int32))) (lv' := [(3, .int (x3 + (1 : Int32))), (0, .ref (ad 0 0)), (1, .int x1), (2, .int x2)]) hx hb dX2_leastCost_43 hl (k := 3) rfl rfl (by decide) rfl (fun ls hl => ?_)
            refine lv_goto (tgt := 4) hx hb dX2_leastCost_46 (by decide) ?_
            exact ih x1 x2 (x3 + (1 : Int32)) _ _ hP hD hS _ (lv_sub hl [1, 2, 3, 0] rfl) hm
          · have hm := ifn c_7 hm
            refine lv_iload_n hx hb dX2_leastCost_41 rfl (lv_at hl 3 rfl) ?_
            refine lv_istore_n (lv' := [(2, .int x3), (0, .ref (ad 0 0)), (1, .int x1), (3, .int x3)]) hx hb dX2_leastCost_42 rfl hl (by decide) rfl (fun ls hl => ?_)
            refine lv_iinc (v := (x3 + (1 : Int32))) (lv' := [(3, .int (x3 + (1 : Int32))), (2, .int x3), (0, .ref (ad 0 0)), (1, .int x1)]) hx hb dX2_leastCost_43 hl (k := 3) rfl rfl (by decide) rfl (fun ls hl => ?_)
            refine lv_goto (tgt := 4) hx hb dX2_leastCost_46 (by decide) ?_
            exact ih x1 x3 (x3 + (1 : Int32)) _ _ hP hD hS _ (lv_sub hl [2, 3, 1, 0] rfl) hm
def mX2_leastCost (σ : ST) (a1 : Int32) : Option (Int32) := kX2_leastCost_4 σ FU (a1, (-1 : Int32), (0 : Int32))
set_option maxHeartbeats 4000000 in
set_option maxRecDepth 100000 in
theorem ctX2_leastCost (l : Launch) (D : va_G) (cy : Nat → ClassId) (ad : Nat → Nat → Nat) (σ : ST) (a1 : Int32) (q : Int32) (hm : mX2_leastCost σ a1 = some q) : zMi l yX2_leastCost wsX2_leastCost rmX2_leastCost D cy [.ref (ad 0 0), .int a1] (cw cy ad σ) q (cw cy ad σ) := by
  intro sz
  refine Met.ofW (cc := cX2_leastCost) (maxL := 4) (ret := (some .int)) (by decide) rfl ?_
  intro p e s m args below meth c s₁ B hml hv
  obtain ⟨rfl, hsz, hP, hK, hD0⟩ := hv
  have hx := B.exec
  have hb := B.bytes
  have hr := B.returns
  have hts := atoms_spec (ws := wsX2_leastCost) B.pre
  have hown : s.vm.findClass RX2 = some m.cls := findClass_of_methodNamed B.named
  have hlocks := B.notSynchronized
  subst hsz
  have hD := hD0.self (sz := s.heap.size)
  generalize hAe : va_A (cw cy ad σ) s.heap.size = A at hD ⊢
  have hA : ∀ q : Nat, s.heap.size ≤ q → A q := fun q h => by rw [← hAe]; exact Or.inr h
  have hS : va_S A s.heap s.heap [] := va_S.rf
  have C : Cx p s m _ meth c cX2_leastCost 4 (some .int) RX2 wsX2_leastCost D cy A := ⟨hx, hb, hml, hown, hts, hr, hlocks, hK, hA⟩
  have hl := lv_entry ([.ref (ad 0 0), .int a1]) (n := 4) (Nat.le_of_ble_eq_true rfl)
  rw [lg_entry_eq]
  generalize (lg_sl ([.ref (ad 0 0), .int a1]) ++ List.replicate (4 - (lg_sl ([.ref (ad 0 0), .int a1])).length) Slot.unset).toArray = ls at hl ⊢
  have hl : lv_has ls 4 [(0, .ref (ad 0 0)), (1, .int a1)] := hl
  unfold mX2_leastCost at hm
  refine lv_iconst (v := -1) hx hb dX2_leastCost_0 (by decide) ?_
  refine lv_istore_n (lv' := [(2, .int (-1 : Int32)), (0, .ref (ad 0 0)), (1, .int a1)]) hx hb dX2_leastCost_1 rfl hl (by decide) rfl (fun ls hl => ?_)
  refine lv_iconst (v := 0) hx hb dX2_leastCost_2 (by decide) ?_
  refine lv_istore_n (lv' := [(3, .int (0 : Int32)), (2, .int (-1 : Int32)), (0, .ref (ad 0 0)), (1, .int a1)]) hx hb dX2_leastCost_3 rfl hl (by decide) rfl (fun ls hl => ?_)
  exact kX2_leastCost_4_ok C q σ FU a1 (-1 : Int32) (0 : Int32) _ _ hP hD hS _ (lv_sub hl [2, 3, 1, 0] rfl) hm

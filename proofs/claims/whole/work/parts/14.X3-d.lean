abbrev rmX3_ranked : Room := { frames := 7, cells := 0, slots := 0, locals := 162 }
theorem lkX3_ranked_64 : Cond.fieldLink RX3 64 "DeliveryBasketModel" "many" "I" ∈ wsX3_ranked := by decide +kernel
theorem iwX3_ranked_X3 : ∀ w ∈ wsX30, w ∈ wsX3_ranked := fun _ h => List.mem_cons_of_mem _ (List.mem_append_right _ h)
theorem lkX3_ranked_61 : Cond.fieldLink RX3 61 "DeliveryBasketModel" "thrown" "I" ∈ wsX3_ranked := by decide +kernel
def bkX3_ranked_41 (rc16 : ST × Int32 × Int32 × Int32 → Option (Int32 × ST)) (rec : ST × Int32 × Int32 × Int32 × Int32 × Int32 → Option (Int32 × ST)) (σ : ST) (x1 : Int32) (x2 : Int32) (x3 : Int32) (x4 : Int32) (x5 : Int32) : Option (Int32 × ST) := if (gI σ 0 0 1) ≤ x5 then (if x4 = x2 then (some (x3, σ)) else (rc16 (σ, x1, x2, (x3 + (1 : Int32))))) else ((mX3_isEligible σ x5).bind fun q_3 => if q_3 = (0 : Int32) then (rec (σ, x1, x2, x3, (x4 + (0 : Int32)), (x5 + (1 : Int32)))) else (if x5 = x3 then (rec (σ, x1, x2, x3, (x4 + (0 : Int32)), (x5 + (1 : Int32)))) else ((mX3_isDearer σ x3 x5 x1).bind fun q_6 => if q_6 = (0 : Int32) then (if x3 ≤ x5 then (rec (σ, x1, x2, x3, (x4 + (0 : Int32)), (x5 + (1 : Int32)))) else ((mX3_isDearer σ x5 x3 x1).bind fun q_9 => if q_9 = (0 : Int32) then (rec (σ, x1, x2, x3, (x4 + (1 : Int32)), (x5 + (1 : Int32)))) else (rec (σ, x1, x2, x3, (x4 + (0 : Int32)), (x5 + (1 : Int32)))))) else (rec (σ, x1, x2, x3, (x4 + (1 : Int32)), (x5 + (1 : Int32)))))))
def kX3_ranked_41 (rc16 : ST × Int32 × Int32 × Int32 → Option (Int32 × ST)) (n : Nat) (a : ST × Int32 × Int32 × Int32 × Int32 × Int32) : Option (Int32 × ST) := fx (fun rec a => bkX3_ranked_41 rc16 rec a.1 a.2.1 a.2.2.1 a.2.2.2.1 a.2.2.2.2.1 a.2.2.2.2.2) n a
set_option maxHeartbeats 4000000 in
set_option maxRecDepth 100000 in
theorem kX3_ranked_41_ok {p : Program} {l : Launch} {e : Env} {s : State} {m : MethodId} {args : Array Value} {below : List Frame} {meth : Method} {c : Code} {D : va_G} {cy : Nat → ClassId} {ad : Nat → Nat → Nat} {A : Nat → Prop} (C : Cx p s m args meth c cX3_ranked 6 (some .int) RX3 wsX3_ranked D cy A) (q : Int32 × ST) {rc16 : ST × Int32 × Int32 × Int32 → Option (Int32 × ST)} (hr16 : ∀ (σ : ST) (x1 : Int32) (x2 : Int32) (x3 : Int32), ∀ (H : Heap) (locs : List Loc), va_P D vwCl (mw cy ad σ) H → va_D A (mw cy ad σ) → va_S A s.heap H locs → ∀ ls : Array Slot, lv_has ls 6 [(0, .ref (ad 0 0)), (1, .int x1), (2, .int x2), (3, .int x3)] → rc16 (σ, x1, x2, x3) = some q → W p l e rmX3_ranked s m args below meth c H locs 0 0 (MQ below (zQi D (mw cy ad q.2) A q.1) args s 0 0 A) (F0 m 16 ls [])) : ∀ (n : Nat) (σ : ST) (x1 : Int32) (x2 : Int32) (x3 : Int32) (x4 : Int32) (x5 : Int32), ∀ (H : Heap) (locs : List Loc), va_P D vwCl (mw cy ad σ) H → va_D A (mw cy ad σ) → va_S A s.heap H locs → ∀ ls : Array Slot, lv_has ls 6 [(0, .ref (ad 0 0)), (1, .int x1), (2, .int x2), (3, .int x3), (4, .int x4), (5, .int x5)] → kX3_ranked_41 rc16 n (σ, x1, x2, x3, x4, x5) = some q → W p l e rmX3_ranked s m args below meth c H locs 0 0 (MQ below (zQi D (mw cy ad q.2) A q.1) args s 0 0 A) (F0 m 41 ls []) := by
  obtain ⟨hx, hb, hml, hown, hts, hr, hlocks, hK, hA⟩ := id C
  intro n
  induction n with
  | zero => intro σ x1 x2 x3 x4 x5 H locs hP hD hS ls hl hm; cases hm
  | succ n ih =>
    intro σ x1 x2 x3 x4 x5 H locs hP hD hS ls hl hm
    have hm : bkX3_ranked_41 rc16 (kX3_ranked_41 rc16 n) σ x1 x2 x3 x4 x5 = some q := hm
    unfold bkX3_ranked_41 at hm
    refine lv_iload hx hb dX3_ranked_41 (lv_at hl 5 rfl) ?_
    refine lv_aload_n hx hb dX3_ranked_43 rfl (lv_at hl 0 rfl) ?_
    refine va_get (D := D) (ci := 3) (v := .int (gI σ 0 0 1)) (C := RX3) (T := TX3) (N := 20) hx hb hts iwX3_ranked_X3 hown hK.1 hP 0 mw_0 rfl 1 (by decide) (hts _ lkX3_ranked_64) (fun _ h9 => h9) rfl dX3_ranked_44 ?_
    refine lv_icmp_ge (tgt := 109) hx hb dX3_ranked_47 (by decide) (fun c_1 => ?_) (fun c_1 => ?_)
    · have hm := ifp c_1 hm
      refine lv_iload hx hb dX3_ranked_109 (lv_at hl 4 rfl) ?_
      refine lv_iload_n hx hb dX3_ranked_111 rfl (lv_at hl 2 rfl) ?_
      refine lv_icmp_ne (tgt := 117) hx hb dX3_ranked_112 (by decide) (fun c_2 => ?_) (fun c_2 => ?_)
      · have hm := ifn c_2 hm
        refine lv_iinc (v := (x3 + (1 : Int32))) (lv' := [(3, .int (x3 + (1 : Int32))), (0, .ref (ad 0 0)), (1, .int x1), (2, .int x2), (4, .int x4), (5, .int x5)]) hx hb dX3_ranked_117 hl (k := 3) rfl rfl (by decide) rfl (fun ls hl => ?_)
        refine lv_goto (tgt := 16) hx hb dX3_ranked_120 (by decide) ?_
        exact hr16 σ x1 x2 (x3 + (1 : Int32)) _ _ hP hD hS _ (lv_sub hl [1, 2, 3, 0] rfl) hm
      · have hm := ifp c_2 hm
        refine lv_iload_n hx hb dX3_ranked_115 rfl (lv_at hl 3 rfl) ?_
        exact z_i hx hb hr hlocks hm hP hD hS dX3_ranked_116
    · have hm := ifn c_1 hm
      refine lv_iload hx hb dX3_ranked_50 (lv_at hl 4 rfl) ?_
      refine lv_aload_n hx hb dX3_ranked_52 rfl (lv_at hl 0 rfl) ?_
      refine lv_iload hx hb dX3_ranked_53 (lv_at hl 5 rfl) ?_
      obtain ⟨q_3, hq_3, hm⟩ := ob hm
      refine zc_i (zr_V [.int x5] [.int x4] ⟨hx, hb, hml, hown, hts⟩ (ctX3_isEligible l D cy ad σ  x5 q_3 hq_3 _) (cwV 1 hts gX3_ranked_X3_isEligible rfl rfl rfl (by decide +kernel) ⟨Nat.le_of_ble_eq_true rfl, Nat.le_of_ble_eq_true rfl⟩) hK hP hD 0 mw_0 rfl rfl rfl hl.1 rfl (Nat.le_of_ble_eq_true rfl) dX3_ranked_55 ⟨Nat.zero_le _, Nat.zero_le _⟩) hD hS hA (fun H locs hP hD hS => ?_)
      refine lv_if_eq (tgt := 99) hx hb dX3_ranked_58 (by decide) (fun c_4 => ?_) (fun c_4 => ?_)
      · have hm := ifp c_4 hm
        refine lv_iconst (v := 0) hx hb dX3_ranked_99 (by decide) ?_
        refine lv_iadd hx hb dX3_ranked_100 ?_
        refine lv_istore (lv' := [(4, .int (x4 + (0 : Int32))), (0, .ref (ad 0 0)), (1, .int x1), (2, .int x2), (3, .int x3), (5, .int x5)]) hx hb dX3_ranked_101 hl (by decide) rfl (fun ls hl => ?_)
        refine lv_iinc (v := (x5 + (1 : Int32))) (lv' := [(5, .int (x5 + (1 : Int32))), (4, .int (x4 + (0 : Int32))), (0, .ref (ad 0 0)), (1, .int x1), (2, .int x2), (3, .int x3)]) hx hb dX3_ranked_103 hl (k := 5) rfl rfl (by decide) rfl (fun ls hl => ?_)
        refine lv_goto (tgt := 41) hx hb dX3_ranked_106 (by decide) ?_
        exact ih σ x1 x2 x3 (x4 + (0 : Int32)) (x5 + (1 : Int32)) _ _ hP hD hS _ (lv_sub hl [2, 3, 4, 5, 1, 0] rfl) hm
      · have hm := ifn c_4 hm
        refine lv_iload hx hb dX3_ranked_61 (lv_at hl 5 rfl) ?_
        refine lv_iload_n hx hb dX3_ranked_63 rfl (lv_at hl 3 rfl) ?_
        refine lv_icmp_eq (tgt := 99) hx hb dX3_ranked_64 (by decide) (fun c_5 => ?_) (fun c_5 => ?_)
        · have hm := ifp c_5 hm
          refine lv_iconst (v := 0) hx hb dX3_ranked_99 (by decide) ?_
          refine lv_iadd hx hb dX3_ranked_100 ?_
          refine lv_istore (lv' := [(4, .int (x4 + (0 : Int32))), (0, .ref (ad 0 0)), (1, .int x1), (2, .int x2), (3, .int x3), (5, .int x5)]) hx hb dX3_ranked_101 hl (by decide) rfl (fun ls hl => ?_)
          refine lv_iinc (v := (x5 + (1 : Int32))) (lv' := [(5, .int (x5 + (1 : Int32))), (4, .int (x4 + (0 : Int32))), (0, .ref (ad 0 0)), (1, .int x1), (2, .int x2), (3, .int x3)]) hx hb dX3_ranked_103 hl (k := 5) rfl rfl (by decide) rfl (fun ls hl => ?_)
          refine lv_goto (tgt := 41) hx hb dX3_ranked_106 (by decide) ?_
          exact ih σ x1 x2 x3 (x4 + (0 : Int32)) (x5 + (1 : Int32)) _ _ hP hD hS _ (lv_sub hl [2, 3, 4, 5, 1, 0] rfl) hm
        · have hm := ifn c_5 hm
          refine lv_aload_n hx hb dX3_ranked_67 rfl (lv_at hl 0 rfl) ?_
          refine lv_iload_n hx hb dX3_ranked_68 rfl (lv_at hl 3 rfl) ?_
          refine lv_iload hx hb dX3_ranked_69 (lv_at hl 5 rfl) ?_
          refine lv_iload_n hx hb dX3_ranked_71 rfl (lv_at hl 1 rfl) ?_
          obtain ⟨q_6, hq_6, hm⟩ := ob hm
          refine zc_i (zr_V [.int x3, .int x5, .int x1] [.int x4] ⟨hx, hb, hml, hown, hts⟩ (ctX3_isDearer l D cy ad σ  x3 x5 x1 q_6 hq_6 _) (cwV 3 hts gX3_ranked_X3_isDearer rfl rfl rfl (by decide +kernel) ⟨Nat.le_of_ble_eq_true rfl, Nat.le_of_ble_eq_true rfl⟩) hK hP hD 0 mw_0 rfl rfl rfl hl.1 rfl (Nat.le_of_ble_eq_true rfl) dX3_ranked_72 ⟨Nat.zero_le _, Nat.zero_le _⟩) hD hS hA (fun H locs hP hD hS => ?_)
          refine lv_if_ne (tgt := 95) hx hb dX3_ranked_75 (by decide) (fun c_7 => ?_) (fun c_7 => ?_)
          · have hm := ifn c_7 hm
            refine lv_iconst (v := 1) hx hb dX3_ranked_95 (by decide) ?_
            refine lv_goto (tgt := 100) hx hb dX3_ranked_96 (by decide) ?_
            refine lv_iadd hx hb dX3_ranked_100 ?_
            refine lv_istore (lv' := [(4, .int (x4 + (1 : Int32))), (0, .ref (ad 0 0)), (1, .int x1), (2, .int x2), (3, .int x3), (5, .int x5)]) hx hb dX3_ranked_101 hl (by decide) rfl (fun ls hl => ?_)
            refine lv_iinc (v := (x5 + (1 : Int32))) (lv' := [(5, .int (x5 + (1 : Int32))), (4, .int (x4 + (1 : Int32))), (0, .ref (ad 0 0)), (1, .int x1), (2, .int x2), (3, .int x3)]) hx hb dX3_ranked_103 hl (k := 5) rfl rfl (by decide) rfl (fun ls hl => ?_)
            refine lv_goto (tgt := 41) hx hb dX3_ranked_106 (by decide) ?_
            exact ih σ x1 x2 x3 (x4 + (1 : Int32)) (x5 + (1 : Int32)) _ _ hP hD hS _ (lv_sub hl [2, 3, 4, 5, 1, 0] rfl) hm
          · have hm := ifp c_7 hm
            refine lv_iload hx hb dX3_ranked_78 (lv_at hl 5 rfl) ?_
            refine lv_iload_n hx hb dX3_ranked_80 rfl (lv_at hl 3 rfl) ?_
            refine lv_icmp_ge (tgt := 99) hx hb dX3_ranked_81 (by decide) (fun c_8 => ?_) (fun c_8 => ?_)
            · have hm := ifp c_8 hm
              refine lv_iconst (v := 0) hx hb dX3_ranked_99 (by decide) ?_
              refine lv_iadd hx hb dX3_ranked_100 ?_
              refine lv_istore (lv' := [(4, .int (x4 + (0 : Int32))), (0, .ref (ad 0 0)), (1, .int x1), (2, .int x2), (3, .int x3), (5, .int x5)]) hx hb dX3_ranked_101 hl (by decide) rfl (fun ls hl => ?_)
              refine lv_iinc (v := (x5 + (1 : Int32))) (lv' := [(5, .int (x5 + (1 : Int32))), (4, .int (x4 + (0 : Int32))), (0, .ref (ad 0 0)), (1, .int x1), (2, .int x2), (3, .int x3)]) hx hb dX3_ranked_103 hl (k := 5) rfl rfl (by decide) rfl (fun ls hl => ?_)
              refine lv_goto (tgt := 41) hx hb dX3_ranked_106 (by decide) ?_
              exact ih σ x1 x2 x3 (x4 + (0 : Int32)) (x5 + (1 : Int32)) _ _ hP hD hS _ (lv_sub hl [2, 3, 4, 5, 1, 0] rfl) hm
            · have hm := ifn c_8 hm
              refine lv_aload_n hx hb dX3_ranked_84 rfl (lv_at hl 0 rfl) ?_
              refine lv_iload hx hb dX3_ranked_85 (lv_at hl 5 rfl) ?_
              refine lv_iload_n hx hb dX3_ranked_87 rfl (lv_at hl 3 rfl) ?_
              refine lv_iload_n hx hb dX3_ranked_88 rfl (lv_at hl 1 rfl) ?_
              obtain ⟨q_9, hq_9, hm⟩ := ob hm
              refine zc_i (zr_V [.int x5, .int x3, .int x1] [.int x4] ⟨hx, hb, hml, hown, hts⟩ (ctX3_isDearer l D cy ad σ  x5 x3 x1 q_9 hq_9 _) (cwV 3 hts gX3_ranked_X3_isDearer rfl rfl rfl (by decide +kernel) ⟨Nat.le_of_ble_eq_true rfl, Nat.le_of_ble_eq_true rfl⟩) hK hP hD 0 mw_0 rfl rfl rfl hl.1 rfl (Nat.le_of_ble_eq_true rfl) dX3_ranked_89 ⟨Nat.zero_le _, Nat.zero_le _⟩) hD hS hA (fun H locs hP hD hS => ?_)
              refine lv_if_ne (tgt := 99) hx hb dX3_ranked_92 (by decide) (fun c_10 => ?_) (fun c_10 => ?_)
              · have hm := ifn c_10 hm
                refine lv_iconst (v := 0) hx hb dX3_ranked_99 (by decide) ?_
                refine lv_iadd hx hb dX3_ranked_100 ?_
                refine lv_istore (lv' := [(4, .int (x4 + (0 : Int32))), (0, .ref (ad 0 0)), (1, .int x1), (2, .int x2), (3, .int x3), (5, .int x5)]) hx hb dX3_ranked_101 hl (by decide) rfl (fun ls hl => ?_)
                refine lv_iinc (v := (x5 + (1 : Int32))) (lv' := [(5, .int (x5 + (1 : Int32))), (4, .int (x4 + (0 : Int32))), (0, .ref (ad 0 0)), (1, .int x1), (2, .int x2), (3, .int x3)]) hx hb dX3_ranked_103 hl (k := 5) rfl rfl (by decide) rfl (fun ls hl => ?_)
                refine lv_goto (tgt := 41) hx hb dX3_ranked_106 (by decide) ?_
                exact ih σ x1 x2 x3 (x4 + (0 : Int32)) (x5 + (1 : Int32)) _ _ hP hD hS _ (lv_sub hl [2, 3, 4, 5, 1, 0] rfl) hm
              · have hm := ifp c_10 hm
                refine lv_iconst (v := 1) hx hb dX3_ranked_95 (by decide) ?_
                refine lv_goto (tgt := 100) hx hb dX3_ranked_96 (by decide) ?_
                refine lv_iadd hx hb dX3_ranked_100 ?_
                refine lv_istore (lv' := [(4, .int (x4 + (1 : Int32))), (0, .ref (ad 0 0)), (1, .int x1), (2, .int x2), (3, .int x3), (5, .int x5)]) hx hb dX3_ranked_101 hl (by decide) rfl (fun ls hl => ?_)
                refine lv_iinc (v := (x5 + (1 : Int32))) (lv' := [(5, .int (x5 + (1 : Int32))), (4, .int (x4 + (1 : Int32))), (0, .ref (ad 0 0)), (1, .int x1), (2, .int x2), (3, .int x3)]) hx hb dX3_ranked_103 hl (k := 5) rfl rfl (by decide) rfl (fun ls hl => ?_)
                refine lv_goto (tgt := 41) hx hb dX3_ranked_106 (by decide) ?_
                exact ih σ x1 x2 x3 (x4 + (1 : Int32)) (x5 + (1 : Int32)) _ _ hP hD hS _ (lv_sub hl [2, 3, 4, 5, 1, 0] rfl) hm
def bkX3_ranked_16  (rec : ST × Int32 × Int32 × Int32 → Option (Int32 × ST)) (σ : ST) (x1 : Int32) (x2 : Int32) (x3 : Int32) : Option (Int32 × ST) := if (gI σ 0 0 1) ≤ x3 then (some ((-1 : Int32), σ)) else ((mX3_isEligible σ x3).bind fun q_12 => if q_12 = (0 : Int32) then (rec (σ, x1, x2, (x3 + (1 : Int32)))) else (kX3_ranked_41 rec FU (σ, x1, x2, x3, (0 : Int32), (0 : Int32))))
def kX3_ranked_16  (n : Nat) (a : ST × Int32 × Int32 × Int32) : Option (Int32 × ST) := fx (fun rec a => bkX3_ranked_16  rec a.1 a.2.1 a.2.2.1 a.2.2.2) n a
set_option maxHeartbeats 4000000 in
set_option maxRecDepth 100000 in
theorem kX3_ranked_16_ok {p : Program} {l : Launch} {e : Env} {s : State} {m : MethodId} {args : Array Value} {below : List Frame} {meth : Method} {c : Code} {D : va_G} {cy : Nat → ClassId} {ad : Nat → Nat → Nat} {A : Nat → Prop} (C : Cx p s m args meth c cX3_ranked 6 (some .int) RX3 wsX3_ranked D cy A) (q : Int32 × ST) : ∀ (n : Nat) (σ : ST) (x1 : Int32) (x2 : Int32) (x3 : Int32), ∀ (H : Heap) (locs : List Loc), va_P D vwCl (mw cy ad σ) H → va_D A (mw cy ad σ) → va_S A s.heap H locs → ∀ ls : Array Slot, lv_has ls 6 [(0, .ref (ad 0 0)), (1, .int x1), (2, .int x2), (3, .int x3)] → kX3_ranked_16 n (σ, x1, x2, x3) = some q → W p l e rmX3_ranked s m args below meth c H locs 0 0 (MQ below (zQi D (mw cy ad q.2) A q.1) args s 0 0 A) (F0 m 16 ls []) := by
  obtain ⟨hx, hb, hml, hown, hts, hr, hlocks, hK, hA⟩ := id C
  intro n
  induction n with
  | zero => intro σ x1 x2 x3 H locs hP hD hS ls hl hm; cases hm
  | succ n ih =>
    intro σ x1 x2 x3 H locs hP hD hS ls hl hm
    have hm : bkX3_ranked_16  (kX3_ranked_16 n) σ x1 x2 x3 = some q := hm
    unfold bkX3_ranked_16 at hm
    refine lv_iload_n hx hb dX3_ranked_16 rfl (lv_at hl 3 rfl) ?_
    refine lv_aload_n hx hb dX3_ranked_17 rfl (lv_at hl 0 rfl) ?_
    refine va_get (D := D) (ci := 3) (v := .int (gI σ 0 0 1)) (C := RX3) (T := TX3) (N := 20) hx hb hts iwX3_ranked_X3 hown hK.1 hP 0 mw_0 rfl 1 (by decide) (hts _ lkX3_ranked_64) (fun _ h9 => h9) rfl dX3_ranked_18 ?_
    refine lv_icmp_ge (tgt := 123) hx hb dX3_ranked_21 (by decide) (fun c_11 => ?_) (fun c_11 => ?_)
    · have hm := ifp c_11 hm
      refine lv_iconst (v := -1) hx hb dX3_ranked_123 (by decide) ?_
      exact z_i hx hb hr hlocks hm hP hD hS dX3_ranked_124
    · have hm := ifn c_11 hm
      refine lv_aload_n hx hb dX3_ranked_24 rfl (lv_at hl 0 rfl) ?_
      refine lv_iload_n hx hb dX3_ranked_25 rfl (lv_at hl 3 rfl) ?_
      obtain ⟨q_12, hq_12, hm⟩ := ob hm
      refine zc_i (zr_V [.int x3] [] ⟨hx, hb, hml, hown, hts⟩ (ctX3_isEligible l D cy ad σ  x3 q_12 hq_12 _) (cwV 1 hts gX3_ranked_X3_isEligible rfl rfl rfl (by decide +kernel) ⟨Nat.le_of_ble_eq_true rfl, Nat.le_of_ble_eq_true rfl⟩) hK hP hD 0 mw_0 rfl rfl rfl hl.1 rfl (Nat.le_of_ble_eq_true rfl) dX3_ranked_26 ⟨Nat.zero_le _, Nat.zero_le _⟩) hD hS hA (fun H locs hP hD hS => ?_)
      refine lv_if_ne (tgt := 35) hx hb dX3_ranked_29 (by decide) (fun c_13 => ?_) (fun c_13 => ?_)
      · have hm := ifn c_13 hm
        refine lv_iconst (v := 0) hx hb dX3_ranked_35 (by decide) ?_
        refine lv_istore (lv' := [(4, .int (0 : Int32)), (0, .ref (ad 0 0)), (1, .int x1), (2, .int x2), (3, .int x3)]) hx hb dX3_ranked_36 hl (by decide) rfl (fun ls hl => ?_)
        refine lv_iconst (v := 0) hx hb dX3_ranked_38 (by decide) ?_
        refine lv_istore (lv' := [(5, .int (0 : Int32)), (4, .int (0 : Int32)), (0, .ref (ad 0 0)), (1, .int x1), (2, .int x2), (3, .int x3)]) hx hb dX3_ranked_39 hl (by decide) rfl (fun ls hl => ?_)
        exact kX3_ranked_41_ok C q ih FU σ x1 x2 x3 (0 : Int32) (0 : Int32) _ _ hP hD hS _ (lv_sub hl [2, 3, 4, 5, 1, 0] rfl) hm
      · have hm := ifp c_13 hm
        refine lv_goto (tgt := 117) hx hb dX3_ranked_32 (by decide) ?_
        refine lv_iinc (v := (x3 + (1 : Int32))) (lv' := [(3, .int (x3 + (1 : Int32))), (0, .ref (ad 0 0)), (1, .int x1), (2, .int x2)]) hx hb dX3_ranked_117 hl (k := 3) rfl rfl (by decide) rfl (fun ls hl => ?_)
        refine lv_goto (tgt := 16) hx hb dX3_ranked_120 (by decide) ?_
        exact ih σ x1 x2 (x3 + (1 : Int32)) _ _ hP hD hS _ (lv_sub hl [1, 2, 3, 0] rfl) hm
def mX3_ranked (σ : ST) (a1 : Int32) (a2 : Int32) : Option (Int32 × ST) := sv (sI σ 0 0 10 (0 : Int32)) fun σ_14 => (mX3_isRate a1).bind fun q_15 => if q_15 = (0 : Int32) then (some ((-1 : Int32), σ_14)) else (kX3_ranked_16 FU (σ_14, a1, a2, (0 : Int32)))
set_option maxHeartbeats 4000000 in
set_option maxRecDepth 100000 in
theorem ctX3_ranked (l : Launch) (D : va_G) (cy : Nat → ClassId) (ad : Nat → Nat → Nat) (σ : ST) (a1 : Int32) (a2 : Int32) (q : Int32 × ST) (hm : mX3_ranked σ a1 a2 = some q) : zMi l yX3_ranked wsX3_ranked rmX3_ranked D cy [.ref (ad 0 0), .int a1, .int a2] (mw cy ad σ) q.1 (mw cy ad q.2) := by
  intro sz
  refine Met.ofW (cc := cX3_ranked) (maxL := 6) (ret := (some .int)) (by decide) rfl ?_
  intro p e s m args below meth c s₁ B hml hv
  obtain ⟨rfl, hsz, hP, hK, hD0⟩ := hv
  have hx := B.exec
  have hb := B.bytes
  have hr := B.returns
  have hts := atoms_spec (ws := wsX3_ranked) B.pre
  have hown : s.vm.findClass RX3 = some m.cls := findClass_of_methodNamed B.named
  have hlocks := B.notSynchronized
  subst hsz
  have hD := hD0.self (sz := s.heap.size)
  generalize hAe : va_A (mw cy ad σ) s.heap.size = A at hD ⊢
  have hA : ∀ q : Nat, s.heap.size ≤ q → A q := fun q h => by rw [← hAe]; exact Or.inr h
  have hS : va_S A s.heap s.heap [] := va_S.rf
  have C : Cx p s m _ meth c cX3_ranked 6 (some .int) RX3 wsX3_ranked D cy A := ⟨hx, hb, hml, hown, hts, hr, hlocks, hK, hA⟩
  have hl := lv_entry ([.ref (ad 0 0), .int a1, .int a2]) (n := 6) (Nat.le_of_ble_eq_true rfl)
  rw [lg_entry_eq]
  generalize (lg_sl ([.ref (ad 0 0), .int a1, .int a2]) ++ List.replicate (6 - (lg_sl ([.ref (ad 0 0), .int a1, .int a2])).length) Slot.unset).toArray = ls at hl ⊢
  have hl : lv_has ls 6 [(0, .ref (ad 0 0)), (1, .int a1), (2, .int a2)] := hl
  unfold mX3_ranked at hm
  refine lv_aload_n hx hb dX3_ranked_0 rfl (lv_at hl 0 rfl) ?_
  refine lv_iconst (v := 0) hx hb dX3_ranked_1 (by decide) ?_
  refine va_put (D := D) (ci := 3) (v := .int (0 : Int32)) (ty := .int) (C := RX3) (T := TX3) (N := 20) hx hb hts iwX3_ranked_X3 tyX3 tyX3_ok nmX3 hown hK.1 hP hD hS 0 mw_0 rfl 10 (by decide) (hts _ lkX3_ranked_61) (fun _ h9 => h9) rfl (by decide +kernel) rfl rfl (Nat.le_of_ble_eq_true rfl) dX3_ranked_2 (fun H locs hP hD hS => ?_)
  have hP := eP (mw_s0 (σ := σ) (j := 10) (v := (0 : Int32)) (by rfl)) hP
  have hD := eD (mw_s0 (σ := σ) (j := 10) (v := (0 : Int32)) (by rfl)) hD
  obtain ⟨σ_14, e_14, hm⟩ := sv_some hm
  have hP : va_P D vwCl (mw cy ad σ_14) H := by rw [e_14]; exact hP
  have hD : va_D A (mw cy ad σ_14) := by rw [e_14]; exact hD
  refine lv_iload_n hx hb dX3_ranked_5 rfl (lv_at hl 1 rfl) ?_
  obtain ⟨q_15, hq_15, hm⟩ := ob hm
  refine zc_i (zr_S [.int a1] [] ⟨hx, hb, hml, hown, hts⟩ (ctX3_isRate l D cy (mw cy ad σ_14)  a1 q_15 hq_15 _) (va_cwS 1 hts gX3_ranked_X3_isRate rfl rfl rfl (by decide +kernel) ⟨Nat.le_of_ble_eq_true rfl, Nat.le_of_ble_eq_true rfl⟩) hK hP hD rfl hl.1 rfl (Nat.le_of_ble_eq_true rfl) dX3_ranked_6 ⟨Nat.zero_le _, Nat.zero_le _⟩) hD hS hA (fun H locs hP hD hS => ?_)
  refine lv_if_ne (tgt := 14) hx hb dX3_ranked_9 (by decide) (fun c_16 => ?_) (fun c_16 => ?_)
  · have hm := ifn c_16 hm
    refine lv_iconst (v := 0) hx hb dX3_ranked_14 (by decide) ?_
    refine lv_istore_n (lv' := [(3, .int (0 : Int32)), (0, .ref (ad 0 0)), (1, .int a1), (2, .int a2)]) hx hb dX3_ranked_15 rfl hl (by decide) rfl (fun ls hl => ?_)
    exact kX3_ranked_16_ok C q FU σ_14 a1 a2 (0 : Int32) _ _ hP hD hS _ (lv_sub hl [1, 2, 3, 0] rfl) hm
  · have hm := ifp c_16 hm
    refine lv_iconst (v := -1) hx hb dX3_ranked_12 (by decide) ?_
    exact z_i hx hb hr hlocks hm hP hD hS dX3_ranked_13
abbrev rmX3_mark1 : Room := { frames := 8, cells := 0, slots := 0, locals := 185 }
theorem lkX3_mark1_105 : Cond.constantLong RX3 105 (10000) ∈ wsX3_mark1 := by decide +kernel
def mX3_mark1 (σ : ST) (a1 : Int32) : Option (Int64) := (mX3_cheapest1 σ a1).bind fun q_1 => (mX3_price1 σ q_1 a1).bind fun q_2 => (mX3_factor σ q_1).bind fun q_3 => gd (nzl q_3) (some ((q_2 * (10000 : Int64)) / q_3))
set_option maxHeartbeats 4000000 in
set_option maxRecDepth 100000 in
theorem ctX3_mark1 (l : Launch) (D : va_G) (cy : Nat → ClassId) (ad : Nat → Nat → Nat) (σ : ST) (a1 : Int32) (q : Int64) (hm : mX3_mark1 σ a1 = some q) : zMl l yX3_mark1 wsX3_mark1 rmX3_mark1 D cy [.ref (ad 0 0), .int a1] (mw cy ad σ) q (mw cy ad σ) := by
  intro sz
  refine Met.ofW (cc := cX3_mark1) (maxL := 3) (ret := (some .long)) (by decide) rfl ?_
  intro p e s m args below meth c s₁ B hml hv
  obtain ⟨rfl, hsz, hP, hK, hD0⟩ := hv
  have hx := B.exec
  have hb := B.bytes
  have hr := B.returns
  have hts := atoms_spec (ws := wsX3_mark1) B.pre
  have hown : s.vm.findClass RX3 = some m.cls := findClass_of_methodNamed B.named
  have hlocks := B.notSynchronized
  subst hsz
  have hD := hD0.self (sz := s.heap.size)
  generalize hAe : va_A (mw cy ad σ) s.heap.size = A at hD ⊢
  have hA : ∀ q : Nat, s.heap.size ≤ q → A q := fun q h => by rw [← hAe]; exact Or.inr h
  have hS : va_S A s.heap s.heap [] := va_S.rf
  have C : Cx p s m _ meth c cX3_mark1 3 (some .long) RX3 wsX3_mark1 D cy A := ⟨hx, hb, hml, hown, hts, hr, hlocks, hK, hA⟩
  have hl := lv_entry ([.ref (ad 0 0), .int a1]) (n := 3) (Nat.le_of_ble_eq_true rfl)
  rw [lg_entry_eq]
  generalize (lg_sl ([.ref (ad 0 0), .int a1]) ++ List.replicate (3 - (lg_sl ([.ref (ad 0 0), .int a1])).length) Slot.unset).toArray = ls at hl ⊢
  have hl : lv_has ls 3 [(0, .ref (ad 0 0)), (1, .int a1)] := hl
  unfold mX3_mark1 at hm
  refine lv_aload_n hx hb dX3_mark1_0 rfl (lv_at hl 0 rfl) ?_
  refine lv_iload_n hx hb dX3_mark1_1 rfl (lv_at hl 1 rfl) ?_
  obtain ⟨q_1, hq_1, hm⟩ := ob hm
  refine zc_i (zr_V [.int a1] [] ⟨hx, hb, hml, hown, hts⟩ (ctX3_cheapest1 l D cy ad σ  a1 q_1 hq_1 _) (cwV 1 hts gX3_mark1_X3_cheapest1 rfl rfl rfl (by decide +kernel) ⟨Nat.le_of_ble_eq_true rfl, Nat.le_of_ble_eq_true rfl⟩) hK hP hD 0 mw_0 rfl rfl rfl hl.1 rfl (Nat.le_of_ble_eq_true rfl) dX3_mark1_2 ⟨Nat.zero_le _, Nat.zero_le _⟩) hD hS hA (fun H locs hP hD hS => ?_)
  refine lv_istore_n (lv' := [(2, .int q_1), (0, .ref (ad 0 0)), (1, .int a1)]) hx hb dX3_mark1_5 rfl hl (by decide) rfl (fun ls hl => ?_)
  refine lv_aload_n hx hb dX3_mark1_6 rfl (lv_at hl 1 rfl) ?_
  refine lv_iload_n hx hb dX3_mark1_7 rfl (lv_at hl 0 rfl) ?_
  refine lv_iload_n hx hb dX3_mark1_8 rfl (lv_at hl 2 rfl) ?_
  obtain ⟨q_2, hq_2, hm⟩ := ob hm
  refine zc_l (zr_V [.int q_1, .int a1] [] ⟨hx, hb, hml, hown, hts⟩ (ctX3_price1 l D cy ad σ  q_1 a1 q_2 hq_2 _) (cwV 2 hts gX3_mark1_X3_price1 rfl rfl rfl (by decide +kernel) ⟨Nat.le_of_ble_eq_true rfl, Nat.le_of_ble_eq_true rfl⟩) hK hP hD 0 mw_0 rfl rfl rfl hl.1 rfl (Nat.le_of_ble_eq_true rfl) dX3_mark1_9 ⟨Nat.zero_le _, Nat.zero_le _⟩) hD hS hA (fun H locs hP hD hS => ?_)
  refine lv_ldc2 (v := 10000) hx hb hown (hts _ lkX3_mark1_105) dX3_mark1_12 ?_
  refine lv_lmul hx hb dX3_mark1_15 ?_
  refine lv_aload_n hx hb dX3_mark1_16 rfl (lv_at hl 1 rfl) ?_
  refine lv_iload_n hx hb dX3_mark1_17 rfl (lv_at hl 0 rfl) ?_
  obtain ⟨q_3, hq_3, hm⟩ := ob hm
  refine zc_l (zr_V [.int q_1] [.long (q_2 * (10000 : Int64))] ⟨hx, hb, hml, hown, hts⟩ (ctX3_factor l D cy ad σ  q_1 q_3 hq_3 _) (cwV 1 hts gX3_mark1_X3_factor rfl rfl rfl (by decide +kernel) ⟨Nat.le_of_ble_eq_true rfl, Nat.le_of_ble_eq_true rfl⟩) hK hP hD 0 mw_0 rfl rfl rfl hl.1 rfl (Nat.le_of_ble_eq_true rfl) dX3_mark1_18 ⟨Nat.zero_le _, Nat.zero_le _⟩) hD hS hA (fun H locs hP hD hS => ?_)
  obtain ⟨h_4, hm⟩ := gd_some hm
  refine lv_ldiv hx hb dX3_mark1_21 (nzl_n h_4) ?_
  exact z_pl hx hb hr hlocks hm hP hD hS dX3_mark1_22
abbrev rmX3_mark : Room := { frames := 9, cells := 0, slots := 0, locals := 207 }
theorem lkX3_mark_61 : Cond.fieldLink RX3 61 "DeliveryBasketModel" "thrown" "I" ∈ wsX3_mark := by decide +kernel
theorem iwX3_mark_X3 : ∀ w ∈ wsX30, w ∈ wsX3_mark := fun _ h => List.mem_cons_of_mem _ (List.mem_append_right _ h)
theorem lkX3_mark_162 : Cond.constantLong RX3 162 (-1) ∈ wsX3_mark := by decide +kernel
def mX3_mark (σ : ST) (a1 : Int32) : Option (Int64 × ST) := sv (sI σ 0 0 10 (0 : Int32)) fun σ_1 => (mX3_isRate a1).bind fun q_2 => if q_2 = (0 : Int32) then (some ((-1 : Int64), σ_1)) else ((mX3_isAny σ_1).bind fun q_4 => if q_4 = (0 : Int32) then (some ((-1 : Int64), σ_1)) else ((mX3_mark1 σ_1 a1).bind fun q_6 => some (q_6, σ_1)))
set_option maxHeartbeats 4000000 in
set_option maxRecDepth 100000 in
theorem ctX3_mark (l : Launch) (D : va_G) (cy : Nat → ClassId) (ad : Nat → Nat → Nat) (σ : ST) (a1 : Int32) (q : Int64 × ST) (hm : mX3_mark σ a1 = some q) : zMl l yX3_mark wsX3_mark rmX3_mark D cy [.ref (ad 0 0), .int a1] (mw cy ad σ) q.1 (mw cy ad q.2) := by
  intro sz
  refine Met.ofW (cc := cX3_mark) (maxL := 2) (ret := (some .long)) (by decide) rfl ?_
  intro p e s m args below meth c s₁ B hml hv
  obtain ⟨rfl, hsz, hP, hK, hD0⟩ := hv
  have hx := B.exec
  have hb := B.bytes
  have hr := B.returns
  have hts := atoms_spec (ws := wsX3_mark) B.pre
  have hown : s.vm.findClass RX3 = some m.cls := findClass_of_methodNamed B.named
  have hlocks := B.notSynchronized
  subst hsz
  have hD := hD0.self (sz := s.heap.size)
  generalize hAe : va_A (mw cy ad σ) s.heap.size = A at hD ⊢
  have hA : ∀ q : Nat, s.heap.size ≤ q → A q := fun q h => by rw [← hAe]; exact Or.inr h
  have hS : va_S A s.heap s.heap [] := va_S.rf
  have C : Cx p s m _ meth c cX3_mark 2 (some .long) RX3 wsX3_mark D cy A := ⟨hx, hb, hml, hown, hts, hr, hlocks, hK, hA⟩
  have hl := lv_entry ([.ref (ad 0 0), .int a1]) (n := 2) (Nat.le_of_ble_eq_true rfl)
  rw [lg_entry_eq]
  generalize (lg_sl ([.ref (ad 0 0), .int a1]) ++ List.replicate (2 - (lg_sl ([.ref (ad 0 0), .int a1])).length) Slot.unset).toArray = ls at hl ⊢
  have hl : lv_has ls 2 [(0, .ref (ad 0 0)), (1, .int a1)] := hl
  unfold mX3_mark at hm
  refine lv_aload_n hx hb dX3_mark_0 rfl (lv_at hl 0 rfl) ?_
  refine lv_iconst (v := 0) hx hb dX3_mark_1 (by decide) ?_
  refine va_put (D := D) (ci := 3) (v := .int (0 : Int32)) (ty := .int) (C := RX3) (T := TX3) (N := 20) hx hb hts iwX3_mark_X3 tyX3 tyX3_ok nmX3 hown hK.1 hP hD hS 0 mw_0 rfl 10 (by decide) (hts _ lkX3_mark_61) (fun _ h9 => h9) rfl (by decide +kernel) rfl rfl (Nat.le_of_ble_eq_true rfl) dX3_mark_2 (fun H locs hP hD hS => ?_)
  have hP := eP (mw_s0 (σ := σ) (j := 10) (v := (0 : Int32)) (by rfl)) hP
  have hD := eD (mw_s0 (σ := σ) (j := 10) (v := (0 : Int32)) (by rfl)) hD
  obtain ⟨σ_1, e_1, hm⟩ := sv_some hm
  have hP : va_P D vwCl (mw cy ad σ_1) H := by rw [e_1]; exact hP
  have hD : va_D A (mw cy ad σ_1) := by rw [e_1]; exact hD
  refine lv_iload_n hx hb dX3_mark_5 rfl (lv_at hl 1 rfl) ?_
  obtain ⟨q_2, hq_2, hm⟩ := ob hm
  refine zc_i (zr_S [.int a1] [] ⟨hx, hb, hml, hown, hts⟩ (ctX3_isRate l D cy (mw cy ad σ_1)  a1 q_2 hq_2 _) (va_cwS 1 hts gX3_mark_X3_isRate rfl rfl rfl (by decide +kernel) ⟨Nat.le_of_ble_eq_true rfl, Nat.le_of_ble_eq_true rfl⟩) hK hP hD rfl hl.1 rfl (Nat.le_of_ble_eq_true rfl) dX3_mark_6 ⟨Nat.zero_le _, Nat.zero_le _⟩) hD hS hA (fun H locs hP hD hS => ?_)
  refine lv_if_eq (tgt := 27) hx hb dX3_mark_9 (by decide) (fun c_3 => ?_) (fun c_3 => ?_)
  · have hm := ifp c_3 hm
    refine lv_ldc2 (v := -1) hx hb hown (hts _ lkX3_mark_162) dX3_mark_27 ?_
    exact z_l hx hb hr hlocks hm hP hD hS dX3_mark_30
  · have hm := ifn c_3 hm
    refine lv_aload_n hx hb dX3_mark_12 rfl (lv_at hl 0 rfl) ?_
    obtain ⟨q_4, hq_4, hm⟩ := ob hm
    refine zc_i (zr_V [] [] ⟨hx, hb, hml, hown, hts⟩ (ctX3_isAny l D cy ad σ_1   q_4 hq_4 _) (cwV 0 hts gX3_mark_X3_isAny rfl rfl rfl (by decide +kernel) ⟨Nat.le_of_ble_eq_true rfl, Nat.le_of_ble_eq_true rfl⟩) hK hP hD 0 mw_0 rfl rfl rfl hl.1 rfl (Nat.le_of_ble_eq_true rfl) dX3_mark_13 ⟨Nat.zero_le _, Nat.zero_le _⟩) hD hS hA (fun H locs hP hD hS => ?_)
    refine lv_if_eq (tgt := 27) hx hb dX3_mark_16 (by decide) (fun c_5 => ?_) (fun c_5 => ?_)
    · have hm := ifp c_5 hm
      refine lv_ldc2 (v := -1) hx hb hown (hts _ lkX3_mark_162) dX3_mark_27 ?_
      exact z_l hx hb hr hlocks hm hP hD hS dX3_mark_30
    · have hm := ifn c_5 hm
      refine lv_aload_n hx hb dX3_mark_19 rfl (lv_at hl 0 rfl) ?_
      refine lv_iload_n hx hb dX3_mark_20 rfl (lv_at hl 1 rfl) ?_
      obtain ⟨q_6, hq_6, hm⟩ := ob hm
      refine zc_l (zr_V [.int a1] [] ⟨hx, hb, hml, hown, hts⟩ (ctX3_mark1 l D cy ad σ_1  a1 q_6 hq_6 _) (cwV 1 hts gX3_mark_X3_mark1 rfl rfl rfl (by decide +kernel) ⟨Nat.le_of_ble_eq_true rfl, Nat.le_of_ble_eq_true rfl⟩) hK hP hD 0 mw_0 rfl rfl rfl hl.1 rfl (Nat.le_of_ble_eq_true rfl) dX3_mark_21 ⟨Nat.zero_le _, Nat.zero_le _⟩) hD hS hA (fun H locs hP hD hS => ?_)
      refine lv_goto (tgt := 30) hx hb dX3_mark_24 (by decide) ?_
      exact z_l hx hb hr hlocks hm hP hD hS dX3_mark_30
abbrev rmX3_invoice : Room := { frames := 6, cells := 0, slots := 0, locals := 137 }
theorem lkX3_invoice_105 : Cond.constantLong RX3 105 (10000) ∈ wsX3_invoice := by decide +kernel
def mX3_invoice (σ : ST) (a1 : Int32) (a2 : Int64) : Option (Int64) := (mX3_factor σ a1).bind fun q_1 => some ((a2 * q_1) / (10000 : Int64))
set_option maxHeartbeats 4000000 in
set_option maxRecDepth 100000 in
theorem ctX3_invoice (l : Launch) (D : va_G) (cy : Nat → ClassId) (ad : Nat → Nat → Nat) (σ : ST) (a1 : Int32) (a2 : Int64) (q : Int64) (hm : mX3_invoice σ a1 a2 = some q) : zMl l yX3_invoice wsX3_invoice rmX3_invoice D cy [.ref (ad 0 0), .int a1, .long a2] (mw cy ad σ) q (mw cy ad σ) := by
  intro sz
  refine Met.ofW (cc := cX3_invoice) (maxL := 4) (ret := (some .long)) (by decide) rfl ?_
  intro p e s m args below meth c s₁ B hml hv
  obtain ⟨rfl, hsz, hP, hK, hD0⟩ := hv
  have hx := B.exec
  have hb := B.bytes
  have hr := B.returns
  have hts := atoms_spec (ws := wsX3_invoice) B.pre
  have hown : s.vm.findClass RX3 = some m.cls := findClass_of_methodNamed B.named
  have hlocks := B.notSynchronized
  subst hsz
  have hD := hD0.self (sz := s.heap.size)
  generalize hAe : va_A (mw cy ad σ) s.heap.size = A at hD ⊢
  have hA : ∀ q : Nat, s.heap.size ≤ q → A q := fun q h => by rw [← hAe]; exact Or.inr h
  have hS : va_S A s.heap s.heap [] := va_S.rf
  have C : Cx p s m _ meth c cX3_invoice 4 (some .long) RX3 wsX3_invoice D cy A := ⟨hx, hb, hml, hown, hts, hr, hlocks, hK, hA⟩
  have hl := lv_entry ([.ref (ad 0 0), .int a1, .long a2]) (n := 4) (Nat.le_of_ble_eq_true rfl)
  rw [lg_entry_eq]
  generalize (lg_sl ([.ref (ad 0 0), .int a1, .long a2]) ++ List.replicate (4 - (lg_sl ([.ref (ad 0 0), .int a1, .long a2])).length) Slot.unset).toArray = ls at hl ⊢
  have hl : lv_has ls 4 [(0, .ref (ad 0 0)), (1, .int a1), (2, .long a2)] := hl
  unfold mX3_invoice at hm
  refine lv_lload_n hx hb dX3_invoice_0 rfl (lv_at hl 2 rfl) ?_
  refine lv_aload_n hx hb dX3_invoice_1 rfl (lv_at hl 0 rfl) ?_
  refine lv_iload_n hx hb dX3_invoice_2 rfl (lv_at hl 1 rfl) ?_
  obtain ⟨q_1, hq_1, hm⟩ := ob hm
  refine zc_l (zr_V [.int a1] [.long a2] ⟨hx, hb, hml, hown, hts⟩ (ctX3_factor l D cy ad σ  a1 q_1 hq_1 _) (cwV 1 hts gX3_invoice_X3_factor rfl rfl rfl (by decide +kernel) ⟨Nat.le_of_ble_eq_true rfl, Nat.le_of_ble_eq_true rfl⟩) hK hP hD 0 mw_0 rfl rfl rfl hl.1 rfl (Nat.le_of_ble_eq_true rfl) dX3_invoice_3 ⟨Nat.zero_le _, Nat.zero_le _⟩) hD hS hA (fun H locs hP hD hS => ?_)
  refine lv_lmul hx hb dX3_invoice_6 ?_
  refine lv_ldc2 (v := 10000) hx hb hown (hts _ lkX3_invoice_105) dX3_invoice_7 ?_
  refine lv_ldiv hx hb dX3_invoice_10 (by decide) ?_
  exact z_pl hx hb hr hlocks hm hP hD hS dX3_invoice_11
abbrev rmX3_gap : Room := { frames := 9, cells := 0, slots := 0, locals := 207 }
theorem lkX3_gap_61 : Cond.fieldLink RX3 61 "DeliveryBasketModel" "thrown" "I" ∈ wsX3_gap := by decide +kernel
theorem iwX3_gap_X3 : ∀ w ∈ wsX30, w ∈ wsX3_gap := fun _ h => List.mem_cons_of_mem _ (List.mem_append_right _ h)
def mX3_gap (σ : ST) (a1 : Int32) (a2 : Int32) : Option (Int64 × ST) := sv (sI σ 0 0 10 (0 : Int32)) fun σ_1 => (mX3_isBond σ_1 a1).bind fun q_2 => if q_2 = (0 : Int32) then ((mX3_refuse σ_1).bind fun q_4 => some ((Int32.toInt64 q_4.1), q_4.2)) else ((mX3_isEligible σ_1 a1).bind fun q_5 => if q_5 = (0 : Int32) then ((mX3_refuse σ_1).bind fun q_7 => some ((Int32.toInt64 q_7.1), q_7.2)) else ((mX3_isRate a2).bind fun q_8 => if q_8 = (0 : Int32) then ((mX3_refuse σ_1).bind fun q_13 => some ((Int32.toInt64 q_13.1), q_13.2)) else ((mX3_price1 σ_1 a1 a2).bind fun q_10 => (mX3_mark1 σ_1 a2).bind fun q_11 => (mX3_invoice σ_1 a1 q_11).bind fun q_12 => some ((q_10 - q_12), σ_1))))
set_option maxHeartbeats 4000000 in
set_option maxRecDepth 100000 in
theorem ctX3_gap (l : Launch) (D : va_G) (cy : Nat → ClassId) (ad : Nat → Nat → Nat) (σ : ST) (a1 : Int32) (a2 : Int32) (q : Int64 × ST) (hm : mX3_gap σ a1 a2 = some q) : zMl l yX3_gap wsX3_gap rmX3_gap D cy [.ref (ad 0 0), .int a1, .int a2] (mw cy ad σ) q.1 (mw cy ad q.2) := by
  intro sz
  refine Met.ofW (cc := cX3_gap) (maxL := 3) (ret := (some .long)) (by decide) rfl ?_
  intro p e s m args below meth c s₁ B hml hv
  obtain ⟨rfl, hsz, hP, hK, hD0⟩ := hv
  have hx := B.exec
  have hb := B.bytes
  have hr := B.returns
  have hts := atoms_spec (ws := wsX3_gap) B.pre
  have hown : s.vm.findClass RX3 = some m.cls := findClass_of_methodNamed B.named
  have hlocks := B.notSynchronized
  subst hsz
  have hD := hD0.self (sz := s.heap.size)
  generalize hAe : va_A (mw cy ad σ) s.heap.size = A at hD ⊢
  have hA : ∀ q : Nat, s.heap.size ≤ q → A q := fun q h => by rw [← hAe]; exact Or.inr h
  have hS : va_S A s.heap s.heap [] := va_S.rf
  have C : Cx p s m _ meth c cX3_gap 3 (some .long) RX3 wsX3_gap D cy A := ⟨hx, hb, hml, hown, hts, hr, hlocks, hK, hA⟩
  have hl := lv_entry ([.ref (ad 0 0), .int a1, .int a2]) (n := 3) (Nat.le_of_ble_eq_true rfl)
  rw [lg_entry_eq]
  generalize (lg_sl ([.ref (ad 0 0), .int a1, .int a2]) ++ List.replicate (3 - (lg_sl ([.ref (ad 0 0), .int a1, .int a2])).length) Slot.unset).toArray = ls at hl ⊢
  have hl : lv_has ls 3 [(0, .ref (ad 0 0)), (1, .int a1), (2, .int a2)] := hl
  unfold mX3_gap at hm
  refine lv_aload_n hx hb dX3_gap_0 rfl (lv_at hl 0 rfl) ?_
  refine lv_iconst (v := 0) hx hb dX3_gap_1 (by decide) ?_
  refine va_put (D := D) (ci := 3) (v := .int (0 : Int32)) (ty := .int) (C := RX3) (T := TX3) (N := 20) hx hb hts iwX3_gap_X3 tyX3 tyX3_ok nmX3 hown hK.1 hP hD hS 0 mw_0 rfl 10 (by decide) (hts _ lkX3_gap_61) (fun _ h9 => h9) rfl (by decide +kernel) rfl rfl (Nat.le_of_ble_eq_true rfl) dX3_gap_2 (fun H locs hP hD hS => ?_)
  have hP := eP (mw_s0 (σ := σ) (j := 10) (v := (0 : Int32)) (by rfl)) hP
  have hD := eD (mw_s0 (σ := σ) (j := 10) (v := (0 : Int32)) (by rfl)) hD
  obtain ⟨σ_1, e_1, hm⟩ := sv_some hm
  have hP : va_P D vwCl (mw cy ad σ_1) H := by rw [e_1]; exact hP
  have hD : va_D A (mw cy ad σ_1) := by rw [e_1]; exact hD
  refine lv_aload_n hx hb dX3_gap_5 rfl (lv_at hl 0 rfl) ?_
  refine lv_iload_n hx hb dX3_gap_6 rfl (lv_at hl 1 rfl) ?_
  obtain ⟨q_2, hq_2, hm⟩ := ob hm
  refine zc_i (zr_V [.int a1] [] ⟨hx, hb, hml, hown, hts⟩ (ctX3_isBond l D cy ad σ_1  a1 q_2 hq_2 _) (cwV 1 hts gX3_gap_X3_isBond rfl rfl rfl (by decide +kernel) ⟨Nat.le_of_ble_eq_true rfl, Nat.le_of_ble_eq_true rfl⟩) hK hP hD 0 mw_0 rfl rfl rfl hl.1 rfl (Nat.le_of_ble_eq_true rfl) dX3_gap_7 ⟨Nat.zero_le _, Nat.zero_le _⟩) hD hS hA (fun H locs hP hD hS => ?_)
  refine lv_if_eq (tgt := 28) hx hb dX3_gap_10 (by decide) (fun c_3 => ?_) (fun c_3 => ?_)
  · have hm := ifp c_3 hm
    refine lv_aload_n hx hb dX3_gap_28 rfl (lv_at hl 0 rfl) ?_
    obtain ⟨q_4, hq_4, hm⟩ := ob hm
    refine zc_i (zr_V [] [] ⟨hx, hb, hml, hown, hts⟩ (ctX3_refuse l D cy ad σ_1   q_4 hq_4 _) (cwV 0 hts gX3_gap_X3_refuse rfl rfl rfl (by decide +kernel) ⟨Nat.le_of_ble_eq_true rfl, Nat.le_of_ble_eq_true rfl⟩) hK hP hD 0 mw_0 rfl rfl rfl hl.1 rfl (Nat.le_of_ble_eq_true rfl) dX3_gap_29 ⟨Nat.zero_le _, Nat.zero_le _⟩) hD hS hA (fun H locs hP hD hS => ?_)
    refine lv_i2l hx hb dX3_gap_32 rfl ?_
    exact z_l hx hb hr hlocks hm hP hD hS dX3_gap_33
  · have hm := ifn c_3 hm
    refine lv_aload_n hx hb dX3_gap_13 rfl (lv_at hl 0 rfl) ?_
    refine lv_iload_n hx hb dX3_gap_14 rfl (lv_at hl 1 rfl) ?_
    obtain ⟨q_5, hq_5, hm⟩ := ob hm
    refine zc_i (zr_V [.int a1] [] ⟨hx, hb, hml, hown, hts⟩ (ctX3_isEligible l D cy ad σ_1  a1 q_5 hq_5 _) (cwV 1 hts gX3_gap_X3_isEligible rfl rfl rfl (by decide +kernel) ⟨Nat.le_of_ble_eq_true rfl, Nat.le_of_ble_eq_true rfl⟩) hK hP hD 0 mw_0 rfl rfl rfl hl.1 rfl (Nat.le_of_ble_eq_true rfl) dX3_gap_15 ⟨Nat.zero_le _, Nat.zero_le _⟩) hD hS hA (fun H locs hP hD hS => ?_)
    refine lv_if_eq (tgt := 28) hx hb dX3_gap_18 (by decide) (fun c_6 => ?_) (fun c_6 => ?_)
    · have hm := ifp c_6 hm
      refine lv_aload_n hx hb dX3_gap_28 rfl (lv_at hl 0 rfl) ?_
      obtain ⟨q_7, hq_7, hm⟩ := ob hm
      refine zc_i (zr_V [] [] ⟨hx, hb, hml, hown, hts⟩ (ctX3_refuse l D cy ad σ_1   q_7 hq_7 _) (cwV 0 hts gX3_gap_X3_refuse rfl rfl rfl (by decide +kernel) ⟨Nat.le_of_ble_eq_true rfl, Nat.le_of_ble_eq_true rfl⟩) hK hP hD 0 mw_0 rfl rfl rfl hl.1 rfl (Nat.le_of_ble_eq_true rfl) dX3_gap_29 ⟨Nat.zero_le _, Nat.zero_le _⟩) hD hS hA (fun H locs hP hD hS => ?_)
      refine lv_i2l hx hb dX3_gap_32 rfl ?_
      exact z_l hx hb hr hlocks hm hP hD hS dX3_gap_33
    · have hm := ifn c_6 hm
      refine lv_iload_n hx hb dX3_gap_21 rfl (lv_at hl 2 rfl) ?_
      obtain ⟨q_8, hq_8, hm⟩ := ob hm
      refine zc_i (zr_S [.int a2] [] ⟨hx, hb, hml, hown, hts⟩ (ctX3_isRate l D cy (mw cy ad σ_1)  a2 q_8 hq_8 _) (va_cwS 1 hts gX3_gap_X3_isRate rfl rfl rfl (by decide +kernel) ⟨Nat.le_of_ble_eq_true rfl, Nat.le_of_ble_eq_true rfl⟩) hK hP hD rfl hl.1 rfl (Nat.le_of_ble_eq_true rfl) dX3_gap_22 ⟨Nat.zero_le _, Nat.zero_le _⟩) hD hS hA (fun H locs hP hD hS => ?_)
      refine lv_if_ne (tgt := 34) hx hb dX3_gap_25 (by decide) (fun c_9 => ?_) (fun c_9 => ?_)
      · have hm := ifn c_9 hm
        refine lv_aload_n hx hb dX3_gap_34 rfl (lv_at hl 0 rfl) ?_
        refine lv_iload_n hx hb dX3_gap_35 rfl (lv_at hl 1 rfl) ?_
        refine lv_iload_n hx hb dX3_gap_36 rfl (lv_at hl 2 rfl) ?_
        obtain ⟨q_10, hq_10, hm⟩ := ob hm
        refine zc_l (zr_V [.int a1, .int a2] [] ⟨hx, hb, hml, hown, hts⟩ (ctX3_price1 l D cy ad σ_1  a1 a2 q_10 hq_10 _) (cwV 2 hts gX3_gap_X3_price1 rfl rfl rfl (by decide +kernel) ⟨Nat.le_of_ble_eq_true rfl, Nat.le_of_ble_eq_true rfl⟩) hK hP hD 0 mw_0 rfl rfl rfl hl.1 rfl (Nat.le_of_ble_eq_true rfl) dX3_gap_37 ⟨Nat.zero_le _, Nat.zero_le _⟩) hD hS hA (fun H locs hP hD hS => ?_)
        refine lv_aload_n hx hb dX3_gap_40 rfl (lv_at hl 0 rfl) ?_
        refine lv_iload_n hx hb dX3_gap_41 rfl (lv_at hl 1 rfl) ?_
        refine lv_aload_n hx hb dX3_gap_42 rfl (lv_at hl 0 rfl) ?_
        refine lv_iload_n hx hb dX3_gap_43 rfl (lv_at hl 2 rfl) ?_
        obtain ⟨q_11, hq_11, hm⟩ := ob hm
        refine zc_l (zr_V [.int a2] [.int a1, .ref (ad 0 0), .long q_10] ⟨hx, hb, hml, hown, hts⟩ (ctX3_mark1 l D cy ad σ_1  a2 q_11 hq_11 _) (cwV 1 hts gX3_gap_X3_mark1 rfl rfl rfl (by decide +kernel) ⟨Nat.le_of_ble_eq_true rfl, Nat.le_of_ble_eq_true rfl⟩) hK hP hD 0 mw_0 rfl rfl rfl hl.1 rfl (Nat.le_of_ble_eq_true rfl) dX3_gap_44 ⟨Nat.zero_le _, Nat.zero_le _⟩) hD hS hA (fun H locs hP hD hS => ?_)
        obtain ⟨q_12, hq_12, hm⟩ := ob hm
        refine zc_l (zr_V [.int a1, .long q_11] [.long q_10] ⟨hx, hb, hml, hown, hts⟩ (ctX3_invoice l D cy ad σ_1  a1 q_11 q_12 hq_12 _) (cwV 2 hts gX3_gap_X3_invoice rfl rfl rfl (by decide +kernel) ⟨Nat.le_of_ble_eq_true rfl, Nat.le_of_ble_eq_true rfl⟩) hK hP hD 0 mw_0 rfl rfl rfl hl.1 rfl (Nat.le_of_ble_eq_true rfl) dX3_gap_47 ⟨Nat.zero_le _, Nat.zero_le _⟩) hD hS hA (fun H locs hP hD hS => ?_)
        refine lv_lsub hx hb dX3_gap_50 ?_
        exact z_l hx hb hr hlocks hm hP hD hS dX3_gap_51
      · have hm := ifp c_9 hm
        refine lv_aload_n hx hb dX3_gap_28 rfl (lv_at hl 0 rfl) ?_
        obtain ⟨q_13, hq_13, hm⟩ := ob hm
        refine zc_i (zr_V [] [] ⟨hx, hb, hml, hown, hts⟩ (ctX3_refuse l D cy ad σ_1   q_13 hq_13 _) (cwV 0 hts gX3_gap_X3_refuse rfl rfl rfl (by decide +kernel) ⟨Nat.le_of_ble_eq_true rfl, Nat.le_of_ble_eq_true rfl⟩) hK hP hD 0 mw_0 rfl rfl rfl hl.1 rfl (Nat.le_of_ble_eq_true rfl) dX3_gap_29 ⟨Nat.zero_le _, Nat.zero_le _⟩) hD hS hA (fun H locs hP hD hS => ?_)
        refine lv_i2l hx hb dX3_gap_32 rfl ?_
        exact z_l hx hb hr hlocks hm hP hD hS dX3_gap_33
abbrev rmX3_switches : Room := { frames := 9, cells := 0, slots := 0, locals := 200 }
theorem lkX3_switches_61 : Cond.fieldLink RX3 61 "DeliveryBasketModel" "thrown" "I" ∈ wsX3_switches := by decide +kernel
theorem iwX3_switches_X3 : ∀ w ∈ wsX30, w ∈ wsX3_switches := fun _ h => List.mem_cons_of_mem _ (List.mem_append_right _ h)
def bkX3_switches_46  (rec : ST × Int32 × Int32 × Int32 × Int32 → Option (Int32 × ST)) (σ : ST) (x2 : Int32) (x3 : Int32) (x4 : Int32) (x5 : Int32) : Option (Int32 × ST) := if x2 < x5 then (if x3 = (-1 : Int32) then (some (x4, σ)) else (some ((-1 : Int32), σ))) else ((mX3_cheapest1 σ x5).bind fun q_3 => (mX3_cheapest1 σ (x5 - (1 : Int32))).bind fun q_4 => if q_3 = q_4 then (rec (σ, x2, x3, x4, (x5 + (1 : Int32)))) else (if x4 = x3 then (some (x5, σ)) else (rec (σ, x2, x3, (x4 + (1 : Int32)), (x5 + (1 : Int32))))))
def kX3_switches_46  (n : Nat) (a : ST × Int32 × Int32 × Int32 × Int32) : Option (Int32 × ST) := fx (fun rec a => bkX3_switches_46  rec a.1 a.2.1 a.2.2.1 a.2.2.2.1 a.2.2.2.2) n a
set_option maxHeartbeats 4000000 in
set_option maxRecDepth 100000 in
theorem kX3_switches_46_ok {p : Program} {l : Launch} {e : Env} {s : State} {m : MethodId} {args : Array Value} {below : List Frame} {meth : Method} {c : Code} {D : va_G} {cy : Nat → ClassId} {ad : Nat → Nat → Nat} {A : Nat → Prop} (C : Cx p s m args meth c cX3_switches 6 (some .int) RX3 wsX3_switches D cy A) (q : Int32 × ST) : ∀ (n : Nat) (σ : ST) (x2 : Int32) (x3 : Int32) (x4 : Int32) (x5 : Int32), ∀ (H : Heap) (locs : List Loc), va_P D vwCl (mw cy ad σ) H → va_D A (mw cy ad σ) → va_S A s.heap H locs → ∀ ls : Array Slot, lv_has ls 6 [(0, .ref (ad 0 0)), (2, .int x2), (3, .int x3), (4, .int x4), (5, .int x5)] → kX3_switches_46 n (σ, x2, x3, x4, x5) = some q → W p l e rmX3_switches s m args below meth c H locs 0 0 (MQ below (zQi D (mw cy ad q.2) A q.1) args s 0 0 A) (F0 m 46 ls []) := by
  obtain ⟨hx, hb, hml, hown, hts, hr, hlocks, hK, hA⟩ := id C
  intro n
  induction n with
  | zero => intro σ x2 x3 x4 x5 H locs hP hD hS ls hl hm; cases hm
  | succ n ih =>
    intro σ x2 x3 x4 x5 H locs hP hD hS ls hl hm
    have hm : bkX3_switches_46  (kX3_switches_46 n) σ x2 x3 x4 x5 = some q := hm
    unfold bkX3_switches_46 at hm
    refine lv_iload hx hb dX3_switches_46 (lv_at hl 4 rfl) ?_
    refine lv_iload_n hx hb dX3_switches_48 rfl (lv_at hl 1 rfl) ?_
    refine lv_icmp_gt (tgt := 90) hx hb dX3_switches_49 (by decide) (fun c_1 => ?_) (fun c_1 => ?_)
    · have hm := ifp c_1 hm
      refine lv_iload_n hx hb dX3_switches_90 rfl (lv_at hl 2 rfl) ?_
      refine lv_iconst (v := -1) hx hb dX3_switches_91 (by decide) ?_
      refine lv_icmp_ne (tgt := 100) hx hb dX3_switches_92 (by decide) (fun c_2 => ?_) (fun c_2 => ?_)
      · have hm := ifn c_2 hm
        refine lv_iconst (v := -1) hx hb dX3_switches_100 (by decide) ?_
        exact z_i hx hb hr hlocks hm hP hD hS dX3_switches_101
      · have hm := ifp c_2 hm
        refine lv_iload hx hb dX3_switches_95 (lv_at hl 3 rfl) ?_
        refine lv_goto (tgt := 101) hx hb dX3_switches_97 (by decide) ?_
        exact z_i hx hb hr hlocks hm hP hD hS dX3_switches_101
    · have hm := ifn c_1 hm
      refine lv_aload_n hx hb dX3_switches_52 rfl (lv_at hl 0 rfl) ?_
      refine lv_iload hx hb dX3_switches_53 (lv_at hl 4 rfl) ?_
      obtain ⟨q_3, hq_3, hm⟩ := ob hm
      refine zc_i (zr_V [.int x5] [] ⟨hx, hb, hml, hown, hts⟩ (ctX3_cheapest1 l D cy ad σ  x5 q_3 hq_3 _) (cwV 1 hts gX3_switches_X3_cheapest1 rfl rfl rfl (by decide +kernel) ⟨Nat.le_of_ble_eq_true rfl, Nat.le_of_ble_eq_true rfl⟩) hK hP hD 0 mw_0 rfl rfl rfl hl.1 rfl (Nat.le_of_ble_eq_true rfl) dX3_switches_55 ⟨Nat.zero_le _, Nat.zero_le _⟩) hD hS hA (fun H locs hP hD hS => ?_)
      refine lv_aload_n hx hb dX3_switches_58 rfl (lv_at hl 0 rfl) ?_
      refine lv_iload hx hb dX3_switches_59 (lv_at hl 4 rfl) ?_
      refine lv_iconst (v := 1) hx hb dX3_switches_61 (by decide) ?_
      refine lv_isub hx hb dX3_switches_62 ?_
      obtain ⟨q_4, hq_4, hm⟩ := ob hm
      refine zc_i (zr_V [.int (x5 - (1 : Int32))] [.int q_3] ⟨hx, hb, hml, hown, hts⟩ (ctX3_cheapest1 l D cy ad σ  (x5 - (1 : Int32)) q_4 hq_4 _) (cwV 1 hts gX3_switches_X3_cheapest1 rfl rfl rfl (by decide +kernel) ⟨Nat.le_of_ble_eq_true rfl, Nat.le_of_ble_eq_true rfl⟩) hK hP hD 0 mw_0 rfl rfl rfl hl.1 rfl (Nat.le_of_ble_eq_true rfl) dX3_switches_63 ⟨Nat.zero_le _, Nat.zero_le _⟩) hD hS hA (fun H locs hP hD hS => ?_)
      refine lv_icmp_ne (tgt := 72) hx hb dX3_switches_66 (by decide) (fun c_5 => ?_) (fun c_5 => ?_)
      · have hm := ifn c_5 hm
        refine lv_iload hx hb dX3_switches_72 (lv_at hl 3 rfl) ?_
        refine lv_iload_n hx hb dX3_switches_74 rfl (lv_at hl 2 rfl) ?_
        refine lv_icmp_ne (tgt := 81) hx hb dX3_switches_75 (by decide) (fun c_6 => ?_) (fun c_6 => ?_)
        · have hm := ifn c_6 hm
          refine lv_iinc (v := (x4 + (1 : Int32))) (lv' := [(4, .int (x4 + (1 : Int32))), (0, .ref (ad 0 0)), (2, .int x2), (3, .int x3), (5, .int x5)]) hx hb dX3_switches_81 hl (k := 3) rfl rfl (by decide) rfl (fun ls hl => ?_)
          refine lv_iinc (v := (x5 + (1 : Int32))) (lv' := [(5, .int (x5 + (1 : Int32))), (4, .int (x4 + (1 : Int32))), (0, .ref (ad 0 0)), (2, .int x2), (3, .int x3)]) hx hb dX3_switches_84 hl (k := 4) rfl rfl (by decide) rfl (fun ls hl => ?_)
          refine lv_goto (tgt := 46) hx hb dX3_switches_87 (by decide) ?_
          exact ih σ x2 x3 (x4 + (1 : Int32)) (x5 + (1 : Int32)) _ _ hP hD hS _ (lv_sub hl [2, 3, 4, 1, 0] rfl) hm
        · have hm := ifp c_6 hm
          refine lv_iload hx hb dX3_switches_78 (lv_at hl 4 rfl) ?_
          exact z_i hx hb hr hlocks hm hP hD hS dX3_switches_80
      · have hm := ifp c_5 hm
        refine lv_goto (tgt := 84) hx hb dX3_switches_69 (by decide) ?_
        refine lv_iinc (v := (x5 + (1 : Int32))) (lv' := [(5, .int (x5 + (1 : Int32))), (0, .ref (ad 0 0)), (2, .int x2), (3, .int x3), (4, .int x4)]) hx hb dX3_switches_84 hl (k := 4) rfl rfl (by decide) rfl (fun ls hl => ?_)
        refine lv_goto (tgt := 46) hx hb dX3_switches_87 (by decide) ?_
        exact ih σ x2 x3 x4 (x5 + (1 : Int32)) _ _ hP hD hS _ (lv_sub hl [1, 2, 3, 4, 0] rfl) hm
def mX3_switches (σ : ST) (a1 : Int32) (a2 : Int32) (a3 : Int32) : Option (Int32 × ST) := sv (sI σ 0 0 10 (0 : Int32)) fun σ_7 => (mX3_isRate a1).bind fun q_8 => if q_8 = (0 : Int32) then (some ((-1 : Int32), σ_7)) else ((mX3_isRate a2).bind fun q_10 => if q_10 = (0 : Int32) then (some ((-1 : Int32), σ_7)) else (if a2 < a1 then (some ((-1 : Int32), σ_7)) else ((mX3_isAny σ_7).bind fun q_13 => if q_13 = (0 : Int32) then (some ((-1 : Int32), σ_7)) else (if (-1 : Int32) ≤ a3 then (kX3_switches_46 FU (σ_7, a2, a3, (0 : Int32), (a1 + (1 : Int32)))) else (some ((-1 : Int32), σ_7))))))
set_option maxHeartbeats 4000000 in
set_option maxRecDepth 100000 in
theorem ctX3_switches (l : Launch) (D : va_G) (cy : Nat → ClassId) (ad : Nat → Nat → Nat) (σ : ST) (a1 : Int32) (a2 : Int32) (a3 : Int32) (q : Int32 × ST) (hm : mX3_switches σ a1 a2 a3 = some q) : zMi l yX3_switches wsX3_switches rmX3_switches D cy [.ref (ad 0 0), .int a1, .int a2, .int a3] (mw cy ad σ) q.1 (mw cy ad q.2) := by
  intro sz
  refine Met.ofW (cc := cX3_switches) (maxL := 6) (ret := (some .int)) (by decide) rfl ?_
  intro p e s m args below meth c s₁ B hml hv
  obtain ⟨rfl, hsz, hP, hK, hD0⟩ := hv
  have hx := B.exec
  have hb := B.bytes
  have hr := B.returns
  have hts := atoms_spec (ws := wsX3_switches) B.pre
  have hown : s.vm.findClass RX3 = some m.cls := findClass_of_methodNamed B.named
  have hlocks := B.notSynchronized
  subst hsz
  have hD := hD0.self (sz := s.heap.size)
  generalize hAe : va_A (mw cy ad σ) s.heap.size = A at hD ⊢
  have hA : ∀ q : Nat, s.heap.size ≤ q → A q := fun q h => by rw [← hAe]; exact Or.inr h
  have hS : va_S A s.heap s.heap [] := va_S.rf
  have C : Cx p s m _ meth c cX3_switches 6 (some .int) RX3 wsX3_switches D cy A := ⟨hx, hb, hml, hown, hts, hr, hlocks, hK, hA⟩
  have hl := lv_entry ([.ref (ad 0 0), .int a1, .int a2, .int a3]) (n := 6) (Nat.le_of_ble_eq_true rfl)
  rw [lg_entry_eq]
  generalize (lg_sl ([.ref (ad 0 0), .int a1, .int a2, .int a3]) ++ List.replicate (6 - (lg_sl ([.ref (ad 0 0), .int a1, .int a2, .int a3])).length) Slot.unset).toArray = ls at hl ⊢
  have hl : lv_has ls 6 [(0, .ref (ad 0 0)), (1, .int a1), (2, .int a2), (3, .int a3)] := hl
  unfold mX3_switches at hm
  refine lv_aload_n hx hb dX3_switches_0 rfl (lv_at hl 0 rfl) ?_
  refine lv_iconst (v := 0) hx hb dX3_switches_1 (by decide) ?_
  refine va_put (D := D) (ci := 3) (v := .int (0 : Int32)) (ty := .int) (C := RX3) (T := TX3) (N := 20) hx hb hts iwX3_switches_X3 tyX3 tyX3_ok nmX3 hown hK.1 hP hD hS 0 mw_0 rfl 10 (by decide) (hts _ lkX3_switches_61) (fun _ h9 => h9) rfl (by decide +kernel) rfl rfl (Nat.le_of_ble_eq_true rfl) dX3_switches_2 (fun H locs hP hD hS => ?_)
  have hP := eP (mw_s0 (σ := σ) (j := 10) (v := (0 : Int32)) (by rfl)) hP
  have hD := eD (mw_s0 (σ := σ) (j := 10) (v := (0 : Int32)) (by rfl)) hD
  obtain ⟨σ_7, e_7, hm⟩ := sv_some hm
  have hP : va_P D vwCl (mw cy ad σ_7) H := by rw [e_7]; exact hP
  have hD : va_D A (mw cy ad σ_7) := by rw [e_7]; exact hD
  refine lv_iload_n hx hb dX3_switches_5 rfl (lv_at hl 1 rfl) ?_
  obtain ⟨q_8, hq_8, hm⟩ := ob hm
  refine zc_i (zr_S [.int a1] [] ⟨hx, hb, hml, hown, hts⟩ (ctX3_isRate l D cy (mw cy ad σ_7)  a1 q_8 hq_8 _) (va_cwS 1 hts gX3_switches_X3_isRate rfl rfl rfl (by decide +kernel) ⟨Nat.le_of_ble_eq_true rfl, Nat.le_of_ble_eq_true rfl⟩) hK hP hD rfl hl.1 rfl (Nat.le_of_ble_eq_true rfl) dX3_switches_6 ⟨Nat.zero_le _, Nat.zero_le _⟩) hD hS hA (fun H locs hP hD hS => ?_)
  refine lv_if_eq (tgt := 36) hx hb dX3_switches_9 (by decide) (fun c_9 => ?_) (fun c_9 => ?_)
  · have hm := ifp c_9 hm
    refine lv_iconst (v := -1) hx hb dX3_switches_36 (by decide) ?_
    exact z_i hx hb hr hlocks hm hP hD hS dX3_switches_37
  · have hm := ifn c_9 hm
    refine lv_iload_n hx hb dX3_switches_12 rfl (lv_at hl 2 rfl) ?_
    obtain ⟨q_10, hq_10, hm⟩ := ob hm
    refine zc_i (zr_S [.int a2] [] ⟨hx, hb, hml, hown, hts⟩ (ctX3_isRate l D cy (mw cy ad σ_7)  a2 q_10 hq_10 _) (va_cwS 1 hts gX3_switches_X3_isRate rfl rfl rfl (by decide +kernel) ⟨Nat.le_of_ble_eq_true rfl, Nat.le_of_ble_eq_true rfl⟩) hK hP hD rfl hl.1 rfl (Nat.le_of_ble_eq_true rfl) dX3_switches_13 ⟨Nat.zero_le _, Nat.zero_le _⟩) hD hS hA (fun H locs hP hD hS => ?_)
    refine lv_if_eq (tgt := 36) hx hb dX3_switches_16 (by decide) (fun c_11 => ?_) (fun c_11 => ?_)
    · have hm := ifp c_11 hm
      refine lv_iconst (v := -1) hx hb dX3_switches_36 (by decide) ?_
      exact z_i hx hb hr hlocks hm hP hD hS dX3_switches_37
    · have hm := ifn c_11 hm
      refine lv_iload_n hx hb dX3_switches_19 rfl (lv_at hl 1 rfl) ?_
      refine lv_iload_n hx hb dX3_switches_20 rfl (lv_at hl 2 rfl) ?_
      refine lv_icmp_gt (tgt := 36) hx hb dX3_switches_21 (by decide) (fun c_12 => ?_) (fun c_12 => ?_)
      · have hm := ifp c_12 hm
        refine lv_iconst (v := -1) hx hb dX3_switches_36 (by decide) ?_
        exact z_i hx hb hr hlocks hm hP hD hS dX3_switches_37
      · have hm := ifn c_12 hm
        refine lv_aload_n hx hb dX3_switches_24 rfl (lv_at hl 0 rfl) ?_
        obtain ⟨q_13, hq_13, hm⟩ := ob hm
        refine zc_i (zr_V [] [] ⟨hx, hb, hml, hown, hts⟩ (ctX3_isAny l D cy ad σ_7   q_13 hq_13 _) (cwV 0 hts gX3_switches_X3_isAny rfl rfl rfl (by decide +kernel) ⟨Nat.le_of_ble_eq_true rfl, Nat.le_of_ble_eq_true rfl⟩) hK hP hD 0 mw_0 rfl rfl rfl hl.1 rfl (Nat.le_of_ble_eq_true rfl) dX3_switches_25 ⟨Nat.zero_le _, Nat.zero_le _⟩) hD hS hA (fun H locs hP hD hS => ?_)
        refine lv_if_eq (tgt := 36) hx hb dX3_switches_28 (by decide) (fun c_14 => ?_) (fun c_14 => ?_)
        · have hm := ifp c_14 hm
          refine lv_iconst (v := -1) hx hb dX3_switches_36 (by decide) ?_
          exact z_i hx hb hr hlocks hm hP hD hS dX3_switches_37
        · have hm := ifn c_14 hm
          refine lv_iload_n hx hb dX3_switches_31 rfl (lv_at hl 3 rfl) ?_
          refine lv_iconst (v := -1) hx hb dX3_switches_32 (by decide) ?_
          refine lv_icmp_ge (tgt := 38) hx hb dX3_switches_33 (by decide) (fun c_15 => ?_) (fun c_15 => ?_)
          · have hm := ifp c_15 hm
            refine lv_iconst (v := 0) hx hb dX3_switches_38 (by decide) ?_
            refine lv_istore (lv' := [(4, .int (0 : Int32)), (0, .ref (ad 0 0)), (1, .int a1), (2, .int a2), (3, .int a3)]) hx hb dX3_switches_39 hl (by decide) rfl (fun ls hl => ?_)
            refine lv_iload_n hx hb dX3_switches_41 rfl (lv_at hl 2 rfl) ?_
            refine lv_iconst (v := 1) hx hb dX3_switches_42 (by decide) ?_
            refine lv_iadd hx hb dX3_switches_43 ?_
            refine lv_istore (lv' := [(5, .int (a1 + (1 : Int32))), (4, .int (0 : Int32)), (0, .ref (ad 0 0)), (1, .int a1), (2, .int a2), (3, .int a3)]) hx hb dX3_switches_44 hl (by decide) rfl (fun ls hl => ?_)
            exact kX3_switches_46_ok C q FU σ_7 a2 a3 (0 : Int32) (a1 + (1 : Int32)) _ _ hP hD hS _ (lv_sub hl [2, 4, 5, 1, 0] rfl) hm
          · have hm := ifn c_15 hm
            refine lv_iconst (v := -1) hx hb dX3_switches_36 (by decide) ?_
            exact z_i hx hb hr hlocks hm hP hD hS dX3_switches_37
abbrev rmX3_implied : Room := { frames := 9, cells := 0, slots := 0, locals := 207 }
theorem lkX3_implied_61 : Cond.fieldLink RX3 61 "DeliveryBasketModel" "thrown" "I" ∈ wsX3_implied := by decide +kernel
theorem iwX3_implied_X3 : ∀ w ∈ wsX30, w ∈ wsX3_implied := fun _ h => List.mem_cons_of_mem _ (List.mem_append_right _ h)
def bkX3_implied_16  (rec : ST × Int64 × Int32 → Option (Int32 × ST)) (σ : ST) (x1 : Int64) (x3 : Int32) : Option (Int32 × ST) := if (3000 : Int32) < x3 then (some ((-1 : Int32), σ)) else ((mX3_mark1 σ x3).bind fun q_2 => if (0 : Int32) < (lg_cmp q_2 x1) then (rec (σ, x1, (x3 + (1 : Int32)))) else (some (x3, σ)))
def kX3_implied_16  (n : Nat) (a : ST × Int64 × Int32) : Option (Int32 × ST) := fx (fun rec a => bkX3_implied_16  rec a.1 a.2.1 a.2.2) n a
set_option maxHeartbeats 4000000 in
set_option maxRecDepth 100000 in
theorem kX3_implied_16_ok {p : Program} {l : Launch} {e : Env} {s : State} {m : MethodId} {args : Array Value} {below : List Frame} {meth : Method} {c : Code} {D : va_G} {cy : Nat → ClassId} {ad : Nat → Nat → Nat} {A : Nat → Prop} (C : Cx p s m args meth c cX3_implied 4 (some .int) RX3 wsX3_implied D cy A) (q : Int32 × ST) : ∀ (n : Nat) (σ : ST) (x1 : Int64) (x3 : Int32), ∀ (H : Heap) (locs : List Loc), va_P D vwCl (mw cy ad σ) H → va_D A (mw cy ad σ) → va_S A s.heap H locs → ∀ ls : Array Slot, lv_has ls 4 [(0, .ref (ad 0 0)), (1, .long x1), (3, .int x3)] → kX3_implied_16 n (σ, x1, x3) = some q → W p l e rmX3_implied s m args below meth c H locs 0 0 (MQ below (zQi D (mw cy ad q.2) A q.1) args s 0 0 A) (F0 m 16 ls []) := by
  obtain ⟨hx, hb, hml, hown, hts, hr, hlocks, hK, hA⟩ := id C
  intro n
  induction n with
  | zero => intro σ x1 x3 H locs hP hD hS ls hl hm; cases hm
  | succ n ih =>
    intro σ x1 x3 H locs hP hD hS ls hl hm
    have hm : bkX3_implied_16  (kX3_implied_16 n) σ x1 x3 = some q := hm
    unfold bkX3_implied_16 at hm
    refine lv_iload_n hx hb dX3_implied_16 rfl (lv_at hl 2 rfl) ?_
    refine lv_sipush (v := 3000) hx hb dX3_implied_17 (by decide) ?_
    refine lv_icmp_gt (tgt := 41) hx hb dX3_implied_20 (by decide) (fun c_1 => ?_) (fun c_1 => ?_)
    · have hm := ifp c_1 hm
      refine lv_iconst (v := -1) hx hb dX3_implied_41 (by decide) ?_
      exact z_i hx hb hr hlocks hm hP hD hS dX3_implied_42
    · have hm := ifn c_1 hm
      refine lv_aload_n hx hb dX3_implied_23 rfl (lv_at hl 0 rfl) ?_
      refine lv_iload_n hx hb dX3_implied_24 rfl (lv_at hl 2 rfl) ?_
      obtain ⟨q_2, hq_2, hm⟩ := ob hm
      refine zc_l (zr_V [.int x3] [] ⟨hx, hb, hml, hown, hts⟩ (ctX3_mark1 l D cy ad σ  x3 q_2 hq_2 _) (cwV 1 hts gX3_implied_X3_mark1 rfl rfl rfl (by decide +kernel) ⟨Nat.le_of_ble_eq_true rfl, Nat.le_of_ble_eq_true rfl⟩) hK hP hD 0 mw_0 rfl rfl rfl hl.1 rfl (Nat.le_of_ble_eq_true rfl) dX3_implied_25 ⟨Nat.zero_le _, Nat.zero_le _⟩) hD hS hA (fun H locs hP hD hS => ?_)
      refine lv_lload_n hx hb dX3_implied_28 rfl (lv_at hl 1 rfl) ?_
      refine W.lcmp hx hb dX3_implied_29 ?_
      refine lv_if_gt (tgt := 35) hx hb dX3_implied_30 (by decide) (fun c_3 => ?_) (fun c_3 => ?_)
      · have hm := ifp c_3 hm
        refine lv_iinc (v := (x3 + (1 : Int32))) (lv' := [(3, .int (x3 + (1 : Int32))), (0, .ref (ad 0 0)), (1, .long x1)]) hx hb dX3_implied_35 hl (k := 2) rfl rfl (by decide) rfl (fun ls hl => ?_)
        refine lv_goto (tgt := 16) hx hb dX3_implied_38 (by decide) ?_
        exact ih σ x1 (x3 + (1 : Int32)) _ _ hP hD hS _ (lv_sub hl [1, 2, 0] rfl) hm
      · have hm := ifn c_3 hm
        refine lv_iload_n hx hb dX3_implied_33 rfl (lv_at hl 2 rfl) ?_
        exact z_i hx hb hr hlocks hm hP hD hS dX3_implied_34
def mX3_implied (σ : ST) (a1 : Int64) : Option (Int32 × ST) := sv (sI σ 0 0 10 (0 : Int32)) fun σ_4 => (mX3_isAny σ_4).bind fun q_5 => if q_5 = (0 : Int32) then (some ((-1 : Int32), σ_4)) else (kX3_implied_16 FU (σ_4, a1, (0 : Int32)))
set_option maxHeartbeats 4000000 in
set_option maxRecDepth 100000 in
theorem ctX3_implied (l : Launch) (D : va_G) (cy : Nat → ClassId) (ad : Nat → Nat → Nat) (σ : ST) (a1 : Int64) (q : Int32 × ST) (hm : mX3_implied σ a1 = some q) : zMi l yX3_implied wsX3_implied rmX3_implied D cy [.ref (ad 0 0), .long a1] (mw cy ad σ) q.1 (mw cy ad q.2) := by
  intro sz
  refine Met.ofW (cc := cX3_implied) (maxL := 4) (ret := (some .int)) (by decide) rfl ?_
  intro p e s m args below meth c s₁ B hml hv
  obtain ⟨rfl, hsz, hP, hK, hD0⟩ := hv
  have hx := B.exec
  have hb := B.bytes
  have hr := B.returns
  have hts := atoms_spec (ws := wsX3_implied) B.pre
  have hown : s.vm.findClass RX3 = some m.cls := findClass_of_methodNamed B.named
  have hlocks := B.notSynchronized
  subst hsz
  have hD := hD0.self (sz := s.heap.size)
  generalize hAe : va_A (mw cy ad σ) s.heap.size = A at hD ⊢
  have hA : ∀ q : Nat, s.heap.size ≤ q → A q := fun q h => by rw [← hAe]; exact Or.inr h
  have hS : va_S A s.heap s.heap [] := va_S.rf
  have C : Cx p s m _ meth c cX3_implied 4 (some .int) RX3 wsX3_implied D cy A := ⟨hx, hb, hml, hown, hts, hr, hlocks, hK, hA⟩
  have hl := lv_entry ([.ref (ad 0 0), .long a1]) (n := 4) (Nat.le_of_ble_eq_true rfl)
  rw [lg_entry_eq]
  generalize (lg_sl ([.ref (ad 0 0), .long a1]) ++ List.replicate (4 - (lg_sl ([.ref (ad 0 0), .long a1])).length) Slot.unset).toArray = ls at hl ⊢
  have hl : lv_has ls 4 [(0, .ref (ad 0 0)), (1, .long a1)] := hl
  unfold mX3_implied at hm
  refine lv_aload_n hx hb dX3_implied_0 rfl (lv_at hl 0 rfl) ?_
  refine lv_iconst (v := 0) hx hb dX3_implied_1 (by decide) ?_
  refine va_put (D := D) (ci := 3) (v := .int (0 : Int32)) (ty := .int) (C := RX3) (T := TX3) (N := 20) hx hb hts iwX3_implied_X3 tyX3 tyX3_ok nmX3 hown hK.1 hP hD hS 0 mw_0 rfl 10 (by decide) (hts _ lkX3_implied_61) (fun _ h9 => h9) rfl (by decide +kernel) rfl rfl (Nat.le_of_ble_eq_true rfl) dX3_implied_2 (fun H locs hP hD hS => ?_)
  have hP := eP (mw_s0 (σ := σ) (j := 10) (v := (0 : Int32)) (by rfl)) hP
  have hD := eD (mw_s0 (σ := σ) (j := 10) (v := (0 : Int32)) (by rfl)) hD
  obtain ⟨σ_4, e_4, hm⟩ := sv_some hm
  have hP : va_P D vwCl (mw cy ad σ_4) H := by rw [e_4]; exact hP
  have hD : va_D A (mw cy ad σ_4) := by rw [e_4]; exact hD
  refine lv_aload_n hx hb dX3_implied_5 rfl (lv_at hl 0 rfl) ?_
  obtain ⟨q_5, hq_5, hm⟩ := ob hm
  refine zc_i (zr_V [] [] ⟨hx, hb, hml, hown, hts⟩ (ctX3_isAny l D cy ad σ_4   q_5 hq_5 _) (cwV 0 hts gX3_implied_X3_isAny rfl rfl rfl (by decide +kernel) ⟨Nat.le_of_ble_eq_true rfl, Nat.le_of_ble_eq_true rfl⟩) hK hP hD 0 mw_0 rfl rfl rfl hl.1 rfl (Nat.le_of_ble_eq_true rfl) dX3_implied_6 ⟨Nat.zero_le _, Nat.zero_le _⟩) hD hS hA (fun H locs hP hD hS => ?_)
  refine lv_if_ne (tgt := 14) hx hb dX3_implied_9 (by decide) (fun c_6 => ?_) (fun c_6 => ?_)
  · have hm := ifn c_6 hm
    refine lv_iconst (v := 0) hx hb dX3_implied_14 (by decide) ?_
    refine lv_istore_n (lv' := [(3, .int (0 : Int32)), (0, .ref (ad 0 0)), (1, .long a1)]) hx hb dX3_implied_15 rfl hl (by decide) rfl (fun ls hl => ?_)
    exact kX3_implied_16_ok C q FU σ_4 a1 (0 : Int32) _ _ hP hD hS _ (lv_sub hl [1, 2, 0] rfl) hm
  · have hm := ifp c_6 hm
    refine lv_iconst (v := -1) hx hb dX3_implied_12 (by decide) ?_
    exact z_i hx hb hr hlocks hm hP hD hS dX3_implied_13

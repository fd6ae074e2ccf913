abbrev rmX3_meets : Room := { frames := 7, cells := 0, slots := 0, locals := 160 }
theorem lkX3_meets_64 : Cond.fieldLink RX3 64 "DeliveryBasketModel" "many" "I" ∈ wsX3_meets := by decide +kernel
theorem iwX3_meets_X3 : ∀ w ∈ wsX30, w ∈ wsX3_meets := fun _ h => List.mem_cons_of_mem _ (List.mem_append_right _ h)
theorem lkX3_meets_39 : Cond.fieldLink RX3 39 "DeliveryBasketModel" "given" "[I" ∈ wsX3_meets := by decide +kernel
theorem lkX3_meets_42 : Cond.fieldLink RX3 42 "DeliveryBasketModel" "costs" "[J" ∈ wsX3_meets := by decide +kernel
def bkX3_meets_66 (rc55 : ST × Int32 × Int32 → Option (Int32 × ST)) (rec : ST × Int32 × Int32 × Int32 × Int32 → Option (Int32 × ST)) (σ : ST) (x4 : Int32) (x5 : Int32) (x6 : Int32) (x7 : Int32) : Option (Int32 × ST) := if (gI σ 0 0 1) ≤ x7 then (if x6 = (-1 : Int32) then (some ((0 : Int32), σ)) else ((mX3_of1 σ x6 (5 : Int32)).bind fun q_3 => if x4 ≤ q_3 then (gd (inb x6 8) (sv (sI σ 2 0 (Int32.toNatClampNeg x6) x4) fun σ_6 => gd (inb x6 8) (rc55 (σ_6, (x4 - (gI σ_6 2 0 (Int32.toNatClampNeg x6))), (x5 ||| ((1 : Int32) <<< (x6 &&& 31))))))) else ((mX3_of1 σ x6 (5 : Int32)).bind fun q_8 => gd (inb x6 8) (sv (sI σ 2 0 (Int32.toNatClampNeg x6) q_8) fun σ_10 => gd (inb x6 8) (rc55 (σ_10, (x4 - (gI σ_10 2 0 (Int32.toNatClampNeg x6))), (x5 ||| ((1 : Int32) <<< (x6 &&& 31))))))))) else ((mX3_isEligible σ x7).bind fun q_12 => if q_12 = (0 : Int32) then (rec (σ, x4, x5, x6, (x7 + (1 : Int32)))) else (if ((x5 >>> (x7 &&& 31)) &&& (1 : Int32)) = (0 : Int32) then (if x6 = (-1 : Int32) then (rec (σ, x4, x5, x7, (x7 + (1 : Int32)))) else (gd (inb x7 8) (gd (inb x6 8) (if (0 : Int32) ≤ (lg_cmp (gJ σ 0 0 (Int32.toNatClampNeg x7)) (gJ σ 0 0 (Int32.toNatClampNeg x6))) then (rec (σ, x4, x5, x6, (x7 + (1 : Int32)))) else (rec (σ, x4, x5, x7, (x7 + (1 : Int32)))))))) else (rec (σ, x4, x5, x6, (x7 + (1 : Int32))))))
def kX3_meets_66 (rc55 : ST × Int32 × Int32 → Option (Int32 × ST)) (n : Nat) (a : ST × Int32 × Int32 × Int32 × Int32) : Option (Int32 × ST) := fx (fun rec a => bkX3_meets_66 rc55 rec a.1 a.2.1 a.2.2.1 a.2.2.2.1 a.2.2.2.2) n a
set_option maxHeartbeats 4000000 in
set_option maxRecDepth 100000 in
theorem kX3_meets_66_ok {p : Program} {l : Launch} {e : Env} {s : State} {m : MethodId} {args : Array Value} {below : List Frame} {meth : Method} {c : Code} {D : va_G} {cy : Nat → ClassId} {ad : Nat → Nat → Nat} {A : Nat → Prop} (C : Cx p s m args meth c cX3_meets 8 (some .boolean) RX3 wsX3_meets D cy A) (q : Int32 × ST) {rc55 : ST × Int32 × Int32 → Option (Int32 × ST)} (hr55 : ∀ (σ : ST) (x4 : Int32) (x5 : Int32), ∀ (H : Heap) (locs : List Loc), va_P D vwCl (mw cy ad σ) H → va_D A (mw cy ad σ) → va_S A s.heap H locs → ∀ ls : Array Slot, lv_has ls 8 [(0, .ref (ad 0 0)), (4, .int x4), (5, .int x5)] → rc55 (σ, x4, x5) = some q → W p l e rmX3_meets s m args below meth c H locs 0 0 (MQ below (zQi D (mw cy ad q.2) A q.1) args s 0 0 A) (F0 m 55 ls [])) : ∀ (n : Nat) (σ : ST) (x4 : Int32) (x5 : Int32) (x6 : Int32) (x7 : Int32), ∀ (H : Heap) (locs : List Loc), va_P D vwCl (mw cy ad σ) H → va_D A (mw cy ad σ) → va_S A s.heap H locs → ∀ ls : Array Slot, lv_has ls 8 [(0, .ref (ad 0 0)), (4, .int x4), (5, .int x5), (6, .int x6), (7, .int x7)] → kX3_meets_66 rc55 n (σ, x4, x5, x6, x7) = some q → W p l e rmX3_meets s m args below meth c H locs 0 0 (MQ below (zQi D (mw cy ad q.2) A q.1) args s 0 0 A) (F0 m 66 ls []) := by
  obtain ⟨hx, hb, hml, hown, hts, hr, hlocks, hK, hA⟩ := id C
  intro n
  induction n with
  | zero => intro σ x4 x5 x6 x7 H locs hP hD hS ls hl hm; cases hm
  | succ n ih =>
    intro σ x4 x5 x6 x7 H locs hP hD hS ls hl hm
    have hm : bkX3_meets_66 rc55 (kX3_meets_66 rc55 n) σ x4 x5 x6 x7 = some q := hm
    unfold bkX3_meets_66 at hm
    refine lv_iload hx hb dX3_meets_66 (lv_at hl 4 rfl) ?_
    refine lv_aload_n hx hb dX3_meets_68 rfl (lv_at hl 0 rfl) ?_
    refine va_get (D := D) (ci := 3) (v := .int (gI σ 0 0 1)) (C := RX3) (T := TX3) (N := 20) hx hb hts iwX3_meets_X3 hown hK.1 hP 0 mw_0 rfl 1 (by decide) (hts _ lkX3_meets_64) (fun _ h9 => h9) rfl dX3_meets_69 ?_
    refine lv_icmp_ge (tgt := 128) hx hb dX3_meets_72 (by decide) (fun c_1 => ?_) (fun c_1 => ?_)
    · have hm := ifp c_1 hm
      refine lv_iload hx hb dX3_meets_128 (lv_at hl 3 rfl) ?_
      refine lv_iconst (v := -1) hx hb dX3_meets_130 (by decide) ?_
      refine lv_icmp_ne (tgt := 136) hx hb dX3_meets_131 (by decide) (fun c_2 => ?_) (fun c_2 => ?_)
      · have hm := ifn c_2 hm
        refine lv_iload hx hb dX3_meets_136 (lv_at hl 2 rfl) ?_
        refine lv_iconst (v := 1) hx hb dX3_meets_138 (by decide) ?_
        refine lv_iload hx hb dX3_meets_139 (lv_at hl 3 rfl) ?_
        refine lv_ishl hx hb dX3_meets_141 ?_
        refine lv_ior hx hb dX3_meets_142 ?_
        refine lv_istore (lv' := [(5, .int (x5 ||| ((1 : Int32) <<< (x6 &&& 31)))), (0, .ref (ad 0 0)), (4, .int x4), (6, .int x6), (7, .int x7)]) hx hb dX3_meets_143 hl (by decide) rfl (fun ls hl => ?_)
        refine lv_aload_n hx hb dX3_meets_145 rfl (lv_at hl 1 rfl) ?_
        refine va_get (D := D) (ci := 3) (v := .ref (ad 2 0)) (C := RX3) (T := TX3) (N := 20) hx hb hts iwX3_meets_X3 hown hK.1 hP 0 mw_0 rfl 13 (by decide) (hts _ lkX3_meets_39) (fun _ h9 => h9) rfl dX3_meets_146 ?_
        refine lv_iload hx hb dX3_meets_149 (lv_at hl 3 rfl) ?_
        refine lv_aload_n hx hb dX3_meets_151 rfl (lv_at hl 1 rfl) ?_
        refine lv_iload hx hb dX3_meets_152 (lv_at hl 3 rfl) ?_
        refine lv_iconst (v := 5) hx hb dX3_meets_154 (by decide) ?_
        obtain ⟨q_3, hq_3, hm⟩ := ob hm
        refine zc_i (zr_V [.int x6, .int (5 : Int32)] [.int x6, .ref (ad 2 0)] ⟨hx, hb, hml, hown, hts⟩ (ctX3_of1 l D cy ad σ  x6 (5 : Int32) q_3 hq_3 _) (cwV 2 hts gX3_meets_X3_of1 rfl rfl rfl (by decide +kernel) ⟨Nat.le_of_ble_eq_true rfl, Nat.le_of_ble_eq_true rfl⟩) hK hP hD 0 mw_0 rfl rfl rfl hl.1 rfl (Nat.le_of_ble_eq_true rfl) dX3_meets_155 ⟨Nat.zero_le _, Nat.zero_le _⟩) hD hS hA (fun H locs hP hD hS => ?_)
        refine lv_iload hx hb dX3_meets_158 (lv_at hl 2 rfl) ?_
        refine lv_icmp_ge (tgt := 173) hx hb dX3_meets_160 (by decide) (fun c_4 => ?_) (fun c_4 => ?_)
        · have hm := ifp c_4 hm
          refine lv_iload hx hb dX3_meets_173 (lv_at hl 2 rfl) ?_
          obtain ⟨h_5, hm⟩ := gd_some hm
          refine va_iast hx hb hK.1 hP hD hS 2 0 mw_2 rfl (inb_vp h_5) dX3_meets_175 (fun H locs hP hD hS => ?_)
          have hP := eP mw_s2 hP
          have hD := eD mw_s2 hD
          obtain ⟨σ_6, e_6, hm⟩ := sv_some hm
          have hP : va_P D vwCl (mw cy ad σ_6) H := by rw [e_6]; exact hP
          have hD : va_D A (mw cy ad σ_6) := by rw [e_6]; exact hD
          refine lv_iload hx hb dX3_meets_176 (lv_at hl 2 rfl) ?_
          refine lv_aload_n hx hb dX3_meets_178 rfl (lv_at hl 1 rfl) ?_
          refine va_get (D := D) (ci := 3) (v := .ref (ad 2 0)) (C := RX3) (T := TX3) (N := 20) hx hb hts iwX3_meets_X3 hown hK.1 hP 0 mw_0 rfl 13 (by decide) (hts _ lkX3_meets_39) (fun _ h9 => h9) rfl dX3_meets_179 ?_
          refine lv_iload hx hb dX3_meets_182 (lv_at hl 3 rfl) ?_
          obtain ⟨h_7, hm⟩ := gd_some hm
          refine va_iald hx hb hK.1 hP 2 0 mw_2 rfl (inb_vp h_7) dX3_meets_184 ?_
          refine lv_isub hx hb dX3_meets_185 ?_
          refine lv_istore (lv' := [(4, .int (x4 - (gI σ_6 2 0 (Int32.toNatClampNeg x6)))), (5, .int (x5 ||| ((1 : Int32) <<< (x6 &&& 31)))), (0, .ref (ad 0 0)), (6, .int x6), (7, .int x7)]) hx hb dX3_meets_186 hl (by decide) rfl (fun ls hl => ?_)
          refine lv_goto (tgt := 55) hx hb dX3_meets_188 (by decide) ?_
          exact hr55 σ_6 (x4 - (gI σ_6 2 0 (Int32.toNatClampNeg x6))) (x5 ||| ((1 : Int32) <<< (x6 &&& 31))) _ _ hP hD hS _ (lv_sub hl [2, 0, 1] rfl) hm
        · have hm := ifn c_4 hm
          refine lv_aload_n hx hb dX3_meets_163 rfl (lv_at hl 1 rfl) ?_
          refine lv_iload hx hb dX3_meets_164 (lv_at hl 3 rfl) ?_
          refine lv_iconst (v := 5) hx hb dX3_meets_166 (by decide) ?_
          obtain ⟨q_8, hq_8, hm⟩ := ob hm
          refine zc_i (zr_V [.int x6, .int (5 : Int32)] [.int x6, .ref (ad 2 0)] ⟨hx, hb, hml, hown, hts⟩ (ctX3_of1 l D cy ad σ  x6 (5 : Int32) q_8 hq_8 _) (cwV 2 hts gX3_meets_X3_of1 rfl rfl rfl (by decide +kernel) ⟨Nat.le_of_ble_eq_true rfl, Nat.le_of_ble_eq_true rfl⟩) hK hP hD 0 mw_0 rfl rfl rfl hl.1 rfl (Nat.le_of_ble_eq_true rfl) dX3_meets_167 ⟨Nat.zero_le _, Nat.zero_le _⟩) hD hS hA (fun H locs hP hD hS => ?_)
          refine lv_goto (tgt := 175) hx hb dX3_meets_170 (by decide) ?_
          obtain ⟨h_9, hm⟩ := gd_some hm
          refine va_iast hx hb hK.1 hP hD hS 2 0 mw_2 rfl (inb_vp h_9) dX3_meets_175 (fun H locs hP hD hS => ?_)
          have hP := eP mw_s2 hP
          have hD := eD mw_s2 hD
          obtain ⟨σ_10, e_10, hm⟩ := sv_some hm
          have hP : va_P D vwCl (mw cy ad σ_10) H := by rw [e_10]; exact hP
          have hD : va_D A (mw cy ad σ_10) := by rw [e_10]; exact hD
          refine lv_iload hx hb dX3_meets_176 (lv_at hl 2 rfl) ?_
          refine lv_aload_n hx hb dX3_meets_178 rfl (lv_at hl 1 rfl) ?_
          refine va_get (D := D) (ci := 3) (v := .ref (ad 2 0)) (C := RX3) (T := TX3) (N := 20) hx hb hts iwX3_meets_X3 hown hK.1 hP 0 mw_0 rfl 13 (by decide) (hts _ lkX3_meets_39) (fun _ h9 => h9) rfl dX3_meets_179 ?_
          refine lv_iload hx hb dX3_meets_182 (lv_at hl 3 rfl) ?_
          obtain ⟨h_11, hm⟩ := gd_some hm
          refine va_iald hx hb hK.1 hP 2 0 mw_2 rfl (inb_vp h_11) dX3_meets_184 ?_
          refine lv_isub hx hb dX3_meets_185 ?_
          refine lv_istore (lv' := [(4, .int (x4 - (gI σ_10 2 0 (Int32.toNatClampNeg x6)))), (5, .int (x5 ||| ((1 : Int32) <<< (x6 &&& 31)))), (0, .ref (ad 0 0)), (6, .int x6), (7, .int x7)]) hx hb dX3_meets_186 hl (by decide) rfl (fun ls hl => ?_)
          refine lv_goto (tgt := 55) hx hb dX3_meets_188 (by decide) ?_
          exact hr55 σ_10 (x4 - (gI σ_10 2 0 (Int32.toNatClampNeg x6))) (x5 ||| ((1 : Int32) <<< (x6 &&& 31))) _ _ hP hD hS _ (lv_sub hl [2, 0, 1] rfl) hm
      · have hm := ifp c_2 hm
        refine lv_iconst (v := 0) hx hb dX3_meets_134 (by decide) ?_
        exact z_z hx hb hr hlocks (by decide) hm hP hD hS dX3_meets_135
    · have hm := ifn c_1 hm
      refine lv_aload_n hx hb dX3_meets_75 rfl (lv_at hl 0 rfl) ?_
      refine lv_iload hx hb dX3_meets_76 (lv_at hl 4 rfl) ?_
      obtain ⟨q_12, hq_12, hm⟩ := ob hm
      refine zc_i (zr_V [.int x7] [] ⟨hx, hb, hml, hown, hts⟩ (ctX3_isEligible l D cy ad σ  x7 q_12 hq_12 _) (cwV 1 hts gX3_meets_X3_isEligible rfl rfl rfl (by decide +kernel) ⟨Nat.le_of_ble_eq_true rfl, Nat.le_of_ble_eq_true rfl⟩) hK hP hD 0 mw_0 rfl rfl rfl hl.1 rfl (Nat.le_of_ble_eq_true rfl) dX3_meets_78 ⟨Nat.zero_le _, Nat.zero_le _⟩) hD hS hA (fun H locs hP hD hS => ?_)
      refine lv_if_eq (tgt := 122) hx hb dX3_meets_81 (by decide) (fun c_13 => ?_) (fun c_13 => ?_)
      · have hm := ifp c_13 hm
        refine lv_iinc (v := (x7 + (1 : Int32))) (lv' := [(7, .int (x7 + (1 : Int32))), (0, .ref (ad 0 0)), (4, .int x4), (5, .int x5), (6, .int x6)]) hx hb dX3_meets_122 hl (k := 4) rfl rfl (by decide) rfl (fun ls hl => ?_)
        refine lv_goto (tgt := 66) hx hb dX3_meets_125 (by decide) ?_
        exact ih σ x4 x5 x6 (x7 + (1 : Int32)) _ _ hP hD hS _ (lv_sub hl [1, 2, 3, 4, 0] rfl) hm
      · have hm := ifn c_13 hm
        refine lv_iload hx hb dX3_meets_84 (lv_at hl 2 rfl) ?_
        refine lv_iload hx hb dX3_meets_86 (lv_at hl 4 rfl) ?_
        refine lv_ishr hx hb dX3_meets_88 ?_
        refine lv_iconst (v := 1) hx hb dX3_meets_89 (by decide) ?_
        refine lv_iand hx hb dX3_meets_90 ?_
        refine lv_if_ne (tgt := 122) hx hb dX3_meets_91 (by decide) (fun c_14 => ?_) (fun c_14 => ?_)
        · have hm := ifn c_14 hm
          refine lv_iinc (v := (x7 + (1 : Int32))) (lv' := [(7, .int (x7 + (1 : Int32))), (0, .ref (ad 0 0)), (4, .int x4), (5, .int x5), (6, .int x6)]) hx hb dX3_meets_122 hl (k := 4) rfl rfl (by decide) rfl (fun ls hl => ?_)
          refine lv_goto (tgt := 66) hx hb dX3_meets_125 (by decide) ?_
          exact ih σ x4 x5 x6 (x7 + (1 : Int32)) _ _ hP hD hS _ (lv_sub hl [1, 2, 3, 4, 0] rfl) hm
        · have hm := ifp c_14 hm
          refine lv_iload hx hb dX3_meets_94 (lv_at hl 3 rfl) ?_
          refine lv_iconst (v := -1) hx hb dX3_meets_96 (by decide) ?_
          refine lv_icmp_eq (tgt := 118) hx hb dX3_meets_97 (by decide) (fun c_15 => ?_) (fun c_15 => ?_)
          · have hm := ifp c_15 hm
            refine lv_iload hx hb dX3_meets_118 (lv_at hl 4 rfl) ?_
            refine lv_istore (lv' := [(6, .int x7), (0, .ref (ad 0 0)), (4, .int x4), (5, .int x5), (7, .int x7)]) hx hb dX3_meets_120 hl (by decide) rfl (fun ls hl => ?_)
            refine lv_iinc (v := (x7 + (1 : Int32))) (lv' := [(7, .int (x7 + (1 : Int32))), (6, .int x7), (0, .ref (ad 0 0)), (4, .int x4), (5, .int x5)]) hx hb dX3_meets_122 hl (k := 4) rfl rfl (by decide) rfl (fun ls hl => ?_)
            refine lv_goto (tgt := 66) hx hb dX3_meets_125 (by decide) ?_
            exact ih σ x4 x5 x7 (x7 + (1 : Int32)) _ _ hP hD hS _ (lv_sub hl [2, 3, 4, 1, 0] rfl) hm
          · have hm := ifn c_15 hm
            refine lv_aload_n hx hb dX3_meets_100 rfl (lv_at hl 0 rfl) ?_
            refine va_get (D := D) (ci := 3) (v := .ref (ad 3 0)) (C := RX3) (T := TX3) (N := 20) hx hb hts iwX3_meets_X3 hown hK.1 hP 0 mw_0 rfl 14 (by decide) (hts _ lkX3_meets_42) (fun _ h9 => h9) rfl dX3_meets_101 ?_
            refine lv_iload hx hb dX3_meets_104 (lv_at hl 4 rfl) ?_
            obtain ⟨h_16, hm⟩ := gd_some hm
            refine va_lald hx hb hK.1 hP 3 1 mw_3 rfl (inb_vp h_16) dX3_meets_106 ?_
            refine lv_aload_n hx hb dX3_meets_107 rfl (lv_at hl 0 rfl) ?_
            refine va_get (D := D) (ci := 3) (v := .ref (ad 3 0)) (C := RX3) (T := TX3) (N := 20) hx hb hts iwX3_meets_X3 hown hK.1 hP 0 mw_0 rfl 14 (by decide) (hts _ lkX3_meets_42) (fun _ h9 => h9) rfl dX3_meets_108 ?_
            refine lv_iload hx hb dX3_meets_111 (lv_at hl 3 rfl) ?_
            obtain ⟨h_17, hm⟩ := gd_some hm
            refine va_lald hx hb hK.1 hP 3 1 mw_3 rfl (inb_vp h_17) dX3_meets_113 ?_
            refine W.lcmp hx hb dX3_meets_114 ?_
            refine lv_if_ge (tgt := 122) hx hb dX3_meets_115 (by decide) (fun c_18 => ?_) (fun c_18 => ?_)
            · have hm := ifp c_18 hm
              refine lv_iinc (v := (x7 + (1 : Int32))) (lv' := [(7, .int (x7 + (1 : Int32))), (0, .ref (ad 0 0)), (4, .int x4), (5, .int x5), (6, .int x6)]) hx hb dX3_meets_122 hl (k := 4) rfl rfl (by decide) rfl (fun ls hl => ?_)
              refine lv_goto (tgt := 66) hx hb dX3_meets_125 (by decide) ?_
              exact ih σ x4 x5 x6 (x7 + (1 : Int32)) _ _ hP hD hS _ (lv_sub hl [1, 2, 3, 4, 0] rfl) hm
            · have hm := ifn c_18 hm
              refine lv_iload hx hb dX3_meets_118 (lv_at hl 4 rfl) ?_
              refine lv_istore (lv' := [(6, .int x7), (0, .ref (ad 0 0)), (4, .int x4), (5, .int x5), (7, .int x7)]) hx hb dX3_meets_120 hl (by decide) rfl (fun ls hl => ?_)
              refine lv_iinc (v := (x7 + (1 : Int32))) (lv' := [(7, .int (x7 + (1 : Int32))), (6, .int x7), (0, .ref (ad 0 0)), (4, .int x4), (5, .int x5)]) hx hb dX3_meets_122 hl (k := 4) rfl rfl (by decide) rfl (fun ls hl => ?_)
              refine lv_goto (tgt := 66) hx hb dX3_meets_125 (by decide) ?_
              exact ih σ x4 x5 x7 (x7 + (1 : Int32)) _ _ hP hD hS _ (lv_sub hl [2, 3, 4, 1, 0] rfl) hm
def bkX3_meets_55  (rec : ST × Int32 × Int32 → Option (Int32 × ST)) (σ : ST) (x4 : Int32) (x5 : Int32) : Option (Int32 × ST) := if x4 ≤ (0 : Int32) then (some ((1 : Int32), σ)) else (kX3_meets_66 rec FU (σ, x4, x5, (-1 : Int32), (0 : Int32)))
def kX3_meets_55  (n : Nat) (a : ST × Int32 × Int32) : Option (Int32 × ST) := fx (fun rec a => bkX3_meets_55  rec a.1 a.2.1 a.2.2) n a
set_option maxHeartbeats 4000000 in
set_option maxRecDepth 100000 in
theorem kX3_meets_55_ok {p : Program} {l : Launch} {e : Env} {s : State} {m : MethodId} {args : Array Value} {below : List Frame} {meth : Method} {c : Code} {D : va_G} {cy : Nat → ClassId} {ad : Nat → Nat → Nat} {A : Nat → Prop} (C : Cx p s m args meth c cX3_meets 8 (some .boolean) RX3 wsX3_meets D cy A) (q : Int32 × ST) : ∀ (n : Nat) (σ : ST) (x4 : Int32) (x5 : Int32), ∀ (H : Heap) (locs : List Loc), va_P D vwCl (mw cy ad σ) H → va_D A (mw cy ad σ) → va_S A s.heap H locs → ∀ ls : Array Slot, lv_has ls 8 [(0, .ref (ad 0 0)), (4, .int x4), (5, .int x5)] → kX3_meets_55 n (σ, x4, x5) = some q → W p l e rmX3_meets s m args below meth c H locs 0 0 (MQ below (zQi D (mw cy ad q.2) A q.1) args s 0 0 A) (F0 m 55 ls []) := by
  obtain ⟨hx, hb, hml, hown, hts, hr, hlocks, hK, hA⟩ := id C
  intro n
  induction n with
  | zero => intro σ x4 x5 H locs hP hD hS ls hl hm; cases hm
  | succ n ih =>
    intro σ x4 x5 H locs hP hD hS ls hl hm
    have hm : bkX3_meets_55  (kX3_meets_55 n) σ x4 x5 = some q := hm
    unfold bkX3_meets_55 at hm
    refine lv_iload hx hb dX3_meets_55 (lv_at hl 1 rfl) ?_
    refine lv_if_le (tgt := 191) hx hb dX3_meets_57 (by decide) (fun c_19 => ?_) (fun c_19 => ?_)
    · have hm := ifp c_19 hm
      refine lv_iconst (v := 1) hx hb dX3_meets_191 (by decide) ?_
      exact z_z hx hb hr hlocks (by decide) hm hP hD hS dX3_meets_192
    · have hm := ifn c_19 hm
      refine lv_iconst (v := -1) hx hb dX3_meets_60 (by decide) ?_
      refine lv_istore (lv' := [(6, .int (-1 : Int32)), (0, .ref (ad 0 0)), (4, .int x4), (5, .int x5)]) hx hb dX3_meets_61 hl (by decide) rfl (fun ls hl => ?_)
      refine lv_iconst (v := 0) hx hb dX3_meets_63 (by decide) ?_
      refine lv_istore (lv' := [(7, .int (0 : Int32)), (6, .int (-1 : Int32)), (0, .ref (ad 0 0)), (4, .int x4), (5, .int x5)]) hx hb dX3_meets_64 hl (by decide) rfl (fun ls hl => ?_)
      exact kX3_meets_66_ok C q ih FU σ x4 x5 (-1 : Int32) (0 : Int32) _ _ hP hD hS _ (lv_sub hl [2, 3, 4, 1, 0] rfl) hm
def bkX3_meets_9  (rec : ST × Int32 × Int32 × Int32 × Int32 × Int32 → Option (Int32 × ST)) (σ : ST) (x2 : Int32) (x3 : Int32) (x4 : Int32) (x5 : Int32) (x6 : Int32) : Option (Int32 × ST) := if (gI σ 0 0 1) ≤ x6 then (kX3_meets_55 FU (σ, x4, x5)) else (gd (inb x6 8) (sv (sI σ 2 0 (Int32.toNatClampNeg x6) (0 : Int32)) fun σ_22 => (mX3_price1 σ_22 x6 x2).bind fun q_23 => (mX3_invoice σ_22 x6 (Int32.toInt64 x3)).bind fun q_24 => gd (inb x6 8) (sv (sJ σ_22 0 0 (Int32.toNatClampNeg x6) (q_23 - q_24)) fun σ_26 => rec (σ_26, x2, x3, x4, x5, (x6 + (1 : Int32))))))
def kX3_meets_9  (n : Nat) (a : ST × Int32 × Int32 × Int32 × Int32 × Int32) : Option (Int32 × ST) := fx (fun rec a => bkX3_meets_9  rec a.1 a.2.1 a.2.2.1 a.2.2.2.1 a.2.2.2.2.1 a.2.2.2.2.2) n a
set_option maxHeartbeats 4000000 in
set_option maxRecDepth 100000 in
theorem kX3_meets_9_ok {p : Program} {l : Launch} {e : Env} {s : State} {m : MethodId} {args : Array Value} {below : List Frame} {meth : Method} {c : Code} {D : va_G} {cy : Nat → ClassId} {ad : Nat → Nat → Nat} {A : Nat → Prop} (C : Cx p s m args meth c cX3_meets 8 (some .boolean) RX3 wsX3_meets D cy A) (q : Int32 × ST) : ∀ (n : Nat) (σ : ST) (x2 : Int32) (x3 : Int32) (x4 : Int32) (x5 : Int32) (x6 : Int32), ∀ (H : Heap) (locs : List Loc), va_P D vwCl (mw cy ad σ) H → va_D A (mw cy ad σ) → va_S A s.heap H locs → ∀ ls : Array Slot, lv_has ls 8 [(0, .ref (ad 0 0)), (2, .int x2), (3, .int x3), (4, .int x4), (5, .int x5), (6, .int x6)] → kX3_meets_9 n (σ, x2, x3, x4, x5, x6) = some q → W p l e rmX3_meets s m args below meth c H locs 0 0 (MQ below (zQi D (mw cy ad q.2) A q.1) args s 0 0 A) (F0 m 9 ls []) := by
  obtain ⟨hx, hb, hml, hown, hts, hr, hlocks, hK, hA⟩ := id C
  intro n
  induction n with
  | zero => intro σ x2 x3 x4 x5 x6 H locs hP hD hS ls hl hm; cases hm
  | succ n ih =>
    intro σ x2 x3 x4 x5 x6 H locs hP hD hS ls hl hm
    have hm : bkX3_meets_9  (kX3_meets_9 n) σ x2 x3 x4 x5 x6 = some q := hm
    unfold bkX3_meets_9 at hm
    refine lv_iload hx hb dX3_meets_9 (lv_at hl 5 rfl) ?_
    refine lv_aload_n hx hb dX3_meets_11 rfl (lv_at hl 0 rfl) ?_
    refine va_get (D := D) (ci := 3) (v := .int (gI σ 0 0 1)) (C := RX3) (T := TX3) (N := 20) hx hb hts iwX3_meets_X3 hown hK.1 hP 0 mw_0 rfl 1 (by decide) (hts _ lkX3_meets_64) (fun _ h9 => h9) rfl dX3_meets_12 ?_
    refine lv_icmp_ge (tgt := 55) hx hb dX3_meets_15 (by decide) (fun c_20 => ?_) (fun c_20 => ?_)
    · have hm := ifp c_20 hm
      exact kX3_meets_55_ok C q FU σ x4 x5 _ _ hP hD hS _ (lv_sub hl [0, 3, 4] rfl) hm
    · have hm := ifn c_20 hm
      refine lv_aload_n hx hb dX3_meets_18 rfl (lv_at hl 0 rfl) ?_
      refine va_get (D := D) (ci := 3) (v := .ref (ad 2 0)) (C := RX3) (T := TX3) (N := 20) hx hb hts iwX3_meets_X3 hown hK.1 hP 0 mw_0 rfl 13 (by decide) (hts _ lkX3_meets_39) (fun _ h9 => h9) rfl dX3_meets_19 ?_
      refine lv_iload hx hb dX3_meets_22 (lv_at hl 5 rfl) ?_
      refine lv_iconst (v := 0) hx hb dX3_meets_24 (by decide) ?_
      obtain ⟨h_21, hm⟩ := gd_some hm
      refine va_iast hx hb hK.1 hP hD hS 2 0 mw_2 rfl (inb_vp h_21) dX3_meets_25 (fun H locs hP hD hS => ?_)
      have hP := eP mw_s2 hP
      have hD := eD mw_s2 hD
      obtain ⟨σ_22, e_22, hm⟩ := sv_some hm
      have hP : va_P D vwCl (mw cy ad σ_22) H := by rw [e_22]; exact hP
      have hD : va_D A (mw cy ad σ_22) := by rw [e_22]; exact hD
      refine lv_aload_n hx hb dX3_meets_26 rfl (lv_at hl 0 rfl) ?_
      refine va_get (D := D) (ci := 3) (v := .ref (ad 3 0)) (C := RX3) (T := TX3) (N := 20) hx hb hts iwX3_meets_X3 hown hK.1 hP 0 mw_0 rfl 14 (by decide) (hts _ lkX3_meets_42) (fun _ h9 => h9) rfl dX3_meets_27 ?_
      refine lv_iload hx hb dX3_meets_30 (lv_at hl 5 rfl) ?_
      refine lv_aload_n hx hb dX3_meets_32 rfl (lv_at hl 0 rfl) ?_
      refine lv_iload hx hb dX3_meets_33 (lv_at hl 5 rfl) ?_
      refine lv_iload_n hx hb dX3_meets_35 rfl (lv_at hl 1 rfl) ?_
      obtain ⟨q_23, hq_23, hm⟩ := ob hm
      refine zc_l (zr_V [.int x6, .int x2] [.int x6, .ref (ad 3 0)] ⟨hx, hb, hml, hown, hts⟩ (ctX3_price1 l D cy ad σ_22  x6 x2 q_23 hq_23 _) (cwV 2 hts gX3_meets_X3_price1 rfl rfl rfl (by decide +kernel) ⟨Nat.le_of_ble_eq_true rfl, Nat.le_of_ble_eq_true rfl⟩) hK hP hD 0 mw_0 rfl rfl rfl hl.1 rfl (Nat.le_of_ble_eq_true rfl) dX3_meets_36 ⟨Nat.zero_le _, Nat.zero_le _⟩) hD hS hA (fun H locs hP hD hS => ?_)
      refine lv_aload_n hx hb dX3_meets_39 rfl (lv_at hl 0 rfl) ?_
      refine lv_iload hx hb dX3_meets_40 (lv_at hl 5 rfl) ?_
      refine lv_iload_n hx hb dX3_meets_42 rfl (lv_at hl 2 rfl) ?_
      refine lv_i2l hx hb dX3_meets_43 rfl ?_
      obtain ⟨q_24, hq_24, hm⟩ := ob hm
      refine zc_l (zr_V [.int x6, .long (Int32.toInt64 x3)] [.long q_23, .int x6, .ref (ad 3 0)] ⟨hx, hb, hml, hown, hts⟩ (ctX3_invoice l D cy ad σ_22  x6 (Int32.toInt64 x3) q_24 hq_24 _) (cwV 2 hts gX3_meets_X3_invoice rfl rfl rfl (by decide +kernel) ⟨Nat.le_of_ble_eq_true rfl, Nat.le_of_ble_eq_true rfl⟩) hK hP hD 0 mw_0 rfl rfl rfl hl.1 rfl (Nat.le_of_ble_eq_true rfl) dX3_meets_44 ⟨Nat.zero_le _, Nat.zero_le _⟩) hD hS hA (fun H locs hP hD hS => ?_)
      refine lv_lsub hx hb dX3_meets_47 ?_
      obtain ⟨h_25, hm⟩ := gd_some hm
      refine va_last hx hb hK.1 hP hD hS 3 1 mw_3 rfl (inb_vp h_25) dX3_meets_48 (fun H locs hP hD hS => ?_)
      have hP := eP mw_s3 hP
      have hD := eD mw_s3 hD
      obtain ⟨σ_26, e_26, hm⟩ := sv_some hm
      have hP : va_P D vwCl (mw cy ad σ_26) H := by rw [e_26]; exact hP
      have hD : va_D A (mw cy ad σ_26) := by rw [e_26]; exact hD
      refine lv_iinc (v := (x6 + (1 : Int32))) (lv' := [(6, .int (x6 + (1 : Int32))), (0, .ref (ad 0 0)), (2, .int x2), (3, .int x3), (4, .int x4), (5, .int x5)]) hx hb dX3_meets_49 hl (k := 5) rfl rfl (by decide) rfl (fun ls hl => ?_)
      refine lv_goto (tgt := 9) hx hb dX3_meets_52 (by decide) ?_
      exact ih σ_26 x2 x3 x4 x5 (x6 + (1 : Int32)) _ _ hP hD hS _ (lv_sub hl [1, 2, 3, 4, 5, 0] rfl) hm
def mX3_meets (σ : ST) (a1 : Int32) (a2 : Int32) (a3 : Int32) : Option (Int32 × ST) := kX3_meets_9 FU (σ, a2, a3, a1, (0 : Int32), (0 : Int32))
set_option maxHeartbeats 4000000 in
set_option maxRecDepth 100000 in
theorem ctX3_meets (l : Launch) (D : va_G) (cy : Nat → ClassId) (ad : Nat → Nat → Nat) (σ : ST) (a1 : Int32) (a2 : Int32) (a3 : Int32) (q : Int32 × ST) (hm : mX3_meets σ a1 a2 a3 = some q) : zMi l yX3_meets wsX3_meets rmX3_meets D cy [.ref (ad 0 0), .int a1, .int a2, .int a3] (mw cy ad σ) q.1 (mw cy ad q.2) := by
  intro sz
  refine Met.ofW (cc := cX3_meets) (maxL := 8) (ret := (some .boolean)) (by decide) rfl ?_
  intro p e s m args below meth c s₁ B hml hv
  obtain ⟨rfl, hsz, hP, hK, hD0⟩ := hv
  have hx := B.exec
  have hb := B.bytes
  have hr := B.returns
  have hts := atoms_spec (ws := wsX3_meets) B.pre
  have hown : s.vm.findClass RX3 = some m.cls := findClass_of_methodNamed B.named
  have hlocks := B.notSynchronized
  subst hsz
  have hD := hD0.self (sz := s.heap.size)
  generalize hAe : va_A (mw cy ad σ) s.heap.size = A at hD ⊢
  have hA : ∀ q : Nat, s.heap.size ≤ q → A q := fun q h => by rw [← hAe]; exact Or.inr h
  have hS : va_S A s.heap s.heap [] := va_S.rf
  have C : Cx p s m _ meth c cX3_meets 8 (some .boolean) RX3 wsX3_meets D cy A := ⟨hx, hb, hml, hown, hts, hr, hlocks, hK, hA⟩
  have hl := lv_entry ([.ref (ad 0 0), .int a1, .int a2, .int a3]) (n := 8) (Nat.le_of_ble_eq_true rfl)
  rw [lg_entry_eq]
  generalize (lg_sl ([.ref (ad 0 0), .int a1, .int a2, .int a3]) ++ List.replicate (8 - (lg_sl ([.ref (ad 0 0), .int a1, .int a2, .int a3])).length) Slot.unset).toArray = ls at hl ⊢
  have hl : lv_has ls 8 [(0, .ref (ad 0 0)), (1, .int a1), (2, .int a2), (3, .int a3)] := hl
  unfold mX3_meets at hm
  refine lv_iload_n hx hb dX3_meets_0 rfl (lv_at hl 1 rfl) ?_
  refine lv_istore (lv' := [(4, .int a1), (0, .ref (ad 0 0)), (1, .int a1), (2, .int a2), (3, .int a3)]) hx hb dX3_meets_1 hl (by decide) rfl (fun ls hl => ?_)
  refine lv_iconst (v := 0) hx hb dX3_meets_3 (by decide) ?_
  refine lv_istore (lv' := [(5, .int (0 : Int32)), (4, .int a1), (0, .ref (ad 0 0)), (1, .int a1), (2, .int a2), (3, .int a3)]) hx hb dX3_meets_4 hl (by decide) rfl (fun ls hl => ?_)
  refine lv_iconst (v := 0) hx hb dX3_meets_6 (by decide) ?_
  refine lv_istore (lv' := [(6, .int (0 : Int32)), (5, .int (0 : Int32)), (4, .int a1), (0, .ref (ad 0 0)), (1, .int a1), (2, .int a2), (3, .int a3)]) hx hb dX3_meets_7 hl (by decide) rfl (fun ls hl => ?_)
  exact kX3_meets_9_ok C q FU σ a2 a3 a1 (0 : Int32) (0 : Int32) _ _ hP hD hS _ (lv_sub hl [3, 5, 6, 2, 1, 0] rfl) hm
abbrev rmX3_meet : Room := { frames := 8, cells := 0, slots := 0, locals := 187 }
theorem lkX3_meet_39 : Cond.fieldLink RX3 39 "DeliveryBasketModel" "given" "[I" ∈ wsX3_meet := by decide +kernel
theorem iwX3_meet_X3 : ∀ w ∈ wsX30, w ∈ wsX3_meet := fun _ h => List.mem_cons_of_mem _ (List.mem_append_right _ h)
theorem lkX3_meet_61 : Cond.fieldLink RX3 61 "DeliveryBasketModel" "thrown" "I" ∈ wsX3_meet := by decide +kernel
def bkX3_meet_31  (σ : ST) (x1 : Int32) (x2 : Int32) (x3 : Int32) (x4 : Int32) : Option (Int32 × ST) := (mX3_meets σ x1 x2 x3).bind fun q_1 => if x4 = (-1 : Int32) then (if q_1.1 = (0 : Int32) then (some ((0 : Int32), q_1.2)) else (some ((1 : Int32), q_1.2))) else (if q_1.1 = (0 : Int32) then (some ((-1 : Int32), q_1.2)) else (gd (inb x4 8) (some ((gI q_1.2 2 0 (Int32.toNatClampNeg x4)), q_1.2))))
def kX3_meet_31  (a : ST × Int32 × Int32 × Int32 × Int32) : Option (Int32 × ST) := bkX3_meet_31  a.1 a.2.1 a.2.2.1 a.2.2.2.1 a.2.2.2.2
set_option maxHeartbeats 4000000 in
set_option maxRecDepth 100000 in
theorem kX3_meet_31_ok {p : Program} {l : Launch} {e : Env} {s : State} {m : MethodId} {args : Array Value} {below : List Frame} {meth : Method} {c : Code} {D : va_G} {cy : Nat → ClassId} {ad : Nat → Nat → Nat} {A : Nat → Prop} (C : Cx p s m args meth c cX3_meet 6 (some .int) RX3 wsX3_meet D cy A) (q : Int32 × ST) : ∀ (σ : ST) (x1 : Int32) (x2 : Int32) (x3 : Int32) (x4 : Int32), ∀ (H : Heap) (locs : List Loc), va_P D vwCl (mw cy ad σ) H → va_D A (mw cy ad σ) → va_S A s.heap H locs → ∀ ls : Array Slot, lv_has ls 6 [(0, .ref (ad 0 0)), (1, .int x1), (2, .int x2), (3, .int x3), (4, .int x4)] → kX3_meet_31 (σ, x1, x2, x3, x4) = some q → W p l e rmX3_meet s m args below meth c H locs 0 0 (MQ below (zQi D (mw cy ad q.2) A q.1) args s 0 0 A) (F0 m 31 ls []) := by
  obtain ⟨hx, hb, hml, hown, hts, hr, hlocks, hK, hA⟩ := id C
  intro σ x1 x2 x3 x4 H locs hP hD hS ls hl hm
  have hm : bkX3_meet_31  σ x1 x2 x3 x4 = some q := hm
  unfold bkX3_meet_31 at hm
  refine lv_aload_n hx hb dX3_meet_31 rfl (lv_at hl 0 rfl) ?_
  refine lv_iload_n hx hb dX3_meet_32 rfl (lv_at hl 1 rfl) ?_
  refine lv_iload_n hx hb dX3_meet_33 rfl (lv_at hl 2 rfl) ?_
  refine lv_iload_n hx hb dX3_meet_34 rfl (lv_at hl 3 rfl) ?_
  obtain ⟨q_1, hq_1, hm⟩ := ob hm
  refine zc_i (zr_V [.int x1, .int x2, .int x3] [] ⟨hx, hb, hml, hown, hts⟩ (ctX3_meets l D cy ad σ  x1 x2 x3 q_1 hq_1 _) (cwV 3 hts gX3_meet_X3_meets rfl rfl rfl (by decide +kernel) ⟨Nat.le_of_ble_eq_true rfl, Nat.le_of_ble_eq_true rfl⟩) hK hP hD 0 mw_0 rfl rfl rfl hl.1 rfl (Nat.le_of_ble_eq_true rfl) dX3_meet_35 ⟨Nat.zero_le _, Nat.zero_le _⟩) hD hS hA (fun H locs hP hD hS => ?_)
  refine lv_istore (lv' := [(5, .int q_1.1), (0, .ref (ad 0 0)), (1, .int x1), (2, .int x2), (3, .int x3), (4, .int x4)]) hx hb dX3_meet_38 hl (by decide) rfl (fun ls hl => ?_)
  refine lv_iload hx hb dX3_meet_40 (lv_at hl 5 rfl) ?_
  refine lv_iconst (v := -1) hx hb dX3_meet_42 (by decide) ?_
  refine lv_icmp_ne (tgt := 57) hx hb dX3_meet_43 (by decide) (fun c_2 => ?_) (fun c_2 => ?_)
  · have hm := ifn c_2 hm
    refine lv_iload hx hb dX3_meet_57 (lv_at hl 0 rfl) ?_
    refine lv_if_eq (tgt := 72) hx hb dX3_meet_59 (by decide) (fun c_3 => ?_) (fun c_3 => ?_)
    · have hm := ifp c_3 hm
      refine lv_iconst (v := -1) hx hb dX3_meet_72 (by decide) ?_
      exact z_i hx hb hr hlocks hm hP hD hS dX3_meet_73
    · have hm := ifn c_3 hm
      refine lv_aload_n hx hb dX3_meet_62 rfl (lv_at hl 1 rfl) ?_
      refine va_get (D := D) (ci := 3) (v := .ref (ad 2 0)) (C := RX3) (T := TX3) (N := 20) hx hb hts iwX3_meet_X3 hown hK.1 hP 0 mw_0 rfl 13 (by decide) (hts _ lkX3_meet_39) (fun _ h9 => h9) rfl dX3_meet_63 ?_
      refine lv_iload hx hb dX3_meet_66 (lv_at hl 5 rfl) ?_
      obtain ⟨h_4, hm⟩ := gd_some hm
      refine va_iald hx hb hK.1 hP 2 0 mw_2 rfl (inb_vp h_4) dX3_meet_68 ?_
      refine lv_goto (tgt := 73) hx hb dX3_meet_69 (by decide) ?_
      exact z_i hx hb hr hlocks hm hP hD hS dX3_meet_73
  · have hm := ifp c_2 hm
    refine lv_iload hx hb dX3_meet_46 (lv_at hl 0 rfl) ?_
    refine lv_if_eq (tgt := 55) hx hb dX3_meet_48 (by decide) (fun c_5 => ?_) (fun c_5 => ?_)
    · have hm := ifp c_5 hm
      refine lv_iconst (v := 0) hx hb dX3_meet_55 (by decide) ?_
      exact z_i hx hb hr hlocks hm hP hD hS dX3_meet_56
    · have hm := ifn c_5 hm
      refine lv_iconst (v := 1) hx hb dX3_meet_51 (by decide) ?_
      refine lv_goto (tgt := 56) hx hb dX3_meet_52 (by decide) ?_
      exact z_i hx hb hr hlocks hm hP hD hS dX3_meet_56
def mX3_meet (σ : ST) (a1 : Int32) (a2 : Int32) (a3 : Int32) (a4 : Int32) : Option (Int32 × ST) := sv (sI σ 0 0 10 (0 : Int32)) fun σ_6 => (mX3_isMeeting a1 a2 a3).bind fun q_7 => if q_7 = (0 : Int32) then (some ((-1 : Int32), σ_6)) else (if a4 = (-1 : Int32) then (kX3_meet_31 (σ_6, a1, a2, a3, a4)) else ((mX3_isBond σ_6 a4).bind fun q_10 => if q_10 = (0 : Int32) then (some ((-1 : Int32), σ_6)) else (kX3_meet_31 (σ_6, a1, a2, a3, a4))))
set_option maxHeartbeats 4000000 in
set_option maxRecDepth 100000 in
theorem ctX3_meet (l : Launch) (D : va_G) (cy : Nat → ClassId) (ad : Nat → Nat → Nat) (σ : ST) (a1 : Int32) (a2 : Int32) (a3 : Int32) (a4 : Int32) (q : Int32 × ST) (hm : mX3_meet σ a1 a2 a3 a4 = some q) : zMi l yX3_meet wsX3_meet rmX3_meet D cy [.ref (ad 0 0), .int a1, .int a2, .int a3, .int a4] (mw cy ad σ) q.1 (mw cy ad q.2) := by
  intro sz
  refine Met.ofW (cc := cX3_meet) (maxL := 6) (ret := (some .int)) (by decide) rfl ?_
  intro p e s m args below meth c s₁ B hml hv
  obtain ⟨rfl, hsz, hP, hK, hD0⟩ := hv
  have hx := B.exec
  have hb := B.bytes
  have hr := B.returns
  have hts := atoms_spec (ws := wsX3_meet) B.pre
  have hown : s.vm.findClass RX3 = some m.cls := findClass_of_methodNamed B.named
  have hlocks := B.notSynchronized
  subst hsz
  have hD := hD0.self (sz := s.heap.size)
  generalize hAe : va_A (mw cy ad σ) s.heap.size = A at hD ⊢
  have hA : ∀ q : Nat, s.heap.size ≤ q → A q := fun q h => by rw [← hAe]; exact Or.inr h
  have hS : va_S A s.heap s.heap [] := va_S.rf
  have C : Cx p s m _ meth c cX3_meet 6 (some .int) RX3 wsX3_meet D cy A := ⟨hx, hb, hml, hown, hts, hr, hlocks, hK, hA⟩
  have hl := lv_entry ([.ref (ad 0 0), .int a1, .int a2, .int a3, .int a4]) (n := 6) (Nat.le_of_ble_eq_true rfl)
  rw [lg_entry_eq]
  generalize (lg_sl ([.ref (ad 0 0), .int a1, .int a2, .int a3, .int a4]) ++ List.replicate (6 - (lg_sl ([.ref (ad 0 0), .int a1, .int a2, .int a3, .int a4])).length) Slot.unset).toArray = ls at hl ⊢
  have hl : lv_has ls 6 [(0, .ref (ad 0 0)), (1, .int a1), (2, .int a2), (3, .int a3), (4, .int a4)] := hl
  unfold mX3_meet at hm
  refine lv_aload_n hx hb dX3_meet_0 rfl (lv_at hl 0 rfl) ?_
  refine lv_iconst (v := 0) hx hb dX3_meet_1 (by decide) ?_
  refine va_put (D := D) (ci := 3) (v := .int (0 : Int32)) (ty := .int) (C := RX3) (T := TX3) (N := 20) hx hb hts iwX3_meet_X3 tyX3 tyX3_ok nmX3 hown hK.1 hP hD hS 0 mw_0 rfl 10 (by decide) (hts _ lkX3_meet_61) (fun _ h9 => h9) rfl (by decide +kernel) rfl rfl (Nat.le_of_ble_eq_true rfl) dX3_meet_2 (fun H locs hP hD hS => ?_)
  have hP := eP (mw_s0 (σ := σ) (j := 10) (v := (0 : Int32)) (by rfl)) hP
  have hD := eD (mw_s0 (σ := σ) (j := 10) (v := (0 : Int32)) (by rfl)) hD
  obtain ⟨σ_6, e_6, hm⟩ := sv_some hm
  have hP : va_P D vwCl (mw cy ad σ_6) H := by rw [e_6]; exact hP
  have hD : va_D A (mw cy ad σ_6) := by rw [e_6]; exact hD
  refine lv_iload_n hx hb dX3_meet_5 rfl (lv_at hl 1 rfl) ?_
  refine lv_iload_n hx hb dX3_meet_6 rfl (lv_at hl 2 rfl) ?_
  refine lv_iload_n hx hb dX3_meet_7 rfl (lv_at hl 3 rfl) ?_
  obtain ⟨q_7, hq_7, hm⟩ := ob hm
  refine zc_i (zr_S [.int a1, .int a2, .int a3] [] ⟨hx, hb, hml, hown, hts⟩ (ctX3_isMeeting l D cy (mw cy ad σ_6)  a1 a2 a3 q_7 hq_7 _) (va_cwS 3 hts gX3_meet_X3_isMeeting rfl rfl rfl (by decide +kernel) ⟨Nat.le_of_ble_eq_true rfl, Nat.le_of_ble_eq_true rfl⟩) hK hP hD rfl hl.1 rfl (Nat.le_of_ble_eq_true rfl) dX3_meet_8 ⟨Nat.zero_le _, Nat.zero_le _⟩) hD hS hA (fun H locs hP hD hS => ?_)
  refine lv_if_eq (tgt := 29) hx hb dX3_meet_11 (by decide) (fun c_8 => ?_) (fun c_8 => ?_)
  · have hm := ifp c_8 hm
    refine lv_iconst (v := -1) hx hb dX3_meet_29 (by decide) ?_
    exact z_i hx hb hr hlocks hm hP hD hS dX3_meet_30
  · have hm := ifn c_8 hm
    refine lv_iload hx hb dX3_meet_14 (lv_at hl 4 rfl) ?_
    refine lv_iconst (v := -1) hx hb dX3_meet_16 (by decide) ?_
    refine lv_icmp_eq (tgt := 31) hx hb dX3_meet_17 (by decide) (fun c_9 => ?_) (fun c_9 => ?_)
    · have hm := ifp c_9 hm
      exact kX3_meet_31_ok C q σ_6 a1 a2 a3 a4 _ _ hP hD hS _ (lv_sub hl [0, 1, 2, 3, 4] rfl) hm
    · have hm := ifn c_9 hm
      refine lv_aload_n hx hb dX3_meet_20 rfl (lv_at hl 0 rfl) ?_
      refine lv_iload hx hb dX3_meet_21 (lv_at hl 4 rfl) ?_
      obtain ⟨q_10, hq_10, hm⟩ := ob hm
      refine zc_i (zr_V [.int a4] [] ⟨hx, hb, hml, hown, hts⟩ (ctX3_isBond l D cy ad σ_6  a4 q_10 hq_10 _) (cwV 1 hts gX3_meet_X3_isBond rfl rfl rfl (by decide +kernel) ⟨Nat.le_of_ble_eq_true rfl, Nat.le_of_ble_eq_true rfl⟩) hK hP hD 0 mw_0 rfl rfl rfl hl.1 rfl (Nat.le_of_ble_eq_true rfl) dX3_meet_23 ⟨Nat.zero_le _, Nat.zero_le _⟩) hD hS hA (fun H locs hP hD hS => ?_)
      refine lv_if_ne (tgt := 31) hx hb dX3_meet_26 (by decide) (fun c_11 => ?_) (fun c_11 => ?_)
      · have hm := ifn c_11 hm
        exact kX3_meet_31_ok C q σ_6 a1 a2 a3 a4 _ _ hP hD hS _ (lv_sub hl [0, 1, 2, 3, 4] rfl) hm
      · have hm := ifp c_11 hm
        refine lv_iconst (v := -1) hx hb dX3_meet_29 (by decide) ?_
        exact z_i hx hb hr hlocks hm hP hD hS dX3_meet_30
abbrev rmX3_cost : Room := { frames := 8, cells := 0, slots := 0, locals := 187 }
theorem lkX3_cost_64 : Cond.fieldLink RX3 64 "DeliveryBasketModel" "many" "I" ∈ wsX3_cost := by decide +kernel
theorem iwX3_cost_X3 : ∀ w ∈ wsX30, w ∈ wsX3_cost := fun _ h => List.mem_cons_of_mem _ (List.mem_append_right _ h)
theorem lkX3_cost_39 : Cond.fieldLink RX3 39 "DeliveryBasketModel" "given" "[I" ∈ wsX3_cost := by decide +kernel
theorem lkX3_cost_42 : Cond.fieldLink RX3 42 "DeliveryBasketModel" "costs" "[J" ∈ wsX3_cost := by decide +kernel
theorem lkX3_cost_61 : Cond.fieldLink RX3 61 "DeliveryBasketModel" "thrown" "I" ∈ wsX3_cost := by decide +kernel
def bkX3_cost_36  (rec : ST × Int64 × Int32 → Option (Int64 × ST)) (σ : ST) (x4 : Int64) (x6 : Int32) : Option (Int64 × ST) := if (gI σ 0 0 1) ≤ x6 then (some (x4, σ)) else (gd (inb x6 8) (gd (inb x6 8) (rec (σ, (x4 + ((Int32.toInt64 (gI σ 2 0 (Int32.toNatClampNeg x6))) * (gJ σ 0 0 (Int32.toNatClampNeg x6)))), (x6 + (1 : Int32))))))
def kX3_cost_36  (n : Nat) (a : ST × Int64 × Int32) : Option (Int64 × ST) := fx (fun rec a => bkX3_cost_36  rec a.1 a.2.1 a.2.2) n a
set_option maxHeartbeats 4000000 in
set_option maxRecDepth 100000 in
theorem kX3_cost_36_ok {p : Program} {l : Launch} {e : Env} {s : State} {m : MethodId} {args : Array Value} {below : List Frame} {meth : Method} {c : Code} {D : va_G} {cy : Nat → ClassId} {ad : Nat → Nat → Nat} {A : Nat → Prop} (C : Cx p s m args meth c cX3_cost 7 (some .long) RX3 wsX3_cost D cy A) (q : Int64 × ST) : ∀ (n : Nat) (σ : ST) (x4 : Int64) (x6 : Int32), ∀ (H : Heap) (locs : List Loc), va_P D vwCl (mw cy ad σ) H → va_D A (mw cy ad σ) → va_S A s.heap H locs → ∀ ls : Array Slot, lv_has ls 7 [(0, .ref (ad 0 0)), (4, .long x4), (6, .int x6)] → kX3_cost_36 n (σ, x4, x6) = some q → W p l e rmX3_cost s m args below meth c H locs 0 0 (MQ below (zQl D (mw cy ad q.2) A q.1) args s 0 0 A) (F0 m 36 ls []) := by
  obtain ⟨hx, hb, hml, hown, hts, hr, hlocks, hK, hA⟩ := id C
  intro n
  induction n with
  | zero => intro σ x4 x6 H locs hP hD hS ls hl hm; cases hm
  | succ n ih =>
    intro σ x4 x6 H locs hP hD hS ls hl hm
    have hm : bkX3_cost_36  (kX3_cost_36 n) σ x4 x6 = some q := hm
    unfold bkX3_cost_36 at hm
    refine lv_iload hx hb dX3_cost_36 (lv_at hl 2 rfl) ?_
    refine lv_aload_n hx hb dX3_cost_38 rfl (lv_at hl 0 rfl) ?_
    refine va_get (D := D) (ci := 3) (v := .int (gI σ 0 0 1)) (C := RX3) (T := TX3) (N := 20) hx hb hts iwX3_cost_X3 hown hK.1 hP 0 mw_0 rfl 1 (by decide) (hts _ lkX3_cost_64) (fun _ h9 => h9) rfl dX3_cost_39 ?_
    refine lv_icmp_ge (tgt := 72) hx hb dX3_cost_42 (by decide) (fun c_1 => ?_) (fun c_1 => ?_)
    · have hm := ifp c_1 hm
      refine lv_lload hx hb dX3_cost_72 (lv_at hl 1 rfl) ?_
      exact z_l hx hb hr hlocks hm hP hD hS dX3_cost_74
    · have hm := ifn c_1 hm
      refine lv_lload hx hb dX3_cost_45 (lv_at hl 1 rfl) ?_
      refine lv_aload_n hx hb dX3_cost_47 rfl (lv_at hl 0 rfl) ?_
      refine va_get (D := D) (ci := 3) (v := .ref (ad 2 0)) (C := RX3) (T := TX3) (N := 20) hx hb hts iwX3_cost_X3 hown hK.1 hP 0 mw_0 rfl 13 (by decide) (hts _ lkX3_cost_39) (fun _ h9 => h9) rfl dX3_cost_48 ?_
      refine lv_iload hx hb dX3_cost_51 (lv_at hl 2 rfl) ?_
      obtain ⟨h_2, hm⟩ := gd_some hm
      refine va_iald hx hb hK.1 hP 2 0 mw_2 rfl (inb_vp h_2) dX3_cost_53 ?_
      refine lv_i2l hx hb dX3_cost_54 rfl ?_
      refine lv_aload_n hx hb dX3_cost_55 rfl (lv_at hl 0 rfl) ?_
      refine va_get (D := D) (ci := 3) (v := .ref (ad 3 0)) (C := RX3) (T := TX3) (N := 20) hx hb hts iwX3_cost_X3 hown hK.1 hP 0 mw_0 rfl 14 (by decide) (hts _ lkX3_cost_42) (fun _ h9 => h9) rfl dX3_cost_56 ?_
      refine lv_iload hx hb dX3_cost_59 (lv_at hl 2 rfl) ?_
      obtain ⟨h_3, hm⟩ := gd_some hm
      refine va_lald hx hb hK.1 hP 3 1 mw_3 rfl (inb_vp h_3) dX3_cost_61 ?_
      refine lv_lmul hx hb dX3_cost_62 ?_
      refine lv_ladd hx hb dX3_cost_63 ?_
      refine lv_lstore (lv' := [(4, .long (x4 + ((Int32.toInt64 (gI σ 2 0 (Int32.toNatClampNeg x6))) * (gJ σ 0 0 (Int32.toNatClampNeg x6))))), (0, .ref (ad 0 0)), (6, .int x6)]) hx hb dX3_cost_64 hl (by decide) rfl (fun ls hl => ?_)
      refine lv_iinc (v := (x6 + (1 : Int32))) (lv' := [(6, .int (x6 + (1 : Int32))), (4, .long (x4 + ((Int32.toInt64 (gI σ 2 0 (Int32.toNatClampNeg x6))) * (gJ σ 0 0 (Int32.toNatClampNeg x6))))), (0, .ref (ad 0 0))]) hx hb dX3_cost_66 hl (k := 2) rfl rfl (by decide) rfl (fun ls hl => ?_)
      refine lv_goto (tgt := 36) hx hb dX3_cost_69 (by decide) ?_
      exact ih σ (x4 + ((Int32.toInt64 (gI σ 2 0 (Int32.toNatClampNeg x6))) * (gJ σ 0 0 (Int32.toNatClampNeg x6)))) (x6 + (1 : Int32)) _ _ hP hD hS _ (lv_sub hl [2, 1, 0] rfl) hm
def mX3_cost (σ : ST) (a1 : Int32) (a2 : Int32) (a3 : Int32) : Option (Int64 × ST) := sv (sI σ 0 0 10 (0 : Int32)) fun σ_4 => (mX3_isMeeting a1 a2 a3).bind fun q_5 => if q_5 = (0 : Int32) then ((mX3_refuse σ_4).bind fun q_7 => some ((Int32.toInt64 q_7.1), q_7.2)) else ((mX3_meets σ_4 a1 a2 a3).bind fun q_8 => if q_8.1 = (0 : Int32) then ((mX3_refuse q_8.2).bind fun q_10 => some ((Int32.toInt64 q_10.1), q_10.2)) else (kX3_cost_36 FU (q_8.2, (0 : Int64), (0 : Int32))))
set_option maxHeartbeats 4000000 in
set_option maxRecDepth 100000 in
theorem ctX3_cost (l : Launch) (D : va_G) (cy : Nat → ClassId) (ad : Nat → Nat → Nat) (σ : ST) (a1 : Int32) (a2 : Int32) (a3 : Int32) (q : Int64 × ST) (hm : mX3_cost σ a1 a2 a3 = some q) : zMl l yX3_cost wsX3_cost rmX3_cost D cy [.ref (ad 0 0), .int a1, .int a2, .int a3] (mw cy ad σ) q.1 (mw cy ad q.2) := by
  intro sz
  refine Met.ofW (cc := cX3_cost) (maxL := 7) (ret := (some .long)) (by decide) rfl ?_
  intro p e s m args below meth c s₁ B hml hv
  obtain ⟨rfl, hsz, hP, hK, hD0⟩ := hv
  have hx := B.exec
  have hb := B.bytes
  have hr := B.returns
  have hts := atoms_spec (ws := wsX3_cost) B.pre
  have hown : s.vm.findClass RX3 = some m.cls := findClass_of_methodNamed B.named
  have hlocks := B.notSynchronized
  subst hsz
  have hD := hD0.self (sz := s.heap.size)
  generalize hAe : va_A (mw cy ad σ) s.heap.size = A at hD ⊢
  have hA : ∀ q : Nat, s.heap.size ≤ q → A q := fun q h => by rw [← hAe]; exact Or.inr h
  have hS : va_S A s.heap s.heap [] := va_S.rf
  have C : Cx p s m _ meth c cX3_cost 7 (some .long) RX3 wsX3_cost D cy A := ⟨hx, hb, hml, hown, hts, hr, hlocks, hK, hA⟩
  have hl := lv_entry ([.ref (ad 0 0), .int a1, .int a2, .int a3]) (n := 7) (Nat.le_of_ble_eq_true rfl)
  rw [lg_entry_eq]
  generalize (lg_sl ([.ref (ad 0 0), .int a1, .int a2, .int a3]) ++ List.replicate (7 - (lg_sl ([.ref (ad 0 0), .int a1, .int a2, .int a3])).length) Slot.unset).toArray = ls at hl ⊢
  have hl : lv_has ls 7 [(0, .ref (ad 0 0)), (1, .int a1), (2, .int a2), (3, .int a3)] := hl
  unfold mX3_cost at hm
  refine lv_aload_n hx hb dX3_cost_0 rfl (lv_at hl 0 rfl) ?_
  refine lv_iconst (v := 0) hx hb dX3_cost_1 (by decide) ?_
  refine va_put (D := D) (ci := 3) (v := .int (0 : Int32)) (ty := .int) (C := RX3) (T := TX3) (N := 20) hx hb hts iwX3_cost_X3 tyX3 tyX3_ok nmX3 hown hK.1 hP hD hS 0 mw_0 rfl 10 (by decide) (hts _ lkX3_cost_61) (fun _ h9 => h9) rfl (by decide +kernel) rfl rfl (Nat.le_of_ble_eq_true rfl) dX3_cost_2 (fun H locs hP hD hS => ?_)
  have hP := eP (mw_s0 (σ := σ) (j := 10) (v := (0 : Int32)) (by rfl)) hP
  have hD := eD (mw_s0 (σ := σ) (j := 10) (v := (0 : Int32)) (by rfl)) hD
  obtain ⟨σ_4, e_4, hm⟩ := sv_some hm
  have hP : va_P D vwCl (mw cy ad σ_4) H := by rw [e_4]; exact hP
  have hD : va_D A (mw cy ad σ_4) := by rw [e_4]; exact hD
  refine lv_iload_n hx hb dX3_cost_5 rfl (lv_at hl 1 rfl) ?_
  refine lv_iload_n hx hb dX3_cost_6 rfl (lv_at hl 2 rfl) ?_
  refine lv_iload_n hx hb dX3_cost_7 rfl (lv_at hl 3 rfl) ?_
  obtain ⟨q_5, hq_5, hm⟩ := ob hm
  refine zc_i (zr_S [.int a1, .int a2, .int a3] [] ⟨hx, hb, hml, hown, hts⟩ (ctX3_isMeeting l D cy (mw cy ad σ_4)  a1 a2 a3 q_5 hq_5 _) (va_cwS 3 hts gX3_cost_X3_isMeeting rfl rfl rfl (by decide +kernel) ⟨Nat.le_of_ble_eq_true rfl, Nat.le_of_ble_eq_true rfl⟩) hK hP hD rfl hl.1 rfl (Nat.le_of_ble_eq_true rfl) dX3_cost_8 ⟨Nat.zero_le _, Nat.zero_le _⟩) hD hS hA (fun H locs hP hD hS => ?_)
  refine lv_if_eq (tgt := 24) hx hb dX3_cost_11 (by decide) (fun c_6 => ?_) (fun c_6 => ?_)
  · have hm := ifp c_6 hm
    refine lv_aload_n hx hb dX3_cost_24 rfl (lv_at hl 0 rfl) ?_
    obtain ⟨q_7, hq_7, hm⟩ := ob hm
    refine zc_i (zr_V [] [] ⟨hx, hb, hml, hown, hts⟩ (ctX3_refuse l D cy ad σ_4   q_7 hq_7 _) (cwV 0 hts gX3_cost_X3_refuse rfl rfl rfl (by decide +kernel) ⟨Nat.le_of_ble_eq_true rfl, Nat.le_of_ble_eq_true rfl⟩) hK hP hD 0 mw_0 rfl rfl rfl hl.1 rfl (Nat.le_of_ble_eq_true rfl) dX3_cost_25 ⟨Nat.zero_le _, Nat.zero_le _⟩) hD hS hA (fun H locs hP hD hS => ?_)
    refine lv_i2l hx hb dX3_cost_28 rfl ?_
    exact z_l hx hb hr hlocks hm hP hD hS dX3_cost_29
  · have hm := ifn c_6 hm
    refine lv_aload_n hx hb dX3_cost_14 rfl (lv_at hl 0 rfl) ?_
    refine lv_iload_n hx hb dX3_cost_15 rfl (lv_at hl 1 rfl) ?_
    refine lv_iload_n hx hb dX3_cost_16 rfl (lv_at hl 2 rfl) ?_
    refine lv_iload_n hx hb dX3_cost_17 rfl (lv_at hl 3 rfl) ?_
    obtain ⟨q_8, hq_8, hm⟩ := ob hm
    refine zc_i (zr_V [.int a1, .int a2, .int a3] [] ⟨hx, hb, hml, hown, hts⟩ (ctX3_meets l D cy ad σ_4  a1 a2 a3 q_8 hq_8 _) (cwV 3 hts gX3_cost_X3_meets rfl rfl rfl (by decide +kernel) ⟨Nat.le_of_ble_eq_true rfl, Nat.le_of_ble_eq_true rfl⟩) hK hP hD 0 mw_0 rfl rfl rfl hl.1 rfl (Nat.le_of_ble_eq_true rfl) dX3_cost_18 ⟨Nat.zero_le _, Nat.zero_le _⟩) hD hS hA (fun H locs hP hD hS => ?_)
    refine lv_if_ne (tgt := 30) hx hb dX3_cost_21 (by decide) (fun c_9 => ?_) (fun c_9 => ?_)
    · have hm := ifn c_9 hm
      refine lv_lconst (v := 0) hx hb dX3_cost_30 (by decide) ?_
      refine lv_lstore (lv' := [(4, .long (0 : Int64)), (0, .ref (ad 0 0)), (1, .int a1), (2, .int a2), (3, .int a3)]) hx hb dX3_cost_31 hl (by decide) rfl (fun ls hl => ?_)
      refine lv_iconst (v := 0) hx hb dX3_cost_33 (by decide) ?_
      refine lv_istore (lv' := [(6, .int (0 : Int32)), (4, .long (0 : Int64)), (0, .ref (ad 0 0)), (1, .int a1), (2, .int a2), (3, .int a3)]) hx hb dX3_cost_34 hl (by decide) rfl (fun ls hl => ?_)
      exact kX3_cost_36_ok C q FU q_8.2 (0 : Int64) (0 : Int32) _ _ hP hD hS _ (lv_sub hl [2, 1, 0] rfl) hm
    · have hm := ifp c_9 hm
      refine lv_aload_n hx hb dX3_cost_24 rfl (lv_at hl 0 rfl) ?_
      obtain ⟨q_10, hq_10, hm⟩ := ob hm
      refine zc_i (zr_V [] [] ⟨hx, hb, hml, hown, hts⟩ (ctX3_refuse l D cy ad q_8.2   q_10 hq_10 _) (cwV 0 hts gX3_cost_X3_refuse rfl rfl rfl (by decide +kernel) ⟨Nat.le_of_ble_eq_true rfl, Nat.le_of_ble_eq_true rfl⟩) hK hP hD 0 mw_0 rfl rfl rfl hl.1 rfl (Nat.le_of_ble_eq_true rfl) dX3_cost_25 ⟨Nat.zero_le _, Nat.zero_le _⟩) hD hS hA (fun H locs hP hD hS => ?_)
      refine lv_i2l hx hb dX3_cost_28 rfl ?_
      exact z_l hx hb hr hlocks hm hP hD hS dX3_cost_29
abbrev rmX3_tree : Room := { frames := 2, cells := 0, slots := 0, locals := 45 }
theorem lkX3_tree_141 : Cond.fieldLink RX3 141 "DeliveryBasketModel" "days" "I" ∈ wsX3_tree := by decide +kernel
theorem iwX3_tree_X3 : ∀ w ∈ wsX30, w ∈ wsX3_tree := fun _ h => List.mem_cons_of_mem _ (List.mem_append_right _ h)
theorem lkX3_tree_23 : Cond.fieldLink RX3 23 "DeliveryBasketModel" "start" "I" ∈ wsX3_tree := by decide +kernel
theorem lkX3_tree_26 : Cond.fieldLink RX3 26 "DeliveryBasketModel" "jump" "I" ∈ wsX3_tree := by decide +kernel
theorem lkX3_tree_144 : Cond.fieldLink RX3 144 "DeliveryBasketModel" "carry" "I" ∈ wsX3_tree := by decide +kernel
theorem lkX3_tree_30 : Cond.fieldLink RX3 30 "DeliveryBasketModel" "agreed" "I" ∈ wsX3_tree := by decide +kernel
theorem lkX3_tree_61 : Cond.fieldLink RX3 61 "DeliveryBasketModel" "thrown" "I" ∈ wsX3_tree := by decide +kernel
theorem lkX3_tree_176 : Cond.constantLong RX3 176 (20) ∈ wsX3_tree := by decide +kernel
theorem lkX3_tree_178 : Cond.constantLong RX3 178 (50) ∈ wsX3_tree := by decide +kernel
theorem lkX3_tree_180 : Cond.constantLong RX3 180 (-1000000) ∈ wsX3_tree := by decide +kernel
theorem lkX3_tree_182 : Cond.constantLong RX3 182 (1000000) ∈ wsX3_tree := by decide +kernel
theorem lkX3_tree_168 : Cond.constantLong RX3 168 (999999999) ∈ wsX3_tree := by decide +kernel
def bkX3_tree_110  (σ : ST) (x1 : Int32) (x2 : Int32) (x3 : Int32) (x4 : Int32) (x5 : Int32) : Option (Int32 × ST) := sv (sI σ 0 0 5 x1) fun σ_1 => sv (sI σ_1 0 0 6 x2) fun σ_2 => sv (sI σ_2 0 0 7 x3) fun σ_3 => sv (sI σ_3 0 0 8 x4) fun σ_4 => sv (sI σ_4 0 0 9 x5) fun σ_5 => some ((1 : Int32), σ_5)
def kX3_tree_110  (a : ST × Int32 × Int32 × Int32 × Int32 × Int32) : Option (Int32 × ST) := bkX3_tree_110  a.1 a.2.1 a.2.2.1 a.2.2.2.1 a.2.2.2.2.1 a.2.2.2.2.2
set_option maxHeartbeats 4000000 in
set_option maxRecDepth 100000 in
theorem kX3_tree_110_ok {p : Program} {l : Launch} {e : Env} {s : State} {m : MethodId} {args : Array Value} {below : List Frame} {meth : Method} {c : Code} {D : va_G} {cy : Nat → ClassId} {ad : Nat → Nat → Nat} {A : Nat → Prop} (C : Cx p s m args meth c cX3_tree 6 (some .boolean) RX3 wsX3_tree D cy A) (q : Int32 × ST) : ∀ (σ : ST) (x1 : Int32) (x2 : Int32) (x3 : Int32) (x4 : Int32) (x5 : Int32), ∀ (H : Heap) (locs : List Loc), va_P D vwCl (mw cy ad σ) H → va_D A (mw cy ad σ) → va_S A s.heap H locs → ∀ ls : Array Slot, lv_has ls 6 [(0, .ref (ad 0 0)), (1, .int x1), (2, .int x2), (3, .int x3), (4, .int x4), (5, .int x5)] → kX3_tree_110 (σ, x1, x2, x3, x4, x5) = some q → W p l e rmX3_tree s m args below meth c H locs 0 0 (MQ below (zQi D (mw cy ad q.2) A q.1) args s 0 0 A) (F0 m 110 ls []) := by
  obtain ⟨hx, hb, hml, hown, hts, hr, hlocks, hK, hA⟩ := id C
  intro σ x1 x2 x3 x4 x5 H locs hP hD hS ls hl hm
  have hm : bkX3_tree_110  σ x1 x2 x3 x4 x5 = some q := hm
  unfold bkX3_tree_110 at hm
  refine lv_aload_n hx hb dX3_tree_110 rfl (lv_at hl 0 rfl) ?_
  refine lv_iload_n hx hb dX3_tree_111 rfl (lv_at hl 1 rfl) ?_
  refine va_put (D := D) (ci := 3) (v := .int x1) (ty := .int) (C := RX3) (T := TX3) (N := 20) hx hb hts iwX3_tree_X3 tyX3 tyX3_ok nmX3 hown hK.1 hP hD hS 0 mw_0 rfl 5 (by decide) (hts _ lkX3_tree_141) (fun _ h9 => h9) rfl (by decide +kernel) rfl rfl (Nat.le_of_ble_eq_true rfl) dX3_tree_112 (fun H locs hP hD hS => ?_)
  have hP := eP (mw_s0 (σ := σ) (j := 5) (v := x1) (by rfl)) hP
  have hD := eD (mw_s0 (σ := σ) (j := 5) (v := x1) (by rfl)) hD
  obtain ⟨σ_1, e_1, hm⟩ := sv_some hm
  have hP : va_P D vwCl (mw cy ad σ_1) H := by rw [e_1]; exact hP
  have hD : va_D A (mw cy ad σ_1) := by rw [e_1]; exact hD
  refine lv_aload_n hx hb dX3_tree_115 rfl (lv_at hl 0 rfl) ?_
  refine lv_iload_n hx hb dX3_tree_116 rfl (lv_at hl 2 rfl) ?_
  refine va_put (D := D) (ci := 3) (v := .int x2) (ty := .int) (C := RX3) (T := TX3) (N := 20) hx hb hts iwX3_tree_X3 tyX3 tyX3_ok nmX3 hown hK.1 hP hD hS 0 mw_0 rfl 6 (by decide) (hts _ lkX3_tree_23) (fun _ h9 => h9) rfl (by decide +kernel) rfl rfl (Nat.le_of_ble_eq_true rfl) dX3_tree_117 (fun H locs hP hD hS => ?_)
  have hP := eP (mw_s0 (σ := σ_1) (j := 6) (v := x2) (by rfl)) hP
  have hD := eD (mw_s0 (σ := σ_1) (j := 6) (v := x2) (by rfl)) hD
  obtain ⟨σ_2, e_2, hm⟩ := sv_some hm
  have hP : va_P D vwCl (mw cy ad σ_2) H := by rw [e_2]; exact hP
  have hD : va_D A (mw cy ad σ_2) := by rw [e_2]; exact hD
  refine lv_aload_n hx hb dX3_tree_120 rfl (lv_at hl 0 rfl) ?_
  refine lv_iload_n hx hb dX3_tree_121 rfl (lv_at hl 3 rfl) ?_
  refine va_put (D := D) (ci := 3) (v := .int x3) (ty := .int) (C := RX3) (T := TX3) (N := 20) hx hb hts iwX3_tree_X3 tyX3 tyX3_ok nmX3 hown hK.1 hP hD hS 0 mw_0 rfl 7 (by decide) (hts _ lkX3_tree_26) (fun _ h9 => h9) rfl (by decide +kernel) rfl rfl (Nat.le_of_ble_eq_true rfl) dX3_tree_122 (fun H locs hP hD hS => ?_)
  have hP := eP (mw_s0 (σ := σ_2) (j := 7) (v := x3) (by rfl)) hP
  have hD := eD (mw_s0 (σ := σ_2) (j := 7) (v := x3) (by rfl)) hD
  obtain ⟨σ_3, e_3, hm⟩ := sv_some hm
  have hP : va_P D vwCl (mw cy ad σ_3) H := by rw [e_3]; exact hP
  have hD : va_D A (mw cy ad σ_3) := by rw [e_3]; exact hD
  refine lv_aload_n hx hb dX3_tree_125 rfl (lv_at hl 0 rfl) ?_
  refine lv_iload hx hb dX3_tree_126 (lv_at hl 4 rfl) ?_
  refine va_put (D := D) (ci := 3) (v := .int x4) (ty := .int) (C := RX3) (T := TX3) (N := 20) hx hb hts iwX3_tree_X3 tyX3 tyX3_ok nmX3 hown hK.1 hP hD hS 0 mw_0 rfl 8 (by decide) (hts _ lkX3_tree_144) (fun _ h9 => h9) rfl (by decide +kernel) rfl rfl (Nat.le_of_ble_eq_true rfl) dX3_tree_128 (fun H locs hP hD hS => ?_)
  have hP := eP (mw_s0 (σ := σ_3) (j := 8) (v := x4) (by rfl)) hP
  have hD := eD (mw_s0 (σ := σ_3) (j := 8) (v := x4) (by rfl)) hD
  obtain ⟨σ_4, e_4, hm⟩ := sv_some hm
  have hP : va_P D vwCl (mw cy ad σ_4) H := by rw [e_4]; exact hP
  have hD : va_D A (mw cy ad σ_4) := by rw [e_4]; exact hD
  refine lv_aload_n hx hb dX3_tree_131 rfl (lv_at hl 0 rfl) ?_
  refine lv_iload hx hb dX3_tree_132 (lv_at hl 5 rfl) ?_
  refine va_put (D := D) (ci := 3) (v := .int x5) (ty := .int) (C := RX3) (T := TX3) (N := 20) hx hb hts iwX3_tree_X3 tyX3 tyX3_ok nmX3 hown hK.1 hP hD hS 0 mw_0 rfl 9 (by decide) (hts _ lkX3_tree_30) (fun _ h9 => h9) rfl (by decide +kernel) rfl rfl (Nat.le_of_ble_eq_true rfl) dX3_tree_134 (fun H locs hP hD hS => ?_)
  have hP := eP (mw_s0 (σ := σ_4) (j := 9) (v := x5) (by rfl)) hP
  have hD := eD (mw_s0 (σ := σ_4) (j := 9) (v := x5) (by rfl)) hD
  obtain ⟨σ_5, e_5, hm⟩ := sv_some hm
  have hP : va_P D vwCl (mw cy ad σ_5) H := by rw [e_5]; exact hP
  have hD : va_D A (mw cy ad σ_5) := by rw [e_5]; exact hD
  refine lv_iconst (v := 1) hx hb dX3_tree_137 (by decide) ?_
  exact z_z hx hb hr hlocks (by decide) hm hP hD hS dX3_tree_138
def mX3_tree (σ : ST) (a1 : Int32) (a2 : Int32) (a3 : Int32) (a4 : Int32) (a5 : Int32) : Option (Int32 × ST) := sv (sI σ 0 0 10 (0 : Int32)) fun σ_6 => (mX3_isIn (Int32.toInt64 a1) (0 : Int64) (20 : Int64)).bind fun q_7 => if q_7 = (0 : Int32) then (some ((0 : Int32), σ_6)) else ((mX3_isRate a2).bind fun q_9 => if q_9 = (0 : Int32) then (some ((0 : Int32), σ_6)) else ((mX3_isIn (Int32.toInt64 a3) (0 : Int64) (50 : Int64)).bind fun q_11 => if q_11 = (0 : Int32) then (some ((0 : Int32), σ_6)) else ((mX3_isIn (Int32.toInt64 a4) (-1000000 : Int64) (1000000 : Int64)).bind fun q_13 => if q_13 = (0 : Int32) then (some ((0 : Int32), σ_6)) else ((mX3_isIn (Int32.toInt64 a5) (0 : Int64) (999999999 : Int64)).bind fun q_15 => if q_15 = (0 : Int32) then (some ((0 : Int32), σ_6)) else (if (gI σ_6 0 0 5) = a1 then (if (gI σ_6 0 0 6) = a2 then (if (gI σ_6 0 0 7) = a3 then (if (gI σ_6 0 0 8) = a4 then (if (gI σ_6 0 0 9) = a5 then (some ((0 : Int32), σ_6)) else (kX3_tree_110 (σ_6, a1, a2, a3, a4, a5))) else (kX3_tree_110 (σ_6, a1, a2, a3, a4, a5))) else (kX3_tree_110 (σ_6, a1, a2, a3, a4, a5))) else (kX3_tree_110 (σ_6, a1, a2, a3, a4, a5))) else (kX3_tree_110 (σ_6, a1, a2, a3, a4, a5)))))))
set_option maxHeartbeats 4000000 in
set_option maxRecDepth 100000 in
theorem ctX3_tree (l : Launch) (D : va_G) (cy : Nat → ClassId) (ad : Nat → Nat → Nat) (σ : ST) (a1 : Int32) (a2 : Int32) (a3 : Int32) (a4 : Int32) (a5 : Int32) (q : Int32 × ST) (hm : mX3_tree σ a1 a2 a3 a4 a5 = some q) : zMi l yX3_tree wsX3_tree rmX3_tree D cy [.ref (ad 0 0), .int a1, .int a2, .int a3, .int a4, .int a5] (mw cy ad σ) q.1 (mw cy ad q.2) := by
  intro sz
  refine Met.ofW (cc := cX3_tree) (maxL := 6) (ret := (some .boolean)) (by decide) rfl ?_
  intro p e s m args below meth c s₁ B hml hv
  obtain ⟨rfl, hsz, hP, hK, hD0⟩ := hv
  have hx := B.exec
  have hb := B.bytes
  have hr := B.returns
  have hts := atoms_spec (ws := wsX3_tree) B.pre
  have hown : s.vm.findClass RX3 = some m.cls := findClass_of_methodNamed B.named
  have hlocks := B.notSynchronized
  subst hsz
  have hD := hD0.self (sz := s.heap.size)
  generalize hAe : va_A (mw cy ad σ) s.heap.size = A at hD ⊢
  have hA : ∀ q : Nat, s.heap.size ≤ q → A q := fun q h => by rw [← hAe]; exact Or.inr h
  have hS : va_S A s.heap s.heap [] := va_S.rf
  have C : Cx p s m _ meth c cX3_tree 6 (some .boolean) RX3 wsX3_tree D cy A := ⟨hx, hb, hml, hown, hts, hr, hlocks, hK, hA⟩
  have hl := lv_entry ([.ref (ad 0 0), .int a1, .int a2, .int a3, .int a4, .int a5]) (n := 6) (Nat.le_of_ble_eq_true rfl)
  rw [lg_entry_eq]
  generalize (lg_sl ([.ref (ad 0 0), .int a1, .int a2, .int a3, .int a4, .int a5]) ++ List.replicate (6 - (lg_sl ([.ref (ad 0 0), .int a1, .int a2, .int a3, .int a4, .int a5])).length) Slot.unset).toArray = ls at hl ⊢
  have hl : lv_has ls 6 [(0, .ref (ad 0 0)), (1, .int a1), (2, .int a2), (3, .int a3), (4, .int a4), (5, .int a5)] := hl
  unfold mX3_tree at hm
  refine lv_aload_n hx hb dX3_tree_0 rfl (lv_at hl 0 rfl) ?_
  refine lv_iconst (v := 0) hx hb dX3_tree_1 (by decide) ?_
  refine va_put (D := D) (ci := 3) (v := .int (0 : Int32)) (ty := .int) (C := RX3) (T := TX3) (N := 20) hx hb hts iwX3_tree_X3 tyX3 tyX3_ok nmX3 hown hK.1 hP hD hS 0 mw_0 rfl 10 (by decide) (hts _ lkX3_tree_61) (fun _ h9 => h9) rfl (by decide +kernel) rfl rfl (Nat.le_of_ble_eq_true rfl) dX3_tree_2 (fun H locs hP hD hS => ?_)
  have hP := eP (mw_s0 (σ := σ) (j := 10) (v := (0 : Int32)) (by rfl)) hP
  have hD := eD (mw_s0 (σ := σ) (j := 10) (v := (0 : Int32)) (by rfl)) hD
  obtain ⟨σ_6, e_6, hm⟩ := sv_some hm
  have hP : va_P D vwCl (mw cy ad σ_6) H := by rw [e_6]; exact hP
  have hD : va_D A (mw cy ad σ_6) := by rw [e_6]; exact hD
  refine lv_iload_n hx hb dX3_tree_5 rfl (lv_at hl 1 rfl) ?_
  refine lv_i2l hx hb dX3_tree_6 rfl ?_
  refine lv_lconst (v := 0) hx hb dX3_tree_7 (by decide) ?_
  refine lv_ldc2 (v := 20) hx hb hown (hts _ lkX3_tree_176) dX3_tree_8 ?_
  obtain ⟨q_7, hq_7, hm⟩ := ob hm
  refine zc_i (zr_S [.long (Int32.toInt64 a1), .long (0 : Int64), .long (20 : Int64)] [] ⟨hx, hb, hml, hown, hts⟩ (ctX3_isIn l D cy (mw cy ad σ_6)  (Int32.toInt64 a1) (0 : Int64) (20 : Int64) q_7 hq_7 _) (va_cwS 3 hts gX3_tree_X3_isIn rfl rfl rfl (by decide +kernel) ⟨Nat.le_of_ble_eq_true rfl, Nat.le_of_ble_eq_true rfl⟩) hK hP hD rfl hl.1 rfl (Nat.le_of_ble_eq_true rfl) dX3_tree_11 ⟨Nat.zero_le _, Nat.zero_le _⟩) hD hS hA (fun H locs hP hD hS => ?_)
  refine lv_if_eq (tgt := 64) hx hb dX3_tree_14 (by decide) (fun c_8 => ?_) (fun c_8 => ?_)
  · have hm := ifp c_8 hm
    refine lv_iconst (v := 0) hx hb dX3_tree_64 (by decide) ?_
    exact z_z hx hb hr hlocks (by decide) hm hP hD hS dX3_tree_65
  · have hm := ifn c_8 hm
    refine lv_iload_n hx hb dX3_tree_17 rfl (lv_at hl 2 rfl) ?_
    obtain ⟨q_9, hq_9, hm⟩ := ob hm
    refine zc_i (zr_S [.int a2] [] ⟨hx, hb, hml, hown, hts⟩ (ctX3_isRate l D cy (mw cy ad σ_6)  a2 q_9 hq_9 _) (va_cwS 1 hts gX3_tree_X3_isRate rfl rfl rfl (by decide +kernel) ⟨Nat.le_of_ble_eq_true rfl, Nat.le_of_ble_eq_true rfl⟩) hK hP hD rfl hl.1 rfl (Nat.le_of_ble_eq_true rfl) dX3_tree_18 ⟨Nat.zero_le _, Nat.zero_le _⟩) hD hS hA (fun H locs hP hD hS => ?_)
    refine lv_if_eq (tgt := 64) hx hb dX3_tree_21 (by decide) (fun c_10 => ?_) (fun c_10 => ?_)
    · have hm := ifp c_10 hm
      refine lv_iconst (v := 0) hx hb dX3_tree_64 (by decide) ?_
      exact z_z hx hb hr hlocks (by decide) hm hP hD hS dX3_tree_65
    · have hm := ifn c_10 hm
      refine lv_iload_n hx hb dX3_tree_24 rfl (lv_at hl 3 rfl) ?_
      refine lv_i2l hx hb dX3_tree_25 rfl ?_
      refine lv_lconst (v := 0) hx hb dX3_tree_26 (by decide) ?_
      refine lv_ldc2 (v := 50) hx hb hown (hts _ lkX3_tree_178) dX3_tree_27 ?_
      obtain ⟨q_11, hq_11, hm⟩ := ob hm
      refine zc_i (zr_S [.long (Int32.toInt64 a3), .long (0 : Int64), .long (50 : Int64)] [] ⟨hx, hb, hml, hown, hts⟩ (ctX3_isIn l D cy (mw cy ad σ_6)  (Int32.toInt64 a3) (0 : Int64) (50 : Int64) q_11 hq_11 _) (va_cwS 3 hts gX3_tree_X3_isIn rfl rfl rfl (by decide +kernel) ⟨Nat.le_of_ble_eq_true rfl, Nat.le_of_ble_eq_true rfl⟩) hK hP hD rfl hl.1 rfl (Nat.le_of_ble_eq_true rfl) dX3_tree_30 ⟨Nat.zero_le _, Nat.zero_le _⟩) hD hS hA (fun H locs hP hD hS => ?_)
      refine lv_if_eq (tgt := 64) hx hb dX3_tree_33 (by decide) (fun c_12 => ?_) (fun c_12 => ?_)
      · have hm := ifp c_12 hm
        refine lv_iconst (v := 0) hx hb dX3_tree_64 (by decide) ?_
        exact z_z hx hb hr hlocks (by decide) hm hP hD hS dX3_tree_65
      · have hm := ifn c_12 hm
        refine lv_iload hx hb dX3_tree_36 (lv_at hl 4 rfl) ?_
        refine lv_i2l hx hb dX3_tree_38 rfl ?_
        refine lv_ldc2 (v := -1000000) hx hb hown (hts _ lkX3_tree_180) dX3_tree_39 ?_
        refine lv_ldc2 (v := 1000000) hx hb hown (hts _ lkX3_tree_182) dX3_tree_42 ?_
        obtain ⟨q_13, hq_13, hm⟩ := ob hm
        refine zc_i (zr_S [.long (Int32.toInt64 a4), .long (-1000000 : Int64), .long (1000000 : Int64)] [] ⟨hx, hb, hml, hown, hts⟩ (ctX3_isIn l D cy (mw cy ad σ_6)  (Int32.toInt64 a4) (-1000000 : Int64) (1000000 : Int64) q_13 hq_13 _) (va_cwS 3 hts gX3_tree_X3_isIn rfl rfl rfl (by decide +kernel) ⟨Nat.le_of_ble_eq_true rfl, Nat.le_of_ble_eq_true rfl⟩) hK hP hD rfl hl.1 rfl (Nat.le_of_ble_eq_true rfl) dX3_tree_45 ⟨Nat.zero_le _, Nat.zero_le _⟩) hD hS hA (fun H locs hP hD hS => ?_)
        refine lv_if_eq (tgt := 64) hx hb dX3_tree_48 (by decide) (fun c_14 => ?_) (fun c_14 => ?_)
        · have hm := ifp c_14 hm
          refine lv_iconst (v := 0) hx hb dX3_tree_64 (by decide) ?_
          exact z_z hx hb hr hlocks (by decide) hm hP hD hS dX3_tree_65
        · have hm := ifn c_14 hm
          refine lv_iload hx hb dX3_tree_51 (lv_at hl 5 rfl) ?_
          refine lv_i2l hx hb dX3_tree_53 rfl ?_
          refine lv_lconst (v := 0) hx hb dX3_tree_54 (by decide) ?_
          refine lv_ldc2 (v := 999999999) hx hb hown (hts _ lkX3_tree_168) dX3_tree_55 ?_
          obtain ⟨q_15, hq_15, hm⟩ := ob hm
          refine zc_i (zr_S [.long (Int32.toInt64 a5), .long (0 : Int64), .long (999999999 : Int64)] [] ⟨hx, hb, hml, hown, hts⟩ (ctX3_isIn l D cy (mw cy ad σ_6)  (Int32.toInt64 a5) (0 : Int64) (999999999 : Int64) q_15 hq_15 _) (va_cwS 3 hts gX3_tree_X3_isIn rfl rfl rfl (by decide +kernel) ⟨Nat.le_of_ble_eq_true rfl, Nat.le_of_ble_eq_true rfl⟩) hK hP hD rfl hl.1 rfl (Nat.le_of_ble_eq_true rfl) dX3_tree_58 ⟨Nat.zero_le _, Nat.zero_le _⟩) hD hS hA (fun H locs hP hD hS => ?_)
          refine lv_if_ne (tgt := 66) hx hb dX3_tree_61 (by decide) (fun c_16 => ?_) (fun c_16 => ?_)
          · have hm := ifn c_16 hm
            refine lv_aload_n hx hb dX3_tree_66 rfl (lv_at hl 0 rfl) ?_
            refine va_get (D := D) (ci := 3) (v := .int (gI σ_6 0 0 5)) (C := RX3) (T := TX3) (N := 20) hx hb hts iwX3_tree_X3 hown hK.1 hP 0 mw_0 rfl 5 (by decide) (hts _ lkX3_tree_141) (fun _ h9 => h9) rfl dX3_tree_67 ?_
            refine lv_iload_n hx hb dX3_tree_70 rfl (lv_at hl 1 rfl) ?_
            refine lv_icmp_ne (tgt := 110) hx hb dX3_tree_71 (by decide) (fun c_17 => ?_) (fun c_17 => ?_)
            · have hm := ifn c_17 hm
              exact kX3_tree_110_ok C q σ_6 a1 a2 a3 a4 a5 _ _ hP hD hS _ (lv_sub hl [0, 1, 2, 3, 4, 5] rfl) hm
            · have hm := ifp c_17 hm
              refine lv_aload_n hx hb dX3_tree_74 rfl (lv_at hl 0 rfl) ?_
              refine va_get (D := D) (ci := 3) (v := .int (gI σ_6 0 0 6)) (C := RX3) (T := TX3) (N := 20) hx hb hts iwX3_tree_X3 hown hK.1 hP 0 mw_0 rfl 6 (by decide) (hts _ lkX3_tree_23) (fun _ h9 => h9) rfl dX3_tree_75 ?_
              refine lv_iload_n hx hb dX3_tree_78 rfl (lv_at hl 2 rfl) ?_
              refine lv_icmp_ne (tgt := 110) hx hb dX3_tree_79 (by decide) (fun c_18 => ?_) (fun c_18 => ?_)
              · have hm := ifn c_18 hm
                exact kX3_tree_110_ok C q σ_6 a1 a2 a3 a4 a5 _ _ hP hD hS _ (lv_sub hl [0, 1, 2, 3, 4, 5] rfl) hm
              · have hm := ifp c_18 hm
                refine lv_aload_n hx hb dX3_tree_82 rfl (lv_at hl 0 rfl) ?_
                refine va_get (D := D) (ci := 3) (v := .int (gI σ_6 0 0 7)) (C := RX3) (T := TX3) (N := 20) hx hb hts iwX3_tree_X3 hown hK.1 hP 0 mw_0 rfl 7 (by decide) (hts _ lkX3_tree_26) (fun _ h9 => h9) rfl dX3_tree_83 ?_
                refine lv_iload_n hx hb dX3_tree_86 rfl (lv_at hl 3 rfl) ?_
                refine lv_icmp_ne (tgt := 110) hx hb dX3_tree_87 (by decide) (fun c_19 => ?_) (fun c_19 => ?_)
                · have hm := ifn c_19 hm
                  exact kX3_tree_110_ok C q σ_6 a1 a2 a3 a4 a5 _ _ hP hD hS _ (lv_sub hl [0, 1, 2, 3, 4, 5] rfl) hm
                · have hm := ifp c_19 hm
                  refine lv_aload_n hx hb dX3_tree_90 rfl (lv_at hl 0 rfl) ?_
                  refine va_get (D := D) (ci := 3) (v := .int (gI σ_6 0 0 8)) (C := RX3) (T := TX3) (N := 20) hx hb hts iwX3_tree_X3 hown hK.1 hP 0 mw_0 rfl 8 (by decide) (hts _ lkX3_tree_144) (fun _ h9 => h9) rfl dX3_tree_91 ?_
                  refine lv_iload hx hb dX3_tree_94 (lv_at hl 4 rfl) ?_
                  refine lv_icmp_ne (tgt := 110) hx hb dX3_tree_96 (by decide) (fun c_20 => ?_) (fun c_20 => ?_)
                  · have hm := ifn c_20 hm
                    exact kX3_tree_110_ok C q σ_6 a1 a2 a3 a4 a5 _ _ hP hD hS _ (lv_sub hl [0, 1, 2, 3, 4, 5] rfl) hm
                  · have hm := ifp c_20 hm
                    refine lv_aload_n hx hb dX3_tree_99 rfl (lv_at hl 0 rfl) ?_
                    refine va_get (D := D) (ci := 3) (v := .int (gI σ_6 0 0 9)) (C := RX3) (T := TX3) (N := 20) hx hb hts iwX3_tree_X3 hown hK.1 hP 0 mw_0 rfl 9 (by decide) (hts _ lkX3_tree_30) (fun _ h9 => h9) rfl dX3_tree_100 ?_
                    refine lv_iload hx hb dX3_tree_103 (lv_at hl 5 rfl) ?_
                    refine lv_icmp_ne (tgt := 110) hx hb dX3_tree_105 (by decide) (fun c_21 => ?_) (fun c_21 => ?_)
                    · have hm := ifn c_21 hm
                      exact kX3_tree_110_ok C q σ_6 a1 a2 a3 a4 a5 _ _ hP hD hS _ (lv_sub hl [0, 1, 2, 3, 4, 5] rfl) hm
                    · have hm := ifp c_21 hm
                      refine lv_iconst (v := 0) hx hb dX3_tree_108 (by decide) ?_
                      exact z_z hx hb hr hlocks (by decide) hm hP hD hS dX3_tree_109
          · have hm := ifp c_16 hm
            refine lv_iconst (v := 0) hx hb dX3_tree_64 (by decide) ?_
            exact z_z hx hb hr hlocks (by decide) hm hP hD hS dX3_tree_65
abbrev rmX3_isNode : Room := { frames := 1, cells := 0, slots := 0, locals := 25 }
theorem lkX3_isNode_141 : Cond.fieldLink RX3 141 "DeliveryBasketModel" "days" "I" ∈ wsX3_isNode := by decide +kernel
theorem iwX3_isNode_X3 : ∀ w ∈ wsX30, w ∈ wsX3_isNode := fun _ h => List.mem_cons_of_mem _ (List.mem_append_right _ h)
def mX3_isNode (σ : ST) (a1 : Int32) (a2 : Int32) : Option (Int32) := (mX3_isIn (Int32.toInt64 a1) (0 : Int64) (Int32.toInt64 (gI σ 0 0 5))).bind fun q_1 => if q_1 = (0 : Int32) then (some (0 : Int32)) else ((mX3_isIn (Int32.toInt64 a2) (0 : Int64) (Int32.toInt64 a1)).bind fun q_3 => if q_3 = (0 : Int32) then (some (0 : Int32)) else (some (1 : Int32)))
set_option maxHeartbeats 4000000 in
set_option maxRecDepth 100000 in
theorem ctX3_isNode (l : Launch) (D : va_G) (cy : Nat → ClassId) (ad : Nat → Nat → Nat) (σ : ST) (a1 : Int32) (a2 : Int32) (q : Int32) (hm : mX3_isNode σ a1 a2 = some q) : zMi l yX3_isNode wsX3_isNode rmX3_isNode D cy [.ref (ad 0 0), .int a1, .int a2] (mw cy ad σ) q (mw cy ad σ) := by
  intro sz
  refine Met.ofW (cc := cX3_isNode) (maxL := 3) (ret := (some .boolean)) (by decide) rfl ?_
  intro p e s m args below meth c s₁ B hml hv
  obtain ⟨rfl, hsz, hP, hK, hD0⟩ := hv
  have hx := B.exec
  have hb := B.bytes
  have hr := B.returns
  have hts := atoms_spec (ws := wsX3_isNode) B.pre
  have hown : s.vm.findClass RX3 = some m.cls := findClass_of_methodNamed B.named
  have hlocks := B.notSynchronized
  subst hsz
  have hD := hD0.self (sz := s.heap.size)
  generalize hAe : va_A (mw cy ad σ) s.heap.size = A at hD ⊢
  have hA : ∀ q : Nat, s.heap.size ≤ q → A q := fun q h => by rw [← hAe]; exact Or.inr h
  have hS : va_S A s.heap s.heap [] := va_S.rf
  have C : Cx p s m _ meth c cX3_isNode 3 (some .boolean) RX3 wsX3_isNode D cy A := ⟨hx, hb, hml, hown, hts, hr, hlocks, hK, hA⟩
  have hl := lv_entry ([.ref (ad 0 0), .int a1, .int a2]) (n := 3) (Nat.le_of_ble_eq_true rfl)
  rw [lg_entry_eq]
  generalize (lg_sl ([.ref (ad 0 0), .int a1, .int a2]) ++ List.replicate (3 - (lg_sl ([.ref (ad 0 0), .int a1, .int a2])).length) Slot.unset).toArray = ls at hl ⊢
  have hl : lv_has ls 3 [(0, .ref (ad 0 0)), (1, .int a1), (2, .int a2)] := hl
  unfold mX3_isNode at hm
  refine lv_iload_n hx hb dX3_isNode_0 rfl (lv_at hl 1 rfl) ?_
  refine lv_i2l hx hb dX3_isNode_1 rfl ?_
  refine lv_lconst (v := 0) hx hb dX3_isNode_2 (by decide) ?_
  refine lv_aload_n hx hb dX3_isNode_3 rfl (lv_at hl 0 rfl) ?_
  refine va_get (D := D) (ci := 3) (v := .int (gI σ 0 0 5)) (C := RX3) (T := TX3) (N := 20) hx hb hts iwX3_isNode_X3 hown hK.1 hP 0 mw_0 rfl 5 (by decide) (hts _ lkX3_isNode_141) (fun _ h9 => h9) rfl dX3_isNode_4 ?_
  refine lv_i2l hx hb dX3_isNode_7 rfl ?_
  obtain ⟨q_1, hq_1, hm⟩ := ob hm
  refine zc_i (zr_S [.long (Int32.toInt64 a1), .long (0 : Int64), .long (Int32.toInt64 (gI σ 0 0 5))] [] ⟨hx, hb, hml, hown, hts⟩ (ctX3_isIn l D cy (mw cy ad σ)  (Int32.toInt64 a1) (0 : Int64) (Int32.toInt64 (gI σ 0 0 5)) q_1 hq_1 _) (va_cwS 3 hts gX3_isNode_X3_isIn rfl rfl rfl (by decide +kernel) ⟨Nat.le_of_ble_eq_true rfl, Nat.le_of_ble_eq_true rfl⟩) hK hP hD rfl hl.1 rfl (Nat.le_of_ble_eq_true rfl) dX3_isNode_8 ⟨Nat.zero_le _, Nat.zero_le _⟩) hD hS hA (fun H locs hP hD hS => ?_)
  refine lv_if_eq (tgt := 29) hx hb dX3_isNode_11 (by decide) (fun c_2 => ?_) (fun c_2 => ?_)
  · have hm := ifp c_2 hm
    refine lv_iconst (v := 0) hx hb dX3_isNode_29 (by decide) ?_
    exact z_pz hx hb hr hlocks (by decide) hm hP hD hS dX3_isNode_30
  · have hm := ifn c_2 hm
    refine lv_iload_n hx hb dX3_isNode_14 rfl (lv_at hl 2 rfl) ?_
    refine lv_i2l hx hb dX3_isNode_15 rfl ?_
    refine lv_lconst (v := 0) hx hb dX3_isNode_16 (by decide) ?_
    refine lv_iload_n hx hb dX3_isNode_17 rfl (lv_at hl 1 rfl) ?_
    refine lv_i2l hx hb dX3_isNode_18 rfl ?_
    obtain ⟨q_3, hq_3, hm⟩ := ob hm
    refine zc_i (zr_S [.long (Int32.toInt64 a2), .long (0 : Int64), .long (Int32.toInt64 a1)] [] ⟨hx, hb, hml, hown, hts⟩ (ctX3_isIn l D cy (mw cy ad σ)  (Int32.toInt64 a2) (0 : Int64) (Int32.toInt64 a1) q_3 hq_3 _) (va_cwS 3 hts gX3_isNode_X3_isIn rfl rfl rfl (by decide +kernel) ⟨Nat.le_of_ble_eq_true rfl, Nat.le_of_ble_eq_true rfl⟩) hK hP hD rfl hl.1 rfl (Nat.le_of_ble_eq_true rfl) dX3_isNode_19 ⟨Nat.zero_le _, Nat.zero_le _⟩) hD hS hA (fun H locs hP hD hS => ?_)
    refine lv_if_eq (tgt := 29) hx hb dX3_isNode_22 (by decide) (fun c_4 => ?_) (fun c_4 => ?_)
    · have hm := ifp c_4 hm
      refine lv_iconst (v := 0) hx hb dX3_isNode_29 (by decide) ?_
      exact z_pz hx hb hr hlocks (by decide) hm hP hD hS dX3_isNode_30
    · have hm := ifn c_4 hm
      refine lv_iconst (v := 1) hx hb dX3_isNode_25 (by decide) ?_
      refine lv_goto (tgt := 30) hx hb dX3_isNode_26 (by decide) ?_
      exact z_pz hx hb hr hlocks (by decide) hm hP hD hS dX3_isNode_30

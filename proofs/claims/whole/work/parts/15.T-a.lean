abbrev rmX2_of : Room := { frames := 6, cells := 1, slots := 6, locals := 90 }
theorem lkX2_of_11 : Cond.fieldLink RX2 11 "DeliveryBasket" "bonds" "[LDeliveryBasket$Bond;" ∈ wsX2_of := by decide +kernel
theorem iwX2_of_X2 : ∀ w ∈ wsX20, w ∈ wsX2_of := fun _ h => List.mem_cons_of_mem _ (List.mem_append_left _ (List.mem_append_left _ (List.mem_append_right _ h)))
theorem lkX2_of_83 : Cond.fieldLink RX2 83 "DeliveryBasket$Bond" "kind" "I" ∈ wsX2_of := by decide +kernel
theorem iwX2_of_X0 : ∀ w ∈ wsX00, w ∈ wsX2_of := fun _ h => List.mem_cons_of_mem _ (List.mem_append_left _ (List.mem_append_right _ h))
theorem lkX2_of_86 : Cond.fieldLink RX2 86 "DeliveryBasket$Bond" "coupon" "I" ∈ wsX2_of := by decide +kernel
theorem lkX2_of_89 : Cond.fieldLink RX2 89 "DeliveryBasket$Bond" "periods" "I" ∈ wsX2_of := by decide +kernel
theorem lkX2_of_92 : Cond.fieldLink RX2 92 "DeliveryBasket$Bond" "extra" "I" ∈ wsX2_of := by decide +kernel
theorem lkX2_of_95 : Cond.fieldLink RX2 95 "DeliveryBasket$Bond" "spread" "I" ∈ wsX2_of := by decide +kernel
theorem lkX2_of_98 : Cond.fieldLink RX2 98 "DeliveryBasket$Bond" "stock" "I" ∈ wsX2_of := by decide +kernel
theorem lkX2_of_101 : Cond.fieldLink RX2 101 "DeliveryBasket$Bond" "barred" "I" ∈ wsX2_of := by decide +kernel
theorem lkX2_of_104 : Cond.fieldLink RX2 104 "DeliveryBasket$Bond" "factor" "I" ∈ wsX2_of := by decide +kernel
theorem lkX2_of_cl76 : Cond.classLink RX2 76 "java/util/NoSuchElementException" ∈ wsX2_of := by decide +kernel
theorem lkX2_of_iniE : Cond.initialized "java/util/NoSuchElementException" ∈ wsX2_of := by decide +kernel
def mX2_of (σ : ST) (a1 : Int32) (a2 : Int32) : Option (Option Int32 × ST) := (mX2_has σ a1).bind fun q_1 => if q_1 = (0 : Int32) then (some (none, σ)) else (gd (inb a1 8) (gd (decide ((gP σ (Int32.toNatClampNeg a1)) < 8)) (if a2 = (0 : Int32) then (some (some (gI σ 2 (gP σ (Int32.toNatClampNeg a1)) 0), σ)) else (if a2 = (1 : Int32) then (some (some (gI σ 2 (gP σ (Int32.toNatClampNeg a1)) 1), σ)) else (if a2 = (2 : Int32) then (some (some (gI σ 2 (gP σ (Int32.toNatClampNeg a1)) 2), σ)) else (if a2 = (3 : Int32) then (some (some (gI σ 2 (gP σ (Int32.toNatClampNeg a1)) 3), σ)) else (if a2 = (4 : Int32) then (some (some (gI σ 2 (gP σ (Int32.toNatClampNeg a1)) 4), σ)) else (if a2 = (5 : Int32) then (some (some (gI σ 2 (gP σ (Int32.toNatClampNeg a1)) 5), σ)) else (if a2 = (6 : Int32) then (some (some (gI σ 2 (gP σ (Int32.toNatClampNeg a1)) 6), σ)) else (if a2 = (7 : Int32) then (some (some (gI σ 2 (gP σ (Int32.toNatClampNeg a1)) 7), σ)) else (if a2 = (8 : Int32) then ((mX2_isEligible σ a1).bind fun q_14 => if q_14 = (0 : Int32) then (some (some (0 : Int32), σ)) else (some (some (1 : Int32), σ))) else (some (none, σ)))))))))))))
set_option maxHeartbeats 4000000 in
set_option maxRecDepth 100000 in
theorem ctX2_of (l : Launch) (D : va_G) (cy : Nat → ClassId) (htr : l.stackTraces = false) (base : Nat) (ad : Nat → Nat → Nat) (σ : ST) (a1 : Int32) (a2 : Int32) (q : Option Int32 × ST) (hm : mX2_of σ a1 a2 = some q) : yMi l yX2_of wsX2_of rmX2_of base D cy [.ref (ad 0 0), .int a1, .int a2] (cw cy ad σ) q.1 (cw cy ad q.2) := by
  intro sz
  refine vx_ofW (cc := cX2_of) (maxL := 4) (ret := (some .int)) (by decide) rfl ?_
  intro p e s m args below meth c s₁ B hml htb hv
  obtain ⟨rfl, ⟨hsz, hP, hK, hD0⟩, ⟨hbs, hbw⟩, hXX⟩ := hv
  have hx := B.exec
  have hb := B.bytes
  have hr := B.returns
  have hts := atoms_spec (ws := wsX2_of) B.pre
  have hown : s.vm.findClass RX2 = some m.cls := findClass_of_methodNamed B.named
  have hlocks := B.notSynchronized
  subst hsz
  have hD := hD0.self (sz := s.heap.size)
  have hAb : ∀ q, va_A (cw cy ad σ) s.heap.size q → base ≤ q := fun q h => by
    rcases h with ⟨k, e, h⟩ | h
    · exact hbw k _ h
    · exact Nat.le_trans hbs h
  generalize hAe : va_A (cw cy ad σ) s.heap.size = A at hD hAb ⊢
  have hA : ∀ q : Nat, s.heap.size ≤ q → A q := fun q h => by rw [← hAe]; exact Or.inr h
  have hS : va_S A s.heap s.heap [] := va_S.rf
  have C : Cx p s m _ meth c cX2_of 4 (some .int) RX2 wsX2_of D cy A := ⟨hx, hb, hml, hown, hts, hr, hlocks, hK, hA⟩
  have X : Xx l s c base A := ⟨htr, hXX, hAb, htb⟩
  have hl := lv_entry ([.ref (ad 0 0), .int a1, .int a2]) (n := 4) (Nat.le_of_ble_eq_true rfl)
  rw [lg_entry_eq]
  generalize (lg_sl ([.ref (ad 0 0), .int a1, .int a2]) ++ List.replicate (4 - (lg_sl ([.ref (ad 0 0), .int a1, .int a2])).length) Slot.unset).toArray = ls at hl ⊢
  have hl : lv_has ls 4 [(0, .ref (ad 0 0)), (1, .int a1), (2, .int a2)] := hl
  unfold mX2_of at hm
  refine lv_aload_n hx hb dX2_of_0 rfl (lv_at hl 0 rfl) ?_
  refine lv_iload_n hx hb dX2_of_1 rfl (lv_at hl 1 rfl) ?_
  obtain ⟨q_1, hq_1, hm⟩ := ob hm
  refine zc_i (zr_V [.int a1] [] ⟨hx, hb, hml, hown, hts⟩ (ctX2_has l D cy ad σ  a1 q_1 hq_1 _) (cwV 1 hts gX2_of_X2_has rfl rfl rfl (by decide +kernel) ⟨Nat.le_of_ble_eq_true rfl, Nat.le_of_ble_eq_true rfl⟩) hK hP hD 0 cw_0 rfl rfl rfl hl.1 rfl (Nat.le_of_ble_eq_true rfl) dX2_of_2 ⟨Nat.zero_le _, Nat.zero_le _⟩) hD hS hA (fun H locs hP hD hS => ?_)
  refine lv_if_ne (tgt := 18) hx hb dX2_of_5 (by decide) (fun c_2 => ?_) (fun c_2 => ?_)
  · have hm := ifn c_2 hm
    refine lv_aload_n hx hb dX2_of_18 rfl (lv_at hl 0 rfl) ?_
    refine va_get (D := D) (ci := 2) (v := .ref (ad 1 0)) (C := RX2) (T := TX2) (N := 9) hx hb hts iwX2_of_X2 hown hK.1 hP 0 cw_0 rfl 0 (by decide) (hts _ lkX2_of_11) (fun _ h9 => h9) rfl dX2_of_19 ?_
    refine lv_iload_n hx hb dX2_of_22 rfl (lv_at hl 1 rfl) ?_
    obtain ⟨h_3, hm⟩ := gd_some hm
    obtain ⟨h_4, hm⟩ := gd_some hm
    have h_4 := lt_of_dec h_4
    refine z_ald (f := fun i => ad 13 (gP σ i)) hx hb hK.1 hP 1 2 cw_1 rfl rfl (inb_vp h_3) dX2_of_23 ?_
    refine lv_astore_n (lv' := [(3, .ref (ad 13 (gP σ (Int32.toNatClampNeg a1)))), (0, .ref (ad 0 0)), (1, .int a1), (2, .int a2)]) hx hb dX2_of_24 rfl hl (by decide) rfl (fun ls hl => ?_)
    refine lv_iload_n hx hb dX2_of_25 rfl (lv_at hl 3 rfl) ?_
    by_cases c_5 : a2 = (0 : Int32)
    · have hm := ifp c_5 hm
      refine lv_tableIn (off := 50) (tgt := 76) hx hb dX2_of_26 (by rw [c_5]; decide) (by rw [c_5]; decide) (by rw [c_5]; decide) (by decide) ?_
      refine lv_aload_n hx hb dX2_of_76 rfl (lv_at hl 0 rfl) ?_
      refine va_get (D := D) (ci := 0) (v := .int (gI σ 2 (gP σ (Int32.toNatClampNeg a1)) 0)) (C := RX0) (T := TX0) (N := 10) hx hb hts iwX2_of_X0 hown hK.1 hP (13 + (gP σ (Int32.toNatClampNeg a1))) (cw_13 h_4) rfl 0 (by decide) (hts _ lkX2_of_83) (fun _ h9 => h9) rfl dX2_of_77 ?_
      exact y_i hx hb hr hlocks hm hP hD hS dX2_of_80
    · have hm := ifn c_5 hm
      by_cases c_6 : a2 = (1 : Int32)
      · have hm := ifp c_6 hm
        refine lv_tableIn (off := 55) (tgt := 81) hx hb dX2_of_26 (by rw [c_6]; decide) (by rw [c_6]; decide) (by rw [c_6]; decide) (by decide) ?_
        refine lv_aload_n hx hb dX2_of_81 rfl (lv_at hl 0 rfl) ?_
        refine va_get (D := D) (ci := 0) (v := .int (gI σ 2 (gP σ (Int32.toNatClampNeg a1)) 1)) (C := RX0) (T := TX0) (N := 10) hx hb hts iwX2_of_X0 hown hK.1 hP (13 + (gP σ (Int32.toNatClampNeg a1))) (cw_13 h_4) rfl 1 (by decide) (hts _ lkX2_of_86) (fun _ h9 => h9) rfl dX2_of_82 ?_
        exact y_i hx hb hr hlocks hm hP hD hS dX2_of_85
      · have hm := ifn c_6 hm
        by_cases c_7 : a2 = (2 : Int32)
        · have hm := ifp c_7 hm
          refine lv_tableIn (off := 60) (tgt := 86) hx hb dX2_of_26 (by rw [c_7]; decide) (by rw [c_7]; decide) (by rw [c_7]; decide) (by decide) ?_
          refine lv_aload_n hx hb dX2_of_86 rfl (lv_at hl 0 rfl) ?_
          refine va_get (D := D) (ci := 0) (v := .int (gI σ 2 (gP σ (Int32.toNatClampNeg a1)) 2)) (C := RX0) (T := TX0) (N := 10) hx hb hts iwX2_of_X0 hown hK.1 hP (13 + (gP σ (Int32.toNatClampNeg a1))) (cw_13 h_4) rfl 2 (by decide) (hts _ lkX2_of_89) (fun _ h9 => h9) rfl dX2_of_87 ?_
          exact y_i hx hb hr hlocks hm hP hD hS dX2_of_90
        · have hm := ifn c_7 hm
          by_cases c_8 : a2 = (3 : Int32)
          · have hm := ifp c_8 hm
            refine lv_tableIn (off := 65) (tgt := 91) hx hb dX2_of_26 (by rw [c_8]; decide) (by rw [c_8]; decide) (by rw [c_8]; decide) (by decide) ?_
            refine lv_aload_n hx hb dX2_of_91 rfl (lv_at hl 0 rfl) ?_
            refine va_get (D := D) (ci := 0) (v := .int (gI σ 2 (gP σ (Int32.toNatClampNeg a1)) 3)) (C := RX0) (T := TX0) (N := 10) hx hb hts iwX2_of_X0 hown hK.1 hP (13 + (gP σ (Int32.toNatClampNeg a1))) (cw_13 h_4) rfl 3 (by decide) (hts _ lkX2_of_92) (fun _ h9 => h9) rfl dX2_of_92 ?_
            exact y_i hx hb hr hlocks hm hP hD hS dX2_of_95
          · have hm := ifn c_8 hm
            by_cases c_9 : a2 = (4 : Int32)
            · have hm := ifp c_9 hm
              refine lv_tableIn (off := 70) (tgt := 96) hx hb dX2_of_26 (by rw [c_9]; decide) (by rw [c_9]; decide) (by rw [c_9]; decide) (by decide) ?_
              refine lv_aload_n hx hb dX2_of_96 rfl (lv_at hl 0 rfl) ?_
              refine va_get (D := D) (ci := 0) (v := .int (gI σ 2 (gP σ (Int32.toNatClampNeg a1)) 4)) (C := RX0) (T := TX0) (N := 10) hx hb hts iwX2_of_X0 hown hK.1 hP (13 + (gP σ (Int32.toNatClampNeg a1))) (cw_13 h_4) rfl 4 (by decide) (hts _ lkX2_of_95) (fun _ h9 => h9) rfl dX2_of_97 ?_
              exact y_i hx hb hr hlocks hm hP hD hS dX2_of_100
            · have hm := ifn c_9 hm
              by_cases c_10 : a2 = (5 : Int32)
              · have hm := ifp c_10 hm
                refine lv_tableIn (off := 75) (tgt := 101) hx hb dX2_of_26 (by rw [c_10]; decide) (by rw [c_10]; decide) (by rw [c_10]; decide) (by decide) ?_
                refine lv_aload_n hx hb dX2_of_101 rfl (lv_at hl 0 rfl) ?_
                refine va_get (D := D) (ci := 0) (v := .int (gI σ 2 (gP σ (Int32.toNatClampNeg a1)) 5)) (C := RX0) (T := TX0) (N := 10) hx hb hts iwX2_of_X0 hown hK.1 hP (13 + (gP σ (Int32.toNatClampNeg a1))) (cw_13 h_4) rfl 5 (by decide) (hts _ lkX2_of_98) (fun _ h9 => h9) rfl dX2_of_102 ?_
                exact y_i hx hb hr hlocks hm hP hD hS dX2_of_105
              · have hm := ifn c_10 hm
                by_cases c_11 : a2 = (6 : Int32)
                · have hm := ifp c_11 hm
                  refine lv_tableIn (off := 80) (tgt := 106) hx hb dX2_of_26 (by rw [c_11]; decide) (by rw [c_11]; decide) (by rw [c_11]; decide) (by decide) ?_
                  refine lv_aload_n hx hb dX2_of_106 rfl (lv_at hl 0 rfl) ?_
                  refine va_get (D := D) (ci := 0) (v := .int (gI σ 2 (gP σ (Int32.toNatClampNeg a1)) 6)) (C := RX0) (T := TX0) (N := 10) hx hb hts iwX2_of_X0 hown hK.1 hP (13 + (gP σ (Int32.toNatClampNeg a1))) (cw_13 h_4) rfl 6 (by decide) (hts _ lkX2_of_101) (fun _ h9 => h9) rfl dX2_of_107 ?_
                  exact y_i hx hb hr hlocks hm hP hD hS dX2_of_110
                · have hm := ifn c_11 hm
                  by_cases c_12 : a2 = (7 : Int32)
                  · have hm := ifp c_12 hm
                    refine lv_tableIn (off := 85) (tgt := 111) hx hb dX2_of_26 (by rw [c_12]; decide) (by rw [c_12]; decide) (by rw [c_12]; decide) (by decide) ?_
                    refine lv_aload_n hx hb dX2_of_111 rfl (lv_at hl 0 rfl) ?_
                    refine va_get (D := D) (ci := 0) (v := .int (gI σ 2 (gP σ (Int32.toNatClampNeg a1)) 7)) (C := RX0) (T := TX0) (N := 10) hx hb hts iwX2_of_X0 hown hK.1 hP (13 + (gP σ (Int32.toNatClampNeg a1))) (cw_13 h_4) rfl 7 (by decide) (hts _ lkX2_of_104) (fun _ h9 => h9) rfl dX2_of_112 ?_
                    exact y_i hx hb hr hlocks hm hP hD hS dX2_of_115
                  · have hm := ifn c_12 hm
                    by_cases c_13 : a2 = (8 : Int32)
                    · have hm := ifp c_13 hm
                      refine lv_tableIn (off := 90) (tgt := 116) hx hb dX2_of_26 (by rw [c_13]; decide) (by rw [c_13]; decide) (by rw [c_13]; decide) (by decide) ?_
                      refine lv_aload_n hx hb dX2_of_116 rfl (lv_at hl 1 rfl) ?_
                      refine lv_iload_n hx hb dX2_of_117 rfl (lv_at hl 2 rfl) ?_
                      obtain ⟨q_14, hq_14, hm⟩ := ob hm
                      refine zc_i (zr_V [.int a1] [] ⟨hx, hb, hml, hown, hts⟩ (ctX2_isEligible l D cy ad σ  a1 q_14 hq_14 _) (cwV 1 hts gX2_of_X2_isEligible rfl rfl rfl (by decide +kernel) ⟨Nat.le_of_ble_eq_true rfl, Nat.le_of_ble_eq_true rfl⟩) hK hP hD 0 cw_0 rfl rfl rfl hl.1 rfl (Nat.le_of_ble_eq_true rfl) dX2_of_118 ⟨Nat.zero_le _, Nat.zero_le _⟩) hD hS hA (fun H locs hP hD hS => ?_)
                      refine lv_if_eq (tgt := 128) hx hb dX2_of_121 (by decide) (fun c_15 => ?_) (fun c_15 => ?_)
                      · have hm := ifp c_15 hm
                        refine lv_iconst (v := 0) hx hb dX2_of_128 (by decide) ?_
                        exact y_i hx hb hr hlocks hm hP hD hS dX2_of_129
                      · have hm := ifn c_15 hm
                        refine lv_iconst (v := 1) hx hb dX2_of_124 (by decide) ?_
                        refine lv_goto (tgt := 129) hx hb dX2_of_125 (by decide) ?_
                        exact y_i hx hb hr hlocks hm hP hD hS dX2_of_129
                    · have hm := ifn c_13 hm
                      refine lv_tableOut (tgt := 130) hx hb dX2_of_26 (sw_out (fun i h1 h2 q => ?_)) (by decide) ?_
                      · have n_0 := lv_neT (a := 0) c_5 rfl
                        have n_1 := lv_neT (a := 1) c_6 rfl
                        have n_2 := lv_neT (a := 2) c_7 rfl
                        have n_3 := lv_neT (a := 3) c_8 rfl
                        have n_4 := lv_neT (a := 4) c_9 rfl
                        have n_5 := lv_neT (a := 5) c_10 rfl
                        have n_6 := lv_neT (a := 6) c_11 rfl
                        have n_7 := lv_neT (a := 7) c_12 rfl
                        have n_8 := lv_neT (a := 8) c_13 rfl
                        omega
                      exact y_thr (text := "no such what") hx hb X hown (hts _ lkX2_of_cl76) (hts _ lkX2_of_iniE) (by decide) (fun w h => hts w (List.mem_cons_of_mem _ (List.mem_append_right _ h))) hm hP hD hS (hl.1.trans hml.symm) dX2_of_130 dX2_of_133 dX2_of_134 dX2_of_136 dX2_of_139 (Nat.le_of_ble_eq_true rfl) (Nat.le_of_ble_eq_true rfl) (Nat.le_of_ble_eq_true rfl) (Nat.le_of_ble_eq_true rfl) hlocks
  · have hm := ifp c_2 hm
    exact y_thr (text := "no such bond") hx hb X hown (hts _ lkX2_of_cl76) (hts _ lkX2_of_iniE) (by decide) (fun w h => hts w (List.mem_cons_of_mem _ (List.mem_append_right _ h))) hm hP hD hS (hl.1.trans hml.symm) dX2_of_8 dX2_of_11 dX2_of_12 dX2_of_14 dX2_of_17 (Nat.le_of_ble_eq_true rfl) (Nat.le_of_ble_eq_true rfl) (Nat.le_of_ble_eq_true rfl) (Nat.le_of_ble_eq_true rfl) hlocks
abbrev rmX2_gap : Room := { frames := 6, cells := 1, slots := 6, locals := 137 }
theorem lkX2_gap_cl76 : Cond.classLink RX2 76 "java/util/NoSuchElementException" ∈ wsX2_gap := by decide +kernel
theorem lkX2_gap_iniE : Cond.initialized "java/util/NoSuchElementException" ∈ wsX2_gap := by decide +kernel
theorem lkX2_gap_11 : Cond.fieldLink RX2 11 "DeliveryBasket" "bonds" "[LDeliveryBasket$Bond;" ∈ wsX2_gap := by decide +kernel
theorem iwX2_gap_X2 : ∀ w ∈ wsX20, w ∈ wsX2_gap := fun _ h => List.mem_cons_of_mem _ (List.mem_append_left _ (List.mem_append_left _ (List.mem_append_right _ h)))
def mX2_gap (σ : ST) (a1 : Int32) (a2 : Int32) : Option (Option Int64 × ST) := (mX2_has σ a1).bind fun q_1 => if q_1 = (0 : Int32) then (some (none, σ)) else ((mX2_isEligible σ a1).bind fun q_3 => if q_3 = (0 : Int32) then (some (none, σ)) else ((mX2_isRate a2).bind fun q_5 => if q_5 = (0 : Int32) then (some (none, σ)) else ((mX2_eligibleBits σ).bind fun q_7 => (mX2_markAt σ a2 q_7).bind fun q_8 => gd (inb a1 8) (gd (decide ((gP q_8.2 (Int32.toNatClampNeg a1)) < 8)) ((mX0_priceAt q_8.2 (gP q_8.2 (Int32.toNatClampNeg a1)) a2).bind fun q_11 => gd (inb a1 8) (gd (decide ((gP q_11.2 (Int32.toNatClampNeg a1)) < 8)) ((mX0_invoiceBy q_11.2 (gP q_11.2 (Int32.toNatClampNeg a1)) q_8.1).bind fun q_14 => some (some ((Int32.toInt64 q_11.1) - q_14), q_11.2))))))))
set_option maxHeartbeats 4000000 in
set_option maxRecDepth 100000 in
theorem ctX2_gap (l : Launch) (D : va_G) (cy : Nat → ClassId) (htr : l.stackTraces = false) (base : Nat) (ad : Nat → Nat → Nat) (σ : ST) (a1 : Int32) (a2 : Int32) (q : Option Int64 × ST) (hm : mX2_gap σ a1 a2 = some q) : yMl l yX2_gap wsX2_gap rmX2_gap base D cy [.ref (ad 0 0), .int a1, .int a2] (cw cy ad σ) q.1 (cw cy ad q.2) := by
  intro sz
  refine vx_ofW (cc := cX2_gap) (maxL := 5) (ret := (some .long)) (by decide) rfl ?_
  intro p e s m args below meth c s₁ B hml htb hv
  obtain ⟨rfl, ⟨hsz, hP, hK, hD0⟩, ⟨hbs, hbw⟩, hXX⟩ := hv
  have hx := B.exec
  have hb := B.bytes
  have hr := B.returns
  have hts := atoms_spec (ws := wsX2_gap) B.pre
  have hown : s.vm.findClass RX2 = some m.cls := findClass_of_methodNamed B.named
  have hlocks := B.notSynchronized
  subst hsz
  have hD := hD0.self (sz := s.heap.size)
  have hAb : ∀ q, va_A (cw cy ad σ) s.heap.size q → base ≤ q := fun q h => by
    rcases h with ⟨k, e, h⟩ | h
    · exact hbw k _ h
    · exact Nat.le_trans hbs h
  generalize hAe : va_A (cw cy ad σ) s.heap.size = A at hD hAb ⊢
  have hA : ∀ q : Nat, s.heap.size ≤ q → A q := fun q h => by rw [← hAe]; exact Or.inr h
  have hS : va_S A s.heap s.heap [] := va_S.rf
  have C : Cx p s m _ meth c cX2_gap 5 (some .long) RX2 wsX2_gap D cy A := ⟨hx, hb, hml, hown, hts, hr, hlocks, hK, hA⟩
  have X : Xx l s c base A := ⟨htr, hXX, hAb, htb⟩
  have hl := lv_entry ([.ref (ad 0 0), .int a1, .int a2]) (n := 5) (Nat.le_of_ble_eq_true rfl)
  rw [lg_entry_eq]
  generalize (lg_sl ([.ref (ad 0 0), .int a1, .int a2]) ++ List.replicate (5 - (lg_sl ([.ref (ad 0 0), .int a1, .int a2])).length) Slot.unset).toArray = ls at hl ⊢
  have hl : lv_has ls 5 [(0, .ref (ad 0 0)), (1, .int a1), (2, .int a2)] := hl
  unfold mX2_gap at hm
  refine lv_aload_n hx hb dX2_gap_0 rfl (lv_at hl 0 rfl) ?_
  refine lv_iload_n hx hb dX2_gap_1 rfl (lv_at hl 1 rfl) ?_
  obtain ⟨q_1, hq_1, hm⟩ := ob hm
  refine zc_i (zr_V [.int a1] [] ⟨hx, hb, hml, hown, hts⟩ (ctX2_has l D cy ad σ  a1 q_1 hq_1 _) (cwV 1 hts gX2_gap_X2_has rfl rfl rfl (by decide +kernel) ⟨Nat.le_of_ble_eq_true rfl, Nat.le_of_ble_eq_true rfl⟩) hK hP hD 0 cw_0 rfl rfl rfl hl.1 rfl (Nat.le_of_ble_eq_true rfl) dX2_gap_2 ⟨Nat.zero_le _, Nat.zero_le _⟩) hD hS hA (fun H locs hP hD hS => ?_)
  refine lv_if_eq (tgt := 23) hx hb dX2_gap_5 (by decide) (fun c_2 => ?_) (fun c_2 => ?_)
  · have hm := ifp c_2 hm
    exact y_thr (text := "no such eligible bond or rate") hx hb X hown (hts _ lkX2_gap_cl76) (hts _ lkX2_gap_iniE) (by decide) (fun w h => hts w (List.mem_cons_of_mem _ (List.mem_append_right _ h))) hm hP hD hS (hl.1.trans hml.symm) dX2_gap_23 dX2_gap_26 dX2_gap_27 dX2_gap_29 dX2_gap_32 (Nat.le_of_ble_eq_true rfl) (Nat.le_of_ble_eq_true rfl) (Nat.le_of_ble_eq_true rfl) (Nat.le_of_ble_eq_true rfl) hlocks
  · have hm := ifn c_2 hm
    refine lv_aload_n hx hb dX2_gap_8 rfl (lv_at hl 0 rfl) ?_
    refine lv_iload_n hx hb dX2_gap_9 rfl (lv_at hl 1 rfl) ?_
    obtain ⟨q_3, hq_3, hm⟩ := ob hm
    refine zc_i (zr_V [.int a1] [] ⟨hx, hb, hml, hown, hts⟩ (ctX2_isEligible l D cy ad σ  a1 q_3 hq_3 _) (cwV 1 hts gX2_gap_X2_isEligible rfl rfl rfl (by decide +kernel) ⟨Nat.le_of_ble_eq_true rfl, Nat.le_of_ble_eq_true rfl⟩) hK hP hD 0 cw_0 rfl rfl rfl hl.1 rfl (Nat.le_of_ble_eq_true rfl) dX2_gap_10 ⟨Nat.zero_le _, Nat.zero_le _⟩) hD hS hA (fun H locs hP hD hS => ?_)
    refine lv_if_eq (tgt := 23) hx hb dX2_gap_13 (by decide) (fun c_4 => ?_) (fun c_4 => ?_)
    · have hm := ifp c_4 hm
      exact y_thr (text := "no such eligible bond or rate") hx hb X hown (hts _ lkX2_gap_cl76) (hts _ lkX2_gap_iniE) (by decide) (fun w h => hts w (List.mem_cons_of_mem _ (List.mem_append_right _ h))) hm hP hD hS (hl.1.trans hml.symm) dX2_gap_23 dX2_gap_26 dX2_gap_27 dX2_gap_29 dX2_gap_32 (Nat.le_of_ble_eq_true rfl) (Nat.le_of_ble_eq_true rfl) (Nat.le_of_ble_eq_true rfl) (Nat.le_of_ble_eq_true rfl) hlocks
    · have hm := ifn c_4 hm
      refine lv_iload_n hx hb dX2_gap_16 rfl (lv_at hl 2 rfl) ?_
      obtain ⟨q_5, hq_5, hm⟩ := ob hm
      refine zc_i (zr_S [.int a2] [] ⟨hx, hb, hml, hown, hts⟩ (ctX2_isRate l D cy (cw cy ad σ)  a2 q_5 hq_5 _) (va_cwS 1 hts gX2_gap_X2_isRate rfl rfl rfl (by decide +kernel) ⟨Nat.le_of_ble_eq_true rfl, Nat.le_of_ble_eq_true rfl⟩) hK hP hD rfl hl.1 rfl (Nat.le_of_ble_eq_true rfl) dX2_gap_17 ⟨Nat.zero_le _, Nat.zero_le _⟩) hD hS hA (fun H locs hP hD hS => ?_)
      refine lv_if_ne (tgt := 33) hx hb dX2_gap_20 (by decide) (fun c_6 => ?_) (fun c_6 => ?_)
      · have hm := ifn c_6 hm
        refine lv_aload_n hx hb dX2_gap_33 rfl (lv_at hl 0 rfl) ?_
        refine lv_iload_n hx hb dX2_gap_34 rfl (lv_at hl 2 rfl) ?_
        refine lv_aload_n hx hb dX2_gap_35 rfl (lv_at hl 0 rfl) ?_
        obtain ⟨q_7, hq_7, hm⟩ := ob hm
        refine zc_i (zr_V [] [.int a2, .ref (ad 0 0)] ⟨hx, hb, hml, hown, hts⟩ (ctX2_eligibleBits l D cy ad σ   q_7 hq_7 _) (cwV 0 hts gX2_gap_X2_eligibleBits rfl rfl rfl (by decide +kernel) ⟨Nat.le_of_ble_eq_true rfl, Nat.le_of_ble_eq_true rfl⟩) hK hP hD 0 cw_0 rfl rfl rfl hl.1 rfl (Nat.le_of_ble_eq_true rfl) dX2_gap_36 ⟨Nat.zero_le _, Nat.zero_le _⟩) hD hS hA (fun H locs hP hD hS => ?_)
        obtain ⟨q_8, hq_8, hm⟩ := ob hm
        refine zc_l (zr_V [.int a2, .int q_7] [] ⟨hx, hb, hml, hown, hts⟩ (ctX2_markAt l D cy ad σ  a2 q_7 q_8 hq_8 _) (cwV 2 hts gX2_gap_X2_markAt rfl rfl rfl (by decide +kernel) ⟨Nat.le_of_ble_eq_true rfl, Nat.le_of_ble_eq_true rfl⟩) hK hP hD 0 cw_0 rfl rfl rfl hl.1 rfl (Nat.le_of_ble_eq_true rfl) dX2_gap_39 ⟨Nat.zero_le _, Nat.zero_le _⟩) hD hS hA (fun H locs hP hD hS => ?_)
        refine lv_lstore_n (lv' := [(3, .long q_8.1), (0, .ref (ad 0 0)), (1, .int a1), (2, .int a2)]) hx hb dX2_gap_42 rfl hl (by decide) rfl (fun ls hl => ?_)
        refine lv_aload_n hx hb dX2_gap_43 rfl (lv_at hl 1 rfl) ?_
        refine va_get (D := D) (ci := 2) (v := .ref (ad 1 0)) (C := RX2) (T := TX2) (N := 9) hx hb hts iwX2_gap_X2 hown hK.1 hP 0 cw_0 rfl 0 (by decide) (hts _ lkX2_gap_11) (fun _ h9 => h9) rfl dX2_gap_44 ?_
        refine lv_iload_n hx hb dX2_gap_47 rfl (lv_at hl 2 rfl) ?_
        obtain ⟨h_9, hm⟩ := gd_some hm
        obtain ⟨h_10, hm⟩ := gd_some hm
        have h_10 := lt_of_dec h_10
        refine z_ald (f := fun i => ad 13 (gP q_8.2 i)) hx hb hK.1 hP 1 2 cw_1 rfl rfl (inb_vp h_9) dX2_gap_48 ?_
        refine lv_iload_n hx hb dX2_gap_49 rfl (lv_at hl 3 rfl) ?_
        obtain ⟨q_11, hq_11, hm⟩ := ob hm
        refine zc_i (zr_V [.int a2] [] ⟨hx, hb, hml, hown, hts⟩ (ctX0_priceAt l D cy ad q_8.2 h_10 (gP q_8.2 (Int32.toNatClampNeg a1)) a2 q_11 hq_11 _) (cwV 1 hts gX2_gap_X0_priceAt rfl rfl rfl (by decide +kernel) ⟨Nat.le_of_ble_eq_true rfl, Nat.le_of_ble_eq_true rfl⟩) hK hP hD (13 + (gP q_8.2 (Int32.toNatClampNeg a1))) (cw_13 h_10) rfl rfl rfl hl.1 rfl (Nat.le_of_ble_eq_true rfl) dX2_gap_50 ⟨Nat.zero_le _, Nat.zero_le _⟩) hD hS hA (fun H locs hP hD hS => ?_)
        refine lv_i2l hx hb dX2_gap_53 rfl ?_
        refine lv_aload_n hx hb dX2_gap_54 rfl (lv_at hl 1 rfl) ?_
        refine va_get (D := D) (ci := 2) (v := .ref (ad 1 0)) (C := RX2) (T := TX2) (N := 9) hx hb hts iwX2_gap_X2 hown hK.1 hP 0 cw_0 rfl 0 (by decide) (hts _ lkX2_gap_11) (fun _ h9 => h9) rfl dX2_gap_55 ?_
        refine lv_iload_n hx hb dX2_gap_58 rfl (lv_at hl 2 rfl) ?_
        obtain ⟨h_12, hm⟩ := gd_some hm
        obtain ⟨h_13, hm⟩ := gd_some hm
        have h_13 := lt_of_dec h_13
        refine z_ald (f := fun i => ad 13 (gP q_11.2 i)) hx hb hK.1 hP 1 2 cw_1 rfl rfl (inb_vp h_12) dX2_gap_59 ?_
        refine lv_lload_n hx hb dX2_gap_60 rfl (lv_at hl 0 rfl) ?_
        obtain ⟨q_14, hq_14, hm⟩ := ob hm
        refine zc_l (zr_V [.long q_8.1] [.long (Int32.toInt64 q_11.1)] ⟨hx, hb, hml, hown, hts⟩ (ctX0_invoiceBy l D cy ad q_11.2 h_13 (gP q_11.2 (Int32.toNatClampNeg a1)) q_8.1 q_14 hq_14 _) (cwV 1 hts gX2_gap_X0_invoiceBy rfl rfl rfl (by decide +kernel) ⟨Nat.le_of_ble_eq_true rfl, Nat.le_of_ble_eq_true rfl⟩) hK hP hD (13 + (gP q_11.2 (Int32.toNatClampNeg a1))) (cw_13 h_13) rfl rfl rfl hl.1 rfl (Nat.le_of_ble_eq_true rfl) dX2_gap_61 ⟨Nat.zero_le _, Nat.zero_le _⟩) hD hS hA (fun H locs hP hD hS => ?_)
        refine lv_lsub hx hb dX2_gap_64 ?_
        exact y_l hx hb hr hlocks hm hP hD hS dX2_gap_65
      · have hm := ifp c_6 hm
        exact y_thr (text := "no such eligible bond or rate") hx hb X hown (hts _ lkX2_gap_cl76) (hts _ lkX2_gap_iniE) (by decide) (fun w h => hts w (List.mem_cons_of_mem _ (List.mem_append_right _ h))) hm hP hD hS (hl.1.trans hml.symm) dX2_gap_23 dX2_gap_26 dX2_gap_27 dX2_gap_29 dX2_gap_32 (Nat.le_of_ble_eq_true rfl) (Nat.le_of_ble_eq_true rfl) (Nat.le_of_ble_eq_true rfl) (Nat.le_of_ble_eq_true rfl) hlocks
abbrev rmX2_cost : Room := { frames := 6, cells := 1, slots := 6, locals := 94 }
theorem lkX2_cost_44 : Cond.fieldLink RX2 44 "DeliveryBasket" "size" "I" ∈ wsX2_cost := by decide +kernel
theorem iwX2_cost_X2 : ∀ w ∈ wsX20, w ∈ wsX2_cost := fun _ h => List.mem_cons_of_mem _ (List.mem_append_left _ (List.mem_append_left _ (List.mem_append_right _ h)))
theorem lkX2_cost_40 : Cond.fieldLink RX2 40 "DeliveryBasket" "taken" "[I" ∈ wsX2_cost := by decide +kernel
theorem lkX2_cost_36 : Cond.fieldLink RX2 36 "DeliveryBasket" "costs" "[J" ∈ wsX2_cost := by decide +kernel
theorem lkX2_cost_cl76 : Cond.classLink RX2 76 "java/util/NoSuchElementException" ∈ wsX2_cost := by decide +kernel
theorem lkX2_cost_iniE : Cond.initialized "java/util/NoSuchElementException" ∈ wsX2_cost := by decide +kernel
def bkX2_cost_35  (rec : ST × Int64 × Int32 → Option (Option Int64 × ST)) (σ : ST) (x4 : Int64) (x6 : Int32) : Option (Option Int64 × ST) := if (gI σ 0 0 1) ≤ x6 then (some (some x4, σ)) else (gd (inb x6 8) (if (gI σ 5 0 (Int32.toNatClampNeg x6)) ≤ (0 : Int32) then (rec (σ, x4, (x6 + (1 : Int32)))) else (gd (inb x6 8) (gd (inb x6 8) (rec (σ, (x4 + ((Int32.toInt64 (gI σ 5 0 (Int32.toNatClampNeg x6))) * (gJ σ 0 0 (Int32.toNatClampNeg x6)))), (x6 + (1 : Int32))))))))
def kX2_cost_35  (n : Nat) (a : ST × Int64 × Int32) : Option (Option Int64 × ST) := fx (fun rec a => bkX2_cost_35  rec a.1 a.2.1 a.2.2) n a
set_option maxHeartbeats 4000000 in
set_option maxRecDepth 100000 in
theorem kX2_cost_35_ok {p : Program} {l : Launch} {e : Env} {s : State} {m : MethodId} {args : Array Value} {below : List Frame} {meth : Method} {c : Code} {D : va_G} {cy : Nat → ClassId} {ad : Nat → Nat → Nat} {A : Nat → Prop} (C : Cx p s m args meth c cX2_cost 7 (some .long) RX2 wsX2_cost D cy A) (q : Option Int64 × ST) {base : Nat} (X : Xx l s c base A) : ∀ (n : Nat) (σ : ST) (x4 : Int64) (x6 : Int32), ∀ (H : Heap) (locs : List Loc), va_P D vwCl (cw cy ad σ) H → va_D A (cw cy ad σ) → va_S A s.heap H locs → ∀ ls : Array Slot, lv_has ls 7 [(0, .ref (ad 0 0)), (4, .long x4), (6, .int x6)] → kX2_cost_35 n (σ, x4, x6) = some q → W p l e rmX2_cost s m args below meth c H locs 0 0 (vx_MQ below (yQl D (cw cy ad q.2) A q.1) (yX D (cw cy ad q.2) A q.1) args s 1 6 A) (F0 m 35 ls []) := by
  obtain ⟨hx, hb, hml, hown, hts, hr, hlocks, hK, hA⟩ := id C
  intro n
  induction n with
  | zero => intro σ x4 x6 H locs hP hD hS ls hl hm; cases hm
  | succ n ih =>
    intro σ x4 x6 H locs hP hD hS ls hl hm
    have hm : bkX2_cost_35  (kX2_cost_35 n) σ x4 x6 = some q := hm
    unfold bkX2_cost_35 at hm
    refine lv_iload hx hb dX2_cost_35 (lv_at hl 2 rfl) ?_
    refine lv_aload_n hx hb dX2_cost_37 rfl (lv_at hl 0 rfl) ?_
    refine va_get (D := D) (ci := 2) (v := .int (gI σ 0 0 1)) (C := RX2) (T := TX2) (N := 9) hx hb hts iwX2_cost_X2 hown hK.1 hP 0 cw_0 rfl 1 (by decide) (hts _ lkX2_cost_44) (fun _ h9 => h9) rfl dX2_cost_38 ?_
    refine lv_icmp_ge (tgt := 81) hx hb dX2_cost_41 (by decide) (fun c_1 => ?_) (fun c_1 => ?_)
    · have hm := ifp c_1 hm
      refine lv_lload hx hb dX2_cost_81 (lv_at hl 1 rfl) ?_
      exact y_l hx hb hr hlocks hm hP hD hS dX2_cost_83
    · have hm := ifn c_1 hm
      refine lv_aload_n hx hb dX2_cost_44 rfl (lv_at hl 0 rfl) ?_
      refine va_get (D := D) (ci := 2) (v := .ref (ad 5 0)) (C := RX2) (T := TX2) (N := 9) hx hb hts iwX2_cost_X2 hown hK.1 hP 0 cw_0 rfl 8 (by decide) (hts _ lkX2_cost_40) (fun _ h9 => h9) rfl dX2_cost_45 ?_
      refine lv_iload hx hb dX2_cost_48 (lv_at hl 2 rfl) ?_
      obtain ⟨h_2, hm⟩ := gd_some hm
      refine va_iald hx hb hK.1 hP 5 0 cw_5 rfl (inb_vp h_2) dX2_cost_50 ?_
      refine lv_if_le (tgt := 75) hx hb dX2_cost_51 (by decide) (fun c_3 => ?_) (fun c_3 => ?_)
      · have hm := ifp c_3 hm
        refine lv_iinc (v := (x6 + (1 : Int32))) (lv' := [(6, .int (x6 + (1 : Int32))), (0, .ref (ad 0 0)), (4, .long x4)]) hx hb dX2_cost_75 hl (k := 2) rfl rfl (by decide) rfl (fun ls hl => ?_)
        refine lv_goto (tgt := 35) hx hb dX2_cost_78 (by decide) ?_
        exact ih σ x4 (x6 + (1 : Int32)) _ _ hP hD hS _ (lv_sub hl [1, 2, 0] rfl) hm
      · have hm := ifn c_3 hm
        refine lv_lload hx hb dX2_cost_54 (lv_at hl 1 rfl) ?_
        refine lv_aload_n hx hb dX2_cost_56 rfl (lv_at hl 0 rfl) ?_
        refine va_get (D := D) (ci := 2) (v := .ref (ad 5 0)) (C := RX2) (T := TX2) (N := 9) hx hb hts iwX2_cost_X2 hown hK.1 hP 0 cw_0 rfl 8 (by decide) (hts _ lkX2_cost_40) (fun _ h9 => h9) rfl dX2_cost_57 ?_
        refine lv_iload hx hb dX2_cost_60 (lv_at hl 2 rfl) ?_
        obtain ⟨h_4, hm⟩ := gd_some hm
        refine va_iald hx hb hK.1 hP 5 0 cw_5 rfl (inb_vp h_4) dX2_cost_62 ?_
        refine lv_i2l hx hb dX2_cost_63 rfl ?_
        refine lv_aload_n hx hb dX2_cost_64 rfl (lv_at hl 0 rfl) ?_
        refine va_get (D := D) (ci := 2) (v := .ref (ad 4 0)) (C := RX2) (T := TX2) (N := 9) hx hb hts iwX2_cost_X2 hown hK.1 hP 0 cw_0 rfl 7 (by decide) (hts _ lkX2_cost_36) (fun _ h9 => h9) rfl dX2_cost_65 ?_
        refine lv_iload hx hb dX2_cost_68 (lv_at hl 2 rfl) ?_
        obtain ⟨h_5, hm⟩ := gd_some hm
        refine va_lald hx hb hK.1 hP 4 1 cw_4 rfl (inb_vp h_5) dX2_cost_70 ?_
        refine lv_lmul hx hb dX2_cost_71 ?_
        refine lv_ladd hx hb dX2_cost_72 ?_
        refine lv_lstore (lv' := [(4, .long (x4 + ((Int32.toInt64 (gI σ 5 0 (Int32.toNatClampNeg x6))) * (gJ σ 0 0 (Int32.toNatClampNeg x6))))), (0, .ref (ad 0 0)), (6, .int x6)]) hx hb dX2_cost_73 hl (by decide) rfl (fun ls hl => ?_)
        refine lv_iinc (v := (x6 + (1 : Int32))) (lv' := [(6, .int (x6 + (1 : Int32))), (4, .long (x4 + ((Int32.toInt64 (gI σ 5 0 (Int32.toNatClampNeg x6))) * (gJ σ 0 0 (Int32.toNatClampNeg x6))))), (0, .ref (ad 0 0))]) hx hb dX2_cost_75 hl (k := 2) rfl rfl (by decide) rfl (fun ls hl => ?_)
        refine lv_goto (tgt := 35) hx hb dX2_cost_78 (by decide) ?_
        exact ih σ (x4 + ((Int32.toInt64 (gI σ 5 0 (Int32.toNatClampNeg x6))) * (gJ σ 0 0 (Int32.toNatClampNeg x6)))) (x6 + (1 : Int32)) _ _ hP hD hS _ (lv_sub hl [2, 1, 0] rfl) hm
def mX2_cost (σ : ST) (a1 : Int32) (a2 : Int32) (a3 : Int32) : Option (Option Int64 × ST) := (mX2_canAsk a1 a2 a3).bind fun q_6 => if q_6 = (0 : Int32) then (some (none, σ)) else ((mX2_takeCheapest σ a1 a2 a3).bind fun q_8 => if q_8.1 = (0 : Int32) then (some (none, q_8.2)) else (kX2_cost_35 FU (q_8.2, (0 : Int64), (0 : Int32))))
set_option maxHeartbeats 4000000 in
set_option maxRecDepth 100000 in
theorem ctX2_cost (l : Launch) (D : va_G) (cy : Nat → ClassId) (htr : l.stackTraces = false) (base : Nat) (ad : Nat → Nat → Nat) (σ : ST) (a1 : Int32) (a2 : Int32) (a3 : Int32) (q : Option Int64 × ST) (hm : mX2_cost σ a1 a2 a3 = some q) : yMl l yX2_cost wsX2_cost rmX2_cost base D cy [.ref (ad 0 0), .int a1, .int a2, .int a3] (cw cy ad σ) q.1 (cw cy ad q.2) := by
  intro sz
  refine vx_ofW (cc := cX2_cost) (maxL := 7) (ret := (some .long)) (by decide) rfl ?_
  intro p e s m args below meth c s₁ B hml htb hv
  obtain ⟨rfl, ⟨hsz, hP, hK, hD0⟩, ⟨hbs, hbw⟩, hXX⟩ := hv
  have hx := B.exec
  have hb := B.bytes
  have hr := B.returns
  have hts := atoms_spec (ws := wsX2_cost) B.pre
  have hown : s.vm.findClass RX2 = some m.cls := findClass_of_methodNamed B.named
  have hlocks := B.notSynchronized
  subst hsz
  have hD := hD0.self (sz := s.heap.size)
  have hAb : ∀ q, va_A (cw cy ad σ) s.heap.size q → base ≤ q := fun q h => by
    rcases h with ⟨k, e, h⟩ | h
    · exact hbw k _ h
    · exact Nat.le_trans hbs h
  generalize hAe : va_A (cw cy ad σ) s.heap.size = A at hD hAb ⊢
  have hA : ∀ q : Nat, s.heap.size ≤ q → A q := fun q h => by rw [← hAe]; exact Or.inr h
  have hS : va_S A s.heap s.heap [] := va_S.rf
  have C : Cx p s m _ meth c cX2_cost 7 (some .long) RX2 wsX2_cost D cy A := ⟨hx, hb, hml, hown, hts, hr, hlocks, hK, hA⟩
  have X : Xx l s c base A := ⟨htr, hXX, hAb, htb⟩
  have hl := lv_entry ([.ref (ad 0 0), .int a1, .int a2, .int a3]) (n := 7) (Nat.le_of_ble_eq_true rfl)
  rw [lg_entry_eq]
  generalize (lg_sl ([.ref (ad 0 0), .int a1, .int a2, .int a3]) ++ List.replicate (7 - (lg_sl ([.ref (ad 0 0), .int a1, .int a2, .int a3])).length) Slot.unset).toArray = ls at hl ⊢
  have hl : lv_has ls 7 [(0, .ref (ad 0 0)), (1, .int a1), (2, .int a2), (3, .int a3)] := hl
  unfold mX2_cost at hm
  refine lv_iload_n hx hb dX2_cost_0 rfl (lv_at hl 1 rfl) ?_
  refine lv_iload_n hx hb dX2_cost_1 rfl (lv_at hl 2 rfl) ?_
  refine lv_iload_n hx hb dX2_cost_2 rfl (lv_at hl 3 rfl) ?_
  obtain ⟨q_6, hq_6, hm⟩ := ob hm
  refine zc_i (zr_S [.int a1, .int a2, .int a3] [] ⟨hx, hb, hml, hown, hts⟩ (ctX2_canAsk l D cy (cw cy ad σ)  a1 a2 a3 q_6 hq_6 _) (va_cwS 3 hts gX2_cost_X2_canAsk rfl rfl rfl (by decide +kernel) ⟨Nat.le_of_ble_eq_true rfl, Nat.le_of_ble_eq_true rfl⟩) hK hP hD rfl hl.1 rfl (Nat.le_of_ble_eq_true rfl) dX2_cost_3 ⟨Nat.zero_le _, Nat.zero_le _⟩) hD hS hA (fun H locs hP hD hS => ?_)
  refine lv_if_eq (tgt := 19) hx hb dX2_cost_6 (by decide) (fun c_7 => ?_) (fun c_7 => ?_)
  · have hm := ifp c_7 hm
    exact y_thr (text := "these contracts can't be met") hx hb X hown (hts _ lkX2_cost_cl76) (hts _ lkX2_cost_iniE) (by decide) (fun w h => hts w (List.mem_cons_of_mem _ (List.mem_append_right _ h))) hm hP hD hS (hl.1.trans hml.symm) dX2_cost_19 dX2_cost_22 dX2_cost_23 dX2_cost_25 dX2_cost_28 (Nat.le_of_ble_eq_true rfl) (Nat.le_of_ble_eq_true rfl) (Nat.le_of_ble_eq_true rfl) (Nat.le_of_ble_eq_true rfl) hlocks
  · have hm := ifn c_7 hm
    refine lv_aload_n hx hb dX2_cost_9 rfl (lv_at hl 0 rfl) ?_
    refine lv_iload_n hx hb dX2_cost_10 rfl (lv_at hl 1 rfl) ?_
    refine lv_iload_n hx hb dX2_cost_11 rfl (lv_at hl 2 rfl) ?_
    refine lv_iload_n hx hb dX2_cost_12 rfl (lv_at hl 3 rfl) ?_
    obtain ⟨q_8, hq_8, hm⟩ := ob hm
    refine zc_i (zr_V [.int a1, .int a2, .int a3] [] ⟨hx, hb, hml, hown, hts⟩ (ctX2_takeCheapest l D cy ad σ  a1 a2 a3 q_8 hq_8 _) (cwV 3 hts gX2_cost_X2_takeCheapest rfl rfl rfl (by decide +kernel) ⟨Nat.le_of_ble_eq_true rfl, Nat.le_of_ble_eq_true rfl⟩) hK hP hD 0 cw_0 rfl rfl rfl hl.1 rfl (Nat.le_of_ble_eq_true rfl) dX2_cost_13 ⟨Nat.zero_le _, Nat.zero_le _⟩) hD hS hA (fun H locs hP hD hS => ?_)
    refine lv_if_ne (tgt := 29) hx hb dX2_cost_16 (by decide) (fun c_9 => ?_) (fun c_9 => ?_)
    · have hm := ifn c_9 hm
      refine lv_lconst (v := 0) hx hb dX2_cost_29 (by decide) ?_
      refine lv_lstore (lv' := [(4, .long (0 : Int64)), (0, .ref (ad 0 0)), (1, .int a1), (2, .int a2), (3, .int a3)]) hx hb dX2_cost_30 hl (by decide) rfl (fun ls hl => ?_)
      refine lv_iconst (v := 0) hx hb dX2_cost_32 (by decide) ?_
      refine lv_istore (lv' := [(6, .int (0 : Int32)), (4, .long (0 : Int64)), (0, .ref (ad 0 0)), (1, .int a1), (2, .int a2), (3, .int a3)]) hx hb dX2_cost_33 hl (by decide) rfl (fun ls hl => ?_)
      exact kX2_cost_35_ok C q X FU q_8.2 (0 : Int64) (0 : Int32) _ _ hP hD hS _ (lv_sub hl [2, 1, 0] rfl) hm
    · have hm := ifp c_9 hm
      exact y_thr (text := "these contracts can't be met") hx hb X hown (hts _ lkX2_cost_cl76) (hts _ lkX2_cost_iniE) (by decide) (fun w h => hts w (List.mem_cons_of_mem _ (List.mem_append_right _ h))) hm hP hD hS (hl.1.trans hml.symm) dX2_cost_19 dX2_cost_22 dX2_cost_23 dX2_cost_25 dX2_cost_28 (Nat.le_of_ble_eq_true rfl) (Nat.le_of_ble_eq_true rfl) (Nat.le_of_ble_eq_true rfl) (Nat.le_of_ble_eq_true rfl) hlocks
abbrev rmX2_value : Room := { frames := 6, cells := 1, slots := 6, locals := 113 }
theorem lkX2_value_28 : Cond.fieldLink RX2 28 "DeliveryBasket" "lattice" "LDeliveryBasket$Lattice;" ∈ wsX2_value := by decide +kernel
theorem iwX2_value_X2 : ∀ w ∈ wsX20, w ∈ wsX2_value := fun _ h => List.mem_cons_of_mem _ (List.mem_append_left _ (List.mem_append_left _ (List.mem_append_left _ (List.mem_append_right _ h))))
theorem lkX2_value_cl76 : Cond.classLink RX2 76 "java/util/NoSuchElementException" ∈ wsX2_value := by decide +kernel
theorem lkX2_value_iniE : Cond.initialized "java/util/NoSuchElementException" ∈ wsX2_value := by decide +kernel
theorem lkX2_value_204 : Cond.fieldLink RX2 204 "DeliveryBasket$Lattice" "values" "[[J" ∈ wsX2_value := by decide +kernel
theorem iwX2_value_X1 : ∀ w ∈ wsX10, w ∈ wsX2_value := fun _ h => List.mem_cons_of_mem _ (List.mem_append_left _ (List.mem_append_left _ (List.mem_append_right _ h)))
def mX2_value (σ : ST) (a1 : Int32) (a2 : Int32) : Option (Option Int64 × ST) := (mX2_eligibleBits σ).bind fun q_1 => (mX1_hasNode σ a1 a2).bind fun q_2 => if q_2 = (0 : Int32) then (some (none, σ)) else (if q_1 = (0 : Int32) then (some (none, σ)) else ((mX2_valueBy σ q_1).bind fun q_5 => gd (inb a1 21) (gd (inb a2 21) (some (some (gJ q_5.2 1 (Int32.toNatClampNeg a1) (Int32.toNatClampNeg a2)), q_5.2)))))
set_option maxHeartbeats 4000000 in
set_option maxRecDepth 100000 in
theorem ctX2_value (l : Launch) (D : va_G) (cy : Nat → ClassId) (htr : l.stackTraces = false) (base : Nat) (ad : Nat → Nat → Nat) (σ : ST) (a1 : Int32) (a2 : Int32) (q : Option Int64 × ST) (hm : mX2_value σ a1 a2 = some q) : yMl l yX2_value wsX2_value rmX2_value base D cy [.ref (ad 0 0), .int a1, .int a2] (cw cy ad σ) q.1 (cw cy ad q.2) := by
  intro sz
  refine vx_ofW (cc := cX2_value) (maxL := 4) (ret := (some .long)) (by decide) rfl ?_
  intro p e s m args below meth c s₁ B hml htb hv
  obtain ⟨rfl, ⟨hsz, hP, hK, hD0⟩, ⟨hbs, hbw⟩, hXX⟩ := hv
  have hx := B.exec
  have hb := B.bytes
  have hr := B.returns
  have hts := atoms_spec (ws := wsX2_value) B.pre
  have hown : s.vm.findClass RX2 = some m.cls := findClass_of_methodNamed B.named
  have hlocks := B.notSynchronized
  subst hsz
  have hD := hD0.self (sz := s.heap.size)
  have hAb : ∀ q, va_A (cw cy ad σ) s.heap.size q → base ≤ q := fun q h => by
    rcases h with ⟨k, e, h⟩ | h
    · exact hbw k _ h
    · exact Nat.le_trans hbs h
  generalize hAe : va_A (cw cy ad σ) s.heap.size = A at hD hAb ⊢
  have hA : ∀ q : Nat, s.heap.size ≤ q → A q := fun q h => by rw [← hAe]; exact Or.inr h
  have hS : va_S A s.heap s.heap [] := va_S.rf
  have C : Cx p s m _ meth c cX2_value 4 (some .long) RX2 wsX2_value D cy A := ⟨hx, hb, hml, hown, hts, hr, hlocks, hK, hA⟩
  have X : Xx l s c base A := ⟨htr, hXX, hAb, htb⟩
  have hl := lv_entry ([.ref (ad 0 0), .int a1, .int a2]) (n := 4) (Nat.le_of_ble_eq_true rfl)
  rw [lg_entry_eq]
  generalize (lg_sl ([.ref (ad 0 0), .int a1, .int a2]) ++ List.replicate (4 - (lg_sl ([.ref (ad 0 0), .int a1, .int a2])).length) Slot.unset).toArray = ls at hl ⊢
  have hl : lv_has ls 4 [(0, .ref (ad 0 0)), (1, .int a1), (2, .int a2)] := hl
  unfold mX2_value at hm
  refine lv_aload_n hx hb dX2_value_0 rfl (lv_at hl 0 rfl) ?_
  obtain ⟨q_1, hq_1, hm⟩ := ob hm
  refine zc_i (zr_V [] [] ⟨hx, hb, hml, hown, hts⟩ (ctX2_eligibleBits l D cy ad σ   q_1 hq_1 _) (cwV 0 hts gX2_value_X2_eligibleBits rfl rfl rfl (by decide +kernel) ⟨Nat.le_of_ble_eq_true rfl, Nat.le_of_ble_eq_true rfl⟩) hK hP hD 0 cw_0 rfl rfl rfl hl.1 rfl (Nat.le_of_ble_eq_true rfl) dX2_value_1 ⟨Nat.zero_le _, Nat.zero_le _⟩) hD hS hA (fun H locs hP hD hS => ?_)
  refine lv_istore_n (lv' := [(3, .int q_1), (0, .ref (ad 0 0)), (1, .int a1), (2, .int a2)]) hx hb dX2_value_4 rfl hl (by decide) rfl (fun ls hl => ?_)
  refine lv_aload_n hx hb dX2_value_5 rfl (lv_at hl 1 rfl) ?_
  refine va_get (D := D) (ci := 2) (v := .ref (ad 2 0)) (C := RX2) (T := TX2) (N := 9) hx hb hts iwX2_value_X2 hown hK.1 hP 0 cw_0 rfl 5 (by decide) (hts _ lkX2_value_28) (fun _ h9 => h9) rfl dX2_value_6 ?_
  refine lv_iload_n hx hb dX2_value_9 rfl (lv_at hl 2 rfl) ?_
  refine lv_iload_n hx hb dX2_value_10 rfl (lv_at hl 3 rfl) ?_
  obtain ⟨q_2, hq_2, hm⟩ := ob hm
  refine zc_i (zr_V [.int a1, .int a2] [] ⟨hx, hb, hml, hown, hts⟩ (ctX1_hasNode l D cy ad σ  a1 a2 q_2 hq_2 _) (cwV 2 hts gX2_value_X1_hasNode rfl rfl rfl (by decide +kernel) ⟨Nat.le_of_ble_eq_true rfl, Nat.le_of_ble_eq_true rfl⟩) hK hP hD 2 cw_2 rfl rfl rfl hl.1 rfl (Nat.le_of_ble_eq_true rfl) dX2_value_11 ⟨Nat.zero_le _, Nat.zero_le _⟩) hD hS hA (fun H locs hP hD hS => ?_)
  refine lv_if_eq (tgt := 21) hx hb dX2_value_14 (by decide) (fun c_3 => ?_) (fun c_3 => ?_)
  · have hm := ifp c_3 hm
    exact y_thr (text := "no such node, or none is eligible") hx hb X hown (hts _ lkX2_value_cl76) (hts _ lkX2_value_iniE) (by decide) (fun w h => hts w (List.mem_cons_of_mem _ (List.mem_append_right _ h))) hm hP hD hS (hl.1.trans hml.symm) dX2_value_21 dX2_value_24 dX2_value_25 dX2_value_27 dX2_value_30 (Nat.le_of_ble_eq_true rfl) (Nat.le_of_ble_eq_true rfl) (Nat.le_of_ble_eq_true rfl) (Nat.le_of_ble_eq_true rfl) hlocks
  · have hm := ifn c_3 hm
    refine lv_iload_n hx hb dX2_value_17 rfl (lv_at hl 0 rfl) ?_
    refine lv_if_ne (tgt := 31) hx hb dX2_value_18 (by decide) (fun c_4 => ?_) (fun c_4 => ?_)
    · have hm := ifn c_4 hm
      refine lv_aload_n hx hb dX2_value_31 rfl (lv_at hl 1 rfl) ?_
      refine lv_iload_n hx hb dX2_value_32 rfl (lv_at hl 0 rfl) ?_
      obtain ⟨q_5, hq_5, hm⟩ := ob hm
      refine zc_l (zr_V [.int q_1] [] ⟨hx, hb, hml, hown, hts⟩ (ctX2_valueBy l D cy ad σ  q_1 q_5 hq_5 _) (cwV 1 hts gX2_value_X2_valueBy rfl rfl rfl (by decide +kernel) ⟨Nat.le_of_ble_eq_true rfl, Nat.le_of_ble_eq_true rfl⟩) hK hP hD 0 cw_0 rfl rfl rfl hl.1 rfl (Nat.le_of_ble_eq_true rfl) dX2_value_33 ⟨Nat.zero_le _, Nat.zero_le _⟩) hD hS hA (fun H locs hP hD hS => ?_)
      refine lv_pop2_2 hx hb dX2_value_36 rfl ?_
      refine lv_aload_n hx hb dX2_value_37 rfl (lv_at hl 1 rfl) ?_
      refine va_get (D := D) (ci := 2) (v := .ref (ad 2 0)) (C := RX2) (T := TX2) (N := 9) hx hb hts iwX2_value_X2 hown hK.1 hP 0 cw_0 rfl 5 (by decide) (hts _ lkX2_value_28) (fun _ h9 => h9) rfl dX2_value_38 ?_
      refine va_get (D := D) (ci := 1) (v := .ref (ad 6 0)) (C := RX1) (T := TX1) (N := 12) hx hb hts iwX2_value_X1 hown hK.1 hP 2 cw_2 rfl 5 (by decide) (hts _ lkX2_value_204) (fun _ h9 => h9) rfl dX2_value_41 ?_
      refine lv_iload_n hx hb dX2_value_44 rfl (lv_at hl 2 rfl) ?_
      obtain ⟨h_6, hm⟩ := gd_some hm
      refine z_ald (f := fun i => ad 15 i) hx hb hK.1 hP 6 4 cw_6 rfl rfl (inb_vp h_6) dX2_value_45 ?_
      refine lv_iload_n hx hb dX2_value_46 rfl (lv_at hl 3 rfl) ?_
      obtain ⟨h_7, hm⟩ := gd_some hm
      refine va_lald hx hb hK.1 hP (13 + (8 + (8 + (Int32.toNatClampNeg a1)))) 1 (cw_15 (inb_lt h_6)) rfl (inb_vp h_7) dX2_value_47 ?_
      exact y_l hx hb hr hlocks hm hP hD hS dX2_value_48
    · have hm := ifp c_4 hm
      exact y_thr (text := "no such node, or none is eligible") hx hb X hown (hts _ lkX2_value_cl76) (hts _ lkX2_value_iniE) (by decide) (fun w h => hts w (List.mem_cons_of_mem _ (List.mem_append_right _ h))) hm hP hD hS (hl.1.trans hml.symm) dX2_value_21 dX2_value_24 dX2_value_25 dX2_value_27 dX2_value_30 (Nat.le_of_ble_eq_true rfl) (Nat.le_of_ble_eq_true rfl) (Nat.le_of_ble_eq_true rfl) (Nat.le_of_ble_eq_true rfl) hlocks
abbrev rmX2_fixed : Room := { frames := 6, cells := 1, slots := 6, locals := 92 }
theorem lkX2_fixed_28 : Cond.fieldLink RX2 28 "DeliveryBasket" "lattice" "LDeliveryBasket$Lattice;" ∈ wsX2_fixed := by decide +kernel
theorem iwX2_fixed_X2 : ∀ w ∈ wsX20, w ∈ wsX2_fixed := fun _ h => List.mem_cons_of_mem _ (List.mem_append_left _ (List.mem_append_left _ (List.mem_append_left _ (List.mem_append_right _ h))))
theorem lkX2_fixed_cl76 : Cond.classLink RX2 76 "java/util/NoSuchElementException" ∈ wsX2_fixed := by decide +kernel
theorem lkX2_fixed_iniE : Cond.initialized "java/util/NoSuchElementException" ∈ wsX2_fixed := by decide +kernel
theorem lkX2_fixed_11 : Cond.fieldLink RX2 11 "DeliveryBasket" "bonds" "[LDeliveryBasket$Bond;" ∈ wsX2_fixed := by decide +kernel
theorem lkX2_fixed_44 : Cond.fieldLink RX2 44 "DeliveryBasket" "size" "I" ∈ wsX2_fixed := by decide +kernel
theorem lkX2_fixed_141 : Cond.fieldLink RX2 141 "DeliveryBasket$Lattice" "agreed" "I" ∈ wsX2_fixed := by decide +kernel
theorem iwX2_fixed_X1 : ∀ w ∈ wsX10, w ∈ wsX2_fixed := fun _ h => List.mem_cons_of_mem _ (List.mem_append_left _ (List.mem_append_left _ (List.mem_append_right _ h)))
def mX2_fixed (σ : ST) (a1 : Int32) : Option (Option Int64 × ST) := (mX2_eligibleBits σ).bind fun q_1 => (mX1_hasDay σ a1).bind fun q_2 => if q_2 = (0 : Int32) then (some (none, σ)) else (if q_1 = (0 : Int32) then (some (none, σ)) else ((mX1_layPrices σ (gI σ 0 0 1)).bind fun q_5 => (mX1_layNow q_5 q_1 (gI q_5 1 0 4)).bind fun q_6 => (mX1_rollBack q_6 a1 (0 : Int32)).bind fun q_7 => some (some q_7.1, q_7.2)))
set_option maxHeartbeats 4000000 in
set_option maxRecDepth 100000 in
theorem ctX2_fixed (l : Launch) (D : va_G) (cy : Nat → ClassId) (htr : l.stackTraces = false) (base : Nat) (ad : Nat → Nat → Nat) (σ : ST) (a1 : Int32) (q : Option Int64 × ST) (hm : mX2_fixed σ a1 = some q) : yMl l yX2_fixed wsX2_fixed rmX2_fixed base D cy [.ref (ad 0 0), .int a1] (cw cy ad σ) q.1 (cw cy ad q.2) := by
  intro sz
  refine vx_ofW (cc := cX2_fixed) (maxL := 3) (ret := (some .long)) (by decide) rfl ?_
  intro p e s m args below meth c s₁ B hml htb hv
  obtain ⟨rfl, ⟨hsz, hP, hK, hD0⟩, ⟨hbs, hbw⟩, hXX⟩ := hv
  have hx := B.exec
  have hb := B.bytes
  have hr := B.returns
  have hts := atoms_spec (ws := wsX2_fixed) B.pre
  have hown : s.vm.findClass RX2 = some m.cls := findClass_of_methodNamed B.named
  have hlocks := B.notSynchronized
  subst hsz
  have hD := hD0.self (sz := s.heap.size)
  have hAb : ∀ q, va_A (cw cy ad σ) s.heap.size q → base ≤ q := fun q h => by
    rcases h with ⟨k, e, h⟩ | h
    · exact hbw k _ h
    · exact Nat.le_trans hbs h
  generalize hAe : va_A (cw cy ad σ) s.heap.size = A at hD hAb ⊢
  have hA : ∀ q : Nat, s.heap.size ≤ q → A q := fun q h => by rw [← hAe]; exact Or.inr h
  have hS : va_S A s.heap s.heap [] := va_S.rf
  have C : Cx p s m _ meth c cX2_fixed 3 (some .long) RX2 wsX2_fixed D cy A := ⟨hx, hb, hml, hown, hts, hr, hlocks, hK, hA⟩
  have X : Xx l s c base A := ⟨htr, hXX, hAb, htb⟩
  have hl := lv_entry ([.ref (ad 0 0), .int a1]) (n := 3) (Nat.le_of_ble_eq_true rfl)
  rw [lg_entry_eq]
  generalize (lg_sl ([.ref (ad 0 0), .int a1]) ++ List.replicate (3 - (lg_sl ([.ref (ad 0 0), .int a1])).length) Slot.unset).toArray = ls at hl ⊢
  have hl : lv_has ls 3 [(0, .ref (ad 0 0)), (1, .int a1)] := hl
  unfold mX2_fixed at hm
  refine lv_aload_n hx hb dX2_fixed_0 rfl (lv_at hl 0 rfl) ?_
  obtain ⟨q_1, hq_1, hm⟩ := ob hm
  refine zc_i (zr_V [] [] ⟨hx, hb, hml, hown, hts⟩ (ctX2_eligibleBits l D cy ad σ   q_1 hq_1 _) (cwV 0 hts gX2_fixed_X2_eligibleBits rfl rfl rfl (by decide +kernel) ⟨Nat.le_of_ble_eq_true rfl, Nat.le_of_ble_eq_true rfl⟩) hK hP hD 0 cw_0 rfl rfl rfl hl.1 rfl (Nat.le_of_ble_eq_true rfl) dX2_fixed_1 ⟨Nat.zero_le _, Nat.zero_le _⟩) hD hS hA (fun H locs hP hD hS => ?_)
  refine lv_istore_n (lv' := [(2, .int q_1), (0, .ref (ad 0 0)), (1, .int a1)]) hx hb dX2_fixed_4 rfl hl (by decide) rfl (fun ls hl => ?_)
  refine lv_aload_n hx hb dX2_fixed_5 rfl (lv_at hl 1 rfl) ?_
  refine va_get (D := D) (ci := 2) (v := .ref (ad 2 0)) (C := RX2) (T := TX2) (N := 9) hx hb hts iwX2_fixed_X2 hown hK.1 hP 0 cw_0 rfl 5 (by decide) (hts _ lkX2_fixed_28) (fun _ h9 => h9) rfl dX2_fixed_6 ?_
  refine lv_iload_n hx hb dX2_fixed_9 rfl (lv_at hl 2 rfl) ?_
  obtain ⟨q_2, hq_2, hm⟩ := ob hm
  refine zc_i (zr_V [.int a1] [] ⟨hx, hb, hml, hown, hts⟩ (ctX1_hasDay l D cy ad σ  a1 q_2 hq_2 _) (cwV 1 hts gX2_fixed_X1_hasDay rfl rfl rfl (by decide +kernel) ⟨Nat.le_of_ble_eq_true rfl, Nat.le_of_ble_eq_true rfl⟩) hK hP hD 2 cw_2 rfl rfl rfl hl.1 rfl (Nat.le_of_ble_eq_true rfl) dX2_fixed_10 ⟨Nat.zero_le _, Nat.zero_le _⟩) hD hS hA (fun H locs hP hD hS => ?_)
  refine lv_if_eq (tgt := 20) hx hb dX2_fixed_13 (by decide) (fun c_3 => ?_) (fun c_3 => ?_)
  · have hm := ifp c_3 hm
    exact y_thr (text := "no such day, or none is eligible") hx hb X hown (hts _ lkX2_fixed_cl76) (hts _ lkX2_fixed_iniE) (by decide) (fun w h => hts w (List.mem_cons_of_mem _ (List.mem_append_right _ h))) hm hP hD hS (hl.1.trans hml.symm) dX2_fixed_20 dX2_fixed_23 dX2_fixed_24 dX2_fixed_26 dX2_fixed_29 (Nat.le_of_ble_eq_true rfl) (Nat.le_of_ble_eq_true rfl) (Nat.le_of_ble_eq_true rfl) (Nat.le_of_ble_eq_true rfl) hlocks
  · have hm := ifn c_3 hm
    refine lv_iload_n hx hb dX2_fixed_16 rfl (lv_at hl 0 rfl) ?_
    refine lv_if_ne (tgt := 30) hx hb dX2_fixed_17 (by decide) (fun c_4 => ?_) (fun c_4 => ?_)
    · have hm := ifn c_4 hm
      refine lv_aload_n hx hb dX2_fixed_30 rfl (lv_at hl 1 rfl) ?_
      refine va_get (D := D) (ci := 2) (v := .ref (ad 2 0)) (C := RX2) (T := TX2) (N := 9) hx hb hts iwX2_fixed_X2 hown hK.1 hP 0 cw_0 rfl 5 (by decide) (hts _ lkX2_fixed_28) (fun _ h9 => h9) rfl dX2_fixed_31 ?_
      refine lv_aload_n hx hb dX2_fixed_34 rfl (lv_at hl 1 rfl) ?_
      refine va_get (D := D) (ci := 2) (v := .ref (ad 1 0)) (C := RX2) (T := TX2) (N := 9) hx hb hts iwX2_fixed_X2 hown hK.1 hP 0 cw_0 rfl 0 (by decide) (hts _ lkX2_fixed_11) (fun _ h9 => h9) rfl dX2_fixed_35 ?_
      refine lv_aload_n hx hb dX2_fixed_38 rfl (lv_at hl 1 rfl) ?_
      refine va_get (D := D) (ci := 2) (v := .int (gI σ 0 0 1)) (C := RX2) (T := TX2) (N := 9) hx hb hts iwX2_fixed_X2 hown hK.1 hP 0 cw_0 rfl 1 (by decide) (hts _ lkX2_fixed_44) (fun _ h9 => h9) rfl dX2_fixed_39 ?_
      obtain ⟨q_5, hq_5, hm⟩ := ob hm
      refine zc_v (zr_V [.ref (ad 1 0), .int (gI σ 0 0 1)] [] ⟨hx, hb, hml, hown, hts⟩ (ctX1_layPrices l D cy ad σ  (gI σ 0 0 1) q_5 hq_5 _) (cwV 2 hts gX2_fixed_X1_layPrices rfl rfl rfl (by decide +kernel) ⟨Nat.le_of_ble_eq_true rfl, Nat.le_of_ble_eq_true rfl⟩) hK hP hD 2 cw_2 rfl rfl rfl hl.1 rfl (Nat.le_of_ble_eq_true rfl) dX2_fixed_42 ⟨Nat.zero_le _, Nat.zero_le _⟩) hD hS hA (fun H locs hP hD hS => ?_)
      refine lv_aload_n hx hb dX2_fixed_45 rfl (lv_at hl 1 rfl) ?_
      refine va_get (D := D) (ci := 2) (v := .ref (ad 2 0)) (C := RX2) (T := TX2) (N := 9) hx hb hts iwX2_fixed_X2 hown hK.1 hP 0 cw_0 rfl 5 (by decide) (hts _ lkX2_fixed_28) (fun _ h9 => h9) rfl dX2_fixed_46 ?_
      refine lv_aload_n hx hb dX2_fixed_49 rfl (lv_at hl 1 rfl) ?_
      refine va_get (D := D) (ci := 2) (v := .ref (ad 1 0)) (C := RX2) (T := TX2) (N := 9) hx hb hts iwX2_fixed_X2 hown hK.1 hP 0 cw_0 rfl 0 (by decide) (hts _ lkX2_fixed_11) (fun _ h9 => h9) rfl dX2_fixed_50 ?_
      refine lv_iload_n hx hb dX2_fixed_53 rfl (lv_at hl 0 rfl) ?_
      refine lv_aload_n hx hb dX2_fixed_54 rfl (lv_at hl 1 rfl) ?_
      refine va_get (D := D) (ci := 2) (v := .ref (ad 2 0)) (C := RX2) (T := TX2) (N := 9) hx hb hts iwX2_fixed_X2 hown hK.1 hP 0 cw_0 rfl 5 (by decide) (hts _ lkX2_fixed_28) (fun _ h9 => h9) rfl dX2_fixed_55 ?_
      refine va_get (D := D) (ci := 1) (v := .int (gI q_5 1 0 4)) (C := RX1) (T := TX1) (N := 12) hx hb hts iwX2_fixed_X1 hown hK.1 hP 2 cw_2 rfl 4 (by decide) (hts _ lkX2_fixed_141) (fun _ h9 => h9) rfl dX2_fixed_58 ?_
      obtain ⟨q_6, hq_6, hm⟩ := ob hm
      refine zc_v (zr_V [.ref (ad 1 0), .int q_1, .int (gI q_5 1 0 4)] [] ⟨hx, hb, hml, hown, hts⟩ (ctX1_layNow l D cy ad q_5  q_1 (gI q_5 1 0 4) q_6 hq_6 _) (cwV 3 hts gX2_fixed_X1_layNow rfl rfl rfl (by decide +kernel) ⟨Nat.le_of_ble_eq_true rfl, Nat.le_of_ble_eq_true rfl⟩) hK hP hD 2 cw_2 rfl rfl rfl hl.1 rfl (Nat.le_of_ble_eq_true rfl) dX2_fixed_61 ⟨Nat.zero_le _, Nat.zero_le _⟩) hD hS hA (fun H locs hP hD hS => ?_)
      refine lv_aload_n hx hb dX2_fixed_64 rfl (lv_at hl 1 rfl) ?_
      refine va_get (D := D) (ci := 2) (v := .ref (ad 2 0)) (C := RX2) (T := TX2) (N := 9) hx hb hts iwX2_fixed_X2 hown hK.1 hP 0 cw_0 rfl 5 (by decide) (hts _ lkX2_fixed_28) (fun _ h9 => h9) rfl dX2_fixed_65 ?_
      refine lv_iload_n hx hb dX2_fixed_68 rfl (lv_at hl 2 rfl) ?_
      refine lv_iconst (v := 0) hx hb dX2_fixed_69 (by decide) ?_
      obtain ⟨q_7, hq_7, hm⟩ := ob hm
      refine zc_l (zr_V [.int a1, .int (0 : Int32)] [] ⟨hx, hb, hml, hown, hts⟩ (ctX1_rollBack l D cy ad q_6  a1 (0 : Int32) q_7 hq_7 _) (cwV 2 hts gX2_fixed_X1_rollBack rfl rfl rfl (by decide +kernel) ⟨Nat.le_of_ble_eq_true rfl, Nat.le_of_ble_eq_true rfl⟩) hK hP hD 2 cw_2 rfl rfl rfl hl.1 rfl (Nat.le_of_ble_eq_true rfl) dX2_fixed_70 ⟨Nat.zero_le _, Nat.zero_le _⟩) hD hS hA (fun H locs hP hD hS => ?_)
      exact y_l hx hb hr hlocks hm hP hD hS dX2_fixed_73
    · have hm := ifp c_4 hm
      exact y_thr (text := "no such day, or none is eligible") hx hb X hown (hts _ lkX2_fixed_cl76) (hts _ lkX2_fixed_iniE) (by decide) (fun w h => hts w (List.mem_cons_of_mem _ (List.mem_append_right _ h))) hm hP hD hS (hl.1.trans hml.symm) dX2_fixed_20 dX2_fixed_23 dX2_fixed_24 dX2_fixed_26 dX2_fixed_29 (Nat.le_of_ble_eq_true rfl) (Nat.le_of_ble_eq_true rfl) (Nat.le_of_ble_eq_true rfl) (Nat.le_of_ble_eq_true rfl) hlocks
abbrev rmX2_only : Room := { frames := 6, cells := 1, slots := 6, locals := 113 }
theorem lkX2_only_cl76 : Cond.classLink RX2 76 "java/util/NoSuchElementException" ∈ wsX2_only := by decide +kernel
theorem lkX2_only_iniE : Cond.initialized "java/util/NoSuchElementException" ∈ wsX2_only := by decide +kernel
def mX2_only (σ : ST) (a1 : Int32) : Option (Option Int64 × ST) := (mX2_has σ a1).bind fun q_1 => if q_1 = (0 : Int32) then (some (none, σ)) else ((mX2_isEligible σ a1).bind fun q_3 => if q_3 = (0 : Int32) then (some (none, σ)) else ((mX2_valueBy σ ((1 : Int32) <<< (a1 &&& 31))).bind fun q_5 => some (some q_5.1, q_5.2)))
set_option maxHeartbeats 4000000 in
set_option maxRecDepth 100000 in
theorem ctX2_only (l : Launch) (D : va_G) (cy : Nat → ClassId) (htr : l.stackTraces = false) (base : Nat) (ad : Nat → Nat → Nat) (σ : ST) (a1 : Int32) (q : Option Int64 × ST) (hm : mX2_only σ a1 = some q) : yMl l yX2_only wsX2_only rmX2_only base D cy [.ref (ad 0 0), .int a1] (cw cy ad σ) q.1 (cw cy ad q.2) := by
  intro sz
  refine vx_ofW (cc := cX2_only) (maxL := 2) (ret := (some .long)) (by decide) rfl ?_
  intro p e s m args below meth c s₁ B hml htb hv
  obtain ⟨rfl, ⟨hsz, hP, hK, hD0⟩, ⟨hbs, hbw⟩, hXX⟩ := hv
  have hx := B.exec
  have hb := B.bytes
  have hr := B.returns
  have hts := atoms_spec (ws := wsX2_only) B.pre
  have hown : s.vm.findClass RX2 = some m.cls := findClass_of_methodNamed B.named
  have hlocks := B.notSynchronized
  subst hsz
  have hD := hD0.self (sz := s.heap.size)
  have hAb : ∀ q, va_A (cw cy ad σ) s.heap.size q → base ≤ q := fun q h => by
    rcases h with ⟨k, e, h⟩ | h
    · exact hbw k _ h
    · exact Nat.le_trans hbs h
  generalize hAe : va_A (cw cy ad σ) s.heap.size = A at hD hAb ⊢
  have hA : ∀ q : Nat, s.heap.size ≤ q → A q := fun q h => by rw [← hAe]; exact Or.inr h
  have hS : va_S A s.heap s.heap [] := va_S.rf
  have C : Cx p s m _ meth c cX2_only 2 (some .long) RX2 wsX2_only D cy A := ⟨hx, hb, hml, hown, hts, hr, hlocks, hK, hA⟩
  have X : Xx l s c base A := ⟨htr, hXX, hAb, htb⟩
  have hl := lv_entry ([.ref (ad 0 0), .int a1]) (n := 2) (Nat.le_of_ble_eq_true rfl)
  rw [lg_entry_eq]
  generalize (lg_sl ([.ref (ad 0 0), .int a1]) ++ List.replicate (2 - (lg_sl ([.ref (ad 0 0), .int a1])).length) Slot.unset).toArray = ls at hl ⊢
  have hl : lv_has ls 2 [(0, .ref (ad 0 0)), (1, .int a1)] := hl
  unfold mX2_only at hm
  refine lv_aload_n hx hb dX2_only_0 rfl (lv_at hl 0 rfl) ?_
  refine lv_iload_n hx hb dX2_only_1 rfl (lv_at hl 1 rfl) ?_
  obtain ⟨q_1, hq_1, hm⟩ := ob hm
  refine zc_i (zr_V [.int a1] [] ⟨hx, hb, hml, hown, hts⟩ (ctX2_has l D cy ad σ  a1 q_1 hq_1 _) (cwV 1 hts gX2_only_X2_has rfl rfl rfl (by decide +kernel) ⟨Nat.le_of_ble_eq_true rfl, Nat.le_of_ble_eq_true rfl⟩) hK hP hD 0 cw_0 rfl rfl rfl hl.1 rfl (Nat.le_of_ble_eq_true rfl) dX2_only_2 ⟨Nat.zero_le _, Nat.zero_le _⟩) hD hS hA (fun H locs hP hD hS => ?_)
  refine lv_if_eq (tgt := 16) hx hb dX2_only_5 (by decide) (fun c_2 => ?_) (fun c_2 => ?_)
  · have hm := ifp c_2 hm
    exact y_thr (text := "it is not eligible") hx hb X hown (hts _ lkX2_only_cl76) (hts _ lkX2_only_iniE) (by decide) (fun w h => hts w (List.mem_cons_of_mem _ (List.mem_append_right _ h))) hm hP hD hS (hl.1.trans hml.symm) dX2_only_16 dX2_only_19 dX2_only_20 dX2_only_22 dX2_only_25 (Nat.le_of_ble_eq_true rfl) (Nat.le_of_ble_eq_true rfl) (Nat.le_of_ble_eq_true rfl) (Nat.le_of_ble_eq_true rfl) hlocks
  · have hm := ifn c_2 hm
    refine lv_aload_n hx hb dX2_only_8 rfl (lv_at hl 0 rfl) ?_
    refine lv_iload_n hx hb dX2_only_9 rfl (lv_at hl 1 rfl) ?_
    obtain ⟨q_3, hq_3, hm⟩ := ob hm
    refine zc_i (zr_V [.int a1] [] ⟨hx, hb, hml, hown, hts⟩ (ctX2_isEligible l D cy ad σ  a1 q_3 hq_3 _) (cwV 1 hts gX2_only_X2_isEligible rfl rfl rfl (by decide +kernel) ⟨Nat.le_of_ble_eq_true rfl, Nat.le_of_ble_eq_true rfl⟩) hK hP hD 0 cw_0 rfl rfl rfl hl.1 rfl (Nat.le_of_ble_eq_true rfl) dX2_only_10 ⟨Nat.zero_le _, Nat.zero_le _⟩) hD hS hA (fun H locs hP hD hS => ?_)
    refine lv_if_ne (tgt := 26) hx hb dX2_only_13 (by decide) (fun c_4 => ?_) (fun c_4 => ?_)
    · have hm := ifn c_4 hm
      refine lv_aload_n hx hb dX2_only_26 rfl (lv_at hl 0 rfl) ?_
      refine lv_iconst (v := 1) hx hb dX2_only_27 (by decide) ?_
      refine lv_iload_n hx hb dX2_only_28 rfl (lv_at hl 1 rfl) ?_
      refine lv_ishl hx hb dX2_only_29 ?_
      obtain ⟨q_5, hq_5, hm⟩ := ob hm
      refine zc_l (zr_V [.int ((1 : Int32) <<< (a1 &&& 31))] [] ⟨hx, hb, hml, hown, hts⟩ (ctX2_valueBy l D cy ad σ  ((1 : Int32) <<< (a1 &&& 31)) q_5 hq_5 _) (cwV 1 hts gX2_only_X2_valueBy rfl rfl rfl (by decide +kernel) ⟨Nat.le_of_ble_eq_true rfl, Nat.le_of_ble_eq_true rfl⟩) hK hP hD 0 cw_0 rfl rfl rfl hl.1 rfl (Nat.le_of_ble_eq_true rfl) dX2_only_30 ⟨Nat.zero_le _, Nat.zero_le _⟩) hD hS hA (fun H locs hP hD hS => ?_)
      exact y_l hx hb hr hlocks hm hP hD hS dX2_only_33
    · have hm := ifp c_4 hm
      exact y_thr (text := "it is not eligible") hx hb X hown (hts _ lkX2_only_cl76) (hts _ lkX2_only_iniE) (by decide) (fun w h => hts w (List.mem_cons_of_mem _ (List.mem_append_right _ h))) hm hP hD hS (hl.1.trans hml.symm) dX2_only_16 dX2_only_19 dX2_only_20 dX2_only_22 dX2_only_25 (Nat.le_of_ble_eq_true rfl) (Nat.le_of_ble_eq_true rfl) (Nat.le_of_ble_eq_true rfl) (Nat.le_of_ble_eq_true rfl) hlocks
abbrev rmX2_without : Room := { frames := 6, cells := 1, slots := 6, locals := 113 }
theorem lkX2_without_cl76 : Cond.classLink RX2 76 "java/util/NoSuchElementException" ∈ wsX2_without := by decide +kernel
theorem lkX2_without_iniE : Cond.initialized "java/util/NoSuchElementException" ∈ wsX2_without := by decide +kernel
def mX2_without (σ : ST) (a1 : Int32) : Option (Option Int64 × ST) := (mX2_has σ a1).bind fun q_1 => if q_1 = (0 : Int32) then (some (none, σ)) else ((mX2_isEligible σ a1).bind fun q_3 => if q_3 = (0 : Int32) then (some (some (0 : Int64), σ)) else ((mX2_eligibleBits σ).bind fun q_5 => if (q_5 &&& (((1 : Int32) <<< (a1 &&& 31)) ^^^ (-1 : Int32))) = (0 : Int32) then (some (none, σ)) else ((mX2_valueBy σ q_5).bind fun q_7 => (mX2_valueBy q_7.2 (q_5 &&& (((1 : Int32) <<< (a1 &&& 31)) ^^^ (-1 : Int32)))).bind fun q_8 => some (some (q_7.1 - q_8.1), q_8.2))))
set_option maxHeartbeats 4000000 in
set_option maxRecDepth 100000 in
theorem ctX2_without (l : Launch) (D : va_G) (cy : Nat → ClassId) (htr : l.stackTraces = false) (base : Nat) (ad : Nat → Nat → Nat) (σ : ST) (a1 : Int32) (q : Option Int64 × ST) (hm : mX2_without σ a1 = some q) : yMl l yX2_without wsX2_without rmX2_without base D cy [.ref (ad 0 0), .int a1] (cw cy ad σ) q.1 (cw cy ad q.2) := by
  intro sz
  refine vx_ofW (cc := cX2_without) (maxL := 4) (ret := (some .long)) (by decide) rfl ?_
  intro p e s m args below meth c s₁ B hml htb hv
  obtain ⟨rfl, ⟨hsz, hP, hK, hD0⟩, ⟨hbs, hbw⟩, hXX⟩ := hv
  have hx := B.exec
  have hb := B.bytes
  have hr := B.returns
  have hts := atoms_spec (ws := wsX2_without) B.pre
  have hown : s.vm.findClass RX2 = some m.cls := findClass_of_methodNamed B.named
  have hlocks := B.notSynchronized
  subst hsz
  have hD := hD0.self (sz := s.heap.size)
  have hAb : ∀ q, va_A (cw cy ad σ) s.heap.size q → base ≤ q := fun q h => by
    rcases h with ⟨k, e, h⟩ | h
    · exact hbw k _ h
    · exact Nat.le_trans hbs h
  generalize hAe : va_A (cw cy ad σ) s.heap.size = A at hD hAb ⊢
  have hA : ∀ q : Nat, s.heap.size ≤ q → A q := fun q h => by rw [← hAe]; exact Or.inr h
  have hS : va_S A s.heap s.heap [] := va_S.rf
  have C : Cx p s m _ meth c cX2_without 4 (some .long) RX2 wsX2_without D cy A := ⟨hx, hb, hml, hown, hts, hr, hlocks, hK, hA⟩
  have X : Xx l s c base A := ⟨htr, hXX, hAb, htb⟩
  have hl := lv_entry ([.ref (ad 0 0), .int a1]) (n := 4) (Nat.le_of_ble_eq_true rfl)
  rw [lg_entry_eq]
  generalize (lg_sl ([.ref (ad 0 0), .int a1]) ++ List.replicate (4 - (lg_sl ([.ref (ad 0 0), .int a1])).length) Slot.unset).toArray = ls at hl ⊢
  have hl : lv_has ls 4 [(0, .ref (ad 0 0)), (1, .int a1)] := hl
  unfold mX2_without at hm
  refine lv_aload_n hx hb dX2_without_0 rfl (lv_at hl 0 rfl) ?_
  refine lv_iload_n hx hb dX2_without_1 rfl (lv_at hl 1 rfl) ?_
  obtain ⟨q_1, hq_1, hm⟩ := ob hm
  refine zc_i (zr_V [.int a1] [] ⟨hx, hb, hml, hown, hts⟩ (ctX2_has l D cy ad σ  a1 q_1 hq_1 _) (cwV 1 hts gX2_without_X2_has rfl rfl rfl (by decide +kernel) ⟨Nat.le_of_ble_eq_true rfl, Nat.le_of_ble_eq_true rfl⟩) hK hP hD 0 cw_0 rfl rfl rfl hl.1 rfl (Nat.le_of_ble_eq_true rfl) dX2_without_2 ⟨Nat.zero_le _, Nat.zero_le _⟩) hD hS hA (fun H locs hP hD hS => ?_)
  refine lv_if_ne (tgt := 18) hx hb dX2_without_5 (by decide) (fun c_2 => ?_) (fun c_2 => ?_)
  · have hm := ifn c_2 hm
    refine lv_aload_n hx hb dX2_without_18 rfl (lv_at hl 0 rfl) ?_
    refine lv_iload_n hx hb dX2_without_19 rfl (lv_at hl 1 rfl) ?_
    obtain ⟨q_3, hq_3, hm⟩ := ob hm
    refine zc_i (zr_V [.int a1] [] ⟨hx, hb, hml, hown, hts⟩ (ctX2_isEligible l D cy ad σ  a1 q_3 hq_3 _) (cwV 1 hts gX2_without_X2_isEligible rfl rfl rfl (by decide +kernel) ⟨Nat.le_of_ble_eq_true rfl, Nat.le_of_ble_eq_true rfl⟩) hK hP hD 0 cw_0 rfl rfl rfl hl.1 rfl (Nat.le_of_ble_eq_true rfl) dX2_without_20 ⟨Nat.zero_le _, Nat.zero_le _⟩) hD hS hA (fun H locs hP hD hS => ?_)
    refine lv_if_ne (tgt := 28) hx hb dX2_without_23 (by decide) (fun c_4 => ?_) (fun c_4 => ?_)
    · have hm := ifn c_4 hm
      refine lv_aload_n hx hb dX2_without_28 rfl (lv_at hl 0 rfl) ?_
      obtain ⟨q_5, hq_5, hm⟩ := ob hm
      refine zc_i (zr_V [] [] ⟨hx, hb, hml, hown, hts⟩ (ctX2_eligibleBits l D cy ad σ   q_5 hq_5 _) (cwV 0 hts gX2_without_X2_eligibleBits rfl rfl rfl (by decide +kernel) ⟨Nat.le_of_ble_eq_true rfl, Nat.le_of_ble_eq_true rfl⟩) hK hP hD 0 cw_0 rfl rfl rfl hl.1 rfl (Nat.le_of_ble_eq_true rfl) dX2_without_29 ⟨Nat.zero_le _, Nat.zero_le _⟩) hD hS hA (fun H locs hP hD hS => ?_)
      refine lv_istore_n (lv' := [(2, .int q_5), (0, .ref (ad 0 0)), (1, .int a1)]) hx hb dX2_without_32 rfl hl (by decide) rfl (fun ls hl => ?_)
      refine lv_iload_n hx hb dX2_without_33 rfl (lv_at hl 0 rfl) ?_
      refine lv_iconst (v := 1) hx hb dX2_without_34 (by decide) ?_
      refine lv_iload_n hx hb dX2_without_35 rfl (lv_at hl 2 rfl) ?_
      refine lv_ishl hx hb dX2_without_36 ?_
      refine lv_iconst (v := -1) hx hb dX2_without_37 (by decide) ?_
      refine lv_ixor hx hb dX2_without_38 ?_
      refine lv_iand hx hb dX2_without_39 ?_
      refine lv_istore_n (lv' := [(3, .int (q_5 &&& (((1 : Int32) <<< (a1 &&& 31)) ^^^ (-1 : Int32)))), (2, .int q_5), (0, .ref (ad 0 0)), (1, .int a1)]) hx hb dX2_without_40 rfl hl (by decide) rfl (fun ls hl => ?_)
      refine lv_iload_n hx hb dX2_without_41 rfl (lv_at hl 0 rfl) ?_
      refine lv_if_ne (tgt := 55) hx hb dX2_without_42 (by decide) (fun c_6 => ?_) (fun c_6 => ?_)
      · have hm := ifn c_6 hm
        refine lv_aload_n hx hb dX2_without_55 rfl (lv_at hl 2 rfl) ?_
        refine lv_iload_n hx hb dX2_without_56 rfl (lv_at hl 1 rfl) ?_
        obtain ⟨q_7, hq_7, hm⟩ := ob hm
        refine zc_l (zr_V [.int q_5] [] ⟨hx, hb, hml, hown, hts⟩ (ctX2_valueBy l D cy ad σ  q_5 q_7 hq_7 _) (cwV 1 hts gX2_without_X2_valueBy rfl rfl rfl (by decide +kernel) ⟨Nat.le_of_ble_eq_true rfl, Nat.le_of_ble_eq_true rfl⟩) hK hP hD 0 cw_0 rfl rfl rfl hl.1 rfl (Nat.le_of_ble_eq_true rfl) dX2_without_57 ⟨Nat.zero_le _, Nat.zero_le _⟩) hD hS hA (fun H locs hP hD hS => ?_)
        refine lv_aload_n hx hb dX2_without_60 rfl (lv_at hl 2 rfl) ?_
        refine lv_iload_n hx hb dX2_without_61 rfl (lv_at hl 0 rfl) ?_
        obtain ⟨q_8, hq_8, hm⟩ := ob hm
        refine zc_l (zr_V [.int (q_5 &&& (((1 : Int32) <<< (a1 &&& 31)) ^^^ (-1 : Int32)))] [.long q_7.1] ⟨hx, hb, hml, hown, hts⟩ (ctX2_valueBy l D cy ad q_7.2  (q_5 &&& (((1 : Int32) <<< (a1 &&& 31)) ^^^ (-1 : Int32))) q_8 hq_8 _) (cwV 1 hts gX2_without_X2_valueBy rfl rfl rfl (by decide +kernel) ⟨Nat.le_of_ble_eq_true rfl, Nat.le_of_ble_eq_true rfl⟩) hK hP hD 0 cw_0 rfl rfl rfl hl.1 rfl (Nat.le_of_ble_eq_true rfl) dX2_without_62 ⟨Nat.zero_le _, Nat.zero_le _⟩) hD hS hA (fun H locs hP hD hS => ?_)
        refine lv_lsub hx hb dX2_without_65 ?_
        exact y_l hx hb hr hlocks hm hP hD hS dX2_without_66
      · have hm := ifp c_6 hm
        exact y_thr (text := "no other one is eligible") hx hb X hown (hts _ lkX2_without_cl76) (hts _ lkX2_without_iniE) (by decide) (fun w h => hts w (List.mem_cons_of_mem _ (List.mem_append_right _ h))) hm hP hD hS (hl.1.trans hml.symm) dX2_without_45 dX2_without_48 dX2_without_49 dX2_without_51 dX2_without_54 (Nat.le_of_ble_eq_true rfl) (Nat.le_of_ble_eq_true rfl) (Nat.le_of_ble_eq_true rfl) (Nat.le_of_ble_eq_true rfl) hlocks
    · have hm := ifp c_4 hm
      refine lv_lconst (v := 0) hx hb dX2_without_26 (by decide) ?_
      exact y_l hx hb hr hlocks hm hP hD hS dX2_without_27
  · have hm := ifp c_2 hm
    exact y_thr (text := "no such bond") hx hb X hown (hts _ lkX2_without_cl76) (hts _ lkX2_without_iniE) (by decide) (fun w h => hts w (List.mem_cons_of_mem _ (List.mem_append_right _ h))) hm hP hD hS (hl.1.trans hml.symm) dX2_without_8 dX2_without_11 dX2_without_12 dX2_without_14 dX2_without_17 (Nat.le_of_ble_eq_true rfl) (Nat.le_of_ble_eq_true rfl) (Nat.le_of_ble_eq_true rfl) (Nat.le_of_ble_eq_true rfl) hlocks

/-! SWITCHES once more: what it may use of the room is asked only where the call goes through -/
def swN (σ : ST) (a1 a2 a3 : Int32) (n : Nat) : Prop := ∀ q7 q9 bt q14, mX2_isRate a1 = some q7 → ¬ q7 = (0 : Int32) → mX2_isRate a2 = some q9 → ¬ q9 = (0 : Int32) → ¬ a2 < a1 → ¬ a3 < (-1 : Int32) → mX2_eligibleBits σ = some bt → ¬ bt = (0 : Int32) → mX2_keepWorths σ bt = some q14 → cntF σ ≤ cntF q14 + n
set_option maxHeartbeats 4000000 in
set_option maxRecDepth 100000 in
theorem ctX2_switches2 (l : Launch) (D : va_G) (cy : Nat → ClassId) (ad : Nat → Nat → Nat) (σ : ST) (a1 : Int32) (a2 : Int32) (a3 : Int32) (q : Int32 × ST) (hm : mX2_switches σ a1 a2 a3 = some q) (n : Nat) (hn : swN σ a1 a2 a3 n) (sz : Nat) : Met l yX2_switches wsX2_switches (rmX2_switches n) (va_Pc [.ref (ad 0 0), .int a1, .int a2, .int a3] (zPre D cy (cw cy ad σ) sz)) (aQi D cy ad q.2 (va_A (cw cy ad σ) sz) q.1) n (3201 * n) (va_A (cw cy ad σ) sz) := by
  refine Met.ofW (cc := cX2_switches) (maxL := 9) (ret := (some .int)) (by decide) rfl ?_
  intro p e s m args below meth c s₁ B hml hv
  obtain ⟨rfl, hsz, hP, hK, hD0⟩ := hv
  have hx := B.exec
  have hb := B.bytes
  have hr := B.returns
  have hts := atoms_spec (ws := wsX2_switches) B.pre
  have hown : s.vm.findClass RX2 = some m.cls := findClass_of_methodNamed B.named
  have hlocks := B.notSynchronized
  subst hsz
  have hD := hD0.self (sz := s.heap.size)
  generalize hAe : va_A (cw cy ad σ) s.heap.size = A at hD ⊢
  have hA : ∀ q : Nat, s.heap.size ≤ q → A q := fun q h => by rw [← hAe]; exact Or.inr h
  have hS : va_S A s.heap s.heap [] := va_S.rf
  have C : Cx p s m _ meth c cX2_switches 9 (some .int) RX2 wsX2_switches D cy A := ⟨hx, hb, hml, hown, hts, hr, hlocks, hK, hA⟩
  have hl := lv_entry ([.ref (ad 0 0), .int a1, .int a2, .int a3]) (n := 9) (Nat.le_of_ble_eq_true rfl)
  rw [lg_entry_eq]
  generalize (lg_sl ([.ref (ad 0 0), .int a1, .int a2, .int a3]) ++ List.replicate (9 - (lg_sl ([.ref (ad 0 0), .int a1, .int a2, .int a3])).length) Slot.unset).toArray = ls at hl ⊢
  have hl : lv_has ls 9 [(0, .ref (ad 0 0)), (1, .int a1), (2, .int a2), (3, .int a3)] := hl
  unfold mX2_switches at hm
  refine lv_aload_n hx hb dX2_switches_0 rfl (lv_at hl 0 rfl) ?_
  obtain ⟨q_6, hq_6, hm⟩ := ob hm
  refine zc_i (zr_V [] [] ⟨hx, hb, hml, hown, hts⟩ (ctX2_eligibleBits l D cy ad σ   q_6 hq_6 _) (cwV 0 hts gX2_switches_X2_eligibleBits rfl rfl rfl (by decide +kernel) ⟨Nat.le_of_ble_eq_true rfl, Nat.le_of_ble_eq_true rfl⟩) hK hP hD 0 cw_0 rfl rfl rfl hl.1 rfl (Nat.le_of_ble_eq_true rfl) dX2_switches_1 ⟨Nat.zero_le _, Nat.zero_le _⟩) hD hS hA (fun H locs hP hD hS => ?_)
  refine lv_istore (lv' := [(4, .int q_6), (0, .ref (ad 0 0)), (1, .int a1), (2, .int a2), (3, .int a3)]) hx hb dX2_switches_4 hl (by decide) rfl (fun ls hl => ?_)
  refine lv_iload_n hx hb dX2_switches_6 rfl (lv_at hl 2 rfl) ?_
  obtain ⟨q_7, hq_7, hm⟩ := ob hm
  refine zc_i (zr_S [.int a1] [] ⟨hx, hb, hml, hown, hts⟩ (ctX2_isRate l D cy (cw cy ad σ)  a1 q_7 hq_7 _) (va_cwS 1 hts gX2_switches_X2_isRate rfl rfl rfl (by decide +kernel) ⟨Nat.le_of_ble_eq_true rfl, Nat.le_of_ble_eq_true rfl⟩) hK hP hD rfl hl.1 rfl (Nat.le_of_ble_eq_true rfl) dX2_switches_7 ⟨Nat.zero_le _, Nat.zero_le _⟩) hD hS hA (fun H locs hP hD hS => ?_)
  refine lv_if_eq (tgt := 35) hx hb dX2_switches_10 (by decide) (fun c_8 => ?_) (fun c_8 => ?_)
  · have hm := ifp c_8 hm
    refine lv_iconst (v := -1) hx hb dX2_switches_35 (by decide) ?_
    exact W.widen (k := n) (n := 3201 * n) (Nat.zero_le _) (Nat.zero_le _) <| a_i sameAd.rf hx hb hr hlocks hm hP hD hS dX2_switches_36
  · have hm := ifn c_8 hm
    refine lv_iload_n hx hb dX2_switches_13 rfl (lv_at hl 3 rfl) ?_
    obtain ⟨q_9, hq_9, hm⟩ := ob hm
    refine zc_i (zr_S [.int a2] [] ⟨hx, hb, hml, hown, hts⟩ (ctX2_isRate l D cy (cw cy ad σ)  a2 q_9 hq_9 _) (va_cwS 1 hts gX2_switches_X2_isRate rfl rfl rfl (by decide +kernel) ⟨Nat.le_of_ble_eq_true rfl, Nat.le_of_ble_eq_true rfl⟩) hK hP hD rfl hl.1 rfl (Nat.le_of_ble_eq_true rfl) dX2_switches_14 ⟨Nat.zero_le _, Nat.zero_le _⟩) hD hS hA (fun H locs hP hD hS => ?_)
    refine lv_if_eq (tgt := 35) hx hb dX2_switches_17 (by decide) (fun c_10 => ?_) (fun c_10 => ?_)
    · have hm := ifp c_10 hm
      refine lv_iconst (v := -1) hx hb dX2_switches_35 (by decide) ?_
      exact W.widen (k := n) (n := 3201 * n) (Nat.zero_le _) (Nat.zero_le _) <| a_i sameAd.rf hx hb hr hlocks hm hP hD hS dX2_switches_36
    · have hm := ifn c_10 hm
      refine lv_iload_n hx hb dX2_switches_20 rfl (lv_at hl 2 rfl) ?_
      refine lv_iload_n hx hb dX2_switches_21 rfl (lv_at hl 3 rfl) ?_
      refine lv_icmp_gt (tgt := 35) hx hb dX2_switches_22 (by decide) (fun c_11 => ?_) (fun c_11 => ?_)
      · have hm := ifp c_11 hm
        refine lv_iconst (v := -1) hx hb dX2_switches_35 (by decide) ?_
        exact W.widen (k := n) (n := 3201 * n) (Nat.zero_le _) (Nat.zero_le _) <| a_i sameAd.rf hx hb hr hlocks hm hP hD hS dX2_switches_36
      · have hm := ifn c_11 hm
        refine lv_iload_n hx hb dX2_switches_25 rfl (lv_at hl 4 rfl) ?_
        refine lv_iconst (v := -1) hx hb dX2_switches_26 (by decide) ?_
        refine lv_icmp_lt (tgt := 35) hx hb dX2_switches_27 (by decide) (fun c_12 => ?_) (fun c_12 => ?_)
        · have hm := ifp c_12 hm
          refine lv_iconst (v := -1) hx hb dX2_switches_35 (by decide) ?_
          exact W.widen (k := n) (n := 3201 * n) (Nat.zero_le _) (Nat.zero_le _) <| a_i sameAd.rf hx hb hr hlocks hm hP hD hS dX2_switches_36
        · have hm := ifn c_12 hm
          refine lv_iload hx hb dX2_switches_30 (lv_at hl 0 rfl) ?_
          refine lv_if_ne (tgt := 37) hx hb dX2_switches_32 (by decide) (fun c_13 => ?_) (fun c_13 => ?_)
          · have hm := ifn c_13 hm
            refine lv_aload_n hx hb dX2_switches_37 rfl (lv_at hl 1 rfl) ?_
            refine lv_iload hx hb dX2_switches_38 (lv_at hl 0 rfl) ?_
            obtain ⟨q_14, hq_14, hm⟩ := ob hm
            have hmo : cntF q_14 ≤ cntF σ := kX2_keepWorths_mono _ _ _ _ _ hq_14
            have hnn := hn _ _ _ _ hq_7 c_8 hq_9 c_10 c_11 c_12 hq_6 c_13 hq_14
            have hle : 0 + (cntF σ - cntF q_14) ≤ n := by omega
            refine zc_va (zr_V [.int q_6] [] ⟨hx, hb, hml, hown, hts⟩ (ctX2_keepWorths l D cy ad σ q_6 q_14 hq_14 (cntF σ - cntF q_14) (by omega) _) (cwV 1 hts gX2_switches_X2_keepWorths rfl rfl rfl (by decide +kernel) ⟨Nat.le_of_ble_eq_true rfl, Nat.le_of_ble_eq_true rfl⟩) hK hP hD 0 cw_0 rfl rfl rfl hl.1 rfl (Nat.le_of_ble_eq_true rfl) dX2_switches_40 ⟨hle, by rw [Nat.zero_add] at hle ⊢; exact Nat.mul_le_mul_left 3201 hle⟩) hD hS hA (fun ad1 H locs hu1 hP hD hS => ?_)
            rw [← hu1 0 0 (by decide)] at hl
            refine W.widen (k := n) (n := 3201 * n) hle (by rw [Nat.zero_add] at hle ⊢; exact Nat.mul_le_mul_left 3201 hle) ?_
            refine lv_iconst (v := 0) hx hb dX2_switches_43 (by decide) ?_
            refine lv_istore (lv' := [(5, .int (0 : Int32)), (4, .int q_6), (0, .ref (ad1 0 0)), (1, .int a1), (2, .int a2), (3, .int a3)]) hx hb dX2_switches_44 hl (by decide) rfl (fun ls hl => ?_)
            refine lv_aload_n hx hb dX2_switches_46 rfl (lv_at hl 2 rfl) ?_
            refine lv_iload_n hx hb dX2_switches_47 rfl (lv_at hl 3 rfl) ?_
            refine lv_iload hx hb dX2_switches_48 (lv_at hl 1 rfl) ?_
            obtain ⟨q_15, hq_15, hm⟩ := ob hm
            refine zc_i (zr_V [.int a1, .int q_6] [] ⟨hx, hb, hml, hown, hts⟩ (ctX2_cheapestAt l D cy ad1 q_14  a1 q_6 q_15 hq_15 _) (cwV 2 hts gX2_switches_X2_cheapestAt rfl rfl rfl (by decide +kernel) ⟨Nat.le_of_ble_eq_true rfl, Nat.le_of_ble_eq_true rfl⟩) hK hP hD 0 cw_0 rfl rfl rfl hl.1 rfl (Nat.le_of_ble_eq_true rfl) dX2_switches_50 ⟨Nat.le_refl _, Nat.le_refl _⟩) hD hS hA (fun H locs hP hD hS => ?_)
            refine lv_istore (lv' := [(6, .int q_15.1), (5, .int (0 : Int32)), (4, .int q_6), (0, .ref (ad1 0 0)), (1, .int a1), (2, .int a2), (3, .int a3)]) hx hb dX2_switches_53 hl (by decide) rfl (fun ls hl => ?_)
            refine lv_iload_n hx hb dX2_switches_55 rfl (lv_at hl 4 rfl) ?_
            refine lv_iconst (v := 1) hx hb dX2_switches_56 (by decide) ?_
            refine lv_iadd hx hb dX2_switches_57 ?_
            refine lv_istore (lv' := [(7, .int (a1 + (1 : Int32))), (6, .int q_15.1), (5, .int (0 : Int32)), (4, .int q_6), (0, .ref (ad1 0 0)), (1, .int a1), (2, .int a2), (3, .int a3)]) hx hb dX2_switches_58 hl (by decide) rfl (fun ls hl => ?_)
            exact kX2_switches_60_ok hu1 n C q FU q_15.2 a2 a3 q_6 (0 : Int32) q_15.1 (a1 + (1 : Int32)) _ _ hP hD hS _ (lv_sub hl [4, 6, 7, 3, 2, 1, 0] rfl) hm
          · have hm := ifp c_13 hm
            refine lv_iconst (v := -1) hx hb dX2_switches_35 (by decide) ?_
            exact W.widen (k := n) (n := 3201 * n) (Nat.zero_le _) (Nat.zero_le _) <| a_i sameAd.rf hx hb hr hlocks hm hP hD hS dX2_switches_36

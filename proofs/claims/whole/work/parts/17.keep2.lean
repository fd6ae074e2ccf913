/-! keepWorths(bits) -/
theorem cntF_keepm (σ : ST) {k : Nat} (h : k < 8) : cntF (mX0_keepWorths σ k) ≤ cntF σ := by
  unfold mX0_keepWorths
  by_cases hw : gW σ k = true
  · rw [if_pos hw]; exact Nat.le_refl _
  · rw [if_neg hw]; have := cntF_keep h hw; omega
def bkX2_keepWorths_2 (rec : ST × Int32 × Int32 → Option ST) (σ : ST) (x1 : Int32) (x2 : Int32) : Option ST := if (gI σ 0 0 1) ≤ x2 then (some σ) else ((mX2_isIn x1 x2).bind fun q_2 => if q_2 = (0 : Int32) then (rec (σ, x1, (x2 + (1 : Int32)))) else (gd (inb x2 8) (gd (decide ((gP σ (Int32.toNatClampNeg x2)) < 8)) (sv (mX0_keepWorths σ (gP σ (Int32.toNatClampNeg x2))) fun σ_5 => rec (σ_5, x1, (x2 + (1 : Int32)))))))
def kX2_keepWorths_2 (n : Nat) (a : ST × Int32 × Int32) : Option ST := fx (fun rec a => bkX2_keepWorths_2 rec a.1 a.2.1 a.2.2) n a
theorem kX2_keepWorths_mono : ∀ (n : Nat) (σ : ST) (x1 x2 : Int32) (q : ST), kX2_keepWorths_2 n (σ, x1, x2) = some q → cntF q ≤ cntF σ := by
  intro n
  induction n with
  | zero => intro σ x1 x2 q hm; cases hm
  | succ n ih =>
    intro σ x1 x2 q hm
    have hm : bkX2_keepWorths_2 (kX2_keepWorths_2 n) σ x1 x2 = some q := hm
    unfold bkX2_keepWorths_2 at hm
    by_cases c1 : (gI σ 0 0 1) ≤ x2
    · have hm := ifp c1 hm
      cases hm
      exact Nat.le_refl _
    · have hm := ifn c1 hm
      obtain ⟨q2, hq2, hm⟩ := ob hm
      by_cases c2 : q2 = (0 : Int32)
      · exact ih _ _ _ _ (ifp c2 hm)
      · have hm := ifn c2 hm
        obtain ⟨h3, hm⟩ := gd_some hm
        obtain ⟨h4, hm⟩ := gd_some hm
        obtain ⟨σ5, e5, hm⟩ := sv_some hm
        have h := ih _ _ _ _ hm
        rw [e5] at h
        exact Nat.le_trans h (cntF_keepm σ (lt_of_dec h4))
abbrev rmX2_keepWorths (n : Nat) : Room := { frames := 1, cells := n, slots := 3201 * n, locals := 40 }
theorem iwX2_keepWorths_2 : ∀ w ∈ wsX20, w ∈ wsX2_keepWorths := fun _ h => List.mem_cons_of_mem _ (List.mem_append_left _ (List.mem_append_right _ h))
theorem lkX2_keepWorths_44 : Cond.fieldLink RX2 44 "DeliveryBasket" "size" "I" ∈ wsX2_keepWorths := by decide +kernel
theorem lkX2_keepWorths_11 : Cond.fieldLink RX2 11 "DeliveryBasket" "bonds" "[LDeliveryBasket$Bond;" ∈ wsX2_keepWorths := by decide +kernel
set_option maxHeartbeats 4000000 in
set_option maxRecDepth 100000 in
theorem kX2_keepWorths_2_ok {p : Program} {l : Launch} {e : Env} {s : State} {m : MethodId} {args : Array Value} {below : List Frame} {meth : Method} {c : Code} {D : va_G} {cy : Nat → ClassId} {ad0 : Nat → Nat → Nat} {A : Nat → Prop} (C : Cx p s m args meth c cX2_keepWorths 3 none RX2 wsX2_keepWorths D cy A) (q : ST) (mc : Nat) : ∀ (n : Nat) (ad : Nat → Nat → Nat) (σ : ST) (x1 : Int32) (x2 : Int32) (cs : Nat), sameAd ad ad0 → cs + cntF σ = cntF q + mc → ∀ (H : Heap) (locs : List Loc), va_P D vwCl (cw cy ad σ) H → va_D A (cw cy ad σ) → va_S A s.heap H locs → ∀ ls : Array Slot, lv_has ls 3 [(0, .ref (ad 0 0)), (1, .int x1), (2, .int x2)] → kX2_keepWorths_2 n (σ, x1, x2) = some q → W p l e (rmX2_keepWorths mc) s m args below meth c H locs cs (3201 * cs) (MQ below (aQv D cy ad0 q A) args s mc (3201 * mc) A) (F0 m 2 ls []) := by
  obtain ⟨hx, hb, hml, hown, hts, hr, hlocks, hK, hA⟩ := id C
  intro n
  induction n with
  | zero => intro ad σ x1 x2 cs hu hcs H locs hP hD hS ls hl hm; cases hm
  | succ n ih =>
    intro ad σ x1 x2 cs hu hcs H locs hP hD hS ls hl hm
    have hm : bkX2_keepWorths_2 (kX2_keepWorths_2 n) σ x1 x2 = some q := hm
    unfold bkX2_keepWorths_2 at hm
    refine lv_iload_n hx hb dX2_keepWorths_2 rfl (lv_at hl 2 rfl) ?_
    refine lv_aload_n hx hb dX2_keepWorths_3 rfl (lv_at hl 0 rfl) ?_
    refine va_get (D := D) (ci := 2) (v := .int (gI σ 0 0 1)) (C := RX2) (T := TX2) (N := 9) hx hb hts iwX2_keepWorths_2 hown hK.1 hP 0 cw_0 rfl 1 (by decide) (hts _ lkX2_keepWorths_44) (fun _ h9 => h9) rfl dX2_keepWorths_4 ?_
    refine lv_icmp_ge (tgt := 33) hx hb dX2_keepWorths_7 (by decide) (fun c_1 => ?_) (fun c_1 => ?_)
    · have hm := ifp c_1 hm
      cases hm
      have e : cs = mc := by omega
      subst e
      exact W.vret hx hb hr (fun t ht hW => ⟨⟨ad, rfl, hu, by rw [ht]; exact hP, hD⟩, hS.F ht⟩) hS.2.2 dX2_keepWorths_33 hlocks
    · have hm := ifn c_1 hm
      refine lv_iload_n hx hb dX2_keepWorths_10 rfl (lv_at hl 1 rfl) ?_
      refine lv_iload_n hx hb dX2_keepWorths_11 rfl (lv_at hl 2 rfl) ?_
      obtain ⟨q_2, hq_2, hm⟩ := ob hm
      have hmono : cntF q ≤ cntF σ := by
        by_cases c2 : q_2 = (0 : Int32)
        · exact kX2_keepWorths_mono _ _ _ _ _ (ifp c2 hm)
        · have hm := ifn c2 hm
          obtain ⟨h3, hm⟩ := gd_some hm
          obtain ⟨h4, hm⟩ := gd_some hm
          obtain ⟨σ5, e5, hm⟩ := sv_some hm
          have h := kX2_keepWorths_mono _ _ _ _ _ hm
          rw [e5] at h
          exact Nat.le_trans h (cntF_keepm σ (lt_of_dec h4))
      have hcm : cs ≤ mc := by omega
      refine zc_i (zr_S [.int x1, .int x2] [] ⟨hx, hb, hml, hown, hts⟩ (ctX2_isIn l D cy (cw cy ad σ) x1 x2 q_2 hq_2 _) (va_cwS 2 hts gX2_keepWorths_X2_isIn rfl rfl rfl (by decide +kernel) ⟨Nat.le_of_ble_eq_true rfl, Nat.le_of_ble_eq_true rfl⟩) hK hP hD rfl hl.1 rfl (Nat.le_of_ble_eq_true rfl) dX2_keepWorths_12 ⟨hcm, Nat.mul_le_mul_left 3201 hcm⟩) hD hS hA (fun H locs hP hD hS => ?_)
      refine lv_if_eq (tgt := 27) hx hb dX2_keepWorths_15 (by decide) (fun c_2 => ?_) (fun c_2 => ?_)
      · have hm := ifp c_2 hm
        refine lv_iinc (v := (x2 + (1 : Int32))) (lv' := [(2, .int (x2 + (1 : Int32))), (0, .ref (ad 0 0)), (1, .int x1)]) hx hb dX2_keepWorths_27 hl (k := 2) rfl rfl (by decide) rfl (fun ls hl => ?_)
        refine lv_goto (tgt := 2) hx hb dX2_keepWorths_30 (by decide) ?_
        exact ih ad σ x1 (x2 + (1 : Int32)) cs hu hcs _ _ hP hD hS _ (lv_sub hl [1, 2, 0] rfl) hm
      · have hm := ifn c_2 hm
        refine lv_aload_n hx hb dX2_keepWorths_18 rfl (lv_at hl 0 rfl) ?_
        refine va_get (D := D) (ci := 2) (v := .ref (ad 1 0)) (C := RX2) (T := TX2) (N := 9) hx hb hts iwX2_keepWorths_2 hown hK.1 hP 0 cw_0 rfl 0 (by decide) (hts _ lkX2_keepWorths_11) (fun _ h9 => h9) rfl dX2_keepWorths_19 ?_
        refine lv_iload_n hx hb dX2_keepWorths_22 rfl (lv_at hl 2 rfl) ?_
        obtain ⟨h_3, hm⟩ := gd_some hm
        obtain ⟨h_4, hm⟩ := gd_some hm
        have h_4 := lt_of_dec h_4
        refine z_ald (f := fun i => ad 13 (gP σ i)) hx hb hK.1 hP 1 2 cw_1 rfl rfl (inb_vp h_3) dX2_keepWorths_23 ?_
        obtain ⟨σ_5, e_5, hm⟩ := sv_some hm
        have hle := cntF_keepm σ h_4
        have hm5 : cntF q ≤ cntF σ_5 := kX2_keepWorths_mono _ _ _ _ _ hm
        rw [e_5] at hm5
        have hroom : cs + (cntF σ - cntF (mX0_keepWorths σ (gP σ (Int32.toNatClampNeg x2)))) ≤ mc := by omega
        refine zc_va (zr_V [] [] ⟨hx, hb, hml, hown, hts⟩ (ctX0_keepWorths l D cy ad σ h_4 (cntF σ - cntF (mX0_keepWorths σ (gP σ (Int32.toNatClampNeg x2)))) (by omega) _) (cwV 0 hts gX2_keepWorths_X0_keepWorths rfl rfl rfl (by decide +kernel) ⟨Nat.le_of_ble_eq_true rfl, Nat.le_of_ble_eq_true rfl⟩) hK hP hD (13 + (gP σ (Int32.toNatClampNeg x2))) (cw_13 h_4) rfl rfl rfl hl.1 rfl (Nat.le_of_ble_eq_true rfl) dX2_keepWorths_24 ⟨hroom, by show 3201 * cs + 3201 * _ ≤ 3201 * mc; rw [← Nat.mul_add]; exact Nat.mul_le_mul_left 3201 hroom⟩) hD hS hA (fun ad1 H locs hu1 hP hD hS => ?_)
        rw [← hu1 0 0 (by decide)] at hl
        have hP : va_P D vwCl (cw cy ad1 σ_5) H := by rw [e_5]; exact hP
        have hD : va_D A (cw cy ad1 σ_5) := by rw [e_5]; exact hD
        refine W.widen (k := cs + (cntF σ - cntF (mX0_keepWorths σ (gP σ (Int32.toNatClampNeg x2))))) (n := 3201 * (cs + (cntF σ - cntF (mX0_keepWorths σ (gP σ (Int32.toNatClampNeg x2)))))) (Nat.le_refl _) (by rw [Nat.mul_add]; exact Nat.le_refl _) ?_
        refine lv_iinc (v := (x2 + (1 : Int32))) (lv' := [(2, .int (x2 + (1 : Int32))), (0, .ref (ad1 0 0)), (1, .int x1)]) hx hb dX2_keepWorths_27 hl (k := 2) rfl rfl (by decide) rfl (fun ls hl => ?_)
        refine lv_goto (tgt := 2) hx hb dX2_keepWorths_30 (by decide) ?_
        exact ih ad1 σ_5 x1 (x2 + (1 : Int32)) _ (hu1.tr hu) (by rw [e_5]; omega) _ _ hP hD hS _ (lv_sub hl [1, 2, 0] rfl) hm
def mX2_keepWorths (σ : ST) (a1 : Int32) : Option ST := kX2_keepWorths_2 FU (σ, a1, (0 : Int32))
set_option maxHeartbeats 4000000 in
set_option maxRecDepth 100000 in
theorem ctX2_keepWorths (l : Launch) (D : va_G) (cy : Nat → ClassId) (ad : Nat → Nat → Nat) (σ : ST) (a1 : Int32) (q : ST) (hm : mX2_keepWorths σ a1 = some q) (n : Nat) (hn : cntF q + n = cntF σ) (sz : Nat) : Met l yX2_keepWorths wsX2_keepWorths (rmX2_keepWorths n) (va_Pc [.ref (ad 0 0), .int a1] (zPre D cy (cw cy ad σ) sz)) (aQv D cy ad q (va_A (cw cy ad σ) sz)) n (3201 * n) (va_A (cw cy ad σ) sz) := by
  refine Met.ofW (cc := cX2_keepWorths) (maxL := 3) (ret := none) (by decide) rfl ?_
  intro p e s m args below meth c s₁ B hml hv
  obtain ⟨rfl, hsz, hP, hK, hD0⟩ := hv
  have hx := B.exec
  have hb := B.bytes
  have hr := B.returns
  have hts := atoms_spec (ws := wsX2_keepWorths) B.pre
  have hown : s.vm.findClass RX2 = some m.cls := findClass_of_methodNamed B.named
  have hlocks := B.notSynchronized
  subst hsz
  have hD := hD0.self (sz := s.heap.size)
  generalize hAe : va_A (cw cy ad σ) s.heap.size = A at hD ⊢
  have hA : ∀ q : Nat, s.heap.size ≤ q → A q := fun q h => by rw [← hAe]; exact Or.inr h
  have hS : va_S A s.heap s.heap [] := va_S.rf
  have C : Cx p s m _ meth c cX2_keepWorths 3 none RX2 wsX2_keepWorths D cy A := ⟨hx, hb, hml, hown, hts, hr, hlocks, hK, hA⟩
  have hl := lv_entry ([.ref (ad 0 0), .int a1]) (n := 3) (Nat.le_of_ble_eq_true rfl)
  rw [lg_entry_eq]
  generalize (lg_sl ([.ref (ad 0 0), .int a1]) ++ List.replicate (3 - (lg_sl ([.ref (ad 0 0), .int a1])).length) Slot.unset).toArray = ls at hl ⊢
  have hl : lv_has ls 3 [(0, .ref (ad 0 0)), (1, .int a1)] := hl
  unfold mX2_keepWorths at hm
  refine lv_iconst (v := 0) hx hb dX2_keepWorths_0 (by decide) ?_
  refine lv_istore_n (lv' := [(2, .int (0 : Int32)), (0, .ref (ad 0 0)), (1, .int a1)]) hx hb dX2_keepWorths_1 rfl hl (by decide) rfl (fun ls hl => ?_)
  exact kX2_keepWorths_2_ok C q n FU ad σ a1 (0 : Int32) 0 sameAd.rf (by omega) _ _ hP hD hS _ (lv_sub hl [1, 2, 0] rfl) hm

theorem a_i {p : Program} {l : Launch} {e : Env} {R : Room} {s : State} {m : MethodId} {args : Array Value} {below : List Frame} {meth : Method} {c : Code} {H : Heap} {locs : List Loc} {cells slots pc : Nat} {ls : Array Slot} {A : Nat → Prop} {D : va_G} {cy : Nat → ClassId} {cc : ByteArray} {ad ad0 : Nat → Nat → Nat} {σ : ST} {v : Int32} {q : Int32 × ST} (hu : sameAd ad ad0) (hx : p.tables.exec = Jvm.exec) (hb : c.code = cc) (hr : meth.sig.returnType = some .int) (hlocks : meth.locks = false) (hq : some (v, σ) = some q) (hP : va_P D vwCl (cw cy ad σ) H) (hD : va_D A (cw cy ad σ)) (hS : va_S A s.heap H locs) (hdg : decode cc pc = .ok (.ireturn, 1)) : W p l e R s m args below meth c H locs cells slots (MQ below (aQi D cy ad0 q.2 A q.1) args s cells slots A) (F0 m pc ls [.int v]) := by
  cases hq
  exact W.iret hx hb hr (fun t ht hW => ⟨⟨v, ad, rfl, ⟨rfl, hu⟩, by rw [ht]; exact hP, hD⟩, hS.F ht⟩) hS.2.2 hdg hlocks
abbrev rmX2_switches (n : Nat) : Room := { frames := 5, cells := n, slots := 3201 * n, locals := 120 }
def bkX2_switches_60  (rec : ST × Int32 × Int32 × Int32 × Int32 × Int32 × Int32 → Option (Int32 × ST)) (σ : ST) (x2 : Int32) (x3 : Int32) (x4 : Int32) (x5 : Int32) (x6 : Int32) (x7 : Int32) : Option (Int32 × ST) := if x2 < x7 then (if x3 = (-1 : Int32) then (some (x5, σ)) else (some ((-1 : Int32), σ))) else ((mX2_cheapestAt σ x7 x4).bind fun q_3 => if q_3.1 = x6 then (rec (q_3.2, x2, x3, x4, x5, q_3.1, (x7 + (1 : Int32)))) else (if x5 = x3 then (some (x7, q_3.2)) else (rec (q_3.2, x2, x3, x4, (x5 + (1 : Int32)), q_3.1, (x7 + (1 : Int32))))))
def kX2_switches_60  (n : Nat) (a : ST × Int32 × Int32 × Int32 × Int32 × Int32 × Int32) : Option (Int32 × ST) := fx (fun rec a => bkX2_switches_60  rec a.1 a.2.1 a.2.2.1 a.2.2.2.1 a.2.2.2.2.1 a.2.2.2.2.2.1 a.2.2.2.2.2.2) n a
set_option maxHeartbeats 4000000 in
set_option maxRecDepth 100000 in
theorem kX2_switches_60_ok {p : Program} {l : Launch} {e : Env} {s : State} {m : MethodId} {args : Array Value} {below : List Frame} {meth : Method} {c : Code} {D : va_G} {cy : Nat → ClassId} {ad ad0 : Nat → Nat → Nat} (hu : sameAd ad ad0) (mc : Nat) {A : Nat → Prop} (C : Cx p s m args meth c cX2_switches 9 (some .int) RX2 wsX2_switches D cy A) (q : Int32 × ST) : ∀ (n : Nat) (σ : ST) (x2 : Int32) (x3 : Int32) (x4 : Int32) (x5 : Int32) (x6 : Int32) (x7 : Int32), ∀ (H : Heap) (locs : List Loc), va_P D vwCl (cw cy ad σ) H → va_D A (cw cy ad σ) → va_S A s.heap H locs → ∀ ls : Array Slot, lv_has ls 9 [(0, .ref (ad 0 0)), (2, .int x2), (3, .int x3), (4, .int x4), (5, .int x5), (6, .int x6), (7, .int x7)] → kX2_switches_60 n (σ, x2, x3, x4, x5, x6, x7) = some q → W p l e (rmX2_switches mc) s m args below meth c H locs mc (3201 * mc) (MQ below (aQi D cy ad0 q.2 A q.1) args s mc (3201 * mc) A) (F0 m 60 ls []) := by
  obtain ⟨hx, hb, hml, hown, hts, hr, hlocks, hK, hA⟩ := id C
  intro n
  induction n with
  | zero => intro σ x2 x3 x4 x5 x6 x7 H locs hP hD hS ls hl hm; cases hm
  | succ n ih =>
    intro σ x2 x3 x4 x5 x6 x7 H locs hP hD hS ls hl hm
    have hm : bkX2_switches_60  (kX2_switches_60 n) σ x2 x3 x4 x5 x6 x7 = some q := hm
    unfold bkX2_switches_60 at hm
    refine lv_iload hx hb dX2_switches_60 (lv_at hl 6 rfl) ?_
    refine lv_iload_n hx hb dX2_switches_62 rfl (lv_at hl 1 rfl) ?_
    refine lv_icmp_gt (tgt := 105) hx hb dX2_switches_63 (by decide) (fun c_1 => ?_) (fun c_1 => ?_)
    · have hm := ifp c_1 hm
      refine lv_iload_n hx hb dX2_switches_105 rfl (lv_at hl 2 rfl) ?_
      refine lv_iconst (v := -1) hx hb dX2_switches_106 (by decide) ?_
      refine lv_icmp_ne (tgt := 115) hx hb dX2_switches_107 (by decide) (fun c_2 => ?_) (fun c_2 => ?_)
      · have hm := ifn c_2 hm
        refine lv_iconst (v := -1) hx hb dX2_switches_115 (by decide) ?_
        exact a_i hu hx hb hr hlocks hm hP hD hS dX2_switches_116
      · have hm := ifp c_2 hm
        refine lv_iload hx hb dX2_switches_110 (lv_at hl 4 rfl) ?_
        refine lv_goto (tgt := 116) hx hb dX2_switches_112 (by decide) ?_
        exact a_i hu hx hb hr hlocks hm hP hD hS dX2_switches_116
    · have hm := ifn c_1 hm
      refine lv_aload_n hx hb dX2_switches_66 rfl (lv_at hl 0 rfl) ?_
      refine lv_iload hx hb dX2_switches_67 (lv_at hl 6 rfl) ?_
      refine lv_iload hx hb dX2_switches_69 (lv_at hl 3 rfl) ?_
      obtain ⟨q_3, hq_3, hm⟩ := ob hm
      refine zc_i (zr_V [.int x7, .int x4] [] ⟨hx, hb, hml, hown, hts⟩ (ctX2_cheapestAt l D cy ad σ  x7 x4 q_3 hq_3 _) (cwV 2 hts gX2_switches_X2_cheapestAt rfl rfl rfl (by decide +kernel) ⟨Nat.le_of_ble_eq_true rfl, Nat.le_of_ble_eq_true rfl⟩) hK hP hD 0 cw_0 rfl rfl rfl hl.1 rfl (Nat.le_of_ble_eq_true rfl) dX2_switches_71 ⟨Nat.le_refl _, Nat.le_refl _⟩) hD hS hA (fun H locs hP hD hS => ?_)
      refine lv_istore (lv' := [(8, .int q_3.1), (0, .ref (ad 0 0)), (2, .int x2), (3, .int x3), (4, .int x4), (5, .int x5), (6, .int x6), (7, .int x7)]) hx hb dX2_switches_74 hl (by decide) rfl (fun ls hl => ?_)
      refine lv_iload hx hb dX2_switches_76 (lv_at hl 0 rfl) ?_
      refine lv_iload hx hb dX2_switches_78 (lv_at hl 6 rfl) ?_
      refine lv_icmp_eq (tgt := 95) hx hb dX2_switches_80 (by decide) (fun c_4 => ?_) (fun c_4 => ?_)
      · have hm := ifp c_4 hm
        refine lv_iload hx hb dX2_switches_95 (lv_at hl 0 rfl) ?_
        refine lv_istore (lv' := [(6, .int q_3.1), (8, .int q_3.1), (0, .ref (ad 0 0)), (2, .int x2), (3, .int x3), (4, .int x4), (5, .int x5), (7, .int x7)]) hx hb dX2_switches_97 hl (by decide) rfl (fun ls hl => ?_)
        refine lv_iinc (v := (x7 + (1 : Int32))) (lv' := [(7, .int (x7 + (1 : Int32))), (6, .int q_3.1), (8, .int q_3.1), (0, .ref (ad 0 0)), (2, .int x2), (3, .int x3), (4, .int x4), (5, .int x5)]) hx hb dX2_switches_99 hl (k := 7) rfl rfl (by decide) rfl (fun ls hl => ?_)
        refine lv_goto (tgt := 60) hx hb dX2_switches_102 (by decide) ?_
        exact ih q_3.2 x2 x3 x4 x5 q_3.1 (x7 + (1 : Int32)) _ _ hP hD hS _ (lv_sub hl [3, 4, 5, 6, 7, 1, 0] rfl) hm
      · have hm := ifn c_4 hm
        refine lv_iload hx hb dX2_switches_83 (lv_at hl 5 rfl) ?_
        refine lv_iload_n hx hb dX2_switches_85 rfl (lv_at hl 3 rfl) ?_
        refine lv_icmp_ne (tgt := 92) hx hb dX2_switches_86 (by decide) (fun c_5 => ?_) (fun c_5 => ?_)
        · have hm := ifn c_5 hm
          refine lv_iinc (v := (x5 + (1 : Int32))) (lv' := [(5, .int (x5 + (1 : Int32))), (8, .int q_3.1), (0, .ref (ad 0 0)), (2, .int x2), (3, .int x3), (4, .int x4), (6, .int x6), (7, .int x7)]) hx hb dX2_switches_92 hl (k := 5) rfl rfl (by decide) rfl (fun ls hl => ?_)
          refine lv_iload hx hb dX2_switches_95 (lv_at hl 1 rfl) ?_
          refine lv_istore (lv' := [(6, .int q_3.1), (5, .int (x5 + (1 : Int32))), (8, .int q_3.1), (0, .ref (ad 0 0)), (2, .int x2), (3, .int x3), (4, .int x4), (7, .int x7)]) hx hb dX2_switches_97 hl (by decide) rfl (fun ls hl => ?_)
          refine lv_iinc (v := (x7 + (1 : Int32))) (lv' := [(7, .int (x7 + (1 : Int32))), (6, .int q_3.1), (5, .int (x5 + (1 : Int32))), (8, .int q_3.1), (0, .ref (ad 0 0)), (2, .int x2), (3, .int x3), (4, .int x4)]) hx hb dX2_switches_99 hl (k := 7) rfl rfl (by decide) rfl (fun ls hl => ?_)
          refine lv_goto (tgt := 60) hx hb dX2_switches_102 (by decide) ?_
          exact ih q_3.2 x2 x3 x4 (x5 + (1 : Int32)) q_3.1 (x7 + (1 : Int32)) _ _ hP hD hS _ (lv_sub hl [4, 5, 6, 7, 2, 1, 0] rfl) hm
        · have hm := ifp c_5 hm
          refine lv_iload hx hb dX2_switches_89 (lv_at hl 7 rfl) ?_
          exact a_i hu hx hb hr hlocks hm hP hD hS dX2_switches_91
def mX2_switches (σ : ST) (a1 : Int32) (a2 : Int32) (a3 : Int32) : Option (Int32 × ST) := (mX2_eligibleBits σ).bind fun q_6 => (mX2_isRate a1).bind fun q_7 => if q_7 = (0 : Int32) then (some ((-1 : Int32), σ)) else ((mX2_isRate a2).bind fun q_9 => if q_9 = (0 : Int32) then (some ((-1 : Int32), σ)) else (if a2 < a1 then (some ((-1 : Int32), σ)) else (if a3 < (-1 : Int32) then (some ((-1 : Int32), σ)) else (if q_6 = (0 : Int32) then (some ((-1 : Int32), σ)) else ((mX2_keepWorths σ q_6).bind fun q_14 => (mX2_cheapestAt q_14 a1 q_6).bind fun q_15 => kX2_switches_60 FU (q_15.2, a2, a3, q_6, (0 : Int32), q_15.1, (a1 + (1 : Int32))))))))
set_option maxHeartbeats 4000000 in
set_option maxRecDepth 100000 in
theorem ctX2_switches (l : Launch) (D : va_G) (cy : Nat → ClassId) (ad : Nat → Nat → Nat) (σ : ST) (a1 : Int32) (a2 : Int32) (a3 : Int32) (q : Int32 × ST) (hm : mX2_switches σ a1 a2 a3 = some q) (n : Nat) (hn : ∀ bt q14, mX2_eligibleBits σ = some bt → mX2_keepWorths σ bt = some q14 → cntF σ ≤ cntF q14 + n) (sz : Nat) : Met l yX2_switches wsX2_switches (rmX2_switches n) (va_Pc [.ref (ad 0 0), .int a1, .int a2, .int a3] (zPre D cy (cw cy ad σ) sz)) (aQi D cy ad q.2 (va_A (cw cy ad σ) sz) q.1) n (3201 * n) (va_A (cw cy ad σ) sz) := by
  refine Met.ofW (cc := cX2_switches) (maxL := 9) (ret := (some .int)) (by decide) rfl ?_
  intro p e s m args below meth c s₁ B hml hv
  obtain ⟨rfl, hsz, hP, hK, hD0⟩ := hv
  have hx := B.exec
  have hb := B.bytes
  have hr := B.returns
  have hts := atoms_spec (ws := wsX2_switches) B.pre
  have hown : s.vm.findClass RX2 = some m.cls := findClass_of_methodNamed B.named
  have hlocks := B.notSynchronized
  subst hsz
  have hD := hD0.self (sz := s.heap.size)
  generalize hAe : va_A (cw cy ad σ) s.heap.size = A at hD ⊢
  have hA : ∀ q : Nat, s.heap.size ≤ q → A q := fun q h => by rw [← hAe]; exact Or.inr h
  have hS : va_S A s.heap s.heap [] := va_S.rf
  have C : Cx p s m _ meth c cX2_switches 9 (some .int) RX2 wsX2_switches D cy A := ⟨hx, hb, hml, hown, hts, hr, hlocks, hK, hA⟩
  have hl := lv_entry ([.ref (ad 0 0), .int a1, .int a2, .int a3]) (n := 9) (Nat.le_of_ble_eq_true rfl)
  rw [lg_entry_eq]
  generalize (lg_sl ([.ref (ad 0 0), .int a1, .int a2, .int a3]) ++ List.replicate (9 - (lg_sl ([.ref (ad 0 0), .int a1, .int a2, .int a3])).length) Slot.unset).toArray = ls at hl ⊢
  have hl : lv_has ls 9 [(0, .ref (ad 0 0)), (1, .int a1), (2, .int a2), (3, .int a3)] := hl
  unfold mX2_switches at hm
  refine lv_aload_n hx hb dX2_switches_0 rfl (lv_at hl 0 rfl) ?_
  obtain ⟨q_6, hq_6, hm⟩ := ob hm
  refine zc_i (zr_V [] [] ⟨hx, hb, hml, hown, hts⟩ (ctX2_eligibleBits l D cy ad σ   q_6 hq_6 _) (cwV 0 hts gX2_switches_X2_eligibleBits rfl rfl rfl (by decide +kernel) ⟨Nat.le_of_ble_eq_true rfl, Nat.le_of_ble_eq_true rfl⟩) hK hP hD 0 cw_0 rfl rfl rfl hl.1 rfl (Nat.le_of_ble_eq_true rfl) dX2_switches_1 ⟨Nat.zero_le _, Nat.zero_le _⟩) hD hS hA (fun H locs hP hD hS => ?_)
  refine lv_istore (lv' := [(4, .int q_6), (0, .ref (ad 0 0)), (1, .int a1), (2, .int a2), (3, .int a3)]) hx hb dX2_switches_4 hl (by decide) rfl (fun ls hl => ?_)
  refine lv_iload_n hx hb dX2_switches_6 rfl (lv_at hl 2 rfl) ?_
  obtain ⟨q_7, hq_7, hm⟩ := ob hm
  refine zc_i (zr_S [.int a1] [] ⟨hx, hb, hml, hown, hts⟩ (ctX2_isRate l D cy (cw cy ad σ)  a1 q_7 hq_7 _) (va_cwS 1 hts gX2_switches_X2_isRate rfl rfl rfl (by decide +kernel) ⟨Nat.le_of_ble_eq_true rfl, Nat.le_of_ble_eq_true rfl⟩) hK hP hD rfl hl.1 rfl (Nat.le_of_ble_eq_true rfl) dX2_switches_7 ⟨Nat.zero_le _, Nat.zero_le _⟩) hD hS hA (fun H locs hP hD hS => ?_)
  refine lv_if_eq (tgt := 35) hx hb dX2_switches_10 (by decide) (fun c_8 => ?_) (fun c_8 => ?_)
  · have hm := ifp c_8 hm
    refine lv_iconst (v := -1) hx hb dX2_switches_35 (by decide) ?_
    exact W.widen (k := n) (n := 3201 * n) (Nat.zero_le _) (Nat.zero_le _) <| a_i sameAd.rf hx hb hr hlocks hm hP hD hS dX2_switches_36
  · have hm := ifn c_8 hm
    refine lv_iload_n hx hb dX2_switches_13 rfl (lv_at hl 3 rfl) ?_
    obtain ⟨q_9, hq_9, hm⟩ := ob hm
    refine zc_i (zr_S [.int a2] [] ⟨hx, hb, hml, hown, hts⟩ (ctX2_isRate l D cy (cw cy ad σ)  a2 q_9 hq_9 _) (va_cwS 1 hts gX2_switches_X2_isRate rfl rfl rfl (by decide +kernel) ⟨Nat.le_of_ble_eq_true rfl, Nat.le_of_ble_eq_true rfl⟩) hK hP hD rfl hl.1 rfl (Nat.le_of_ble_eq_true rfl) dX2_switches_14 ⟨Nat.zero_le _, Nat.zero_le _⟩) hD hS hA (fun H locs hP hD hS => ?_)
    refine lv_if_eq (tgt := 35) hx hb dX2_switches_17 (by decide) (fun c_10 => ?_) (fun c_10 => ?_)
    · have hm := ifp c_10 hm
      refine lv_iconst (v := -1) hx hb dX2_switches_35 (by decide) ?_
      exact W.widen (k := n) (n := 3201 * n) (Nat.zero_le _) (Nat.zero_le _) <| a_i sameAd.rf hx hb hr hlocks hm hP hD hS dX2_switches_36
    · have hm := ifn c_10 hm
      refine lv_iload_n hx hb dX2_switches_20 rfl (lv_at hl 2 rfl) ?_
      refine lv_iload_n hx hb dX2_switches_21 rfl (lv_at hl 3 rfl) ?_
      refine lv_icmp_gt (tgt := 35) hx hb dX2_switches_22 (by decide) (fun c_11 => ?_) (fun c_11 => ?_)
      · have hm := ifp c_11 hm
        refine lv_iconst (v := -1) hx hb dX2_switches_35 (by decide) ?_
        exact W.widen (k := n) (n := 3201 * n) (Nat.zero_le _) (Nat.zero_le _) <| a_i sameAd.rf hx hb hr hlocks hm hP hD hS dX2_switches_36
      · have hm := ifn c_11 hm
        refine lv_iload_n hx hb dX2_switches_25 rfl (lv_at hl 4 rfl) ?_
        refine lv_iconst (v := -1) hx hb dX2_switches_26 (by decide) ?_
        refine lv_icmp_lt (tgt := 35) hx hb dX2_switches_27 (by decide) (fun c_12 => ?_) (fun c_12 => ?_)
        · have hm := ifp c_12 hm
          refine lv_iconst (v := -1) hx hb dX2_switches_35 (by decide) ?_
          exact W.widen (k := n) (n := 3201 * n) (Nat.zero_le _) (Nat.zero_le _) <| a_i sameAd.rf hx hb hr hlocks hm hP hD hS dX2_switches_36
        · have hm := ifn c_12 hm
          refine lv_iload hx hb dX2_switches_30 (lv_at hl 0 rfl) ?_
          refine lv_if_ne (tgt := 37) hx hb dX2_switches_32 (by decide) (fun c_13 => ?_) (fun c_13 => ?_)
          · have hm := ifn c_13 hm
            refine lv_aload_n hx hb dX2_switches_37 rfl (lv_at hl 1 rfl) ?_
            refine lv_iload hx hb dX2_switches_38 (lv_at hl 0 rfl) ?_
            obtain ⟨q_14, hq_14, hm⟩ := ob hm
            have hmo : cntF q_14 ≤ cntF σ := kX2_keepWorths_mono _ _ _ _ _ hq_14
            have hnn := hn _ _ hq_6 hq_14
            have hle : 0 + (cntF σ - cntF q_14) ≤ n := by omega
            refine zc_va (zr_V [.int q_6] [] ⟨hx, hb, hml, hown, hts⟩ (ctX2_keepWorths l D cy ad σ q_6 q_14 hq_14 (cntF σ - cntF q_14) (by omega) _) (cwV 1 hts gX2_switches_X2_keepWorths rfl rfl rfl (by decide +kernel) ⟨Nat.le_of_ble_eq_true rfl, Nat.le_of_ble_eq_true rfl⟩) hK hP hD 0 cw_0 rfl rfl rfl hl.1 rfl (Nat.le_of_ble_eq_true rfl) dX2_switches_40 ⟨hle, by rw [Nat.zero_add] at hle ⊢; exact Nat.mul_le_mul_left 3201 hle⟩) hD hS hA (fun ad1 H locs hu1 hP hD hS => ?_)
            rw [← hu1 0 0 (by decide)] at hl
            refine W.widen (k := n) (n := 3201 * n) hle (by rw [Nat.zero_add] at hle ⊢; exact Nat.mul_le_mul_left 3201 hle) ?_
            refine lv_iconst (v := 0) hx hb dX2_switches_43 (by decide) ?_
            refine lv_istore (lv' := [(5, .int (0 : Int32)), (4, .int q_6), (0, .ref (ad1 0 0)), (1, .int a1), (2, .int a2), (3, .int a3)]) hx hb dX2_switches_44 hl (by decide) rfl (fun ls hl => ?_)
            refine lv_aload_n hx hb dX2_switches_46 rfl (lv_at hl 2 rfl) ?_
            refine lv_iload_n hx hb dX2_switches_47 rfl (lv_at hl 3 rfl) ?_
            refine lv_iload hx hb dX2_switches_48 (lv_at hl 1 rfl) ?_
            obtain ⟨q_15, hq_15, hm⟩ := ob hm
            refine zc_i (zr_V [.int a1, .int q_6] [] ⟨hx, hb, hml, hown, hts⟩ (ctX2_cheapestAt l D cy ad1 q_14  a1 q_6 q_15 hq_15 _) (cwV 2 hts gX2_switches_X2_cheapestAt rfl rfl rfl (by decide +kernel) ⟨Nat.le_of_ble_eq_true rfl, Nat.le_of_ble_eq_true rfl⟩) hK hP hD 0 cw_0 rfl rfl rfl hl.1 rfl (Nat.le_of_ble_eq_true rfl) dX2_switches_50 ⟨Nat.le_refl _, Nat.le_refl _⟩) hD hS hA (fun H locs hP hD hS => ?_)
            refine lv_istore (lv' := [(6, .int q_15.1), (5, .int (0 : Int32)), (4, .int q_6), (0, .ref (ad1 0 0)), (1, .int a1), (2, .int a2), (3, .int a3)]) hx hb dX2_switches_53 hl (by decide) rfl (fun ls hl => ?_)
            refine lv_iload_n hx hb dX2_switches_55 rfl (lv_at hl 4 rfl) ?_
            refine lv_iconst (v := 1) hx hb dX2_switches_56 (by decide) ?_
            refine lv_iadd hx hb dX2_switches_57 ?_
            refine lv_istore (lv' := [(7, .int (a1 + (1 : Int32))), (6, .int q_15.1), (5, .int (0 : Int32)), (4, .int q_6), (0, .ref (ad1 0 0)), (1, .int a1), (2, .int a2), (3, .int a3)]) hx hb dX2_switches_58 hl (by decide) rfl (fun ls hl => ?_)
            exact kX2_switches_60_ok hu1 n C q FU q_15.2 a2 a3 q_6 (0 : Int32) q_15.1 (a1 + (1 : Int32)) _ _ hP hD hS _ (lv_sub hl [4, 6, 7, 3, 2, 1, 0] rfl) hm
          · have hm := ifp c_13 hm
            refine lv_iconst (v := -1) hx hb dX2_switches_35 (by decide) ?_
            exact W.widen (k := n) (n := 3201 * n) (Nat.zero_le _) (Nat.zero_le _) <| a_i sameAd.rf hx hb hr hlocks hm hP hD hS dX2_switches_36

abbrev rmX2_within : Room := { frames := 0, cells := 0, slots := 0, locals := 0 }
def mX2_within (a1 : Int32) (a2 : Int32) (a3 : Int32) : Option (Int32) := if a1 < a2 then (some (0 : Int32)) else (if a3 < a1 then (some (0 : Int32)) else (some (1 : Int32)))
set_option maxHeartbeats 4000000 in
set_option maxRecDepth 100000 in
theorem ctX2_within (l : Launch) (D : va_G) (cy : Nat → ClassId) (w : va_W) (a1 : Int32) (a2 : Int32) (a3 : Int32) (q : Int32) (hm : mX2_within a1 a2 a3 = some q) : zMi l yX2_within wsX2_within rmX2_within D cy [.int a1, .int a2, .int a3] w q w := by
  intro sz
  refine Met.ofW (cc := cX2_within) (maxL := 3) (ret := (some .boolean)) (by decide) rfl ?_
  intro p e s m args below meth c s₁ B hml hv
  obtain ⟨rfl, hsz, hP, hK, hD0⟩ := hv
  have hx := B.exec
  have hb := B.bytes
  have hr := B.returns
  have hts := atoms_spec (ws := wsX2_within) B.pre
  have hown : s.vm.findClass RX2 = some m.cls := findClass_of_methodNamed B.named
  have hlocks := B.notSynchronized
  subst hsz
  have hD := hD0.self (sz := s.heap.size)
  generalize hAe : va_A w s.heap.size = A at hD ⊢
  have hA : ∀ q : Nat, s.heap.size ≤ q → A q := fun q h => by rw [← hAe]; exact Or.inr h
  have hS : va_S A s.heap s.heap [] := va_S.rf
  have C : Cx p s m _ meth c cX2_within 3 (some .boolean) RX2 wsX2_within D cy A := ⟨hx, hb, hml, hown, hts, hr, hlocks, hK, hA⟩
  have hl := lv_entry ([.int a1, .int a2, .int a3]) (n := 3) (Nat.le_of_ble_eq_true rfl)
  rw [lg_entry_eq]
  generalize (lg_sl ([.int a1, .int a2, .int a3]) ++ List.replicate (3 - (lg_sl ([.int a1, .int a2, .int a3])).length) Slot.unset).toArray = ls at hl ⊢
  have hl : lv_has ls 3 [(0, .int a1), (1, .int a2), (2, .int a3)] := hl
  unfold mX2_within at hm
  refine lv_iload_n hx hb dX2_within_0 rfl (lv_at hl 0 rfl) ?_
  refine lv_iload_n hx hb dX2_within_1 rfl (lv_at hl 1 rfl) ?_
  refine lv_icmp_lt (tgt := 14) hx hb dX2_within_2 (by decide) (fun c_1 => ?_) (fun c_1 => ?_)
  · have hm := ifp c_1 hm
    refine lv_iconst (v := 0) hx hb dX2_within_14 (by decide) ?_
    exact z_pz hx hb hr hlocks (by decide) hm hP hD hS dX2_within_15
  · have hm := ifn c_1 hm
    refine lv_iload_n hx hb dX2_within_5 rfl (lv_at hl 0 rfl) ?_
    refine lv_iload_n hx hb dX2_within_6 rfl (lv_at hl 2 rfl) ?_
    refine lv_icmp_gt (tgt := 14) hx hb dX2_within_7 (by decide) (fun c_2 => ?_) (fun c_2 => ?_)
    · have hm := ifp c_2 hm
      refine lv_iconst (v := 0) hx hb dX2_within_14 (by decide) ?_
      exact z_pz hx hb hr hlocks (by decide) hm hP hD hS dX2_within_15
    · have hm := ifn c_2 hm
      refine lv_iconst (v := 1) hx hb dX2_within_10 (by decide) ?_
      refine lv_goto (tgt := 15) hx hb dX2_within_11 (by decide) ?_
      exact z_pz hx hb hr hlocks (by decide) hm hP hD hS dX2_within_15
abbrev rmX2_isIn : Room := { frames := 0, cells := 0, slots := 0, locals := 0 }
def mX2_isIn (a1 : Int32) (a2 : Int32) : Option (Int32) := if ((a1 >>> (a2 &&& 31)) &&& (1 : Int32)) = (1 : Int32) then (some (1 : Int32)) else (some (0 : Int32))
set_option maxHeartbeats 4000000 in
set_option maxRecDepth 100000 in
theorem ctX2_isIn (l : Launch) (D : va_G) (cy : Nat → ClassId) (w : va_W) (a1 : Int32) (a2 : Int32) (q : Int32) (hm : mX2_isIn a1 a2 = some q) : zMi l yX2_isIn wsX2_isIn rmX2_isIn D cy [.int a1, .int a2] w q w := by
  intro sz
  refine Met.ofW (cc := cX2_isIn) (maxL := 2) (ret := (some .boolean)) (by decide) rfl ?_
  intro p e s m args below meth c s₁ B hml hv
  obtain ⟨rfl, hsz, hP, hK, hD0⟩ := hv
  have hx := B.exec
  have hb := B.bytes
  have hr := B.returns
  have hts := atoms_spec (ws := wsX2_isIn) B.pre
  have hown : s.vm.findClass RX2 = some m.cls := findClass_of_methodNamed B.named
  have hlocks := B.notSynchronized
  subst hsz
  have hD := hD0.self (sz := s.heap.size)
  generalize hAe : va_A w s.heap.size = A at hD ⊢
  have hA : ∀ q : Nat, s.heap.size ≤ q → A q := fun q h => by rw [← hAe]; exact Or.inr h
  have hS : va_S A s.heap s.heap [] := va_S.rf
  have C : Cx p s m _ meth c cX2_isIn 2 (some .boolean) RX2 wsX2_isIn D cy A := ⟨hx, hb, hml, hown, hts, hr, hlocks, hK, hA⟩
  have hl := lv_entry ([.int a1, .int a2]) (n := 2) (Nat.le_of_ble_eq_true rfl)
  rw [lg_entry_eq]
  generalize (lg_sl ([.int a1, .int a2]) ++ List.replicate (2 - (lg_sl ([.int a1, .int a2])).length) Slot.unset).toArray = ls at hl ⊢
  have hl : lv_has ls 2 [(0, .int a1), (1, .int a2)] := hl
  unfold mX2_isIn at hm
  refine lv_iload_n hx hb dX2_isIn_0 rfl (lv_at hl 0 rfl) ?_
  refine lv_iload_n hx hb dX2_isIn_1 rfl (lv_at hl 1 rfl) ?_
  refine lv_ishr hx hb dX2_isIn_2 ?_
  refine lv_iconst (v := 1) hx hb dX2_isIn_3 (by decide) ?_
  refine lv_iand hx hb dX2_isIn_4 ?_
  refine lv_iconst (v := 1) hx hb dX2_isIn_5 (by decide) ?_
  refine lv_icmp_ne (tgt := 13) hx hb dX2_isIn_6 (by decide) (fun c_1 => ?_) (fun c_1 => ?_)
  · have hm := ifn c_1 hm
    refine lv_iconst (v := 0) hx hb dX2_isIn_13 (by decide) ?_
    exact z_pz hx hb hr hlocks (by decide) hm hP hD hS dX2_isIn_14
  · have hm := ifp c_1 hm
    refine lv_iconst (v := 1) hx hb dX2_isIn_9 (by decide) ?_
    refine lv_goto (tgt := 14) hx hb dX2_isIn_10 (by decide) ?_
    exact z_pz hx hb hr hlocks (by decide) hm hP hD hS dX2_isIn_14
abbrev rmJ9_floorDiv_f86c9 : Room := { frames := 0, cells := 0, slots := 0, locals := 0 }
def mJ9_floorDiv_f86c9 (a1 : Int64) (a2 : Int64) : Option (Int64) := gd (nzl a2) (if (0 : Int32) ≤ (lg_cmp (a1 ^^^ a2) (0 : Int64)) then (some (a1 / a2)) else (if (lg_cmp ((a1 / a2) * a2) a1) = (0 : Int32) then (some (a1 / a2)) else (some ((a1 / a2) - (1 : Int64)))))
set_option maxHeartbeats 4000000 in
set_option maxRecDepth 100000 in
theorem ctJ9_floorDiv_f86c9 (l : Launch) (D : va_G) (cy : Nat → ClassId) (w : va_W) (a1 : Int64) (a2 : Int64) (q : Int64) (hm : mJ9_floorDiv_f86c9 a1 a2 = some q) : zMl l yJ9_floorDiv_f86c9 wsJ9_floorDiv_f86c9 rmJ9_floorDiv_f86c9 D cy [.long a1, .long a2] w q w := by
  intro sz
  refine va_MetF (cc := cJ9_floorDiv_f86c9) (maxL := 6) (ret := (some .long)) (by decide +kernel) rfl ?_
  intro p e s m args below meth c s₁ B hml hv
  obtain ⟨rfl, hsz, hP, hK, hD0⟩ := hv
  have hx := B.exec
  have hb := B.bytes
  have hr := B.returns
  have hts := atoms_spec (ws := wsJ9_floorDiv_f86c9) B.pre
  have hown : s.vm.findClass RJ9 = some m.cls := findClass_of_methodNamed B.named
  have hlocks := B.notSynchronized
  subst hsz
  have hD := hD0.self (sz := s.heap.size)
  generalize hAe : va_A w s.heap.size = A at hD ⊢
  have hA : ∀ q : Nat, s.heap.size ≤ q → A q := fun q h => by rw [← hAe]; exact Or.inr h
  have hS : va_S A s.heap s.heap [] := va_S.rf
  have C : Cx p s m _ meth c cJ9_floorDiv_f86c9 6 (some .long) RJ9 wsJ9_floorDiv_f86c9 D cy A := ⟨hx, hb, hml, hown, hts, hr, hlocks, hK, hA⟩
  have hl := lv_entry ([.long a1, .long a2]) (n := 6) (Nat.le_of_ble_eq_true rfl)
  rw [lg_entry_eq]
  generalize (lg_sl ([.long a1, .long a2]) ++ List.replicate (6 - (lg_sl ([.long a1, .long a2])).length) Slot.unset).toArray = ls at hl ⊢
  have hl : lv_has ls 6 [(0, .long a1), (2, .long a2)] := hl
  unfold mJ9_floorDiv_f86c9 at hm
  refine lv_lload_n hx hb dJ9_floorDiv_f86c9_0 rfl (lv_at hl 0 rfl) ?_
  refine lv_lload_n hx hb dJ9_floorDiv_f86c9_1 rfl (lv_at hl 1 rfl) ?_
  obtain ⟨h_1, hm⟩ := gd_some hm
  refine lv_ldiv hx hb dJ9_floorDiv_f86c9_2 (nzl_n h_1) ?_
  refine lv_lstore (lv' := [(4, .long (a1 / a2)), (0, .long a1), (2, .long a2)]) hx hb dJ9_floorDiv_f86c9_3 hl (by decide) rfl (fun ls hl => ?_)
  refine lv_lload_n hx hb dJ9_floorDiv_f86c9_5 rfl (lv_at hl 1 rfl) ?_
  refine lv_lload_n hx hb dJ9_floorDiv_f86c9_6 rfl (lv_at hl 2 rfl) ?_
  refine lv_lxor hx hb dJ9_floorDiv_f86c9_7 ?_
  refine lv_lconst (v := 0) hx hb dJ9_floorDiv_f86c9_8 (by decide) ?_
  refine W.lcmp hx hb dJ9_floorDiv_f86c9_9 ?_
  refine lv_if_ge (tgt := 27) hx hb dJ9_floorDiv_f86c9_10 (by decide) (fun c_2 => ?_) (fun c_2 => ?_)
  · have hm := ifp c_2 hm
    refine lv_lload hx hb dJ9_floorDiv_f86c9_27 (lv_at hl 0 rfl) ?_
    exact z_pl hx hb hr hlocks hm hP hD hS dJ9_floorDiv_f86c9_29
  · have hm := ifn c_2 hm
    refine lv_lload hx hb dJ9_floorDiv_f86c9_13 (lv_at hl 0 rfl) ?_
    refine lv_lload_n hx hb dJ9_floorDiv_f86c9_15 rfl (lv_at hl 2 rfl) ?_
    refine lv_lmul hx hb dJ9_floorDiv_f86c9_16 ?_
    refine lv_lload_n hx hb dJ9_floorDiv_f86c9_17 rfl (lv_at hl 1 rfl) ?_
    refine W.lcmp hx hb dJ9_floorDiv_f86c9_18 ?_
    refine lv_if_eq (tgt := 27) hx hb dJ9_floorDiv_f86c9_19 (by decide) (fun c_3 => ?_) (fun c_3 => ?_)
    · have hm := ifp c_3 hm
      refine lv_lload hx hb dJ9_floorDiv_f86c9_27 (lv_at hl 0 rfl) ?_
      exact z_pl hx hb hr hlocks hm hP hD hS dJ9_floorDiv_f86c9_29
    · have hm := ifn c_3 hm
      refine lv_lload hx hb dJ9_floorDiv_f86c9_22 (lv_at hl 0 rfl) ?_
      refine lv_lconst (v := 1) hx hb dJ9_floorDiv_f86c9_24 (by decide) ?_
      refine lv_lsub hx hb dJ9_floorDiv_f86c9_25 ?_
      exact z_pl hx hb hr hlocks hm hP hD hS dJ9_floorDiv_f86c9_26
abbrev rmX2_canBe : Room := { frames := 1, cells := 0, slots := 0, locals := 22 }
def mX2_canBe (a1 : Int32) (a2 : Int32) (a3 : Int32) (a4 : Int32) : Option (Int32) := (mX2_within a2 (0 : Int32) (2000 : Int32)).bind fun q_1 => if q_1 = (0 : Int32) then (some (0 : Int32)) else ((mX2_within a3 (1 : Int32) (40 : Int32)).bind fun q_3 => if q_3 = (0 : Int32) then (some (0 : Int32)) else (if a1 = (0 : Int32) then (if a4 = (0 : Int32) then (some (1 : Int32)) else (some (0 : Int32))) else (if a1 = (1 : Int32) then ((mX2_within a4 (1 : Int32) (100 : Int32)).bind fun q_8 => gd (zb q_8) (some q_8)) else (if a1 = (2 : Int32) then ((mX2_within a4 (1 : Int32) a3).bind fun q_11 => gd (zb q_11) (some q_11)) else (if a1 = (3 : Int32) then (if a4 = (0 : Int32) then (if a2 = (0 : Int32) then (some (1 : Int32)) else (some (0 : Int32))) else (some (0 : Int32))) else (some (0 : Int32)))))))
set_option maxHeartbeats 4000000 in
set_option maxRecDepth 100000 in
theorem ctX2_canBe (l : Launch) (D : va_G) (cy : Nat → ClassId) (w : va_W) (a1 : Int32) (a2 : Int32) (a3 : Int32) (a4 : Int32) (q : Int32) (hm : mX2_canBe a1 a2 a3 a4 = some q) : zMi l yX2_canBe wsX2_canBe rmX2_canBe D cy [.int a1, .int a2, .int a3, .int a4] w q w := by
  intro sz
  refine Met.ofW (cc := cX2_canBe) (maxL := 4) (ret := (some .boolean)) (by decide) rfl ?_
  intro p e s m args below meth c s₁ B hml hv
  obtain ⟨rfl, hsz, hP, hK, hD0⟩ := hv
  have hx := B.exec
  have hb := B.bytes
  have hr := B.returns
  have hts := atoms_spec (ws := wsX2_canBe) B.pre
  have hown : s.vm.findClass RX2 = some m.cls := findClass_of_methodNamed B.named
  have hlocks := B.notSynchronized
  subst hsz
  have hD := hD0.self (sz := s.heap.size)
  generalize hAe : va_A w s.heap.size = A at hD ⊢
  have hA : ∀ q : Nat, s.heap.size ≤ q → A q := fun q h => by rw [← hAe]; exact Or.inr h
  have hS : va_S A s.heap s.heap [] := va_S.rf
  have C : Cx p s m _ meth c cX2_canBe 4 (some .boolean) RX2 wsX2_canBe D cy A := ⟨hx, hb, hml, hown, hts, hr, hlocks, hK, hA⟩
  have hl := lv_entry ([.int a1, .int a2, .int a3, .int a4]) (n := 4) (Nat.le_of_ble_eq_true rfl)
  rw [lg_entry_eq]
  generalize (lg_sl ([.int a1, .int a2, .int a3, .int a4]) ++ List.replicate (4 - (lg_sl ([.int a1, .int a2, .int a3, .int a4])).length) Slot.unset).toArray = ls at hl ⊢
  have hl : lv_has ls 4 [(0, .int a1), (1, .int a2), (2, .int a3), (3, .int a4)] := hl
  unfold mX2_canBe at hm
  refine lv_iload_n hx hb dX2_canBe_0 rfl (lv_at hl 1 rfl) ?_
  refine lv_iconst (v := 0) hx hb dX2_canBe_1 (by decide) ?_
  refine lv_sipush (v := 2000) hx hb dX2_canBe_2 (by decide) ?_
  obtain ⟨q_1, hq_1, hm⟩ := ob hm
  refine zc_i (zr_S [.int a2, .int (0 : Int32), .int (2000 : Int32)] [] ⟨hx, hb, hml, hown, hts⟩ (ctX2_within l D cy w  a2 (0 : Int32) (2000 : Int32) q_1 hq_1 _) (va_cwS 3 hts gX2_canBe_X2_within rfl rfl rfl (by decide +kernel) ⟨Nat.le_of_ble_eq_true rfl, Nat.le_of_ble_eq_true rfl⟩) hK hP hD rfl hl.1 rfl (Nat.le_of_ble_eq_true rfl) dX2_canBe_5 ⟨Nat.zero_le _, Nat.zero_le _⟩) hD hS hA (fun H locs hP hD hS => ?_)
  refine lv_if_eq (tgt := 21) hx hb dX2_canBe_8 (by decide) (fun c_2 => ?_) (fun c_2 => ?_)
  · have hm := ifp c_2 hm
    refine lv_iconst (v := 0) hx hb dX2_canBe_21 (by decide) ?_
    exact z_pz hx hb hr hlocks (by decide) hm hP hD hS dX2_canBe_22
  · have hm := ifn c_2 hm
    refine lv_iload_n hx hb dX2_canBe_11 rfl (lv_at hl 2 rfl) ?_
    refine lv_iconst (v := 1) hx hb dX2_canBe_12 (by decide) ?_
    refine lv_bipush (v := 40) hx hb dX2_canBe_13 (by decide) ?_
    obtain ⟨q_3, hq_3, hm⟩ := ob hm
    refine zc_i (zr_S [.int a3, .int (1 : Int32), .int (40 : Int32)] [] ⟨hx, hb, hml, hown, hts⟩ (ctX2_within l D cy w  a3 (1 : Int32) (40 : Int32) q_3 hq_3 _) (va_cwS 3 hts gX2_canBe_X2_within rfl rfl rfl (by decide +kernel) ⟨Nat.le_of_ble_eq_true rfl, Nat.le_of_ble_eq_true rfl⟩) hK hP hD rfl hl.1 rfl (Nat.le_of_ble_eq_true rfl) dX2_canBe_15 ⟨Nat.zero_le _, Nat.zero_le _⟩) hD hS hA (fun H locs hP hD hS => ?_)
    refine lv_if_ne (tgt := 23) hx hb dX2_canBe_18 (by decide) (fun c_4 => ?_) (fun c_4 => ?_)
    · have hm := ifn c_4 hm
      refine lv_iload_n hx hb dX2_canBe_23 rfl (lv_at hl 0 rfl) ?_
      by_cases c_5 : a1 = (0 : Int32)
      · have hm := ifp c_5 hm
        refine lv_tableIn (off := 32) (tgt := 56) hx hb dX2_canBe_24 (by rw [c_5]; decide) (by rw [c_5]; decide) (by rw [c_5]; decide) (by decide) ?_
        refine lv_iload_n hx hb dX2_canBe_56 rfl (lv_at hl 3 rfl) ?_
        refine lv_if_ne (tgt := 64) hx hb dX2_canBe_57 (by decide) (fun c_6 => ?_) (fun c_6 => ?_)
        · have hm := ifn c_6 hm
          refine lv_iconst (v := 0) hx hb dX2_canBe_64 (by decide) ?_
          exact z_pz hx hb hr hlocks (by decide) hm hP hD hS dX2_canBe_65
        · have hm := ifp c_6 hm
          refine lv_iconst (v := 1) hx hb dX2_canBe_60 (by decide) ?_
          refine lv_goto (tgt := 65) hx hb dX2_canBe_61 (by decide) ?_
          exact z_pz hx hb hr hlocks (by decide) hm hP hD hS dX2_canBe_65
      · have hm := ifn c_5 hm
        by_cases c_7 : a1 = (1 : Int32)
        · have hm := ifp c_7 hm
          refine lv_tableIn (off := 42) (tgt := 66) hx hb dX2_canBe_24 (by rw [c_7]; decide) (by rw [c_7]; decide) (by rw [c_7]; decide) (by decide) ?_
          refine lv_iload_n hx hb dX2_canBe_66 rfl (lv_at hl 3 rfl) ?_
          refine lv_iconst (v := 1) hx hb dX2_canBe_67 (by decide) ?_
          refine lv_bipush (v := 100) hx hb dX2_canBe_68 (by decide) ?_
          obtain ⟨q_8, hq_8, hm⟩ := ob hm
          refine zc_i (zr_S [.int a4, .int (1 : Int32), .int (100 : Int32)] [] ⟨hx, hb, hml, hown, hts⟩ (ctX2_within l D cy w  a4 (1 : Int32) (100 : Int32) q_8 hq_8 _) (va_cwS 3 hts gX2_canBe_X2_within rfl rfl rfl (by decide +kernel) ⟨Nat.le_of_ble_eq_true rfl, Nat.le_of_ble_eq_true rfl⟩) hK hP hD rfl hl.1 rfl (Nat.le_of_ble_eq_true rfl) dX2_canBe_70 ⟨Nat.zero_le _, Nat.zero_le _⟩) hD hS hA (fun H locs hP hD hS => ?_)
          obtain ⟨h_9, hm⟩ := gd_some hm
          exact z_pz hx hb hr hlocks h_9 hm hP hD hS dX2_canBe_73
        · have hm := ifn c_7 hm
          by_cases c_10 : a1 = (2 : Int32)
          · have hm := ifp c_10 hm
            refine lv_tableIn (off := 50) (tgt := 74) hx hb dX2_canBe_24 (by rw [c_10]; decide) (by rw [c_10]; decide) (by rw [c_10]; decide) (by decide) ?_
            refine lv_iload_n hx hb dX2_canBe_74 rfl (lv_at hl 3 rfl) ?_
            refine lv_iconst (v := 1) hx hb dX2_canBe_75 (by decide) ?_
            refine lv_iload_n hx hb dX2_canBe_76 rfl (lv_at hl 2 rfl) ?_
            obtain ⟨q_11, hq_11, hm⟩ := ob hm
            refine zc_i (zr_S [.int a4, .int (1 : Int32), .int a3] [] ⟨hx, hb, hml, hown, hts⟩ (ctX2_within l D cy w  a4 (1 : Int32) a3 q_11 hq_11 _) (va_cwS 3 hts gX2_canBe_X2_within rfl rfl rfl (by decide +kernel) ⟨Nat.le_of_ble_eq_true rfl, Nat.le_of_ble_eq_true rfl⟩) hK hP hD rfl hl.1 rfl (Nat.le_of_ble_eq_true rfl) dX2_canBe_77 ⟨Nat.zero_le _, Nat.zero_le _⟩) hD hS hA (fun H locs hP hD hS => ?_)
            obtain ⟨h_12, hm⟩ := gd_some hm
            exact z_pz hx hb hr hlocks h_12 hm hP hD hS dX2_canBe_80
          · have hm := ifn c_10 hm
            by_cases c_13 : a1 = (3 : Int32)
            · have hm := ifp c_13 hm
              refine lv_tableIn (off := 57) (tgt := 81) hx hb dX2_canBe_24 (by rw [c_13]; decide) (by rw [c_13]; decide) (by rw [c_13]; decide) (by decide) ?_
              refine lv_iload_n hx hb dX2_canBe_81 rfl (lv_at hl 3 rfl) ?_
              refine lv_if_ne (tgt := 93) hx hb dX2_canBe_82 (by decide) (fun c_14 => ?_) (fun c_14 => ?_)
              · have hm := ifn c_14 hm
                refine lv_iconst (v := 0) hx hb dX2_canBe_93 (by decide) ?_
                exact z_pz hx hb hr hlocks (by decide) hm hP hD hS dX2_canBe_94
              · have hm := ifp c_14 hm
                refine lv_iload_n hx hb dX2_canBe_85 rfl (lv_at hl 1 rfl) ?_
                refine lv_if_ne (tgt := 93) hx hb dX2_canBe_86 (by decide) (fun c_15 => ?_) (fun c_15 => ?_)
                · have hm := ifn c_15 hm
                  refine lv_iconst (v := 0) hx hb dX2_canBe_93 (by decide) ?_
                  exact z_pz hx hb hr hlocks (by decide) hm hP hD hS dX2_canBe_94
                · have hm := ifp c_15 hm
                  refine lv_iconst (v := 1) hx hb dX2_canBe_89 (by decide) ?_
                  refine lv_goto (tgt := 94) hx hb dX2_canBe_90 (by decide) ?_
                  exact z_pz hx hb hr hlocks (by decide) hm hP hD hS dX2_canBe_94
            · have hm := ifn c_13 hm
              refine lv_tableOut (tgt := 95) hx hb dX2_canBe_24 (sw_out (fun i h1 h2 q => ?_)) (by decide) ?_
              · have n_0 := lv_neT (a := 0) c_5 rfl
                have n_1 := lv_neT (a := 1) c_7 rfl
                have n_2 := lv_neT (a := 2) c_10 rfl
                have n_3 := lv_neT (a := 3) c_13 rfl
                omega
              refine lv_iconst (v := 0) hx hb dX2_canBe_95 (by decide) ?_
              exact z_pz hx hb hr hlocks (by decide) hm hP hD hS dX2_canBe_96
    · have hm := ifp c_4 hm
      refine lv_iconst (v := 0) hx hb dX2_canBe_21 (by decide) ?_
      exact z_pz hx hb hr hlocks (by decide) hm hP hD hS dX2_canBe_22
abbrev rmX2_isRate : Room := { frames := 1, cells := 0, slots := 0, locals := 22 }
def mX2_isRate (a1 : Int32) : Option (Int32) := (mX2_within a1 (0 : Int32) (3000 : Int32)).bind fun q_1 => gd (zb q_1) (some q_1)
set_option maxHeartbeats 4000000 in
set_option maxRecDepth 100000 in
theorem ctX2_isRate (l : Launch) (D : va_G) (cy : Nat → ClassId) (w : va_W) (a1 : Int32) (q : Int32) (hm : mX2_isRate a1 = some q) : zMi l yX2_isRate wsX2_isRate rmX2_isRate D cy [.int a1] w q w := by
  intro sz
  refine Met.ofW (cc := cX2_isRate) (maxL := 1) (ret := (some .boolean)) (by decide) rfl ?_
  intro p e s m args below meth c s₁ B hml hv
  obtain ⟨rfl, hsz, hP, hK, hD0⟩ := hv
  have hx := B.exec
  have hb := B.bytes
  have hr := B.returns
  have hts := atoms_spec (ws := wsX2_isRate) B.pre
  have hown : s.vm.findClass RX2 = some m.cls := findClass_of_methodNamed B.named
  have hlocks := B.notSynchronized
  subst hsz
  have hD := hD0.self (sz := s.heap.size)
  generalize hAe : va_A w s.heap.size = A at hD ⊢
  have hA : ∀ q : Nat, s.heap.size ≤ q → A q := fun q h => by rw [← hAe]; exact Or.inr h
  have hS : va_S A s.heap s.heap [] := va_S.rf
  have C : Cx p s m _ meth c cX2_isRate 1 (some .boolean) RX2 wsX2_isRate D cy A := ⟨hx, hb, hml, hown, hts, hr, hlocks, hK, hA⟩
  have hl := lv_entry ([.int a1]) (n := 1) (Nat.le_of_ble_eq_true rfl)
  rw [lg_entry_eq]
  generalize (lg_sl ([.int a1]) ++ List.replicate (1 - (lg_sl ([.int a1])).length) Slot.unset).toArray = ls at hl ⊢
  have hl : lv_has ls 1 [(0, .int a1)] := hl
  unfold mX2_isRate at hm
  refine lv_iload_n hx hb dX2_isRate_0 rfl (lv_at hl 0 rfl) ?_
  refine lv_iconst (v := 0) hx hb dX2_isRate_1 (by decide) ?_
  refine lv_sipush (v := 3000) hx hb dX2_isRate_2 (by decide) ?_
  obtain ⟨q_1, hq_1, hm⟩ := ob hm
  refine zc_i (zr_S [.int a1, .int (0 : Int32), .int (3000 : Int32)] [] ⟨hx, hb, hml, hown, hts⟩ (ctX2_within l D cy w  a1 (0 : Int32) (3000 : Int32) q_1 hq_1 _) (va_cwS 3 hts gX2_isRate_X2_within rfl rfl rfl (by decide +kernel) ⟨Nat.le_of_ble_eq_true rfl, Nat.le_of_ble_eq_true rfl⟩) hK hP hD rfl hl.1 rfl (Nat.le_of_ble_eq_true rfl) dX2_isRate_5 ⟨Nat.zero_le _, Nat.zero_le _⟩) hD hS hA (fun H locs hP hD hS => ?_)
  obtain ⟨h_2, hm⟩ := gd_some hm
  exact z_pz hx hb hr hlocks h_2 hm hP hD hS dX2_isRate_8
abbrev rmX2_canAsk : Room := { frames := 2, cells := 0, slots := 0, locals := 42 }
theorem lkX2_canAsk_184 : Cond.constant RX2 184 (999999999) ∈ wsX2_canAsk := by decide +kernel
def mX2_canAsk (a1 : Int32) (a2 : Int32) (a3 : Int32) : Option (Int32) := (mX2_within a1 (0 : Int32) (200 : Int32)).bind fun q_1 => if q_1 = (0 : Int32) then (some (0 : Int32)) else ((mX2_isRate a2).bind fun q_3 => if q_3 = (0 : Int32) then (some (0 : Int32)) else ((mX2_within a3 (0 : Int32) (999999999 : Int32)).bind fun q_5 => if q_5 = (0 : Int32) then (some (0 : Int32)) else (some (1 : Int32))))
set_option maxHeartbeats 4000000 in
set_option maxRecDepth 100000 in
theorem ctX2_canAsk (l : Launch) (D : va_G) (cy : Nat → ClassId) (w : va_W) (a1 : Int32) (a2 : Int32) (a3 : Int32) (q : Int32) (hm : mX2_canAsk a1 a2 a3 = some q) : zMi l yX2_canAsk wsX2_canAsk rmX2_canAsk D cy [.int a1, .int a2, .int a3] w q w := by
  intro sz
  refine Met.ofW (cc := cX2_canAsk) (maxL := 3) (ret := (some .boolean)) (by decide) rfl ?_
  intro p e s m args below meth c s₁ B hml hv
  obtain ⟨rfl, hsz, hP, hK, hD0⟩ := hv
  have hx := B.exec
  have hb := B.bytes
  have hr := B.returns
  have hts := atoms_spec (ws := wsX2_canAsk) B.pre
  have hown : s.vm.findClass RX2 = some m.cls := findClass_of_methodNamed B.named
  have hlocks := B.notSynchronized
  subst hsz
  have hD := hD0.self (sz := s.heap.size)
  generalize hAe : va_A w s.heap.size = A at hD ⊢
  have hA : ∀ q : Nat, s.heap.size ≤ q → A q := fun q h => by rw [← hAe]; exact Or.inr h
  have hS : va_S A s.heap s.heap [] := va_S.rf
  have C : Cx p s m _ meth c cX2_canAsk 3 (some .boolean) RX2 wsX2_canAsk D cy A := ⟨hx, hb, hml, hown, hts, hr, hlocks, hK, hA⟩
  have hl := lv_entry ([.int a1, .int a2, .int a3]) (n := 3) (Nat.le_of_ble_eq_true rfl)
  rw [lg_entry_eq]
  generalize (lg_sl ([.int a1, .int a2, .int a3]) ++ List.replicate (3 - (lg_sl ([.int a1, .int a2, .int a3])).length) Slot.unset).toArray = ls at hl ⊢
  have hl : lv_has ls 3 [(0, .int a1), (1, .int a2), (2, .int a3)] := hl
  unfold mX2_canAsk at hm
  refine lv_iload_n hx hb dX2_canAsk_0 rfl (lv_at hl 0 rfl) ?_
  refine lv_iconst (v := 0) hx hb dX2_canAsk_1 (by decide) ?_
  refine lv_sipush (v := 200) hx hb dX2_canAsk_2 (by decide) ?_
  obtain ⟨q_1, hq_1, hm⟩ := ob hm
  refine zc_i (zr_S [.int a1, .int (0 : Int32), .int (200 : Int32)] [] ⟨hx, hb, hml, hown, hts⟩ (ctX2_within l D cy w  a1 (0 : Int32) (200 : Int32) q_1 hq_1 _) (va_cwS 3 hts gX2_canAsk_X2_within rfl rfl rfl (by decide +kernel) ⟨Nat.le_of_ble_eq_true rfl, Nat.le_of_ble_eq_true rfl⟩) hK hP hD rfl hl.1 rfl (Nat.le_of_ble_eq_true rfl) dX2_canAsk_5 ⟨Nat.zero_le _, Nat.zero_le _⟩) hD hS hA (fun H locs hP hD hS => ?_)
  refine lv_if_eq (tgt := 32) hx hb dX2_canAsk_8 (by decide) (fun c_2 => ?_) (fun c_2 => ?_)
  · have hm := ifp c_2 hm
    refine lv_iconst (v := 0) hx hb dX2_canAsk_32 (by decide) ?_
    exact z_pz hx hb hr hlocks (by decide) hm hP hD hS dX2_canAsk_33
  · have hm := ifn c_2 hm
    refine lv_iload_n hx hb dX2_canAsk_11 rfl (lv_at hl 1 rfl) ?_
    obtain ⟨q_3, hq_3, hm⟩ := ob hm
    refine zc_i (zr_S [.int a2] [] ⟨hx, hb, hml, hown, hts⟩ (ctX2_isRate l D cy w  a2 q_3 hq_3 _) (va_cwS 1 hts gX2_canAsk_X2_isRate rfl rfl rfl (by decide +kernel) ⟨Nat.le_of_ble_eq_true rfl, Nat.le_of_ble_eq_true rfl⟩) hK hP hD rfl hl.1 rfl (Nat.le_of_ble_eq_true rfl) dX2_canAsk_12 ⟨Nat.zero_le _, Nat.zero_le _⟩) hD hS hA (fun H locs hP hD hS => ?_)
    refine lv_if_eq (tgt := 32) hx hb dX2_canAsk_15 (by decide) (fun c_4 => ?_) (fun c_4 => ?_)
    · have hm := ifp c_4 hm
      refine lv_iconst (v := 0) hx hb dX2_canAsk_32 (by decide) ?_
      exact z_pz hx hb hr hlocks (by decide) hm hP hD hS dX2_canAsk_33
    · have hm := ifn c_4 hm
      refine lv_iload_n hx hb dX2_canAsk_18 rfl (lv_at hl 2 rfl) ?_
      refine lv_iconst (v := 0) hx hb dX2_canAsk_19 (by decide) ?_
      refine lv_ldc (v := 999999999) hx hb hown (hts _ lkX2_canAsk_184) dX2_canAsk_20 ?_
      obtain ⟨q_5, hq_5, hm⟩ := ob hm
      refine zc_i (zr_S [.int a3, .int (0 : Int32), .int (999999999 : Int32)] [] ⟨hx, hb, hml, hown, hts⟩ (ctX2_within l D cy w  a3 (0 : Int32) (999999999 : Int32) q_5 hq_5 _) (va_cwS 3 hts gX2_canAsk_X2_within rfl rfl rfl (by decide +kernel) ⟨Nat.le_of_ble_eq_true rfl, Nat.le_of_ble_eq_true rfl⟩) hK hP hD rfl hl.1 rfl (Nat.le_of_ble_eq_true rfl) dX2_canAsk_22 ⟨Nat.zero_le _, Nat.zero_le _⟩) hD hS hA (fun H locs hP hD hS => ?_)
      refine lv_if_eq (tgt := 32) hx hb dX2_canAsk_25 (by decide) (fun c_6 => ?_) (fun c_6 => ?_)
      · have hm := ifp c_6 hm
        refine lv_iconst (v := 0) hx hb dX2_canAsk_32 (by decide) ?_
        exact z_pz hx hb hr hlocks (by decide) hm hP hD hS dX2_canAsk_33
      · have hm := ifn c_6 hm
        refine lv_iconst (v := 1) hx hb dX2_canAsk_28 (by decide) ?_
        refine lv_goto (tgt := 33) hx hb dX2_canAsk_29 (by decide) ?_
        exact z_pz hx hb hr hlocks (by decide) hm hP hD hS dX2_canAsk_33
abbrev rmX3_isIn : Room := { frames := 0, cells := 0, slots := 0, locals := 0 }
def mX3_isIn (a1 : Int64) (a2 : Int64) (a3 : Int64) : Option (Int32) := if (lg_cmp a1 a2) < (0 : Int32) then (some (0 : Int32)) else (if (0 : Int32) < (lg_cmp a1 a3) then (some (0 : Int32)) else (some (1 : Int32)))
set_option maxHeartbeats 4000000 in
set_option maxRecDepth 100000 in
theorem ctX3_isIn (l : Launch) (D : va_G) (cy : Nat → ClassId) (w : va_W) (a1 : Int64) (a2 : Int64) (a3 : Int64) (q : Int32) (hm : mX3_isIn a1 a2 a3 = some q) : zMi l yX3_isIn wsX3_isIn rmX3_isIn D cy [.long a1, .long a2, .long a3] w q w := by
  intro sz
  refine Met.ofW (cc := cX3_isIn) (maxL := 6) (ret := (some .boolean)) (by decide) rfl ?_
  intro p e s m args below meth c s₁ B hml hv
  obtain ⟨rfl, hsz, hP, hK, hD0⟩ := hv
  have hx := B.exec
  have hb := B.bytes
  have hr := B.returns
  have hts := atoms_spec (ws := wsX3_isIn) B.pre
  have hown : s.vm.findClass RX3 = some m.cls := findClass_of_methodNamed B.named
  have hlocks := B.notSynchronized
  subst hsz
  have hD := hD0.self (sz := s.heap.size)
  generalize hAe : va_A w s.heap.size = A at hD ⊢
  have hA : ∀ q : Nat, s.heap.size ≤ q → A q := fun q h => by rw [← hAe]; exact Or.inr h
  have hS : va_S A s.heap s.heap [] := va_S.rf
  have C : Cx p s m _ meth c cX3_isIn 6 (some .boolean) RX3 wsX3_isIn D cy A := ⟨hx, hb, hml, hown, hts, hr, hlocks, hK, hA⟩
  have hl := lv_entry ([.long a1, .long a2, .long a3]) (n := 6) (Nat.le_of_ble_eq_true rfl)
  rw [lg_entry_eq]
  generalize (lg_sl ([.long a1, .long a2, .long a3]) ++ List.replicate (6 - (lg_sl ([.long a1, .long a2, .long a3])).length) Slot.unset).toArray = ls at hl ⊢
  have hl : lv_has ls 6 [(0, .long a1), (2, .long a2), (4, .long a3)] := hl
  unfold mX3_isIn at hm
  refine lv_lload_n hx hb dX3_isIn_0 rfl (lv_at hl 0 rfl) ?_
  refine lv_lload_n hx hb dX3_isIn_1 rfl (lv_at hl 1 rfl) ?_
  refine W.lcmp hx hb dX3_isIn_2 ?_
  refine lv_if_lt (tgt := 17) hx hb dX3_isIn_3 (by decide) (fun c_1 => ?_) (fun c_1 => ?_)
  · have hm := ifp c_1 hm
    refine lv_iconst (v := 0) hx hb dX3_isIn_17 (by decide) ?_
    exact z_pz hx hb hr hlocks (by decide) hm hP hD hS dX3_isIn_18
  · have hm := ifn c_1 hm
    refine lv_lload_n hx hb dX3_isIn_6 rfl (lv_at hl 0 rfl) ?_
    refine lv_lload hx hb dX3_isIn_7 (lv_at hl 2 rfl) ?_
    refine W.lcmp hx hb dX3_isIn_9 ?_
    refine lv_if_gt (tgt := 17) hx hb dX3_isIn_10 (by decide) (fun c_2 => ?_) (fun c_2 => ?_)
    · have hm := ifp c_2 hm
      refine lv_iconst (v := 0) hx hb dX3_isIn_17 (by decide) ?_
      exact z_pz hx hb hr hlocks (by decide) hm hP hD hS dX3_isIn_18
    · have hm := ifn c_2 hm
      refine lv_iconst (v := 1) hx hb dX3_isIn_13 (by decide) ?_
      refine lv_goto (tgt := 18) hx hb dX3_isIn_14 (by decide) ?_
      exact z_pz hx hb hr hlocks (by decide) hm hP hD hS dX3_isIn_18
abbrev rmX3_down : Room := { frames := 0, cells := 0, slots := 0, locals := 0 }
def mX3_down (a1 : Int64) (a2 : Int64) : Option (Int64) := gd (nzl a2) (gd (nzl a2) (if (0 : Int32) ≤ (lg_cmp (a1 - a1 / a2 * a2) (0 : Int64)) then (some (a1 / a2)) else (some ((a1 / a2) - (1 : Int64)))))
set_option maxHeartbeats 4000000 in
set_option maxRecDepth 100000 in
theorem ctX3_down (l : Launch) (D : va_G) (cy : Nat → ClassId) (w : va_W) (a1 : Int64) (a2 : Int64) (q : Int64) (hm : mX3_down a1 a2 = some q) : zMl l yX3_down wsX3_down rmX3_down D cy [.long a1, .long a2] w q w := by
  intro sz
  refine Met.ofW (cc := cX3_down) (maxL := 6) (ret := (some .long)) (by decide) rfl ?_
  intro p e s m args below meth c s₁ B hml hv
  obtain ⟨rfl, hsz, hP, hK, hD0⟩ := hv
  have hx := B.exec
  have hb := B.bytes
  have hr := B.returns
  have hts := atoms_spec (ws := wsX3_down) B.pre
  have hown : s.vm.findClass RX3 = some m.cls := findClass_of_methodNamed B.named
  have hlocks := B.notSynchronized
  subst hsz
  have hD := hD0.self (sz := s.heap.size)
  generalize hAe : va_A w s.heap.size = A at hD ⊢
  have hA : ∀ q : Nat, s.heap.size ≤ q → A q := fun q h => by rw [← hAe]; exact Or.inr h
  have hS : va_S A s.heap s.heap [] := va_S.rf
  have C : Cx p s m _ meth c cX3_down 6 (some .long) RX3 wsX3_down D cy A := ⟨hx, hb, hml, hown, hts, hr, hlocks, hK, hA⟩
  have hl := lv_entry ([.long a1, .long a2]) (n := 6) (Nat.le_of_ble_eq_true rfl)
  rw [lg_entry_eq]
  generalize (lg_sl ([.long a1, .long a2]) ++ List.replicate (6 - (lg_sl ([.long a1, .long a2])).length) Slot.unset).toArray = ls at hl ⊢
  have hl : lv_has ls 6 [(0, .long a1), (2, .long a2)] := hl
  unfold mX3_down at hm
  refine lv_lload_n hx hb dX3_down_0 rfl (lv_at hl 0 rfl) ?_
  refine lv_lload_n hx hb dX3_down_1 rfl (lv_at hl 1 rfl) ?_
  obtain ⟨h_1, hm⟩ := gd_some hm
  refine lv_ldiv hx hb dX3_down_2 (nzl_n h_1) ?_
  refine lv_lstore (lv' := [(4, .long (a1 / a2)), (0, .long a1), (2, .long a2)]) hx hb dX3_down_3 hl (by decide) rfl (fun ls hl => ?_)
  refine lv_lload_n hx hb dX3_down_5 rfl (lv_at hl 1 rfl) ?_
  refine lv_lload_n hx hb dX3_down_6 rfl (lv_at hl 2 rfl) ?_
  obtain ⟨h_2, hm⟩ := gd_some hm
  refine lv_lrem hx hb dX3_down_7 (nzl_n h_2) ?_
  refine lv_lconst (v := 0) hx hb dX3_down_8 (by decide) ?_
  refine W.lcmp hx hb dX3_down_9 ?_
  refine lv_if_ge (tgt := 20) hx hb dX3_down_10 (by decide) (fun c_3 => ?_) (fun c_3 => ?_)
  · have hm := ifp c_3 hm
    refine lv_lload hx hb dX3_down_20 (lv_at hl 0 rfl) ?_
    exact z_pl hx hb hr hlocks hm hP hD hS dX3_down_22
  · have hm := ifn c_3 hm
    refine lv_lload hx hb dX3_down_13 (lv_at hl 0 rfl) ?_
    refine lv_lconst (v := 1) hx hb dX3_down_15 (by decide) ?_
    refine lv_lsub hx hb dX3_down_16 ?_
    refine lv_goto (tgt := 22) hx hb dX3_down_17 (by decide) ?_
    exact z_pl hx hb hr hlocks hm hP hD hS dX3_down_22
abbrev rmX3_isGood : Room := { frames := 1, cells := 0, slots := 0, locals := 25 }
theorem lkX3_isGood_71 : Cond.constantLong RX3 71 (3) ∈ wsX3_isGood := by decide +kernel
theorem lkX3_isGood_73 : Cond.constantLong RX3 73 (2000) ∈ wsX3_isGood := by decide +kernel
theorem lkX3_isGood_75 : Cond.constantLong RX3 75 (40) ∈ wsX3_isGood := by decide +kernel
theorem lkX3_isGood_77 : Cond.constantLong RX3 77 (-200) ∈ wsX3_isGood := by decide +kernel
theorem lkX3_isGood_79 : Cond.constantLong RX3 79 (200) ∈ wsX3_isGood := by decide +kernel
theorem lkX3_isGood_81 : Cond.constantLong RX3 81 (100) ∈ wsX3_isGood := by decide +kernel
def mX3_isGood (a1 : Int32) (a2 : Int32) (a3 : Int32) (a4 : Int32) (a5 : Int32) : Option (Int32) := (mX3_isIn (Int32.toInt64 a1) (0 : Int64) (3 : Int64)).bind fun q_1 => if q_1 = (0 : Int32) then (some (0 : Int32)) else ((mX3_isIn (Int32.toInt64 a2) (0 : Int64) (2000 : Int64)).bind fun q_3 => if q_3 = (0 : Int32) then (some (0 : Int32)) else ((mX3_isIn (Int32.toInt64 a3) (1 : Int64) (40 : Int64)).bind fun q_5 => if q_5 = (0 : Int32) then (some (0 : Int32)) else ((mX3_isIn (Int32.toInt64 a5) (-200 : Int64) (200 : Int64)).bind fun q_7 => if q_7 = (0 : Int32) then (some (0 : Int32)) else (if a1 = (1 : Int32) then ((mX3_isIn (Int32.toInt64 a4) (1 : Int64) (100 : Int64)).bind fun q_16 => gd (zb q_16) (some q_16)) else (if a1 = (2 : Int32) then ((mX3_isIn (Int32.toInt64 a4) (1 : Int64) (Int32.toInt64 a3)).bind fun q_14 => gd (zb q_14) (some q_14)) else (if a4 = (0 : Int32) then (if a1 = (0 : Int32) then (some (1 : Int32)) else (if a2 = (0 : Int32) then (some (1 : Int32)) else (some (0 : Int32)))) else (some (0 : Int32))))))))
set_option maxHeartbeats 4000000 in
set_option maxRecDepth 100000 in
theorem ctX3_isGood (l : Launch) (D : va_G) (cy : Nat → ClassId) (w : va_W) (a1 : Int32) (a2 : Int32) (a3 : Int32) (a4 : Int32) (a5 : Int32) (q : Int32) (hm : mX3_isGood a1 a2 a3 a4 a5 = some q) : zMi l yX3_isGood wsX3_isGood rmX3_isGood D cy [.int a1, .int a2, .int a3, .int a4, .int a5] w q w := by
  intro sz
  refine Met.ofW (cc := cX3_isGood) (maxL := 5) (ret := (some .boolean)) (by decide) rfl ?_
  intro p e s m args below meth c s₁ B hml hv
  obtain ⟨rfl, hsz, hP, hK, hD0⟩ := hv
  have hx := B.exec
  have hb := B.bytes
  have hr := B.returns
  have hts := atoms_spec (ws := wsX3_isGood) B.pre
  have hown : s.vm.findClass RX3 = some m.cls := findClass_of_methodNamed B.named
  have hlocks := B.notSynchronized
  subst hsz
  have hD := hD0.self (sz := s.heap.size)
  generalize hAe : va_A w s.heap.size = A at hD ⊢
  have hA : ∀ q : Nat, s.heap.size ≤ q → A q := fun q h => by rw [← hAe]; exact Or.inr h
  have hS : va_S A s.heap s.heap [] := va_S.rf
  have C : Cx p s m _ meth c cX3_isGood 5 (some .boolean) RX3 wsX3_isGood D cy A := ⟨hx, hb, hml, hown, hts, hr, hlocks, hK, hA⟩
  have hl := lv_entry ([.int a1, .int a2, .int a3, .int a4, .int a5]) (n := 5) (Nat.le_of_ble_eq_true rfl)
  rw [lg_entry_eq]
  generalize (lg_sl ([.int a1, .int a2, .int a3, .int a4, .int a5]) ++ List.replicate (5 - (lg_sl ([.int a1, .int a2, .int a3, .int a4, .int a5])).length) Slot.unset).toArray = ls at hl ⊢
  have hl : lv_has ls 5 [(0, .int a1), (1, .int a2), (2, .int a3), (3, .int a4), (4, .int a5)] := hl
  unfold mX3_isGood at hm
  refine lv_iload_n hx hb dX3_isGood_0 rfl (lv_at hl 0 rfl) ?_
  refine lv_i2l hx hb dX3_isGood_1 rfl ?_
  refine lv_lconst (v := 0) hx hb dX3_isGood_2 (by decide) ?_
  refine lv_ldc2 (v := 3) hx hb hown (hts _ lkX3_isGood_71) dX3_isGood_3 ?_
  obtain ⟨q_1, hq_1, hm⟩ := ob hm
  refine zc_i (zr_S [.long (Int32.toInt64 a1), .long (0 : Int64), .long (3 : Int64)] [] ⟨hx, hb, hml, hown, hts⟩ (ctX3_isIn l D cy w  (Int32.toInt64 a1) (0 : Int64) (3 : Int64) q_1 hq_1 _) (va_cwS 3 hts gX3_isGood_X3_isIn rfl rfl rfl (by decide +kernel) ⟨Nat.le_of_ble_eq_true rfl, Nat.le_of_ble_eq_true rfl⟩) hK hP hD rfl hl.1 rfl (Nat.le_of_ble_eq_true rfl) dX3_isGood_6 ⟨Nat.zero_le _, Nat.zero_le _⟩) hD hS hA (fun H locs hP hD hS => ?_)
  refine lv_if_eq (tgt := 51) hx hb dX3_isGood_9 (by decide) (fun c_2 => ?_) (fun c_2 => ?_)
  · have hm := ifp c_2 hm
    refine lv_iconst (v := 0) hx hb dX3_isGood_51 (by decide) ?_
    exact z_pz hx hb hr hlocks (by decide) hm hP hD hS dX3_isGood_52
  · have hm := ifn c_2 hm
    refine lv_iload_n hx hb dX3_isGood_12 rfl (lv_at hl 1 rfl) ?_
    refine lv_i2l hx hb dX3_isGood_13 rfl ?_
    refine lv_lconst (v := 0) hx hb dX3_isGood_14 (by decide) ?_
    refine lv_ldc2 (v := 2000) hx hb hown (hts _ lkX3_isGood_73) dX3_isGood_15 ?_
    obtain ⟨q_3, hq_3, hm⟩ := ob hm
    refine zc_i (zr_S [.long (Int32.toInt64 a2), .long (0 : Int64), .long (2000 : Int64)] [] ⟨hx, hb, hml, hown, hts⟩ (ctX3_isIn l D cy w  (Int32.toInt64 a2) (0 : Int64) (2000 : Int64) q_3 hq_3 _) (va_cwS 3 hts gX3_isGood_X3_isIn rfl rfl rfl (by decide +kernel) ⟨Nat.le_of_ble_eq_true rfl, Nat.le_of_ble_eq_true rfl⟩) hK hP hD rfl hl.1 rfl (Nat.le_of_ble_eq_true rfl) dX3_isGood_18 ⟨Nat.zero_le _, Nat.zero_le _⟩) hD hS hA (fun H locs hP hD hS => ?_)
    refine lv_if_eq (tgt := 51) hx hb dX3_isGood_21 (by decide) (fun c_4 => ?_) (fun c_4 => ?_)
    · have hm := ifp c_4 hm
      refine lv_iconst (v := 0) hx hb dX3_isGood_51 (by decide) ?_
      exact z_pz hx hb hr hlocks (by decide) hm hP hD hS dX3_isGood_52
    · have hm := ifn c_4 hm
      refine lv_iload_n hx hb dX3_isGood_24 rfl (lv_at hl 2 rfl) ?_
      refine lv_i2l hx hb dX3_isGood_25 rfl ?_
      refine lv_lconst (v := 1) hx hb dX3_isGood_26 (by decide) ?_
      refine lv_ldc2 (v := 40) hx hb hown (hts _ lkX3_isGood_75) dX3_isGood_27 ?_
      obtain ⟨q_5, hq_5, hm⟩ := ob hm
      refine zc_i (zr_S [.long (Int32.toInt64 a3), .long (1 : Int64), .long (40 : Int64)] [] ⟨hx, hb, hml, hown, hts⟩ (ctX3_isIn l D cy w  (Int32.toInt64 a3) (1 : Int64) (40 : Int64) q_5 hq_5 _) (va_cwS 3 hts gX3_isGood_X3_isIn rfl rfl rfl (by decide +kernel) ⟨Nat.le_of_ble_eq_true rfl, Nat.le_of_ble_eq_true rfl⟩) hK hP hD rfl hl.1 rfl (Nat.le_of_ble_eq_true rfl) dX3_isGood_30 ⟨Nat.zero_le _, Nat.zero_le _⟩) hD hS hA (fun H locs hP hD hS => ?_)
      refine lv_if_eq (tgt := 51) hx hb dX3_isGood_33 (by decide) (fun c_6 => ?_) (fun c_6 => ?_)
      · have hm := ifp c_6 hm
        refine lv_iconst (v := 0) hx hb dX3_isGood_51 (by decide) ?_
        exact z_pz hx hb hr hlocks (by decide) hm hP hD hS dX3_isGood_52
      · have hm := ifn c_6 hm
        refine lv_iload hx hb dX3_isGood_36 (lv_at hl 4 rfl) ?_
        refine lv_i2l hx hb dX3_isGood_38 rfl ?_
        refine lv_ldc2 (v := -200) hx hb hown (hts _ lkX3_isGood_77) dX3_isGood_39 ?_
        refine lv_ldc2 (v := 200) hx hb hown (hts _ lkX3_isGood_79) dX3_isGood_42 ?_
        obtain ⟨q_7, hq_7, hm⟩ := ob hm
        refine zc_i (zr_S [.long (Int32.toInt64 a5), .long (-200 : Int64), .long (200 : Int64)] [] ⟨hx, hb, hml, hown, hts⟩ (ctX3_isIn l D cy w  (Int32.toInt64 a5) (-200 : Int64) (200 : Int64) q_7 hq_7 _) (va_cwS 3 hts gX3_isGood_X3_isIn rfl rfl rfl (by decide +kernel) ⟨Nat.le_of_ble_eq_true rfl, Nat.le_of_ble_eq_true rfl⟩) hK hP hD rfl hl.1 rfl (Nat.le_of_ble_eq_true rfl) dX3_isGood_45 ⟨Nat.zero_le _, Nat.zero_le _⟩) hD hS hA (fun H locs hP hD hS => ?_)
        refine lv_if_ne (tgt := 53) hx hb dX3_isGood_48 (by decide) (fun c_8 => ?_) (fun c_8 => ?_)
        · have hm := ifn c_8 hm
          refine lv_iload_n hx hb dX3_isGood_53 rfl (lv_at hl 0 rfl) ?_
          refine lv_iconst (v := 1) hx hb dX3_isGood_54 (by decide) ?_
          refine lv_icmp_ne (tgt := 68) hx hb dX3_isGood_55 (by decide) (fun c_9 => ?_) (fun c_9 => ?_)
          · have hm := ifn c_9 hm
            refine lv_iload_n hx hb dX3_isGood_68 rfl (lv_at hl 0 rfl) ?_
            refine lv_iconst (v := 2) hx hb dX3_isGood_69 (by decide) ?_
            refine lv_icmp_ne (tgt := 82) hx hb dX3_isGood_70 (by decide) (fun c_10 => ?_) (fun c_10 => ?_)
            · have hm := ifn c_10 hm
              refine lv_iload_n hx hb dX3_isGood_82 rfl (lv_at hl 3 rfl) ?_
              refine lv_if_ne (tgt := 98) hx hb dX3_isGood_83 (by decide) (fun c_11 => ?_) (fun c_11 => ?_)
              · have hm := ifn c_11 hm
                refine lv_iconst (v := 0) hx hb dX3_isGood_98 (by decide) ?_
                exact z_pz hx hb hr hlocks (by decide) hm hP hD hS dX3_isGood_99
              · have hm := ifp c_11 hm
                refine lv_iload_n hx hb dX3_isGood_86 rfl (lv_at hl 0 rfl) ?_
                refine lv_if_eq (tgt := 94) hx hb dX3_isGood_87 (by decide) (fun c_12 => ?_) (fun c_12 => ?_)
                · have hm := ifp c_12 hm
                  refine lv_iconst (v := 1) hx hb dX3_isGood_94 (by decide) ?_
                  refine lv_goto (tgt := 99) hx hb dX3_isGood_95 (by decide) ?_
                  exact z_pz hx hb hr hlocks (by decide) hm hP hD hS dX3_isGood_99
                · have hm := ifn c_12 hm
                  refine lv_iload_n hx hb dX3_isGood_90 rfl (lv_at hl 1 rfl) ?_
                  refine lv_if_ne (tgt := 98) hx hb dX3_isGood_91 (by decide) (fun c_13 => ?_) (fun c_13 => ?_)
                  · have hm := ifn c_13 hm
                    refine lv_iconst (v := 0) hx hb dX3_isGood_98 (by decide) ?_
                    exact z_pz hx hb hr hlocks (by decide) hm hP hD hS dX3_isGood_99
                  · have hm := ifp c_13 hm
                    refine lv_iconst (v := 1) hx hb dX3_isGood_94 (by decide) ?_
                    refine lv_goto (tgt := 99) hx hb dX3_isGood_95 (by decide) ?_
                    exact z_pz hx hb hr hlocks (by decide) hm hP hD hS dX3_isGood_99
            · have hm := ifp c_10 hm
              refine lv_iload_n hx hb dX3_isGood_73 rfl (lv_at hl 3 rfl) ?_
              refine lv_i2l hx hb dX3_isGood_74 rfl ?_
              refine lv_lconst (v := 1) hx hb dX3_isGood_75 (by decide) ?_
              refine lv_iload_n hx hb dX3_isGood_76 rfl (lv_at hl 2 rfl) ?_
              refine lv_i2l hx hb dX3_isGood_77 rfl ?_
              obtain ⟨q_14, hq_14, hm⟩ := ob hm
              refine zc_i (zr_S [.long (Int32.toInt64 a4), .long (1 : Int64), .long (Int32.toInt64 a3)] [] ⟨hx, hb, hml, hown, hts⟩ (ctX3_isIn l D cy w  (Int32.toInt64 a4) (1 : Int64) (Int32.toInt64 a3) q_14 hq_14 _) (va_cwS 3 hts gX3_isGood_X3_isIn rfl rfl rfl (by decide +kernel) ⟨Nat.le_of_ble_eq_true rfl, Nat.le_of_ble_eq_true rfl⟩) hK hP hD rfl hl.1 rfl (Nat.le_of_ble_eq_true rfl) dX3_isGood_78 ⟨Nat.zero_le _, Nat.zero_le _⟩) hD hS hA (fun H locs hP hD hS => ?_)
              obtain ⟨h_15, hm⟩ := gd_some hm
              exact z_pz hx hb hr hlocks h_15 hm hP hD hS dX3_isGood_81
          · have hm := ifp c_9 hm
            refine lv_iload_n hx hb dX3_isGood_58 rfl (lv_at hl 3 rfl) ?_
            refine lv_i2l hx hb dX3_isGood_59 rfl ?_
            refine lv_lconst (v := 1) hx hb dX3_isGood_60 (by decide) ?_
            refine lv_ldc2 (v := 100) hx hb hown (hts _ lkX3_isGood_81) dX3_isGood_61 ?_
            obtain ⟨q_16, hq_16, hm⟩ := ob hm
            refine zc_i (zr_S [.long (Int32.toInt64 a4), .long (1 : Int64), .long (100 : Int64)] [] ⟨hx, hb, hml, hown, hts⟩ (ctX3_isIn l D cy w  (Int32.toInt64 a4) (1 : Int64) (100 : Int64) q_16 hq_16 _) (va_cwS 3 hts gX3_isGood_X3_isIn rfl rfl rfl (by decide +kernel) ⟨Nat.le_of_ble_eq_true rfl, Nat.le_of_ble_eq_true rfl⟩) hK hP hD rfl hl.1 rfl (Nat.le_of_ble_eq_true rfl) dX3_isGood_64 ⟨Nat.zero_le _, Nat.zero_le _⟩) hD hS hA (fun H locs hP hD hS => ?_)
            obtain ⟨h_17, hm⟩ := gd_some hm
            exact z_pz hx hb hr hlocks h_17 hm hP hD hS dX3_isGood_67
        · have hm := ifp c_8 hm
          refine lv_iconst (v := 0) hx hb dX3_isGood_51 (by decide) ?_
          exact z_pz hx hb hr hlocks (by decide) hm hP hD hS dX3_isGood_52
abbrev rmX3_isRate : Room := { frames := 1, cells := 0, slots := 0, locals := 25 }
theorem lkX3_isRate_130 : Cond.constantLong RX3 130 (3000) ∈ wsX3_isRate := by decide +kernel
def mX3_isRate (a1 : Int32) : Option (Int32) := (mX3_isIn (Int32.toInt64 a1) (0 : Int64) (3000 : Int64)).bind fun q_1 => gd (zb q_1) (some q_1)
set_option maxHeartbeats 4000000 in
set_option maxRecDepth 100000 in
theorem ctX3_isRate (l : Launch) (D : va_G) (cy : Nat → ClassId) (w : va_W) (a1 : Int32) (q : Int32) (hm : mX3_isRate a1 = some q) : zMi l yX3_isRate wsX3_isRate rmX3_isRate D cy [.int a1] w q w := by
  intro sz
  refine Met.ofW (cc := cX3_isRate) (maxL := 1) (ret := (some .boolean)) (by decide) rfl ?_
  intro p e s m args below meth c s₁ B hml hv
  obtain ⟨rfl, hsz, hP, hK, hD0⟩ := hv
  have hx := B.exec
  have hb := B.bytes
  have hr := B.returns
  have hts := atoms_spec (ws := wsX3_isRate) B.pre
  have hown : s.vm.findClass RX3 = some m.cls := findClass_of_methodNamed B.named
  have hlocks := B.notSynchronized
  subst hsz
  have hD := hD0.self (sz := s.heap.size)
  generalize hAe : va_A w s.heap.size = A at hD ⊢
  have hA : ∀ q : Nat, s.heap.size ≤ q → A q := fun q h => by rw [← hAe]; exact Or.inr h
  have hS : va_S A s.heap s.heap [] := va_S.rf
  have C : Cx p s m _ meth c cX3_isRate 1 (some .boolean) RX3 wsX3_isRate D cy A := ⟨hx, hb, hml, hown, hts, hr, hlocks, hK, hA⟩
  have hl := lv_entry ([.int a1]) (n := 1) (Nat.le_of_ble_eq_true rfl)
  rw [lg_entry_eq]
  generalize (lg_sl ([.int a1]) ++ List.replicate (1 - (lg_sl ([.int a1])).length) Slot.unset).toArray = ls at hl ⊢
  have hl : lv_has ls 1 [(0, .int a1)] := hl
  unfold mX3_isRate at hm
  refine lv_iload_n hx hb dX3_isRate_0 rfl (lv_at hl 0 rfl) ?_
  refine lv_i2l hx hb dX3_isRate_1 rfl ?_
  refine lv_lconst (v := 0) hx hb dX3_isRate_2 (by decide) ?_
  refine lv_ldc2 (v := 3000) hx hb hown (hts _ lkX3_isRate_130) dX3_isRate_3 ?_
  obtain ⟨q_1, hq_1, hm⟩ := ob hm
  refine zc_i (zr_S [.long (Int32.toInt64 a1), .long (0 : Int64), .long (3000 : Int64)] [] ⟨hx, hb, hml, hown, hts⟩ (ctX3_isIn l D cy w  (Int32.toInt64 a1) (0 : Int64) (3000 : Int64) q_1 hq_1 _) (va_cwS 3 hts gX3_isRate_X3_isIn rfl rfl rfl (by decide +kernel) ⟨Nat.le_of_ble_eq_true rfl, Nat.le_of_ble_eq_true rfl⟩) hK hP hD rfl hl.1 rfl (Nat.le_of_ble_eq_true rfl) dX3_isRate_6 ⟨Nat.zero_le _, Nat.zero_le _⟩) hD hS hA (fun H locs hP hD hS => ?_)
  obtain ⟨h_2, hm⟩ := gd_some hm
  exact z_pz hx hb hr hlocks h_2 hm hP hD hS dX3_isRate_9
abbrev rmX3_isMeeting : Room := { frames := 2, cells := 0, slots := 0, locals := 45 }
theorem lkX3_isMeeting_79 : Cond.constantLong RX3 79 (200) ∈ wsX3_isMeeting := by decide +kernel
theorem lkX3_isMeeting_168 : Cond.constantLong RX3 168 (999999999) ∈ wsX3_isMeeting := by decide +kernel
def mX3_isMeeting (a1 : Int32) (a2 : Int32) (a3 : Int32) : Option (Int32) := (mX3_isIn (Int32.toInt64 a1) (0 : Int64) (200 : Int64)).bind fun q_1 => if q_1 = (0 : Int32) then (some (0 : Int32)) else ((mX3_isRate a2).bind fun q_3 => if q_3 = (0 : Int32) then (some (0 : Int32)) else ((mX3_isIn (Int32.toInt64 a3) (0 : Int64) (999999999 : Int64)).bind fun q_5 => if q_5 = (0 : Int32) then (some (0 : Int32)) else (some (1 : Int32))))
set_option maxHeartbeats 4000000 in
set_option maxRecDepth 100000 in
theorem ctX3_isMeeting (l : Launch) (D : va_G) (cy : Nat → ClassId) (w : va_W) (a1 : Int32) (a2 : Int32) (a3 : Int32) (q : Int32) (hm : mX3_isMeeting a1 a2 a3 = some q) : zMi l yX3_isMeeting wsX3_isMeeting rmX3_isMeeting D cy [.int a1, .int a2, .int a3] w q w := by
  intro sz
  refine Met.ofW (cc := cX3_isMeeting) (maxL := 3) (ret := (some .boolean)) (by decide) rfl ?_
  intro p e s m args below meth c s₁ B hml hv
  obtain ⟨rfl, hsz, hP, hK, hD0⟩ := hv
  have hx := B.exec
  have hb := B.bytes
  have hr := B.returns
  have hts := atoms_spec (ws := wsX3_isMeeting) B.pre
  have hown : s.vm.findClass RX3 = some m.cls := findClass_of_methodNamed B.named
  have hlocks := B.notSynchronized
  subst hsz
  have hD := hD0.self (sz := s.heap.size)
  generalize hAe : va_A w s.heap.size = A at hD ⊢
  have hA : ∀ q : Nat, s.heap.size ≤ q → A q := fun q h => by rw [← hAe]; exact Or.inr h
  have hS : va_S A s.heap s.heap [] := va_S.rf
  have C : Cx p s m _ meth c cX3_isMeeting 3 (some .boolean) RX3 wsX3_isMeeting D cy A := ⟨hx, hb, hml, hown, hts, hr, hlocks, hK, hA⟩
  have hl := lv_entry ([.int a1, .int a2, .int a3]) (n := 3) (Nat.le_of_ble_eq_true rfl)
  rw [lg_entry_eq]
  generalize (lg_sl ([.int a1, .int a2, .int a3]) ++ List.replicate (3 - (lg_sl ([.int a1, .int a2, .int a3])).length) Slot.unset).toArray = ls at hl ⊢
  have hl : lv_has ls 3 [(0, .int a1), (1, .int a2), (2, .int a3)] := hl
  unfold mX3_isMeeting at hm
  refine lv_iload_n hx hb dX3_isMeeting_0 rfl (lv_at hl 0 rfl) ?_
  refine lv_i2l hx hb dX3_isMeeting_1 rfl ?_
  refine lv_lconst (v := 0) hx hb dX3_isMeeting_2 (by decide) ?_
  refine lv_ldc2 (v := 200) hx hb hown (hts _ lkX3_isMeeting_79) dX3_isMeeting_3 ?_
  obtain ⟨q_1, hq_1, hm⟩ := ob hm
  refine zc_i (zr_S [.long (Int32.toInt64 a1), .long (0 : Int64), .long (200 : Int64)] [] ⟨hx, hb, hml, hown, hts⟩ (ctX3_isIn l D cy w  (Int32.toInt64 a1) (0 : Int64) (200 : Int64) q_1 hq_1 _) (va_cwS 3 hts gX3_isMeeting_X3_isIn rfl rfl rfl (by decide +kernel) ⟨Nat.le_of_ble_eq_true rfl, Nat.le_of_ble_eq_true rfl⟩) hK hP hD rfl hl.1 rfl (Nat.le_of_ble_eq_true rfl) dX3_isMeeting_6 ⟨Nat.zero_le _, Nat.zero_le _⟩) hD hS hA (fun H locs hP hD hS => ?_)
  refine lv_if_eq (tgt := 35) hx hb dX3_isMeeting_9 (by decide) (fun c_2 => ?_) (fun c_2 => ?_)
  · have hm := ifp c_2 hm
    refine lv_iconst (v := 0) hx hb dX3_isMeeting_35 (by decide) ?_
    exact z_pz hx hb hr hlocks (by decide) hm hP hD hS dX3_isMeeting_36
  · have hm := ifn c_2 hm
    refine lv_iload_n hx hb dX3_isMeeting_12 rfl (lv_at hl 1 rfl) ?_
    obtain ⟨q_3, hq_3, hm⟩ := ob hm
    refine zc_i (zr_S [.int a2] [] ⟨hx, hb, hml, hown, hts⟩ (ctX3_isRate l D cy w  a2 q_3 hq_3 _) (va_cwS 1 hts gX3_isMeeting_X3_isRate rfl rfl rfl (by decide +kernel) ⟨Nat.le_of_ble_eq_true rfl, Nat.le_of_ble_eq_true rfl⟩) hK hP hD rfl hl.1 rfl (Nat.le_of_ble_eq_true rfl) dX3_isMeeting_13 ⟨Nat.zero_le _, Nat.zero_le _⟩) hD hS hA (fun H locs hP hD hS => ?_)
    refine lv_if_eq (tgt := 35) hx hb dX3_isMeeting_16 (by decide) (fun c_4 => ?_) (fun c_4 => ?_)
    · have hm := ifp c_4 hm
      refine lv_iconst (v := 0) hx hb dX3_isMeeting_35 (by decide) ?_
      exact z_pz hx hb hr hlocks (by decide) hm hP hD hS dX3_isMeeting_36
    · have hm := ifn c_4 hm
      refine lv_iload_n hx hb dX3_isMeeting_19 rfl (lv_at hl 2 rfl) ?_
      refine lv_i2l hx hb dX3_isMeeting_20 rfl ?_
      refine lv_lconst (v := 0) hx hb dX3_isMeeting_21 (by decide) ?_
      refine lv_ldc2 (v := 999999999) hx hb hown (hts _ lkX3_isMeeting_168) dX3_isMeeting_22 ?_
      obtain ⟨q_5, hq_5, hm⟩ := ob hm
      refine zc_i (zr_S [.long (Int32.toInt64 a3), .long (0 : Int64), .long (999999999 : Int64)] [] ⟨hx, hb, hml, hown, hts⟩ (ctX3_isIn l D cy w  (Int32.toInt64 a3) (0 : Int64) (999999999 : Int64) q_5 hq_5 _) (va_cwS 3 hts gX3_isMeeting_X3_isIn rfl rfl rfl (by decide +kernel) ⟨Nat.le_of_ble_eq_true rfl, Nat.le_of_ble_eq_true rfl⟩) hK hP hD rfl hl.1 rfl (Nat.le_of_ble_eq_true rfl) dX3_isMeeting_25 ⟨Nat.zero_le _, Nat.zero_le _⟩) hD hS hA (fun H locs hP hD hS => ?_)
      refine lv_if_eq (tgt := 35) hx hb dX3_isMeeting_28 (by decide) (fun c_6 => ?_) (fun c_6 => ?_)
      · have hm := ifp c_6 hm
        refine lv_iconst (v := 0) hx hb dX3_isMeeting_35 (by decide) ?_
        exact z_pz hx hb hr hlocks (by decide) hm hP hD hS dX3_isMeeting_36
      · have hm := ifn c_6 hm
        refine lv_iconst (v := 1) hx hb dX3_isMeeting_31 (by decide) ?_
        refine lv_goto (tgt := 36) hx hb dX3_isMeeting_32 (by decide) ?_
        exact z_pz hx hb hr hlocks (by decide) hm hP hD hS dX3_isMeeting_36

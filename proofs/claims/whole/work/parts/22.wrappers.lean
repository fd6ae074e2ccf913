abbrev rmL_of : Room := { frames := 7, cells := 1, slots := 6, locals := 113 }
theorem lkL_of_cl : Cond.classLink RL 13 "java/util/NoSuchElementException" ∈ wsL_of := by decide +kernel
def oL_of (q : Option Int32 × ST) (o : Nat → Int64) : Nat → Int64 := match q.1 with | none => o | some v => vp_updL o (Int32.toNatClampNeg (0 : Int32)) (Int32.toInt64 v)
def rL_of (q : Option Int32 × ST) : Int32 := match q.1 with | none => 1 | some _ => 0
set_option maxHeartbeats 4000000 in
set_option maxRecDepth 100000 in
theorem ctL_of (l : Launch) (htr : l.stackTraces = false) (base : Nat) (D : va_G) (cy : Nat → ClassId) (ad : Nat → Nat → Nat) (suf : va_W) (ao : Nat) (o : Nat → Int64) (σ : ST) (a1 : Int32) (a2 : Int32) (q : Option Int32 × ST) (hm : mX2_of σ a1 a2 = some q) (sz : Nat) : Met l yL_of wsL_of rmL_of (va_Pc [.ref (ad 0 0), .int a1, .int a2, .ref ao] (yPre base D cy (outc cy ao o :: (cw cy ad σ ++ suf)) sz)) (zQi D (outc cy ao (oL_of q o) :: (cw cy ad q.2 ++ suf)) (va_A (outc cy ao o :: (cw cy ad σ ++ suf)) sz) (rL_of q)) 1 6 (va_A (outc cy ao o :: (cw cy ad σ ++ suf)) sz) := by
  refine va_MetW (cc := cL_of) (maxL := 5) (ret := (some .int)) (by decide) rfl ?_
  intro p e s m args below meth c s₁ B hml hv
  obtain ⟨rfl, ⟨hsz, hP, hK, hD0⟩, ⟨hbs, hbw⟩, hXX⟩ := hv
  have hx := B.exec
  have hb := B.bytes
  have hr := B.returns
  have hts := atoms_spec (ws := wsL_of) B.pre
  have hown : s.vm.findClass RL = some m.cls := findClass_of_methodNamed B.named
  have hlocks := B.notSynchronized
  have htb := vx_table (x := yL_of) B (hts _ List.mem_cons_self)
  subst hsz
  have hD := hD0.self (sz := s.heap.size)
  have hAb : ∀ q, va_A (outc cy ao o :: (cw cy ad σ ++ suf)) s.heap.size q → base ≤ q := fun q h => by
    rcases h with ⟨k, e, h⟩ | h
    · exact hbw k _ h
    · exact Nat.le_trans hbs h
  generalize hAe : va_A (outc cy ao o :: (cw cy ad σ ++ suf)) s.heap.size = A at hD hAb ⊢
  have hA : ∀ q : Nat, s.heap.size ≤ q → A q := fun q h => by rw [← hAe]; exact Or.inr h
  have hS : va_S A s.heap s.heap [] := va_S.rf
  have hl := lv_entry ([.ref (ad 0 0), .int a1, .int a2, .ref ao]) (n := 5) (Nat.le_of_ble_eq_true rfl)
  rw [lg_entry_eq]
  generalize (lg_sl ([.ref (ad 0 0), .int a1, .int a2, .ref ao]) ++ List.replicate (5 - (lg_sl ([.ref (ad 0 0), .int a1, .int a2, .ref ao])).length) Slot.unset).toArray = ls at hl ⊢
  have hl : lv_has ls 5 [(0, .ref (ad 0 0)), (1, .int a1), (2, .int a2), (3, .ref ao)] := hl
  refine lv_aload_n hx hb dL_of_0 rfl (lv_at hl 3 rfl) ?_
  refine lv_iconst (v := 0) hx hb dL_of_1 (by decide) ?_
  refine lv_aload_n hx hb dL_of_2 rfl (lv_at hl 0 rfl) ?_
  refine lv_iload_n hx hb dL_of_3 rfl (lv_at hl 1 rfl) ?_
  refine lv_iload_n hx hb dL_of_4 rfl (lv_at hl 2 rfl) ?_
  refine yf_i [outc cy ao o] suf (yr_V [outc cy ao o] suf [.int a1, .int a2] [.int 0, .ref ao] ⟨hx, hb, hml, hown, hts⟩ (ctX2_of l D cy htr base ad σ a1 a2 q hm _) (cwV 2 hts gL_of_X2_of rfl rfl rfl (by decide +kernel) ⟨Nat.le_of_ble_eq_true rfl, Nat.le_of_ble_eq_true rfl⟩) hK hXX hAb hbs hP hD hS 0 cw_0 rfl rfl rfl hl.1 rfl (Nat.le_of_ble_eq_true rfl) dL_of_5 ⟨Nat.le_of_ble_eq_true rfl, Nat.le_of_ble_eq_true rfl⟩) hP hD hS hA (fun q9 ce H locs ho hP hD hS hce hcv hcl => ?_) (fun rv H locs ho hP hD hS => ?_)
  · have e1 : oL_of q o = o := by unfold oL_of; rw [ho]
    have e2 : rL_of q = 1 := by unfold rL_of; rw [ho]
    rw [e1, e2]
    refine vx_catch hown [] ⟨0, 10, 13, 13⟩ [] htb (fun z hz => by cases hz) (by decide) (by decide) (hts _ lkL_of_cl) (va_Nw.use rfl hXX.2.2.1) hce hcv hcl ?_
    refine lv_astore (lv' := [(4, .ref q9), (0, .ref (ad 0 0)), (1, .int a1), (2, .int a2), (3, .ref ao)]) hx hb dL_of_13 hl (by decide) rfl (fun ls hl => ?_)
    refine lv_iconst (v := 1) hx hb dL_of_15 (by decide) ?_
    exact W.iret hx hb hr (fun t ht hW => ⟨⟨1, (), rfl, rfl, by rw [ht]; exact hP, hD⟩, hS.F ht⟩) hS.2.2 dL_of_16
  · have e1 : oL_of q o = vp_updL o (Int32.toNatClampNeg (0 : Int32)) (Int32.toInt64 rv) := by unfold oL_of; rw [ho]
    have e2 : rL_of q = 0 := by unfold rL_of; rw [ho]
    rw [e1, e2]
    refine lv_i2l hx hb dL_of_8 rfl ?_
    refine va_last hx hb hK.1 hP hD hS 0 1 rfl rfl (inb_vp (by decide)) dL_of_9 (fun H locs hP hD hS => ?_)
    refine lv_goto (tgt := 17) hx hb dL_of_10 (by decide) ?_
    refine lv_iconst (v := 0) hx hb dL_of_17 (by decide) ?_
    exact W.iret hx hb hr (fun t ht hW => ⟨⟨0, (), rfl, rfl, by rw [ht]; exact hP, hD⟩, hS.F ht⟩) hS.2.2 dL_of_18
abbrev rmL_gap : Room := { frames := 7, cells := 1, slots := 6, locals := 161 }
theorem lkL_gap_cl : Cond.classLink RL 13 "java/util/NoSuchElementException" ∈ wsL_gap := by decide +kernel
def oL_gap (q : Option Int64 × ST) (o : Nat → Int64) : Nat → Int64 := match q.1 with | none => o | some v => vp_updL o (Int32.toNatClampNeg (0 : Int32)) v
def rL_gap (q : Option Int64 × ST) : Int32 := match q.1 with | none => 1 | some _ => 0
set_option maxHeartbeats 4000000 in
set_option maxRecDepth 100000 in
theorem ctL_gap (l : Launch) (htr : l.stackTraces = false) (base : Nat) (D : va_G) (cy : Nat → ClassId) (ad : Nat → Nat → Nat) (suf : va_W) (ao : Nat) (o : Nat → Int64) (σ : ST) (a1 : Int32) (a2 : Int32) (q : Option Int64 × ST) (hm : mX2_gap σ a1 a2 = some q) (sz : Nat) : Met l yL_gap wsL_gap rmL_gap (va_Pc [.ref (ad 0 0), .int a1, .int a2, .ref ao] (yPre base D cy (outc cy ao o :: (cw cy ad σ ++ suf)) sz)) (zQi D (outc cy ao (oL_gap q o) :: (cw cy ad q.2 ++ suf)) (va_A (outc cy ao o :: (cw cy ad σ ++ suf)) sz) (rL_gap q)) 1 6 (va_A (outc cy ao o :: (cw cy ad σ ++ suf)) sz) := by
  refine va_MetW (cc := cL_gap) (maxL := 5) (ret := (some .int)) (by decide) rfl ?_
  intro p e s m args below meth c s₁ B hml hv
  obtain ⟨rfl, ⟨hsz, hP, hK, hD0⟩, ⟨hbs, hbw⟩, hXX⟩ := hv
  have hx := B.exec
  have hb := B.bytes
  have hr := B.returns
  have hts := atoms_spec (ws := wsL_gap) B.pre
  have hown : s.vm.findClass RL = some m.cls := findClass_of_methodNamed B.named
  have hlocks := B.notSynchronized
  have htb := vx_table (x := yL_gap) B (hts _ List.mem_cons_self)
  subst hsz
  have hD := hD0.self (sz := s.heap.size)
  have hAb : ∀ q, va_A (outc cy ao o :: (cw cy ad σ ++ suf)) s.heap.size q → base ≤ q := fun q h => by
    rcases h with ⟨k, e, h⟩ | h
    · exact hbw k _ h
    · exact Nat.le_trans hbs h
  generalize hAe : va_A (outc cy ao o :: (cw cy ad σ ++ suf)) s.heap.size = A at hD hAb ⊢
  have hA : ∀ q : Nat, s.heap.size ≤ q → A q := fun q h => by rw [← hAe]; exact Or.inr h
  have hS : va_S A s.heap s.heap [] := va_S.rf
  have hl := lv_entry ([.ref (ad 0 0), .int a1, .int a2, .ref ao]) (n := 5) (Nat.le_of_ble_eq_true rfl)
  rw [lg_entry_eq]
  generalize (lg_sl ([.ref (ad 0 0), .int a1, .int a2, .ref ao]) ++ List.replicate (5 - (lg_sl ([.ref (ad 0 0), .int a1, .int a2, .ref ao])).length) Slot.unset).toArray = ls at hl ⊢
  have hl : lv_has ls 5 [(0, .ref (ad 0 0)), (1, .int a1), (2, .int a2), (3, .ref ao)] := hl
  refine lv_aload_n hx hb dL_gap_0 rfl (lv_at hl 3 rfl) ?_
  refine lv_iconst (v := 0) hx hb dL_gap_1 (by decide) ?_
  refine lv_aload_n hx hb dL_gap_2 rfl (lv_at hl 0 rfl) ?_
  refine lv_iload_n hx hb dL_gap_3 rfl (lv_at hl 1 rfl) ?_
  refine lv_iload_n hx hb dL_gap_4 rfl (lv_at hl 2 rfl) ?_
  refine yf_l [outc cy ao o] suf (yr_V [outc cy ao o] suf [.int a1, .int a2] [.int 0, .ref ao] ⟨hx, hb, hml, hown, hts⟩ (ctX2_gap l D cy htr base ad σ a1 a2 q hm _) (cwV 2 hts gL_gap_X2_gap rfl rfl rfl (by decide +kernel) ⟨Nat.le_of_ble_eq_true rfl, Nat.le_of_ble_eq_true rfl⟩) hK hXX hAb hbs hP hD hS 0 cw_0 rfl rfl rfl hl.1 rfl (Nat.le_of_ble_eq_true rfl) dL_gap_5 ⟨Nat.le_of_ble_eq_true rfl, Nat.le_of_ble_eq_true rfl⟩) hP hD hS hA (fun q9 ce H locs ho hP hD hS hce hcv hcl => ?_) (fun rv H locs ho hP hD hS => ?_)
  · have e1 : oL_gap q o = o := by unfold oL_gap; rw [ho]
    have e2 : rL_gap q = 1 := by unfold rL_gap; rw [ho]
    rw [e1, e2]
    refine vx_catch hown [] ⟨0, 9, 12, 13⟩ [] htb (fun z hz => by cases hz) (by decide) (by decide) (hts _ lkL_gap_cl) (va_Nw.use rfl hXX.2.2.1) hce hcv hcl ?_
    refine lv_astore (lv' := [(4, .ref q9), (0, .ref (ad 0 0)), (1, .int a1), (2, .int a2), (3, .ref ao)]) hx hb dL_gap_12 hl (by decide) rfl (fun ls hl => ?_)
    refine lv_iconst (v := 1) hx hb dL_gap_14 (by decide) ?_
    exact W.iret hx hb hr (fun t ht hW => ⟨⟨1, (), rfl, rfl, by rw [ht]; exact hP, hD⟩, hS.F ht⟩) hS.2.2 dL_gap_15
  · have e1 : oL_gap q o = vp_updL o (Int32.toNatClampNeg (0 : Int32)) rv := by unfold oL_gap; rw [ho]
    have e2 : rL_gap q = 0 := by unfold rL_gap; rw [ho]
    rw [e1, e2]
    refine va_last hx hb hK.1 hP hD hS 0 1 rfl rfl (inb_vp (by decide)) dL_gap_8 (fun H locs hP hD hS => ?_)
    refine lv_goto (tgt := 16) hx hb dL_gap_9 (by decide) ?_
    refine lv_iconst (v := 0) hx hb dL_gap_16 (by decide) ?_
    exact W.iret hx hb hr (fun t ht hW => ⟨⟨0, (), rfl, rfl, by rw [ht]; exact hP, hD⟩, hS.F ht⟩) hS.2.2 dL_gap_17
abbrev rmL_cost : Room := { frames := 7, cells := 1, slots := 6, locals := 120 }
theorem lkL_cost_cl : Cond.classLink RL 13 "java/util/NoSuchElementException" ∈ wsL_cost := by decide +kernel
def oL_cost (q : Option Int64 × ST) (o : Nat → Int64) : Nat → Int64 := match q.1 with | none => o | some v => vp_updL o (Int32.toNatClampNeg (0 : Int32)) v
def rL_cost (q : Option Int64 × ST) : Int32 := match q.1 with | none => 1 | some _ => 0
set_option maxHeartbeats 4000000 in
set_option maxRecDepth 100000 in
theorem ctL_cost (l : Launch) (htr : l.stackTraces = false) (base : Nat) (D : va_G) (cy : Nat → ClassId) (ad : Nat → Nat → Nat) (suf : va_W) (ao : Nat) (o : Nat → Int64) (σ : ST) (a1 : Int32) (a2 : Int32) (a3 : Int32) (q : Option Int64 × ST) (hm : mX2_cost σ a1 a2 a3 = some q) (sz : Nat) : Met l yL_cost wsL_cost rmL_cost (va_Pc [.ref (ad 0 0), .int a1, .int a2, .int a3, .ref ao] (yPre base D cy (outc cy ao o :: (cw cy ad σ ++ suf)) sz)) (zQi D (outc cy ao (oL_cost q o) :: (cw cy ad q.2 ++ suf)) (va_A (outc cy ao o :: (cw cy ad σ ++ suf)) sz) (rL_cost q)) 1 6 (va_A (outc cy ao o :: (cw cy ad σ ++ suf)) sz) := by
  refine va_MetW (cc := cL_cost) (maxL := 6) (ret := (some .int)) (by decide) rfl ?_
  intro p e s m args below meth c s₁ B hml hv
  obtain ⟨rfl, ⟨hsz, hP, hK, hD0⟩, ⟨hbs, hbw⟩, hXX⟩ := hv
  have hx := B.exec
  have hb := B.bytes
  have hr := B.returns
  have hts := atoms_spec (ws := wsL_cost) B.pre
  have hown : s.vm.findClass RL = some m.cls := findClass_of_methodNamed B.named
  have hlocks := B.notSynchronized
  have htb := vx_table (x := yL_cost) B (hts _ List.mem_cons_self)
  subst hsz
  have hD := hD0.self (sz := s.heap.size)
  have hAb : ∀ q, va_A (outc cy ao o :: (cw cy ad σ ++ suf)) s.heap.size q → base ≤ q := fun q h => by
    rcases h with ⟨k, e, h⟩ | h
    · exact hbw k _ h
    · exact Nat.le_trans hbs h
  generalize hAe : va_A (outc cy ao o :: (cw cy ad σ ++ suf)) s.heap.size = A at hD hAb ⊢
  have hA : ∀ q : Nat, s.heap.size ≤ q → A q := fun q h => by rw [← hAe]; exact Or.inr h
  have hS : va_S A s.heap s.heap [] := va_S.rf
  have hl := lv_entry ([.ref (ad 0 0), .int a1, .int a2, .int a3, .ref ao]) (n := 6) (Nat.le_of_ble_eq_true rfl)
  rw [lg_entry_eq]
  generalize (lg_sl ([.ref (ad 0 0), .int a1, .int a2, .int a3, .ref ao]) ++ List.replicate (6 - (lg_sl ([.ref (ad 0 0), .int a1, .int a2, .int a3, .ref ao])).length) Slot.unset).toArray = ls at hl ⊢
  have hl : lv_has ls 6 [(0, .ref (ad 0 0)), (1, .int a1), (2, .int a2), (3, .int a3), (4, .ref ao)] := hl
  refine lv_aload hx hb dL_cost_0 (lv_at hl 4 rfl) ?_
  refine lv_iconst (v := 0) hx hb dL_cost_2 (by decide) ?_
  refine lv_aload_n hx hb dL_cost_3 rfl (lv_at hl 0 rfl) ?_
  refine lv_iload_n hx hb dL_cost_4 rfl (lv_at hl 1 rfl) ?_
  refine lv_iload_n hx hb dL_cost_5 rfl (lv_at hl 2 rfl) ?_
  refine lv_iload_n hx hb dL_cost_6 rfl (lv_at hl 3 rfl) ?_
  refine yf_l [outc cy ao o] suf (yr_V [outc cy ao o] suf [.int a1, .int a2, .int a3] [.int 0, .ref ao] ⟨hx, hb, hml, hown, hts⟩ (ctX2_cost l D cy htr base ad σ a1 a2 a3 q hm _) (cwV 3 hts gL_cost_X2_cost rfl rfl rfl (by decide +kernel) ⟨Nat.le_of_ble_eq_true rfl, Nat.le_of_ble_eq_true rfl⟩) hK hXX hAb hbs hP hD hS 0 cw_0 rfl rfl rfl hl.1 rfl (Nat.le_of_ble_eq_true rfl) dL_cost_7 ⟨Nat.le_of_ble_eq_true rfl, Nat.le_of_ble_eq_true rfl⟩) hP hD hS hA (fun q9 ce H locs ho hP hD hS hce hcv hcl => ?_) (fun rv H locs ho hP hD hS => ?_)
  · have e1 : oL_cost q o = o := by unfold oL_cost; rw [ho]
    have e2 : rL_cost q = 1 := by unfold rL_cost; rw [ho]
    rw [e1, e2]
    refine vx_catch hown [] ⟨0, 11, 14, 13⟩ [] htb (fun z hz => by cases hz) (by decide) (by decide) (hts _ lkL_cost_cl) (va_Nw.use rfl hXX.2.2.1) hce hcv hcl ?_
    refine lv_astore (lv' := [(5, .ref q9), (0, .ref (ad 0 0)), (1, .int a1), (2, .int a2), (3, .int a3), (4, .ref ao)]) hx hb dL_cost_14 hl (by decide) rfl (fun ls hl => ?_)
    refine lv_iconst (v := 1) hx hb dL_cost_16 (by decide) ?_
    exact W.iret hx hb hr (fun t ht hW => ⟨⟨1, (), rfl, rfl, by rw [ht]; exact hP, hD⟩, hS.F ht⟩) hS.2.2 dL_cost_17
  · have e1 : oL_cost q o = vp_updL o (Int32.toNatClampNeg (0 : Int32)) rv := by unfold oL_cost; rw [ho]
    have e2 : rL_cost q = 0 := by unfold rL_cost; rw [ho]
    rw [e1, e2]
    refine va_last hx hb hK.1 hP hD hS 0 1 rfl rfl (inb_vp (by decide)) dL_cost_10 (fun H locs hP hD hS => ?_)
    refine lv_goto (tgt := 18) hx hb dL_cost_11 (by decide) ?_
    refine lv_iconst (v := 0) hx hb dL_cost_18 (by decide) ?_
    exact W.iret hx hb hr (fun t ht hW => ⟨⟨0, (), rfl, rfl, by rw [ht]; exact hP, hD⟩, hS.F ht⟩) hS.2.2 dL_cost_19
abbrev rmL_value : Room := { frames := 7, cells := 1, slots := 6, locals := 136 }
theorem lkL_value_cl : Cond.classLink RL 13 "java/util/NoSuchElementException" ∈ wsL_value := by decide +kernel
def oL_value (q : Option Int64 × ST) (o : Nat → Int64) : Nat → Int64 := match q.1 with | none => o | some v => vp_updL o (Int32.toNatClampNeg (0 : Int32)) v
def rL_value (q : Option Int64 × ST) : Int32 := match q.1 with | none => 1 | some _ => 0
set_option maxHeartbeats 4000000 in
set_option maxRecDepth 100000 in
theorem ctL_value (l : Launch) (htr : l.stackTraces = false) (base : Nat) (D : va_G) (cy : Nat → ClassId) (ad : Nat → Nat → Nat) (suf : va_W) (ao : Nat) (o : Nat → Int64) (σ : ST) (a1 : Int32) (a2 : Int32) (q : Option Int64 × ST) (hm : mX2_value σ a1 a2 = some q) (sz : Nat) : Met l yL_value wsL_value rmL_value (va_Pc [.ref (ad 0 0), .int a1, .int a2, .ref ao] (yPre base D cy (outc cy ao o :: (cw cy ad σ ++ suf)) sz)) (zQi D (outc cy ao (oL_value q o) :: (cw cy ad q.2 ++ suf)) (va_A (outc cy ao o :: (cw cy ad σ ++ suf)) sz) (rL_value q)) 1 6 (va_A (outc cy ao o :: (cw cy ad σ ++ suf)) sz) := by
  refine va_MetW (cc := cL_value) (maxL := 5) (ret := (some .int)) (by decide) rfl ?_
  intro p e s m args below meth c s₁ B hml hv
  obtain ⟨rfl, ⟨hsz, hP, hK, hD0⟩, ⟨hbs, hbw⟩, hXX⟩ := hv
  have hx := B.exec
  have hb := B.bytes
  have hr := B.returns
  have hts := atoms_spec (ws := wsL_value) B.pre
  have hown : s.vm.findClass RL = some m.cls := findClass_of_methodNamed B.named
  have hlocks := B.notSynchronized
  have htb := vx_table (x := yL_value) B (hts _ List.mem_cons_self)
  subst hsz
  have hD := hD0.self (sz := s.heap.size)
  have hAb : ∀ q, va_A (outc cy ao o :: (cw cy ad σ ++ suf)) s.heap.size q → base ≤ q := fun q h => by
    rcases h with ⟨k, e, h⟩ | h
    · exact hbw k _ h
    · exact Nat.le_trans hbs h
  generalize hAe : va_A (outc cy ao o :: (cw cy ad σ ++ suf)) s.heap.size = A at hD hAb ⊢
  have hA : ∀ q : Nat, s.heap.size ≤ q → A q := fun q h => by rw [← hAe]; exact Or.inr h
  have hS : va_S A s.heap s.heap [] := va_S.rf
  have hl := lv_entry ([.ref (ad 0 0), .int a1, .int a2, .ref ao]) (n := 5) (Nat.le_of_ble_eq_true rfl)
  rw [lg_entry_eq]
  generalize (lg_sl ([.ref (ad 0 0), .int a1, .int a2, .ref ao]) ++ List.replicate (5 - (lg_sl ([.ref (ad 0 0), .int a1, .int a2, .ref ao])).length) Slot.unset).toArray = ls at hl ⊢
  have hl : lv_has ls 5 [(0, .ref (ad 0 0)), (1, .int a1), (2, .int a2), (3, .ref ao)] := hl
  refine lv_aload_n hx hb dL_value_0 rfl (lv_at hl 3 rfl) ?_
  refine lv_iconst (v := 0) hx hb dL_value_1 (by decide) ?_
  refine lv_aload_n hx hb dL_value_2 rfl (lv_at hl 0 rfl) ?_
  refine lv_iload_n hx hb dL_value_3 rfl (lv_at hl 1 rfl) ?_
  refine lv_iload_n hx hb dL_value_4 rfl (lv_at hl 2 rfl) ?_
  refine yf_l [outc cy ao o] suf (yr_V [outc cy ao o] suf [.int a1, .int a2] [.int 0, .ref ao] ⟨hx, hb, hml, hown, hts⟩ (ctX2_value l D cy htr base ad σ a1 a2 q hm _) (cwV 2 hts gL_value_X2_value rfl rfl rfl (by decide +kernel) ⟨Nat.le_of_ble_eq_true rfl, Nat.le_of_ble_eq_true rfl⟩) hK hXX hAb hbs hP hD hS 0 cw_0 rfl rfl rfl hl.1 rfl (Nat.le_of_ble_eq_true rfl) dL_value_5 ⟨Nat.le_of_ble_eq_true rfl, Nat.le_of_ble_eq_true rfl⟩) hP hD hS hA (fun q9 ce H locs ho hP hD hS hce hcv hcl => ?_) (fun rv H locs ho hP hD hS => ?_)
  · have e1 : oL_value q o = o := by unfold oL_value; rw [ho]
    have e2 : rL_value q = 1 := by unfold rL_value; rw [ho]
    rw [e1, e2]
    refine vx_catch hown [] ⟨0, 9, 12, 13⟩ [] htb (fun z hz => by cases hz) (by decide) (by decide) (hts _ lkL_value_cl) (va_Nw.use rfl hXX.2.2.1) hce hcv hcl ?_
    refine lv_astore (lv' := [(4, .ref q9), (0, .ref (ad 0 0)), (1, .int a1), (2, .int a2), (3, .ref ao)]) hx hb dL_value_12 hl (by decide) rfl (fun ls hl => ?_)
    refine lv_iconst (v := 1) hx hb dL_value_14 (by decide) ?_
    exact W.iret hx hb hr (fun t ht hW => ⟨⟨1, (), rfl, rfl, by rw [ht]; exact hP, hD⟩, hS.F ht⟩) hS.2.2 dL_value_15
  · have e1 : oL_value q o = vp_updL o (Int32.toNatClampNeg (0 : Int32)) rv := by unfold oL_value; rw [ho]
    have e2 : rL_value q = 0 := by unfold rL_value; rw [ho]
    rw [e1, e2]
    refine va_last hx hb hK.1 hP hD hS 0 1 rfl rfl (inb_vp (by decide)) dL_value_8 (fun H locs hP hD hS => ?_)
    refine lv_goto (tgt := 16) hx hb dL_value_9 (by decide) ?_
    refine lv_iconst (v := 0) hx hb dL_value_16 (by decide) ?_
    exact W.iret hx hb hr (fun t ht hW => ⟨⟨0, (), rfl, rfl, by rw [ht]; exact hP, hD⟩, hS.F ht⟩) hS.2.2 dL_value_17
abbrev rmL_fixed : Room := { frames := 7, cells := 1, slots := 6, locals := 114 }
theorem lkL_fixed_cl : Cond.classLink RL 13 "java/util/NoSuchElementException" ∈ wsL_fixed := by decide +kernel
def oL_fixed (q : Option Int64 × ST) (o : Nat → Int64) : Nat → Int64 := match q.1 with | none => o | some v => vp_updL o (Int32.toNatClampNeg (0 : Int32)) v
def rL_fixed (q : Option Int64 × ST) : Int32 := match q.1 with | none => 1 | some _ => 0
set_option maxHeartbeats 4000000 in
set_option maxRecDepth 100000 in
theorem ctL_fixed (l : Launch) (htr : l.stackTraces = false) (base : Nat) (D : va_G) (cy : Nat → ClassId) (ad : Nat → Nat → Nat) (suf : va_W) (ao : Nat) (o : Nat → Int64) (σ : ST) (a1 : Int32) (q : Option Int64 × ST) (hm : mX2_fixed σ a1 = some q) (sz : Nat) : Met l yL_fixed wsL_fixed rmL_fixed (va_Pc [.ref (ad 0 0), .int a1, .ref ao] (yPre base D cy (outc cy ao o :: (cw cy ad σ ++ suf)) sz)) (zQi D (outc cy ao (oL_fixed q o) :: (cw cy ad q.2 ++ suf)) (va_A (outc cy ao o :: (cw cy ad σ ++ suf)) sz) (rL_fixed q)) 1 6 (va_A (outc cy ao o :: (cw cy ad σ ++ suf)) sz) := by
  refine va_MetW (cc := cL_fixed) (maxL := 4) (ret := (some .int)) (by decide) rfl ?_
  intro p e s m args below meth c s₁ B hml hv
  obtain ⟨rfl, ⟨hsz, hP, hK, hD0⟩, ⟨hbs, hbw⟩, hXX⟩ := hv
  have hx := B.exec
  have hb := B.bytes
  have hr := B.returns
  have hts := atoms_spec (ws := wsL_fixed) B.pre
  have hown : s.vm.findClass RL = some m.cls := findClass_of_methodNamed B.named
  have hlocks := B.notSynchronized
  have htb := vx_table (x := yL_fixed) B (hts _ List.mem_cons_self)
  subst hsz
  have hD := hD0.self (sz := s.heap.size)
  have hAb : ∀ q, va_A (outc cy ao o :: (cw cy ad σ ++ suf)) s.heap.size q → base ≤ q := fun q h => by
    rcases h with ⟨k, e, h⟩ | h
    · exact hbw k _ h
    · exact Nat.le_trans hbs h
  generalize hAe : va_A (outc cy ao o :: (cw cy ad σ ++ suf)) s.heap.size = A at hD hAb ⊢
  have hA : ∀ q : Nat, s.heap.size ≤ q → A q := fun q h => by rw [← hAe]; exact Or.inr h
  have hS : va_S A s.heap s.heap [] := va_S.rf
  have hl := lv_entry ([.ref (ad 0 0), .int a1, .ref ao]) (n := 4) (Nat.le_of_ble_eq_true rfl)
  rw [lg_entry_eq]
  generalize (lg_sl ([.ref (ad 0 0), .int a1, .ref ao]) ++ List.replicate (4 - (lg_sl ([.ref (ad 0 0), .int a1, .ref ao])).length) Slot.unset).toArray = ls at hl ⊢
  have hl : lv_has ls 4 [(0, .ref (ad 0 0)), (1, .int a1), (2, .ref ao)] := hl
  refine lv_aload_n hx hb dL_fixed_0 rfl (lv_at hl 2 rfl) ?_
  refine lv_iconst (v := 0) hx hb dL_fixed_1 (by decide) ?_
  refine lv_aload_n hx hb dL_fixed_2 rfl (lv_at hl 0 rfl) ?_
  refine lv_iload_n hx hb dL_fixed_3 rfl (lv_at hl 1 rfl) ?_
  refine yf_l [outc cy ao o] suf (yr_V [outc cy ao o] suf [.int a1] [.int 0, .ref ao] ⟨hx, hb, hml, hown, hts⟩ (ctX2_fixed l D cy htr base ad σ a1 q hm _) (cwV 1 hts gL_fixed_X2_fixed rfl rfl rfl (by decide +kernel) ⟨Nat.le_of_ble_eq_true rfl, Nat.le_of_ble_eq_true rfl⟩) hK hXX hAb hbs hP hD hS 0 cw_0 rfl rfl rfl hl.1 rfl (Nat.le_of_ble_eq_true rfl) dL_fixed_4 ⟨Nat.le_of_ble_eq_true rfl, Nat.le_of_ble_eq_true rfl⟩) hP hD hS hA (fun q9 ce H locs ho hP hD hS hce hcv hcl => ?_) (fun rv H locs ho hP hD hS => ?_)
  · have e1 : oL_fixed q o = o := by unfold oL_fixed; rw [ho]
    have e2 : rL_fixed q = 1 := by unfold rL_fixed; rw [ho]
    rw [e1, e2]
    refine vx_catch hown [] ⟨0, 8, 11, 13⟩ [] htb (fun z hz => by cases hz) (by decide) (by decide) (hts _ lkL_fixed_cl) (va_Nw.use rfl hXX.2.2.1) hce hcv hcl ?_
    refine lv_astore_n (lv' := [(3, .ref q9), (0, .ref (ad 0 0)), (1, .int a1), (2, .ref ao)]) hx hb dL_fixed_11 rfl hl (by decide) rfl (fun ls hl => ?_)
    refine lv_iconst (v := 1) hx hb dL_fixed_12 (by decide) ?_
    exact W.iret hx hb hr (fun t ht hW => ⟨⟨1, (), rfl, rfl, by rw [ht]; exact hP, hD⟩, hS.F ht⟩) hS.2.2 dL_fixed_13
  · have e1 : oL_fixed q o = vp_updL o (Int32.toNatClampNeg (0 : Int32)) rv := by unfold oL_fixed; rw [ho]
    have e2 : rL_fixed q = 0 := by unfold rL_fixed; rw [ho]
    rw [e1, e2]
    refine va_last hx hb hK.1 hP hD hS 0 1 rfl rfl (inb_vp (by decide)) dL_fixed_7 (fun H locs hP hD hS => ?_)
    refine lv_goto (tgt := 14) hx hb dL_fixed_8 (by decide) ?_
    refine lv_iconst (v := 0) hx hb dL_fixed_14 (by decide) ?_
    exact W.iret hx hb hr (fun t ht hW => ⟨⟨0, (), rfl, rfl, by rw [ht]; exact hP, hD⟩, hS.F ht⟩) hS.2.2 dL_fixed_15
abbrev rmL_only : Room := { frames := 7, cells := 1, slots := 6, locals := 134 }
theorem lkL_only_cl : Cond.classLink RL 13 "java/util/NoSuchElementException" ∈ wsL_only := by decide +kernel
def oL_only (q : Option Int64 × ST) (o : Nat → Int64) : Nat → Int64 := match q.1 with | none => o | some v => vp_updL o (Int32.toNatClampNeg (0 : Int32)) v
def rL_only (q : Option Int64 × ST) : Int32 := match q.1 with | none => 1 | some _ => 0
set_option maxHeartbeats 4000000 in
set_option maxRecDepth 100000 in
theorem ctL_only (l : Launch) (htr : l.stackTraces = false) (base : Nat) (D : va_G) (cy : Nat → ClassId) (ad : Nat → Nat → Nat) (suf : va_W) (ao : Nat) (o : Nat → Int64) (σ : ST) (a1 : Int32) (q : Option Int64 × ST) (hm : mX2_only σ a1 = some q) (sz : Nat) : Met l yL_only wsL_only rmL_only (va_Pc [.ref (ad 0 0), .int a1, .ref ao] (yPre base D cy (outc cy ao o :: (cw cy ad σ ++ suf)) sz)) (zQi D (outc cy ao (oL_only q o) :: (cw cy ad q.2 ++ suf)) (va_A (outc cy ao o :: (cw cy ad σ ++ suf)) sz) (rL_only q)) 1 6 (va_A (outc cy ao o :: (cw cy ad σ ++ suf)) sz) := by
  refine va_MetW (cc := cL_only) (maxL := 4) (ret := (some .int)) (by decide) rfl ?_
  intro p e s m args below meth c s₁ B hml hv
  obtain ⟨rfl, ⟨hsz, hP, hK, hD0⟩, ⟨hbs, hbw⟩, hXX⟩ := hv
  have hx := B.exec
  have hb := B.bytes
  have hr := B.returns
  have hts := atoms_spec (ws := wsL_only) B.pre
  have hown : s.vm.findClass RL = some m.cls := findClass_of_methodNamed B.named
  have hlocks := B.notSynchronized
  have htb := vx_table (x := yL_only) B (hts _ List.mem_cons_self)
  subst hsz
  have hD := hD0.self (sz := s.heap.size)
  have hAb : ∀ q, va_A (outc cy ao o :: (cw cy ad σ ++ suf)) s.heap.size q → base ≤ q := fun q h => by
    rcases h with ⟨k, e, h⟩ | h
    · exact hbw k _ h
    · exact Nat.le_trans hbs h
  generalize hAe : va_A (outc cy ao o :: (cw cy ad σ ++ suf)) s.heap.size = A at hD hAb ⊢
  have hA : ∀ q : Nat, s.heap.size ≤ q → A q := fun q h => by rw [← hAe]; exact Or.inr h
  have hS : va_S A s.heap s.heap [] := va_S.rf
  have hl := lv_entry ([.ref (ad 0 0), .int a1, .ref ao]) (n := 4) (Nat.le_of_ble_eq_true rfl)
  rw [lg_entry_eq]
  generalize (lg_sl ([.ref (ad 0 0), .int a1, .ref ao]) ++ List.replicate (4 - (lg_sl ([.ref (ad 0 0), .int a1, .ref ao])).length) Slot.unset).toArray = ls at hl ⊢
  have hl : lv_has ls 4 [(0, .ref (ad 0 0)), (1, .int a1), (2, .ref ao)] := hl
  refine lv_aload_n hx hb dL_only_0 rfl (lv_at hl 2 rfl) ?_
  refine lv_iconst (v := 0) hx hb dL_only_1 (by decide) ?_
  refine lv_aload_n hx hb dL_only_2 rfl (lv_at hl 0 rfl) ?_
  refine lv_iload_n hx hb dL_only_3 rfl (lv_at hl 1 rfl) ?_
  refine yf_l [outc cy ao o] suf (yr_V [outc cy ao o] suf [.int a1] [.int 0, .ref ao] ⟨hx, hb, hml, hown, hts⟩ (ctX2_only l D cy htr base ad σ a1 q hm _) (cwV 1 hts gL_only_X2_only rfl rfl rfl (by decide +kernel) ⟨Nat.le_of_ble_eq_true rfl, Nat.le_of_ble_eq_true rfl⟩) hK hXX hAb hbs hP hD hS 0 cw_0 rfl rfl rfl hl.1 rfl (Nat.le_of_ble_eq_true rfl) dL_only_4 ⟨Nat.le_of_ble_eq_true rfl, Nat.le_of_ble_eq_true rfl⟩) hP hD hS hA (fun q9 ce H locs ho hP hD hS hce hcv hcl => ?_) (fun rv H locs ho hP hD hS => ?_)
  · have e1 : oL_only q o = o := by unfold oL_only; rw [ho]
    have e2 : rL_only q = 1 := by unfold rL_only; rw [ho]
    rw [e1, e2]
    refine vx_catch hown [] ⟨0, 8, 11, 13⟩ [] htb (fun z hz => by cases hz) (by decide) (by decide) (hts _ lkL_only_cl) (va_Nw.use rfl hXX.2.2.1) hce hcv hcl ?_
    refine lv_astore_n (lv' := [(3, .ref q9), (0, .ref (ad 0 0)), (1, .int a1), (2, .ref ao)]) hx hb dL_only_11 rfl hl (by decide) rfl (fun ls hl => ?_)
    refine lv_iconst (v := 1) hx hb dL_only_12 (by decide) ?_
    exact W.iret hx hb hr (fun t ht hW => ⟨⟨1, (), rfl, rfl, by rw [ht]; exact hP, hD⟩, hS.F ht⟩) hS.2.2 dL_only_13
  · have e1 : oL_only q o = vp_updL o (Int32.toNatClampNeg (0 : Int32)) rv := by unfold oL_only; rw [ho]
    have e2 : rL_only q = 0 := by unfold rL_only; rw [ho]
    rw [e1, e2]
    refine va_last hx hb hK.1 hP hD hS 0 1 rfl rfl (inb_vp (by decide)) dL_only_7 (fun H locs hP hD hS => ?_)
    refine lv_goto (tgt := 14) hx hb dL_only_8 (by decide) ?_
    refine lv_iconst (v := 0) hx hb dL_only_14 (by decide) ?_
    exact W.iret hx hb hr (fun t ht hW => ⟨⟨0, (), rfl, rfl, by rw [ht]; exact hP, hD⟩, hS.F ht⟩) hS.2.2 dL_only_15
abbrev rmL_without : Room := { frames := 7, cells := 1, slots := 6, locals := 136 }
theorem lkL_without_cl : Cond.classLink RL 13 "java/util/NoSuchElementException" ∈ wsL_without := by decide +kernel
def oL_without (q : Option Int64 × ST) (o : Nat → Int64) : Nat → Int64 := match q.1 with | none => o | some v => vp_updL o (Int32.toNatClampNeg (0 : Int32)) v
def rL_without (q : Option Int64 × ST) : Int32 := match q.1 with | none => 1 | some _ => 0
set_option maxHeartbeats 4000000 in
set_option maxRecDepth 100000 in
theorem ctL_without (l : Launch) (htr : l.stackTraces = false) (base : Nat) (D : va_G) (cy : Nat → ClassId) (ad : Nat → Nat → Nat) (suf : va_W) (ao : Nat) (o : Nat → Int64) (σ : ST) (a1 : Int32) (q : Option Int64 × ST) (hm : mX2_without σ a1 = some q) (sz : Nat) : Met l yL_without wsL_without rmL_without (va_Pc [.ref (ad 0 0), .int a1, .ref ao] (yPre base D cy (outc cy ao o :: (cw cy ad σ ++ suf)) sz)) (zQi D (outc cy ao (oL_without q o) :: (cw cy ad q.2 ++ suf)) (va_A (outc cy ao o :: (cw cy ad σ ++ suf)) sz) (rL_without q)) 1 6 (va_A (outc cy ao o :: (cw cy ad σ ++ suf)) sz) := by
  refine va_MetW (cc := cL_without) (maxL := 4) (ret := (some .int)) (by decide) rfl ?_
  intro p e s m args below meth c s₁ B hml hv
  obtain ⟨rfl, ⟨hsz, hP, hK, hD0⟩, ⟨hbs, hbw⟩, hXX⟩ := hv
  have hx := B.exec
  have hb := B.bytes
  have hr := B.returns
  have hts := atoms_spec (ws := wsL_without) B.pre
  have hown : s.vm.findClass RL = some m.cls := findClass_of_methodNamed B.named
  have hlocks := B.notSynchronized
  have htb := vx_table (x := yL_without) B (hts _ List.mem_cons_self)
  subst hsz
  have hD := hD0.self (sz := s.heap.size)
  have hAb : ∀ q, va_A (outc cy ao o :: (cw cy ad σ ++ suf)) s.heap.size q → base ≤ q := fun q h => by
    rcases h with ⟨k, e, h⟩ | h
    · exact hbw k _ h
    · exact Nat.le_trans hbs h
  generalize hAe : va_A (outc cy ao o :: (cw cy ad σ ++ suf)) s.heap.size = A at hD hAb ⊢
  have hA : ∀ q : Nat, s.heap.size ≤ q → A q := fun q h => by rw [← hAe]; exact Or.inr h
  have hS : va_S A s.heap s.heap [] := va_S.rf
  have hl := lv_entry ([.ref (ad 0 0), .int a1, .ref ao]) (n := 4) (Nat.le_of_ble_eq_true rfl)
  rw [lg_entry_eq]
  generalize (lg_sl ([.ref (ad 0 0), .int a1, .ref ao]) ++ List.replicate (4 - (lg_sl ([.ref (ad 0 0), .int a1, .ref ao])).length) Slot.unset).toArray = ls at hl ⊢
  have hl : lv_has ls 4 [(0, .ref (ad 0 0)), (1, .int a1), (2, .ref ao)] := hl
  refine lv_aload_n hx hb dL_without_0 rfl (lv_at hl 2 rfl) ?_
  refine lv_iconst (v := 0) hx hb dL_without_1 (by decide) ?_
  refine lv_aload_n hx hb dL_without_2 rfl (lv_at hl 0 rfl) ?_
  refine lv_iload_n hx hb dL_without_3 rfl (lv_at hl 1 rfl) ?_
  refine yf_l [outc cy ao o] suf (yr_V [outc cy ao o] suf [.int a1] [.int 0, .ref ao] ⟨hx, hb, hml, hown, hts⟩ (ctX2_without l D cy htr base ad σ a1 q hm _) (cwV 1 hts gL_without_X2_without rfl rfl rfl (by decide +kernel) ⟨Nat.le_of_ble_eq_true rfl, Nat.le_of_ble_eq_true rfl⟩) hK hXX hAb hbs hP hD hS 0 cw_0 rfl rfl rfl hl.1 rfl (Nat.le_of_ble_eq_true rfl) dL_without_4 ⟨Nat.le_of_ble_eq_true rfl, Nat.le_of_ble_eq_true rfl⟩) hP hD hS hA (fun q9 ce H locs ho hP hD hS hce hcv hcl => ?_) (fun rv H locs ho hP hD hS => ?_)
  · have e1 : oL_without q o = o := by unfold oL_without; rw [ho]
    have e2 : rL_without q = 1 := by unfold rL_without; rw [ho]
    rw [e1, e2]
    refine vx_catch hown [] ⟨0, 8, 11, 13⟩ [] htb (fun z hz => by cases hz) (by decide) (by decide) (hts _ lkL_without_cl) (va_Nw.use rfl hXX.2.2.1) hce hcv hcl ?_
    refine lv_astore_n (lv' := [(3, .ref q9), (0, .ref (ad 0 0)), (1, .int a1), (2, .ref ao)]) hx hb dL_without_11 rfl hl (by decide) rfl (fun ls hl => ?_)
    refine lv_iconst (v := 1) hx hb dL_without_12 (by decide) ?_
    exact W.iret hx hb hr (fun t ht hW => ⟨⟨1, (), rfl, rfl, by rw [ht]; exact hP, hD⟩, hS.F ht⟩) hS.2.2 dL_without_13
  · have e1 : oL_without q o = vp_updL o (Int32.toNatClampNeg (0 : Int32)) rv := by unfold oL_without; rw [ho]
    have e2 : rL_without q = 0 := by unfold rL_without; rw [ho]
    rw [e1, e2]
    refine va_last hx hb hK.1 hP hD hS 0 1 rfl rfl (inb_vp (by decide)) dL_without_7 (fun H locs hP hD hS => ?_)
    refine lv_goto (tgt := 14) hx hb dL_without_8 (by decide) ?_
    refine lv_iconst (v := 0) hx hb dL_without_14 (by decide) ?_
    exact W.iret hx hb hr (fun t ht hW => ⟨⟨0, (), rfl, rfl, by rw [ht]; exact hP, hD⟩, hS.F ht⟩) hS.2.2 dL_without_15

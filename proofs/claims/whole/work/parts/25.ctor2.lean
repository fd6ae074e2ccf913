theorem vp_cell_extq {cA : ClassId} {n : Nat} {f g : Nat → Option Nat} (h : ∀ j, j < n → f j = g j) : vp_cell cA (n, xr f) = vp_cell cA (n, xr g) := by
  rw [vp_cell_q, vp_cell_q, arrV_ext (fun j hj => by rw [h j hj])]
theorem zO_warm {ty : FieldType} {s U : State} (hW : s.WarmedH U.vm) (h : (Cond.arrayOver ty).before #[] s = true) : (Cond.arrayOver ty).before #[] U = true := by
  have e := Cond.arrayOver_setVmC (args := #[]) (s := s) hW.alike ty
  rw [h] at e
  exact e
abbrev hdX2 (h0 q1 qL q3 q4 q5 : Nat) : Nat × va_E := (h0, .inr (2, [.ref q1, .int 0, .int 600, .int 1, .int 40, .ref qL, .ref q3, .ref q4, .ref q5]))
abbrev bdX2 (q f : Nat) : Nat × va_E := (q, .inr (0, [.int 0, .int 0, .int 0, .int 0, .int 0, .int 0, .int 0, .int 0, .ref f, .null]))
abbrev flX2 (cy : Nat → ClassId) (f : Nat) : Nat × va_E := (f, .inl (cy 0, 41, .inl (fun _ => 0)))
abbrev rsX2 (cy : Nat → ClassId) (adL : Nat → Nat → Nat) (q3 q4 q5 : Nat) : va_W := [(q3, .inl (cy 0, 8, .inl (fun _ => 0))), (q4, .inl (cy 1, 8, xl (fun _ => 0))), (q5, .inl (cy 0, 8, .inl (fun _ => 0)))] ++ w1X1 cy adL
/-- the world at the loop's head, i bonds made -/
def wLX2 (cy : Nat → ClassId) (h0 q1 qL q3 q4 q5 : Nat) (adL : Nat → Nat → Nat) (i : Nat) (b f : Nat → Nat) : va_W := [hdX2 h0 q1 qL q3 q4 q5, (q1, .inl (cy 2, 8, xr (fun j => if j < i then some (b j) else none)))] ++ (rsX2 cy adL q3 q4 q5 ++ ((List.range i).map (fun j => bdX2 (b j) (f j)) ++ (List.range i).map (fun j => flX2 cy (f j))))
theorem wLX2_0 {cy : Nat → ClassId} {h0 q1 qL q3 q4 q5 : Nat} {adL : Nat → Nat → Nat} {b f : Nat → Nat} : wLX2 cy h0 q1 qL q3 q4 q5 adL 0 b f = [hdX2 h0 q1 qL q3 q4 q5, (q1, .inl (cy 2, 8, xr (fun _ => none)))] ++ rsX2 cy adL q3 q4 q5 := by
  have e : (fun j => if j < 0 then some (b j) else none) = (fun _ : Nat => (none : Option Nat)) := by funext j; simp
  unfold wLX2
  rw [e]
  simp
theorem permX2a {α : Type} (x y a b c : α) (r : List α) : (x :: (((y :: r) ++ [a]) ++ [b]) ++ [c]).Perm ([x, y] ++ ([a, b, c] ++ r)) := by
  classical
  rw [List.perm_iff_count]
  intro z
  simp only [List.count_append, List.count_cons, List.count_nil, List.nil_append, List.cons_append]
  omega
theorem permX2b {α : Type} (x y u v : α) (r m n : List α) : (([x, y] ++ (r ++ (m ++ n))) ++ [u, v]).Perm ([x, y] ++ (r ++ ((m ++ [u]) ++ (n ++ [v])))) := by
  classical
  rw [List.perm_iff_count]
  intro z
  simp only [List.count_append, List.count_cons, List.count_nil, List.nil_append, List.cons_append]
  omega
theorem permX2c {α : Type} (x0 x1 x2 x3 x4 x5 x6 x7 x8 x9 x10 x11 x12 : α) (mb mf rV rA rL : List α) : ([x0, x1] ++ (([x3, x4, x5] ++ ([x2, x6, x7, x8, x9, x10, x11, x12] ++ (rV ++ (rA ++ rL)))) ++ (mb ++ mf))).Perm ([x0, x1, x2, x3, x4, x5, x6, x7, x8, x9, x10, x11, x12] ++ (mb ++ (mf ++ (rV ++ (rA ++ (rL ++ [])))))) := by
  classical
  rw [List.perm_iff_count]
  intro z
  simp only [List.count_append, List.count_cons, List.count_nil, List.nil_append, List.cons_append]
  omega
def adX2 (h0 q1 q3 q4 q5 : Nat) (adL : Nat → Nat → Nat) (b f : Nat → Nat) : Nat → Nat → Nat := fun t i => match t with
  | 0 => h0
  | 1 => q1
  | 3 => q3
  | 4 => q4
  | 5 => q5
  | 13 => b i
  | 14 => f i
  | n => adL n i
theorem cw_init {cy : Nat → ClassId} {h0 q1 q3 q4 q5 : Nat} {adL : Nat → Nat → Nat} {b f : Nat → Nat} : ([hdX2 h0 q1 (adL 2 0) q3 q4 q5, (q1, .inl (cy 2, 8, xr (fun j => some (b j))))] ++ (rsX2 cy adL q3 q4 q5 ++ ((List.range 8).map (fun j => bdX2 (b j) (f j)) ++ (List.range 8).map (fun j => flX2 cy (f j))))).Perm (cw cy (adX2 h0 q1 q3 q4 q5 adL b f) c0st) := by
  exact permX2c _ _ _ _ _ _ _ _ _ _ _ _ _ _ _ _ _ _
abbrev rmX2_init : Room := { frames := 2, cells := 111, slots := 1857, locals := 45 }
abbrev w0X2_init (h0 : Nat) : va_W := [((h0, .inr (2, [.null, .int 0, .int 0, .int 0, .int 0, .null, .null, .null, .null])) : Nat × va_E)]
theorem lkX2_init_ol : Cond.methodLink RX2 3 objectInit ∈ wsX2_init := by decide +kernel
theorem lkX2_init_oi : Cond.instanceMethod objectInit ∈ wsX2_init := by decide +kernel
theorem lkX2_init_oc : Cond.code objectInit ⟨#[0xb1]⟩ 1 none ∈ wsX2_init := by decide +kernel
theorem lkX2_init_cl9 : Cond.classLink RX2 9 RX0 ∈ wsX2_init := by decide +kernel
theorem lkX2_init_11 : Cond.fieldLink RX2 11 "DeliveryBasket" "bonds" "[LDeliveryBasket$Bond;" ∈ wsX2_init := by decide +kernel
theorem lkX2_init_15 : Cond.fieldLink RX2 15 "DeliveryBasket" "notional" "I" ∈ wsX2_init := by decide +kernel
theorem lkX2_init_19 : Cond.fieldLink RX2 19 "DeliveryBasket" "least" "I" ∈ wsX2_init := by decide +kernel
theorem lkX2_init_22 : Cond.fieldLink RX2 22 "DeliveryBasket" "most" "I" ∈ wsX2_init := by decide +kernel
theorem lkX2_init_cl25 : Cond.classLink RX2 25 RX1 ∈ wsX2_init := by decide +kernel
theorem lkX2_init_in1 : Cond.instantiable RX1 12 ∈ wsX2_init := by decide +kernel
theorem lkX2_init_ini1 : Cond.initialized RX1 ∈ wsX2_init := by decide +kernel
theorem lkX2_init_im1 : Cond.instanceMethod yX1_init ∈ wsX2_init := by decide +kernel
theorem lkX2_init_28 : Cond.fieldLink RX2 28 "DeliveryBasket" "lattice" "LDeliveryBasket$Lattice;" ∈ wsX2_init := by decide +kernel
theorem lkX2_init_acint : Cond.arrayClass .int ∈ wsX2_init := by decide +kernel
theorem lkX2_init_32 : Cond.fieldLink RX2 32 "DeliveryBasket" "prices" "[I" ∈ wsX2_init := by decide +kernel
theorem lkX2_init_aclong : Cond.arrayClass .long ∈ wsX2_init := by decide +kernel
theorem lkX2_init_36 : Cond.fieldLink RX2 36 "DeliveryBasket" "costs" "[J" ∈ wsX2_init := by decide +kernel
theorem lkX2_init_40 : Cond.fieldLink RX2 40 "DeliveryBasket" "taken" "[I" ∈ wsX2_init := by decide +kernel
theorem lkX2_init_in0 : Cond.instantiable RX0 10 ∈ wsX2_init := by decide +kernel
theorem lkX2_init_ini0 : Cond.initialized RX0 ∈ wsX2_init := by decide +kernel
theorem lkX2_init_im0 : Cond.instanceMethod yX0_init ∈ wsX2_init := by decide +kernel
theorem iwX2_init_X2 : ∀ w ∈ wsX20, w ∈ wsX2_init := fun _ h => List.mem_cons_of_mem _ (List.mem_append_left _ (List.mem_append_left _ (List.mem_append_right _ h)))
theorem iwX2_init_X1 : ∀ w ∈ wsX10, w ∈ wsX2_init := fun _ h => List.mem_cons_of_mem _ (List.mem_append_left _ (List.mem_append_right _ h))
theorem iwX2_init_X0 : ∀ w ∈ wsX00, w ∈ wsX2_init := fun _ h => List.mem_cons_of_mem _ (List.mem_append_right _ h)
set_option maxHeartbeats 4000000 in
set_option maxRecDepth 100000 in
theorem kX2_init_68 {p : Program} {l : Launch} {e : Env} {s : State} {m : MethodId} {args : Array Value} {below : List Frame} {meth : Method} {c : Code} {D : va_G} {cy : Nat → ClassId} {A : Nat → Prop} (C : Cx p s m args meth c cX2_init 2 none RX2 wsX2_init D cy A) (hin : meth.name = "<init>") (h0 q1 qL q3 q4 q5 : Nat) (adL : Nat → Nat → Nat) (hqL : adL 2 0 = qL) : ∀ (n i : Nat), i + n = 8 → ∀ (b f : Nat → Nat) (H : Heap) (locs : List Loc), va_P D vwCl (wLX2 cy h0 q1 qL q3 q4 q5 adL i b f) H → va_D A (wLX2 cy h0 q1 qL q3 q4 q5 adL i b f) → va_S A s.heap H locs → ∀ ls : Array Slot, lv_has ls 2 [(0, .ref h0), (1, .int (nI i))] → W p l e rmX2_init s m args below meth c H locs (95 + 2 * i) (1449 + 51 * i) (MQ below (va_Qv (fun ad : Nat → Nat → Nat => ad 0 0 = h0) (fun ad t => va_P D vwCl (cw cy ad c0st) t.heap ∧ va_D A (cw cy ad c0st)) A) args s 111 1857 A) (F0 m 68 ls []) := by
  obtain ⟨hx, hb, hml, hown, hts, hr, hlocks, hK, hA⟩ := id C
  intro n
  induction n with
  | zero =>
    intro i hi b f H locs hP hD hS ls hl
    have e : i = 8 := by omega
    subst e
    refine lv_iload_n hx hb dX2_init_68 rfl (lv_at hl 1 rfl) ?_
    refine lv_bipush (v := 8) hx hb dX2_init_69 (by decide) ?_
    refine lv_icmp_ge (tgt := 93) hx hb dX2_init_71 (by decide) (fun _ => ?_) (fun c_1 => absurd (by decide) c_1)
    subst hqL
    have hP2 : va_P D vwCl ([hdX2 h0 q1 (adL 2 0) q3 q4 q5, (q1, .inl (cy 2, 8, xr (fun j => some (b j))))] ++ (rsX2 cy adL q3 q4 q5 ++ ((List.range 8).map (fun j => bdX2 (b j) (f j)) ++ (List.range 8).map (fun j => flX2 cy (f j))))) H := by
      rw [vaP_iff] at hP ⊢
      intro x hx
      rcases List.mem_append.mp hx with h | h
      · rcases List.mem_cons.mp h with h | h
        · exact hP x (List.mem_append_left _ (List.mem_cons.mpr (Or.inl h)))
        · have h := List.mem_singleton.mp h
          subst h
          have h2 : H[q1]? = some (vp_cell (cy 2) (8, xr (fun j => if j < 8 then some (b j) else none))) := hP (q1, .inl (cy 2, 8, xr (fun j => if j < 8 then some (b j) else none))) (List.mem_append_left _ (List.mem_cons_of_mem _ List.mem_cons_self))
          show H[q1]? = some (vp_cell (cy 2) (8, xr (fun j => some (b j))))
          rw [h2, vp_cell_extq (f := fun j => if j < 8 then some (b j) else none) (g := fun j => some (b j)) (fun j hj => if_pos hj)]
      · exact hP x (List.mem_append_right _ h)
    have hD2 : va_D A ([hdX2 h0 q1 (adL 2 0) q3 q4 q5, (q1, .inl (cy 2, 8, xr (fun j => some (b j))))] ++ (rsX2 cy adL q3 q4 q5 ++ ((List.range 8).map (fun j => bdX2 (b j) (f j)) ++ (List.range 8).map (fun j => flX2 cy (f j))))) := vaD_addr (a := wLX2 cy h0 q1 (adL 2 0) q3 q4 q5 adL 8 b f) (by unfold wLX2; rw [List.map_append, List.map_append]; exact List.Perm.refl _) hD
    have hP3 := vaP_perm cw_init hP2
    have hD3 := vaD_perm cw_init hD2
    exact W.vret hx hb hr (fun t ht hW => ⟨⟨adX2 h0 q1 q3 q4 q5 adL b f, rfl, rfl, by rw [ht]; exact hP3, hD3⟩, hS.F ht⟩) hS.2.2 dX2_init_93 hlocks
  | succ n ih =>
    intro i hi b f H locs hP hD hS ls hl
    have hlt : i < 8 := by omega
    refine lv_iload_n hx hb dX2_init_68 rfl (lv_at hl 1 rfl) ?_
    refine lv_bipush (v := 8) hx hb dX2_init_69 (by decide) ?_
    refine lv_icmp_ge (tgt := 93) hx hb dX2_init_71 (by decide) (fun c_1 => absurd c_1 (show ¬ (nI 8) ≤ nI i from nI_ge hlt (by decide))) (fun _ => ?_)
    refine lv_aload_n hx hb dX2_init_74 rfl (lv_at hl 0 rfl) ?_
    refine va_get (D := D) (ci := 2) (v := .ref q1) (C := RX2) (T := TX2) (N := 9) hx hb hts iwX2_init_X2 hown hK.1 hP 0 rfl rfl 0 (by decide) (hts _ lkX2_init_11) (fun _ h9 => h9) rfl dX2_init_75 ?_
    refine lv_iload_n hx hb dX2_init_78 rfl (lv_at hl 1 rfl) ?_
    refine va_new (ci := 0) (fs := [.int 0, .int 0, .int 0, .int 0, .int 0, .int 0, .int 0, .int 0, .null, .null]) (C := RX0) (T := TX0) (N := 10) hx hb hts iwX2_init_X0 tyX0 tyX0_ok hown (hts _ lkX2_init_cl9) (hts _ lkX2_init_in0) (hts _ lkX2_init_ini0) hK.1 hP hD hS hA rfl (fun j hj => by rcases (show j = 0 ∨ j = 1 ∨ j = 2 ∨ j = 3 ∨ j = 4 ∨ j = 5 ∨ j = 6 ∨ j = 7 ∨ j = 8 ∨ j = 9 by omega) with rfl | rfl | rfl | rfl | rfl | rfl | rfl | rfl | rfl | rfl <;> rfl) (by show 95 + 2 * i + 1 ≤ 111; omega) (by show 1449 + 51 * i + 10 ≤ 1857; omega) dX2_init_79 (fun qB H hP hD hS => ?_)
    refine lv_dup hx hb dX2_init_82 rfl ?_
    have hP : va_P D vwCl (wLX2 cy h0 q1 qL q3 q4 q5 adL i b f ++ (w0X0_init qB ++ [])) H := hP
    have hD : va_D A (wLX2 cy h0 q1 qL q3 q4 q5 adL i b f ++ (w0X0_init qB ++ [])) := hD
    have hF := z_fr (z_partD hD) hS hA
    refine va_callv (va_runIN (As := []) (rest := [.ref qB, .int (nI i), .ref q1]) ⟨hx, hb, hml, hown, hts⟩ (ctX0_init l D cy qB H.size) ⟨va_cnB 0 hts gX2_init_X0_init_n43 rfl rfl rfl hK.2.2.2.2.2 (hts _ lkX2_init_ini0) (by decide +kernel) ⟨Nat.le_of_ble_eq_true rfl, Nat.le_of_ble_eq_true rfl⟩, rfl, (hts _ lkX2_init_im0)⟩ ⟨zBlind, fun U hU hW => ⟨rfl, by rw [hU], by rw [hU]; exact z_partP hP, hK.warm hW, (z_partD hD).weaken (fun _ _ _ _ => trivial)⟩⟩ rfl rfl hl.1 rfl (lv_room (Nat.le_of_ble_eq_true rfl)) dX2_init_83 ⟨by show 95 + 2 * i + 1 + 1 ≤ 111; omega, by show 1449 + 51 * i + 10 + 41 ≤ 1857; omega⟩) hS (fun q _ h => hF q h) hF (fun qF t H1 locs1 ht hvm hw hB hz hk hS => ?_)
    obtain ⟨hP1, hD1⟩ := hB
    rw [ht] at hP1
    obtain ⟨hP, hD⟩ := z_join (wLX2 cy h0 q1 qL q3 q4 q5 adL i b f) [] hP hD hk hF hP1 hD1
    rw [List.append_nil] at hP hD
    generalize H1 = H at hP hS ⊢
    have hlen : (wLX2 cy h0 q1 qL q3 q4 q5 adL i b f).length = (wLX2 cy h0 q1 qL q3 q4 q5 adL i b f).length := rfl
    refine va_astq (ci := 0) (r := (RX0, TX0, 10)) (vs := [.int 0, .int 0, .int 0, .int 0, .int 0, .int 0, .int 0, .int 0, .ref qF, .null]) hx hb hK.1 hP hD hS 1 2 ((wLX2 cy h0 q1 qL q3 q4 q5 adL i b f).length + 0) rfl rfl (by rw [zz_app hlen]; rfl) rfl (vp_in_nI hlt (by decide)) dX2_init_86 (fun H locs hP hD hS => ?_)
    have eF : va_up (fun j => if j < i then some (b j) else none) (Int32.toNatClampNeg (nI i)) (some qB) = (fun j => if j < i + 1 then some ((fun j => if j = i then qB else b j) j) else none) := by
      funext j
      rw [nI_clamp (by omega)]
      by_cases h : j = i
      · subst h; simp [va_up]
      · by_cases h2 : j < i
        · simp [va_up, h, h2, Nat.lt_succ_of_lt h2]
        · simp [va_up, h, h2, show ¬ j < i + 1 by omega]
    have eW : ((wLX2 cy h0 q1 qL q3 q4 q5 adL i b f ++ w1X0_init cy qB qF).set 1 (q1, .inl (cy 2, 8, xr (va_up (fun j => if j < i then some (b j) else none) (Int32.toNatClampNeg (nI i)) (some qB))))).Perm (wLX2 cy h0 q1 qL q3 q4 q5 adL (i + 1) (fun j => if j = i then qB else b j) (fun j => if j = i then qF else f j)) := by
      rw [eF]
      have m1 : (List.range (i + 1)).map (fun j => bdX2 ((fun j => if j = i then qB else b j) j) ((fun j => if j = i then qF else f j) j)) = (List.range i).map (fun j => bdX2 (b j) (f j)) ++ [bdX2 qB qF] := by
        rw [List.range_succ, List.map_append]
        congr 1
        · apply List.map_congr_left
          intro j hj
          have := List.mem_range.mp hj
          simp [show j ≠ i by omega]
        · simp
      have m2 : (List.range (i + 1)).map (fun j => flX2 cy ((fun j => if j = i then qF else f j) j)) = (List.range i).map (fun j => flX2 cy (f j)) ++ [flX2 cy qF] := by
        rw [List.range_succ, List.map_append]
        congr 1
        · apply List.map_congr_left
          intro j hj
          have := List.mem_range.mp hj
          simp [show j ≠ i by omega]
        · simp
      unfold wLX2
      rw [m1, m2]
      exact permX2b _ _ _ _ _ _ _
    have hP := vaP_perm eW hP
    have hD := vaD_perm eW hD
    refine lv_iinc (v := nI (i + 1)) (lv' := [(1, .int (nI (i + 1))), (0, .ref h0)]) hx hb dX2_init_87 hl (k := 1) rfl (nI_1 i) (by decide) rfl (fun ls hl => ?_)
    refine lv_goto (tgt := 68) hx hb dX2_init_90 (by decide) ?_
    refine W.widen (k := 95 + 2 * (i + 1)) (n := 1449 + 51 * (i + 1)) (by omega) (by omega) ?_
    exact ih (i + 1) (by omega) _ _ _ _ hP hD hS _ (lv_sub hl [1, 0] rfl)
set_option maxHeartbeats 4000000 in
set_option maxRecDepth 100000 in
theorem ctX2_init (l : Launch) (D : va_G) (cy : Nat → ClassId) (h0 : Nat) (sz : Nat) : Met l yX2_init wsX2_init rmX2_init (va_Pc [.ref h0] (fun U => zPre D cy (w0X2_init h0) sz U ∧ (Cond.arrayOver (.array .int)).before #[] U = true ∧ (Cond.arrayOver (.array .long)).before #[] U = true ∧ va_AO "DeliveryBasket$Bond" U)) (va_Qv (fun ad : Nat → Nat → Nat => ad 0 0 = h0) (fun ad t => va_P D vwCl (cw cy ad c0st) t.heap ∧ va_D (va_A (w0X2_init h0) sz) (cw cy ad c0st)) (va_A (w0X2_init h0) sz)) 111 1857 (va_A (w0X2_init h0) sz) := by
  refine Met.ofW (cc := cX2_init) (maxL := 2) (ret := none) (by decide) rfl ?_
  intro p e s m args below meth c s₁ B hml hv
  obtain ⟨rfl, ⟨hsz, hP, hK, hD0⟩, hO⟩ := hv
  have hx := B.exec
  have hb := B.bytes
  have hr := B.returns
  have hts := atoms_spec (ws := wsX2_init) B.pre
  have hown : s.vm.findClass RX2 = some m.cls := findClass_of_methodNamed B.named
  have hlocks := B.notSynchronized
  have hin : meth.name = "<init>" := (name_of_methodNamed B.named B.method).1
  subst hsz
  have hD := hD0.self (sz := s.heap.size)
  generalize hAe : va_A (w0X2_init h0) s.heap.size = A at hD ⊢
  have hA : ∀ q : Nat, s.heap.size ≤ q → A q := fun q h => by rw [← hAe]; exact Or.inr h
  have hS : va_S A s.heap s.heap [] := va_S.rf
  have C0 : Cx p s m _ meth c cX2_init 2 none RX2 wsX2_init D cy A := ⟨hx, hb, hml, hown, hts, hr, hlocks, hK, hA⟩
  have hl := lv_entry ([.ref h0]) (n := 2) (Nat.le_of_ble_eq_true rfl)
  rw [lg_entry_eq]
  generalize (lg_sl ([.ref h0]) ++ List.replicate (2 - (lg_sl ([.ref h0])).length) Slot.unset).toArray = ls at hl ⊢
  have hl : lv_has ls 2 [(0, .ref h0)] := hl
  refine lv_aload_n hx hb dX2_init_0 rfl (lv_at hl 0 rfl) ?_
  refine W.objInit hx hb hown (hts _ lkX2_init_ol) (hts _ lkX2_init_oi) (hts _ lkX2_init_oc) rfl (by rw [hml]; exact hl.1) rfl dX2_init_1 (Nat.le_of_ble_eq_true rfl) (Nat.le_of_ble_eq_true rfl) ?_
  refine W.eq (g2 := F0 m 4 ls []) rfl ?_
  refine lv_aload_n hx hb dX2_init_4 rfl (lv_at hl 0 rfl) ?_
  refine lv_bipush (v := 8) hx hb dX2_init_5 (by decide) ?_
  refine va_newq (C := "DeliveryBasket$Bond") (N' := 8) hx hb hown (hts _ lkX2_init_cl9) hO.2.2 hK.1 hP hD hS hA (by decide) (by decide) (Nat.le_of_ble_eq_true rfl) (Nat.le_of_ble_eq_true rfl) (Nat.le_of_ble_eq_true rfl) dX2_init_7 (fun q1 cA H hK2 hP hD hS => ?_)
  have ecA : cA = cy 2 := by
    obtain ⟨_, _, _, _, _, h1⟩ : va_RA s cA (.object "DeliveryBasket$Bond") := (hK2.2 5 (cA, .object "DeliveryBasket$Bond") rfl).2
    obtain ⟨_, _, _, _, _, h2⟩ : va_RA s (cy 2) (.object "DeliveryBasket$Bond") := (hK.1.2 2 (cy 2, .object "DeliveryBasket$Bond") rfl).2
    exact Option.some.inj (h1.symm.trans h2)
  subst ecA
  have hP : va_P D vwCl (((h0, .inr (2, [.null, .int 0, .int 0, .int 0, .int 0, .null, .null, .null, .null])) : Nat × va_E) :: [((q1, .inl (cy 2, 8, xr (fun _ => none))) : Nat × va_E)]) H := hP
  have hD : va_D A (((h0, .inr (2, [.null, .int 0, .int 0, .int 0, .int 0, .null, .null, .null, .null])) : Nat × va_E) :: [((q1, .inl (cy 2, 8, xr (fun _ => none))) : Nat × va_E)]) := hD
  refine W.widen (k := 1) (n := 8) (Nat.le_of_ble_eq_true rfl) (Nat.le_of_ble_eq_true rfl) ?_
  refine va_putF (D := D) (ci := 2) (v := .ref q1) (ty := .array (.object "DeliveryBasket$Bond")) (C := RX2) (T := TX2) (N := 9) hx hb hts iwX2_init_X2 tyX2 tyX2_ok nmX2 hown hK.1 hP hD hS 0 rfl rfl 0 (by decide) (hts _ lkX2_init_11) (fun _ h9 => h9) rfl hin rfl (by decide +kernel) rfl rfl (Nat.le_of_ble_eq_true rfl) dX2_init_10 (fun H locs hP hD hS => ?_)
  have hP : va_P D vwCl (((h0, .inr (2, [.ref q1, .int 0, .int 0, .int 0, .int 0, .null, .null, .null, .null])) : Nat × va_E) :: [((q1, .inl (cy 2, 8, xr (fun _ => none))) : Nat × va_E)]) H := hP
  have hD : va_D A (((h0, .inr (2, [.ref q1, .int 0, .int 0, .int 0, .int 0, .null, .null, .null, .null])) : Nat × va_E) :: [((q1, .inl (cy 2, 8, xr (fun _ => none))) : Nat × va_E)]) := hD
  refine lv_aload_n hx hb dX2_init_13 rfl (lv_at hl 0 rfl) ?_
  refine lv_sipush (v := 600) hx hb dX2_init_14 (by decide) ?_
  refine va_put (D := D) (ci := 2) (v := .int 600) (ty := .int) (C := RX2) (T := TX2) (N := 9) hx hb hts iwX2_init_X2 tyX2 tyX2_ok nmX2 hown hK.1 hP hD hS 0 rfl rfl 2 (by decide) (hts _ lkX2_init_15) (fun _ h9 => h9) rfl (by decide +kernel) rfl rfl (Nat.le_of_ble_eq_true rfl) dX2_init_17 (fun H locs hP hD hS => ?_)
  have hP : va_P D vwCl (((h0, .inr (2, [.ref q1, .int 0, .int 600, .int 0, .int 0, .null, .null, .null, .null])) : Nat × va_E) :: [((q1, .inl (cy 2, 8, xr (fun _ => none))) : Nat × va_E)]) H := hP
  have hD : va_D A (((h0, .inr (2, [.ref q1, .int 0, .int 600, .int 0, .int 0, .null, .null, .null, .null])) : Nat × va_E) :: [((q1, .inl (cy 2, 8, xr (fun _ => none))) : Nat × va_E)]) := hD
  refine lv_aload_n hx hb dX2_init_20 rfl (lv_at hl 0 rfl) ?_
  refine lv_iconst (v := 1) hx hb dX2_init_21 (by decide) ?_
  refine va_put (D := D) (ci := 2) (v := .int 1) (ty := .int) (C := RX2) (T := TX2) (N := 9) hx hb hts iwX2_init_X2 tyX2 tyX2_ok nmX2 hown hK.1 hP hD hS 0 rfl rfl 3 (by decide) (hts _ lkX2_init_19) (fun _ h9 => h9) rfl (by decide +kernel) rfl rfl (Nat.le_of_ble_eq_true rfl) dX2_init_22 (fun H locs hP hD hS => ?_)
  have hP : va_P D vwCl (((h0, .inr (2, [.ref q1, .int 0, .int 600, .int 1, .int 0, .null, .null, .null, .null])) : Nat × va_E) :: [((q1, .inl (cy 2, 8, xr (fun _ => none))) : Nat × va_E)]) H := hP
  have hD : va_D A (((h0, .inr (2, [.ref q1, .int 0, .int 600, .int 1, .int 0, .null, .null, .null, .null])) : Nat × va_E) :: [((q1, .inl (cy 2, 8, xr (fun _ => none))) : Nat × va_E)]) := hD
  refine lv_aload_n hx hb dX2_init_25 rfl (lv_at hl 0 rfl) ?_
  refine lv_bipush (v := 40) hx hb dX2_init_26 (by decide) ?_
  refine va_put (D := D) (ci := 2) (v := .int 40) (ty := .int) (C := RX2) (T := TX2) (N := 9) hx hb hts iwX2_init_X2 tyX2 tyX2_ok nmX2 hown hK.1 hP hD hS 0 rfl rfl 4 (by decide) (hts _ lkX2_init_22) (fun _ h9 => h9) rfl (by decide +kernel) rfl rfl (Nat.le_of_ble_eq_true rfl) dX2_init_28 (fun H locs hP hD hS => ?_)
  have hP : va_P D vwCl (((h0, .inr (2, [.ref q1, .int 0, .int 600, .int 1, .int 40, .null, .null, .null, .null])) : Nat × va_E) :: [((q1, .inl (cy 2, 8, xr (fun _ => none))) : Nat × va_E)]) H := hP
  have hD : va_D A (((h0, .inr (2, [.ref q1, .int 0, .int 600, .int 1, .int 40, .null, .null, .null, .null])) : Nat × va_E) :: [((q1, .inl (cy 2, 8, xr (fun _ => none))) : Nat × va_E)]) := hD
  refine lv_aload_n hx hb dX2_init_31 rfl (lv_at hl 0 rfl) ?_
  refine va_new (ci := 1) (fs := [.int 0, .int 0, .int 0, .int 0, .int 0, .null, .null, .null, .null, .null, .null, .null]) (C := RX1) (T := TX1) (N := 12) hx hb hts iwX2_init_X1 tyX1 tyX1_ok hown (hts _ lkX2_init_cl25) (hts _ lkX2_init_in1) (hts _ lkX2_init_ini1) hK.1 hP hD hS hA rfl (fun j hj => by rcases (show j = 0 ∨ j = 1 ∨ j = 2 ∨ j = 3 ∨ j = 4 ∨ j = 5 ∨ j = 6 ∨ j = 7 ∨ j = 8 ∨ j = 9 ∨ j = 10 ∨ j = 11 by omega) with rfl | rfl | rfl | rfl | rfl | rfl | rfl | rfl | rfl | rfl | rfl | rfl <;> rfl) (Nat.le_of_ble_eq_true rfl) (Nat.le_of_ble_eq_true rfl) dX2_init_32 (fun qL H hP hD hS => ?_)
  refine W.widen (k := 2) (n := 20) (Nat.le_of_ble_eq_true rfl) (Nat.le_of_ble_eq_true rfl) ?_
  refine lv_dup hx hb dX2_init_35 rfl ?_
  have hP : va_P D vwCl ([((h0, .inr (2, [.ref q1, .int 0, .int 600, .int 1, .int 40, .null, .null, .null, .null])) : Nat × va_E), ((q1, .inl (cy 2, 8, xr (fun _ => none))) : Nat × va_E)] ++ (w0X1_init qL ++ [])) H := hP
  have hD : va_D A ([((h0, .inr (2, [.ref q1, .int 0, .int 600, .int 1, .int 40, .null, .null, .null, .null])) : Nat × va_E), ((q1, .inl (cy 2, 8, xr (fun _ => none))) : Nat × va_E)] ++ (w0X1_init qL ++ [])) := hD
  have hF := z_fr (z_partD hD) hS hA
  refine va_callv (va_runIN (As := []) (rest := [.ref qL, .ref h0]) ⟨hx, hb, hml, hown, hts⟩ (ctX1_init l D cy qL H.size) ⟨va_cnB 0 hts gX2_init_X1_init_n27 rfl rfl rfl hK.2.2.2.2.1 (hts _ lkX2_init_ini1) (by decide +kernel) ⟨Nat.le_of_ble_eq_true rfl, Nat.le_of_ble_eq_true rfl⟩, rfl, (hts _ lkX2_init_im1)⟩ ⟨fun a U g mk q => ⟨q.1, ⟨q.2.1.1, q.2.1.2.1, q.2.1.2.2.1.calling, q.2.1.2.2.2⟩, q.2.2.1, q.2.2.2⟩, fun U hU hW => ⟨rfl, ⟨by rw [hU], by rw [hU]; exact z_partP hP, hK.warm hW, (z_partD hD).weaken (fun _ _ _ _ => trivial)⟩, zO_warm hW hO.1, zO_warm hW hO.2.1⟩⟩ rfl rfl hl.1 rfl (lv_room (Nat.le_of_ble_eq_true rfl)) dX2_init_36 ⟨Nat.le_of_ble_eq_true rfl, Nat.le_of_ble_eq_true rfl⟩) hS (fun q _ h => hF q h) hF (fun adL t H1 locs1 ht hvm hw hB hz hk hS => ?_)
  obtain ⟨hP1, hD1⟩ := hB
  rw [ht] at hP1
  obtain ⟨hP, hD⟩ := z_join [((h0, .inr (2, [.ref q1, .int 0, .int 600, .int 1, .int 40, .null, .null, .null, .null])) : Nat × va_E), ((q1, .inl (cy 2, 8, xr (fun _ => none))) : Nat × va_E)] [] hP hD hk hF hP1 hD1
  rw [List.append_nil] at hP hD
  generalize H1 = H at hP hS ⊢
  refine W.widen (k := 92) (n := 1425) (Nat.le_of_ble_eq_true rfl) (Nat.le_of_ble_eq_true rfl) ?_
  have hP : va_P D vwCl (((h0, .inr (2, [.ref q1, .int 0, .int 600, .int 1, .int 40, .null, .null, .null, .null])) : Nat × va_E) :: (((q1, .inl (cy 2, 8, xr (fun _ => none))) : Nat × va_E) :: w1X1 cy adL)) H := hP
  have hD : va_D A (((h0, .inr (2, [.ref q1, .int 0, .int 600, .int 1, .int 40, .null, .null, .null, .null])) : Nat × va_E) :: (((q1, .inl (cy 2, 8, xr (fun _ => none))) : Nat × va_E) :: w1X1 cy adL)) := hD
  refine va_putF (D := D) (ci := 2) (v := .ref qL) (ty := .object "DeliveryBasket$Lattice") (C := RX2) (T := TX2) (N := 9) hx hb hts iwX2_init_X2 tyX2 tyX2_ok nmX2 hown hK.1 hP hD hS 0 rfl rfl 5 (by decide) (hts _ lkX2_init_28) (fun _ h9 => h9) rfl hin rfl (by decide +kernel) rfl rfl (Nat.le_of_ble_eq_true rfl) dX2_init_39 (fun H locs hP hD hS => ?_)
  have hP : va_P D vwCl (((h0, .inr (2, [.ref q1, .int 0, .int 600, .int 1, .int 40, .ref qL, .null, .null, .null])) : Nat × va_E) :: (((q1, .inl (cy 2, 8, xr (fun _ => none))) : Nat × va_E) :: w1X1 cy adL)) H := hP
  have hD : va_D A (((h0, .inr (2, [.ref q1, .int 0, .int 600, .int 1, .int 40, .ref qL, .null, .null, .null])) : Nat × va_E) :: (((q1, .inl (cy 2, 8, xr (fun _ => none))) : Nat × va_E) :: w1X1 cy adL)) := hD
  refine lv_aload_n hx hb dX2_init_42 rfl (lv_at hl 0 rfl) ?_
  refine lv_bipush (v := 8) hx hb dX2_init_43 (by decide) ?_
  refine va_newa (atype := .int) (ty := .int) (N' := 8) (a0 := (8, .inl (fun _ => 0))) hx hb (hts _ lkX2_init_acint) rfl hK.1 hP hD hS hA (fun cA => rfl) (by decide) (by decide) (Nat.le_of_ble_eq_true rfl) (Nat.le_of_ble_eq_true rfl) (Nat.le_of_ble_eq_true rfl) dX2_init_45 (fun q3 cA H hK2 hP hD hS => ?_)
  have ecA : cA = cy 0 := by
    have h1 : va_RA s cA .int := (hK2.2 5 (cA, .int) rfl).2
    have h2 : va_RA s (cy 0) .int := (hK.1.2 0 (cy 0, .int) rfl).2
    exact Option.some.inj (h1.symm.trans h2)
  subst ecA
  have hP : va_P D vwCl (((h0, .inr (2, [.ref q1, .int 0, .int 600, .int 1, .int 40, .ref qL, .null, .null, .null])) : Nat × va_E) :: ((((q1, .inl (cy 2, 8, xr (fun _ => none))) : Nat × va_E) :: w1X1 cy adL) ++ [((q3, .inl (cy 0, 8, .inl (fun _ => 0))) : Nat × va_E)])) H := hP
  have hD : va_D A (((h0, .inr (2, [.ref q1, .int 0, .int 600, .int 1, .int 40, .ref qL, .null, .null, .null])) : Nat × va_E) :: ((((q1, .inl (cy 2, 8, xr (fun _ => none))) : Nat × va_E) :: w1X1 cy adL) ++ [((q3, .inl (cy 0, 8, .inl (fun _ => 0))) : Nat × va_E)])) := hD
  refine W.widen (k := 93) (n := 1433) (Nat.le_of_ble_eq_true rfl) (Nat.le_of_ble_eq_true rfl) ?_
  refine va_putF (D := D) (ci := 2) (v := .ref q3) (ty := .array .int) (C := RX2) (T := TX2) (N := 9) hx hb hts iwX2_init_X2 tyX2 tyX2_ok nmX2 hown hK.1 hP hD hS 0 rfl rfl 6 (by decide) (hts _ lkX2_init_32) (fun _ h9 => h9) rfl hin rfl (by decide +kernel) rfl rfl (Nat.le_of_ble_eq_true rfl) dX2_init_47 (fun H locs hP hD hS => ?_)
  have hP : va_P D vwCl (((h0, .inr (2, [.ref q1, .int 0, .int 600, .int 1, .int 40, .ref qL, .ref q3, .null, .null])) : Nat × va_E) :: ((((q1, .inl (cy 2, 8, xr (fun _ => none))) : Nat × va_E) :: w1X1 cy adL) ++ [((q3, .inl (cy 0, 8, .inl (fun _ => 0))) : Nat × va_E)])) H := hP
  have hD : va_D A (((h0, .inr (2, [.ref q1, .int 0, .int 600, .int 1, .int 40, .ref qL, .ref q3, .null, .null])) : Nat × va_E) :: ((((q1, .inl (cy 2, 8, xr (fun _ => none))) : Nat × va_E) :: w1X1 cy adL) ++ [((q3, .inl (cy 0, 8, .inl (fun _ => 0))) : Nat × va_E)])) := hD
  refine lv_aload_n hx hb dX2_init_50 rfl (lv_at hl 0 rfl) ?_
  refine lv_bipush (v := 8) hx hb dX2_init_51 (by decide) ?_
  refine va_newa (atype := .long) (ty := .long) (N' := 8) (a0 := (8, xl (fun _ => 0))) hx hb (hts _ lkX2_init_aclong) rfl hK.1 hP hD hS hA (fun cA => rfl) (by decide) (by decide) (Nat.le_of_ble_eq_true rfl) (Nat.le_of_ble_eq_true rfl) (Nat.le_of_ble_eq_true rfl) dX2_init_53 (fun q4 cA H hK2 hP hD hS => ?_)
  have ecA : cA = cy 1 := by
    have h1 : va_RA s cA .long := (hK2.2 5 (cA, .long) rfl).2
    have h2 : va_RA s (cy 1) .long := (hK.1.2 1 (cy 1, .long) rfl).2
    exact Option.some.inj (h1.symm.trans h2)
  subst ecA
  have hP : va_P D vwCl (((h0, .inr (2, [.ref q1, .int 0, .int 600, .int 1, .int 40, .ref qL, .ref q3, .null, .null])) : Nat × va_E) :: (((((q1, .inl (cy 2, 8, xr (fun _ => none))) : Nat × va_E) :: w1X1 cy adL) ++ [((q3, .inl (cy 0, 8, .inl (fun _ => 0))) : Nat × va_E)]) ++ [((q4, .inl (cy 1, 8, xl (fun _ => 0))) : Nat × va_E)])) H := hP
  have hD : va_D A (((h0, .inr (2, [.ref q1, .int 0, .int 600, .int 1, .int 40, .ref qL, .ref q3, .null, .null])) : Nat × va_E) :: (((((q1, .inl (cy 2, 8, xr (fun _ => none))) : Nat × va_E) :: w1X1 cy adL) ++ [((q3, .inl (cy 0, 8, .inl (fun _ => 0))) : Nat × va_E)]) ++ [((q4, .inl (cy 1, 8, xl (fun _ => 0))) : Nat × va_E)])) := hD
  refine W.widen (k := 94) (n := 1441) (Nat.le_of_ble_eq_true rfl) (Nat.le_of_ble_eq_true rfl) ?_
  refine va_putF (D := D) (ci := 2) (v := .ref q4) (ty := .array .long) (C := RX2) (T := TX2) (N := 9) hx hb hts iwX2_init_X2 tyX2 tyX2_ok nmX2 hown hK.1 hP hD hS 0 rfl rfl 7 (by decide) (hts _ lkX2_init_36) (fun _ h9 => h9) rfl hin rfl (by decide +kernel) rfl rfl (Nat.le_of_ble_eq_true rfl) dX2_init_55 (fun H locs hP hD hS => ?_)
  have hP : va_P D vwCl (((h0, .inr (2, [.ref q1, .int 0, .int 600, .int 1, .int 40, .ref qL, .ref q3, .ref q4, .null])) : Nat × va_E) :: (((((q1, .inl (cy 2, 8, xr (fun _ => none))) : Nat × va_E) :: w1X1 cy adL) ++ [((q3, .inl (cy 0, 8, .inl (fun _ => 0))) : Nat × va_E)]) ++ [((q4, .inl (cy 1, 8, xl (fun _ => 0))) : Nat × va_E)])) H := hP
  have hD : va_D A (((h0, .inr (2, [.ref q1, .int 0, .int 600, .int 1, .int 40, .ref qL, .ref q3, .ref q4, .null])) : Nat × va_E) :: (((((q1, .inl (cy 2, 8, xr (fun _ => none))) : Nat × va_E) :: w1X1 cy adL) ++ [((q3, .inl (cy 0, 8, .inl (fun _ => 0))) : Nat × va_E)]) ++ [((q4, .inl (cy 1, 8, xl (fun _ => 0))) : Nat × va_E)])) := hD
  refine lv_aload_n hx hb dX2_init_58 rfl (lv_at hl 0 rfl) ?_
  refine lv_bipush (v := 8) hx hb dX2_init_59 (by decide) ?_
  refine va_newa (atype := .int) (ty := .int) (N' := 8) (a0 := (8, .inl (fun _ => 0))) hx hb (hts _ lkX2_init_acint) rfl hK.1 hP hD hS hA (fun cA => rfl) (by decide) (by decide) (Nat.le_of_ble_eq_true rfl) (Nat.le_of_ble_eq_true rfl) (Nat.le_of_ble_eq_true rfl) dX2_init_61 (fun q5 cA H hK2 hP hD hS => ?_)
  have ecA : cA = cy 0 := by
    have h1 : va_RA s cA .int := (hK2.2 5 (cA, .int) rfl).2
    have h2 : va_RA s (cy 0) .int := (hK.1.2 0 (cy 0, .int) rfl).2
    exact Option.some.inj (h1.symm.trans h2)
  subst ecA
  have hP : va_P D vwCl (((h0, .inr (2, [.ref q1, .int 0, .int 600, .int 1, .int 40, .ref qL, .ref q3, .ref q4, .null])) : Nat × va_E) :: ((((((q1, .inl (cy 2, 8, xr (fun _ => none))) : Nat × va_E) :: w1X1 cy adL) ++ [((q3, .inl (cy 0, 8, .inl (fun _ => 0))) : Nat × va_E)]) ++ [((q4, .inl (cy 1, 8, xl (fun _ => 0))) : Nat × va_E)]) ++ [((q5, .inl (cy 0, 8, .inl (fun _ => 0))) : Nat × va_E)])) H := hP
  have hD : va_D A (((h0, .inr (2, [.ref q1, .int 0, .int 600, .int 1, .int 40, .ref qL, .ref q3, .ref q4, .null])) : Nat × va_E) :: ((((((q1, .inl (cy 2, 8, xr (fun _ => none))) : Nat × va_E) :: w1X1 cy adL) ++ [((q3, .inl (cy 0, 8, .inl (fun _ => 0))) : Nat × va_E)]) ++ [((q4, .inl (cy 1, 8, xl (fun _ => 0))) : Nat × va_E)]) ++ [((q5, .inl (cy 0, 8, .inl (fun _ => 0))) : Nat × va_E)])) := hD
  refine W.widen (k := 95) (n := 1449) (Nat.le_of_ble_eq_true rfl) (Nat.le_of_ble_eq_true rfl) ?_
  refine va_putF (D := D) (ci := 2) (v := .ref q5) (ty := .array .int) (C := RX2) (T := TX2) (N := 9) hx hb hts iwX2_init_X2 tyX2 tyX2_ok nmX2 hown hK.1 hP hD hS 0 rfl rfl 8 (by decide) (hts _ lkX2_init_40) (fun _ h9 => h9) rfl hin rfl (by decide +kernel) rfl rfl (Nat.le_of_ble_eq_true rfl) dX2_init_63 (fun H locs hP hD hS => ?_)
  have hP : va_P D vwCl (((h0, .inr (2, [.ref q1, .int 0, .int 600, .int 1, .int 40, .ref qL, .ref q3, .ref q4, .ref q5])) : Nat × va_E) :: ((((((q1, .inl (cy 2, 8, xr (fun _ => none))) : Nat × va_E) :: w1X1 cy adL) ++ [((q3, .inl (cy 0, 8, .inl (fun _ => 0))) : Nat × va_E)]) ++ [((q4, .inl (cy 1, 8, xl (fun _ => 0))) : Nat × va_E)]) ++ [((q5, .inl (cy 0, 8, .inl (fun _ => 0))) : Nat × va_E)])) H := hP
  have hD : va_D A (((h0, .inr (2, [.ref q1, .int 0, .int 600, .int 1, .int 40, .ref qL, .ref q3, .ref q4, .ref q5])) : Nat × va_E) :: ((((((q1, .inl (cy 2, 8, xr (fun _ => none))) : Nat × va_E) :: w1X1 cy adL) ++ [((q3, .inl (cy 0, 8, .inl (fun _ => 0))) : Nat × va_E)]) ++ [((q4, .inl (cy 1, 8, xl (fun _ => 0))) : Nat × va_E)]) ++ [((q5, .inl (cy 0, 8, .inl (fun _ => 0))) : Nat × va_E)])) := hD
  refine lv_iconst (v := 0) hx hb dX2_init_66 (by decide) ?_
  refine lv_istore_n (lv' := [(1, .int (0 : Int32)), (0, .ref h0)]) hx hb dX2_init_67 rfl hl (by decide) rfl (fun ls hl => ?_)
  have hP := vaP_perm (permX2a _ _ _ _ _ _) hP
  have hD := vaD_perm (permX2a _ _ _ _ _ _) hD
  have hK3 := hw
  exact kX2_init_68 C0 hin h0 q1 qL q3 q4 q5 adL hw 8 0 (by omega) (fun _ => 0) (fun _ => 0) _ _ (by rw [wLX2_0]; exact hP) (by rw [wLX2_0]; exact hD) hS _ (by rw [nI_0]; exact lv_sub hl [1, 0] rfl)

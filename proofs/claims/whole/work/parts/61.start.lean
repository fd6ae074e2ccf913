/-! THE START OF THE LAW: what the tables say, both made, the row of answers -/
theorem ar_prim {args : Array Value} {s : State} {ty : FieldType} (h : (Cond.arrayClass ty).before args s = true) : ∃ cA, ArrOfT s cA ty ∧ s.vm.findClass ("[" ++ ty.toString) = some cA := by
  obtain ⟨c, k, comp, h1, h2, h3⟩ := Cond.arrayClass_spec h
  exact ⟨c, fun n z => ⟨(fun _ hh => nomatch hh), k, h2, comp, h3⟩, h1⟩
theorem ar_arr {args : Array Value} {s : State} {ty : FieldType} (h : (Cond.arrayOver ty.array).before args s = true) : ∃ cA, ArrOfT s cA ty.array ∧ s.vm.findClass ("[" ++ ty.array.toString) = some cA := by
  obtain ⟨comp, c, k, h0, h3, h1, h2⟩ := nm_over h
  exact ⟨c, fun n z => ⟨(fun _ hh => nomatch hh), k, h1, comp, h2⟩, h3⟩
theorem ar_obj {args : Array Value} {s : State} {C : String} (h : (Cond.arrayOver (.object C)).before args s = true) : ∃ cA, ArrOfT s cA (.object C) ∧ va_RA s cA (.object C) := by
  obtain ⟨comp, c, k, h0, hi, h1, h2, h3⟩ := Cond.arrayOver_spec h
  exact ⟨c, fun n z => ⟨(fun _ hh => nomatch hh), k, h1, comp, h2⟩, k, comp, h1, h2, h0, h3⟩
theorem str_of {args : Array Value} {s : State} {k : Nat} {tx : String} (h1 : (Cond.stringRef RX2 k tx).before args s = true) (h2 : (Cond.exactly (.string RX2 k) "java/lang/String").before args s = true) : ∃ a, vk_R RX2 k tx a s := by
  obtain ⟨a, _, _, _, h, _⟩ := Cond.exactly_spec h2
  exact ⟨a, vk_R.of h1 h⟩

set_option maxRecDepth 20000 in
theorem ms_aci : Cond.arrayClass .int ∈ lw_tbl := by decide +kernel
set_option maxRecDepth 20000 in
theorem ms_acl : Cond.arrayClass .long ∈ lw_tbl := by decide +kernel
set_option maxRecDepth 20000 in
theorem ms_aoi : Cond.arrayOver (.array .int) ∈ lw_tbl := by decide +kernel
set_option maxRecDepth 20000 in
theorem ms_aol : Cond.arrayOver (.array .long) ∈ lw_tbl := by decide +kernel
set_option maxRecDepth 20000 in
theorem ms_aob : Cond.arrayOver (.object "DeliveryBasket$Bond") ∈ lw_tbl := by decide +kernel
set_option maxRecDepth 20000 in
theorem ms_n1 : Cond.methodLinkNest RX0 60 yX2_within RX2 ∈ lw_tbl := by decide +kernel
set_option maxRecDepth 20000 in
theorem ms_n2 : Cond.methodLinkNest RX1 55 yX2_within RX2 ∈ lw_tbl := by decide +kernel
set_option maxRecDepth 20000 in
theorem ms_n3 : Cond.methodLinkNest RX1 81 yX2_isIn RX2 ∈ lw_tbl := by decide +kernel
set_option maxRecDepth 20000 in
theorem ms_n4 : Cond.methodLinkNest RX2 27 yX1_init RX2 ∈ lw_tbl := by decide +kernel
set_option maxRecDepth 20000 in
theorem ms_n5 : Cond.methodLinkNest RX2 43 yX0_init RX2 ∈ lw_tbl := by decide +kernel
set_option maxRecDepth 20000 in
theorem ms_l1 : Cond.laysStatic Bundle.tN "UNASSIGNED_STACK" Bundle.steD ∈ lw_tbl := by decide +kernel
set_option maxRecDepth 20000 in
theorem ms_l2 : Cond.laysStatic Bundle.tN "SUPPRESSED_SENTINEL" Bundle.listD ∈ lw_tbl := by decide +kernel
set_option maxRecDepth 20000 in
theorem ms_it : Cond.initialized Bundle.tN ∈ lw_tbl := by decide +kernel
set_option maxRecDepth 20000 in
theorem ms_c : Cond.castable nse nse ∈ lw_tbl := by decide +kernel
set_option maxRecDepth 20000 in
theorem ms_d1 : Cond.declares (Bundle.initS "java/lang/RuntimeException") ∈ lw_tbl := by decide +kernel
set_option maxRecDepth 20000 in
theorem ms_d2 : Cond.declares (Bundle.initS "java/lang/Exception") ∈ lw_tbl := by decide +kernel
set_option maxRecDepth 20000 in
theorem ms_d3 : Cond.declares (Bundle.initS Bundle.tN) ∈ lw_tbl := by decide +kernel
set_option maxRecDepth 20000 in
theorem ms_s78 : Cond.stringRef RX2 78 "no such bond" ∈ lw_tbl := by decide +kernel
set_option maxRecDepth 20000 in
theorem ms_s110 : Cond.stringRef RX2 110 "no such what" ∈ lw_tbl := by decide +kernel
set_option maxRecDepth 20000 in
theorem ms_s165 : Cond.stringRef RX2 165 "no such eligible bond or rate" ∈ lw_tbl := by decide +kernel
set_option maxRecDepth 20000 in
theorem ms_s180 : Cond.stringRef RX2 180 "these contracts can't be met" ∈ lw_tbl := by decide +kernel
set_option maxRecDepth 20000 in
theorem ms_s198 : Cond.stringRef RX2 198 "no such node, or none is eligible" ∈ lw_tbl := by decide +kernel
set_option maxRecDepth 20000 in
theorem ms_s218 : Cond.stringRef RX2 218 "no such day, or none is eligible" ∈ lw_tbl := by decide +kernel
set_option maxRecDepth 20000 in
theorem ms_s231 : Cond.stringRef RX2 231 "it is not eligible" ∈ lw_tbl := by decide +kernel
set_option maxRecDepth 20000 in
theorem ms_s233 : Cond.stringRef RX2 233 "no other one is eligible" ∈ lw_tbl := by decide +kernel
set_option maxRecDepth 20000 in
theorem ms_in0 : Cond.instantiable RX0 10 ∈ lw_tbl := by decide +kernel
set_option maxRecDepth 20000 in
theorem ms_in1 : Cond.instantiable RX1 12 ∈ lw_tbl := by decide +kernel
set_option maxRecDepth 20000 in
theorem ms_in2 : Cond.instantiable RX2 9 ∈ lw_tbl := by decide +kernel
set_option maxRecDepth 20000 in
theorem ms_in3 : Cond.instantiable RX3 20 ∈ lw_tbl := by decide +kernel
set_option maxRecDepth 20000 in
theorem ms_cl8 : Cond.classLink RL 8 RX2 ∈ lw_tbl := by decide +kernel
set_option maxRecDepth 20000 in
theorem ms_cl37 : Cond.classLink RL 37 RX3 ∈ lw_tbl := by decide +kernel
set_option maxRecDepth 20000 in
theorem ms_i2 : Cond.initialized RX2 ∈ lw_tbl := by decide +kernel
set_option maxRecDepth 20000 in
theorem ms_i3 : Cond.initialized RX3 ∈ lw_tbl := by decide +kernel
set_option maxRecDepth 20000 in
theorem ms_m36 : Cond.methodLink RL 36 yX2_init ∈ lw_tbl := by decide +kernel
set_option maxRecDepth 20000 in
theorem ms_m39 : Cond.methodLink RL 39 yX3_init ∈ lw_tbl := by decide +kernel
set_option maxRecDepth 20000 in
theorem ms_im2 : Cond.instanceMethod yX2_init ∈ lw_tbl := by decide +kernel
set_option maxRecDepth 20000 in
theorem ms_im3 : Cond.instanceMethod yX3_init ∈ lw_tbl := by decide +kernel
set_option maxRecDepth 20000 in
theorem mf_u : Cond.isRef (.static Bundle.tN "UNASSIGNED_STACK" Bundle.steD) ∈ flatC (Jvm.Cond.and given_1 narrow_1) := by decide +kernel
set_option maxRecDepth 20000 in
theorem mf_s : Cond.isRef (.static Bundle.tN "SUPPRESSED_SENTINEL" Bundle.listD) ∈ flatC (Jvm.Cond.and given_1 narrow_1) := by decide +kernel
set_option maxRecDepth 20000 in
theorem mf_s78 : Cond.exactly (.string RX2 78) "java/lang/String" ∈ flatC (Jvm.Cond.and given_1 narrow_1) := by decide +kernel
set_option maxRecDepth 20000 in
theorem mf_s110 : Cond.exactly (.string RX2 110) "java/lang/String" ∈ flatC (Jvm.Cond.and given_1 narrow_1) := by decide +kernel
set_option maxRecDepth 20000 in
theorem mf_s165 : Cond.exactly (.string RX2 165) "java/lang/String" ∈ flatC (Jvm.Cond.and given_1 narrow_1) := by decide +kernel
set_option maxRecDepth 20000 in
theorem mf_s180 : Cond.exactly (.string RX2 180) "java/lang/String" ∈ flatC (Jvm.Cond.and given_1 narrow_1) := by decide +kernel
set_option maxRecDepth 20000 in
theorem mf_s198 : Cond.exactly (.string RX2 198) "java/lang/String" ∈ flatC (Jvm.Cond.and given_1 narrow_1) := by decide +kernel
set_option maxRecDepth 20000 in
theorem mf_s218 : Cond.exactly (.string RX2 218) "java/lang/String" ∈ flatC (Jvm.Cond.and given_1 narrow_1) := by decide +kernel
set_option maxRecDepth 20000 in
theorem mf_s231 : Cond.exactly (.string RX2 231) "java/lang/String" ∈ flatC (Jvm.Cond.and given_1 narrow_1) := by decide +kernel
set_option maxRecDepth 20000 in
theorem mf_s233 : Cond.exactly (.string RX2 233) "java/lang/String" ∈ flatC (Jvm.Cond.and given_1 narrow_1) := by decide +kernel
theorem zX_0 {s : State} {args : Array Value} (hts : ∀ w ∈ lw_tbl, w.before args s = true) (hgv : (Jvm.Cond.and given_1 narrow_1).before args s = true) : zX s.heap.size s := by
  have hf := flat_of_before _ hgv
  refine ⟨vx_Zqof (hts _ ms_l1) (hts _ ms_it) (hf _ mf_u) (fun a h => Nat.not_le.mpr h), vx_Zqof (hts _ ms_l2) (hts _ ms_it) (hf _ mf_s) (fun a h => Nat.not_le.mpr h), va_Nw.of rfl (hts _ ms_c), va_Nw.of rfl (hts _ ms_d1), va_Nw.of rfl (hts _ ms_d2), va_Nw.of rfl (hts _ ms_d3), ?_⟩
  intro x hx
  unfold zStr at hx
  simp only [List.mem_cons, List.not_mem_nil, or_false] at hx
  rcases hx with rfl | rfl | rfl | rfl | rfl | rfl | rfl | rfl
  · exact str_of (hts _ ms_s78) (hf _ mf_s78)
  · exact str_of (hts _ ms_s110) (hf _ mf_s110)
  · exact str_of (hts _ ms_s165) (hf _ mf_s165)
  · exact str_of (hts _ ms_s180) (hf _ mf_s180)
  · exact str_of (hts _ ms_s198) (hf _ mf_s198)
  · exact str_of (hts _ ms_s218) (hf _ mf_s218)
  · exact str_of (hts _ ms_s231) (hf _ mf_s231)
  · exact str_of (hts _ ms_s233) (hf _ mf_s233)
theorem zK_0 {s : State} {args : Array Value} (hts : ∀ w ∈ lw_tbl, w.before args s = true) : ∃ (D : va_G) (cy : Nat → ClassId), zK D cy s := by
  obtain ⟨c0, iS0, hK0⟩ := u_known (C := RX0) (T := TX0) (N := 10) (n := 10) hts inX0 (hts _ ms_in0)
  obtain ⟨c1, iS1, hK1⟩ := u_known (C := RX1) (T := TX1) (N := 12) (n := 12) hts inX1 (hts _ ms_in1)
  obtain ⟨c2, iS2, hK2⟩ := u_known (C := RX2) (T := TX2) (N := 9) (n := 9) hts inX2 (hts _ ms_in2)
  obtain ⟨c3, iS3, hK3⟩ := u_known (C := RX3) (T := TX3) (N := 20) (n := 20) hts inX3 (hts _ ms_in3)
  obtain ⟨y0, a0, b0⟩ := ar_prim (hts _ ms_aci)
  obtain ⟨y1, a1, b1⟩ := ar_prim (hts _ ms_acl)
  obtain ⟨y2, a2, b2⟩ := ar_obj (hts _ ms_aob)
  obtain ⟨y3, a3, b3⟩ := ar_arr (hts _ ms_aoi)
  obtain ⟨y4, a4, b4⟩ := ar_arr (hts _ ms_aol)
  refine ⟨(fun k => if k = 0 then c0 else if k = 1 then c1 else if k = 2 then c2 else c3, fun k => if k = 0 then iS0 else if k = 1 then iS1 else if k = 2 then iS2 else iS3), (fun k => if k = 0 then y0 else if k = 1 then y1 else if k = 2 then y2 else if k = 3 then y3 else y4), ⟨?_, ?_⟩, va_Nw.of rfl (hts _ ms_n1), va_Nw.of rfl (hts _ ms_n2), va_Nw.of rfl (hts _ ms_n3), va_Nw.of rfl (hts _ ms_n4), va_Nw.of rfl (hts _ ms_n5)⟩
  · intro k q hq
    match k, hq with
    | 0, hq => cases hq; exact hK0
    | 1, hq => cases hq; exact hK1
    | 2, hq => cases hq; exact hK2
    | 3, hq => cases hq; exact hK3
    | k + 4, hq => simp [vwCl] at hq
  · intro k q hq
    match k, hq with
    | 0, hq => cases hq; exact ⟨a0, b0⟩
    | 1, hq => cases hq; exact ⟨a1, b1⟩
    | 2, hq => cases hq; exact ⟨a2, b2⟩
    | 3, hq => cases hq; exact ⟨a3, b3⟩
    | 4, hq => cases hq; exact ⟨a4, b4⟩
    | k + 5, hq => simp at hq
theorem perm_P {D : va_G} {cl : List vw_C} {w1 w2 : va_W} {q : Nat × va_E} {H : Heap} (h : va_P D cl ((w1 ++ w2) ++ [q]) H) : va_P D cl (q :: (w1 ++ w2)) H := by
  rw [vaP_iff] at h ⊢
  intro z hz
  rcases List.mem_cons.mp hz with rfl | hz
  · exact h _ (List.mem_append_right _ (List.mem_singleton.mpr rfl))
  · exact h z (List.mem_append_left _ hz)
theorem perm_D {A : Nat → Prop} {w1 w2 : va_W} {q : Nat × va_E} (h : va_D A ((w1 ++ w2) ++ [q])) : va_D A (q :: (w1 ++ w2)) := by
  rw [vaD_iff] at h ⊢
  refine ⟨?_, fun z hz => ?_⟩
  · have := h.1
    rw [List.map_append] at this
    rw [List.map_cons]
    exact (List.perm_append_singleton q.1 _).nodup_iff.mp this
  · rcases List.mem_cons.mp hz with rfl | hz
    · exact h.2 _ (List.mem_append_right _ (List.mem_singleton.mpr rfl))
    · exact h.2 z (List.mem_append_left _ hz)
theorem no_traces {l : Launch} (h : l.flags = flags0) : l.stackTraces = false := by
  unfold Launch.stackTraces
  rw [h]
  unfold flags0
  simp
theorem cnt_0 : cntF c0st = 8 := by decide

set_option maxHeartbeats 4000000 in
set_option maxRecDepth 100000 in
/-- from the entry, for every script of at most 3072 ints, the law comes to its end with true -/
theorem whole_start {p : Program} {e : Env} {s : State} {m : MethodId} {below : List Frame} {meth : Method} {c : Code} (l : Launch) (hflags : l.flags = flags0) {b L : Nat} {xs : Nat → Int32} (hL : L ≤ 3072) (C0 : lw_At p s m meth c b L xs) : W p l e room_1 s m #[Value.ref b] below meth c s.heap [] 0 0 (lw_Z below #[Value.ref b] s) (entryFrame m ([Value.ref b] : List Value).toArray 8) := by
  obtain ⟨hx, hb, hr, hml, hown, hts0, hX, hbl, hlocks, hgv⟩ := id C0
  have hb : c.code = cL_law := hb
  have hown : s.vm.findClass RL = some m.cls := hown
  have hts : ∀ w ∈ wsL_law, w.before #[Value.ref b] s = true := fun w h => hts0 w (wsL_law_in w h)
  have hA : ∀ q : Nat, s.heap.size ≤ q → (fun q : Nat => s.heap.size ≤ q) q := fun _ h => h
  obtain ⟨D, cy, hK⟩ := zK_0 hts0
  have CL : Lx p l s m meth c b L xs D cy := ⟨hx, hb, hr, hml, hown, hts, hX, hbl, hlocks, hK, zX_0 hts0 hgv, no_traces hflags⟩
  have hO1 : (Cond.arrayOver (.array .int)).before #[] s = true := hts0 _ ms_aoi
  have hO2 : (Cond.arrayOver (.array .long)).before #[] s = true := hts0 _ ms_aol
  have hO3 : va_AO "DeliveryBasket$Bond" s := hts0 _ ms_aob
  have hS : va_S (fun q : Nat => s.heap.size ≤ q) s.heap s.heap [] := va_S.rf
  have hP : va_P D vwCl [] s.heap := fun k q h => by simp at h
  have hD : va_D (fun q : Nat => s.heap.size ≤ q) [] := ⟨fun i j p q h => by simp at h, fun k q h => by simp at h⟩
  have hl := lv_entry ([.ref b]) (n := 8) (Nat.le_of_ble_eq_true rfl)
  rw [lg_entry_eq]
  generalize (lg_sl ([.ref b]) ++ List.replicate (8 - (lg_sl ([.ref b])).length) Slot.unset).toArray = ls at hl ⊢
  have hl : lv_has ls 8 [(0, .ref b)] := hl
  refine va_new (ci := 2) (fs := [.null, .int 0, .int 0, .int 0, .int 0, .null, .null, .null, .null]) (C := RX2) (T := TX2) (N := 9) hx hb hts0 inX2 tyX2 tyX2_ok hown (hts0 _ ms_cl8) (hts0 _ ms_in2) (hts0 _ ms_i2) hK.1 hP hD hS hA rfl (fun j hj => by rcases (show j = 0 ∨ j = 1 ∨ j = 2 ∨ j = 3 ∨ j = 4 ∨ j = 5 ∨ j = 6 ∨ j = 7 ∨ j = 8 by omega) with rfl | rfl | rfl | rfl | rfl | rfl | rfl | rfl | rfl <;> rfl) (Nat.le_of_ble_eq_true rfl) (Nat.le_of_ble_eq_true rfl) dL_law_0 (fun q0 H hP hD hS => ?_)
  refine W.widen (k := 1) (n := 9) (Nat.le_of_ble_eq_true rfl) (Nat.le_of_ble_eq_true rfl) ?_
  refine lv_dup hx hb dL_law_3 rfl ?_
  have hP : va_P D vwCl ([] ++ (w0X2_init q0 ++ [])) H := hP
  have hD : va_D (fun q : Nat => s.heap.size ≤ q) ([] ++ (w0X2_init q0 ++ [])) := hD
  have hF := z_fr (z_partD hD) hS hA
  refine va_callv (va_runI (As := []) (rest := [.ref q0]) ⟨hx, hb, hml, hown, hts⟩ (ctX2_init l D cy q0 H.size) (cwI 0 hts gL_law_X2_init rfl rfl rfl (hts0 _ ms_i2) (hts0 _ ms_m36) (hts0 _ ms_im2) rfl (by decide +kernel) ⟨Nat.le_of_ble_eq_true rfl, Nat.le_of_ble_eq_true rfl⟩) ⟨fun a U g mk q => ⟨q.1, ⟨q.2.1.1, q.2.1.2.1, q.2.1.2.2.1.calling, q.2.1.2.2.2⟩, q.2.2.1, q.2.2.2⟩, fun U hU hW => ⟨rfl, ⟨by rw [hU], by rw [hU]; exact z_partP hP, hK.warm hW, (z_partD hD).weaken (fun _ _ _ _ => trivial)⟩, zO_warm hW hO1, zO_warm hW hO2, zO_warm hW hO3⟩⟩ rfl rfl hl.1 rfl (lv_room (Nat.le_of_ble_eq_true rfl)) dL_law_4 ⟨Nat.le_of_ble_eq_true rfl, Nat.le_of_ble_eq_true rfl⟩) hS (fun q _ h => hF q h) hF (fun ad t H1 locs1 ht hvm hw hB hz hk hS => ?_)
  obtain ⟨hP1, hD1⟩ := hB
  rw [ht] at hP1
  have hw : ad 0 0 = q0 := hw
  obtain ⟨hPj, hDj⟩ := z_join [] [] hP hD hk hF hP1 hD1
  generalize H1 = H at hPj hS ⊢
  subst hw
  refine W.widen (k := 112) (n := 1866) (Nat.le_of_ble_eq_true rfl) (Nat.le_of_ble_eq_true rfl) ?_
  have hP : va_P D vwCl (cw cy ad c0st) H := by rw [List.append_nil] at hPj; exact hPj
  have hD : va_D (fun q : Nat => s.heap.size ≤ q) (cw cy ad c0st) := by rw [List.append_nil] at hDj; exact hDj
  refine lv_astore_n (lv' := [(1, .ref (ad 0 0)), (0, .ref b)]) hx hb dL_law_7 rfl hl (by decide) rfl (fun ls hl => ?_)
  refine va_new (ci := 3) (fs := [.null, .int 0, .int 0, .int 0, .int 0, .int 0, .int 0, .int 0, .int 0, .int 0, .int 0, .int 0, .int 0, .null, .null, .null, .null, .null, .null, .null]) (C := RX3) (T := TX3) (N := 20) hx hb hts0 inX3 tyX3 tyX3_ok hown (hts0 _ ms_cl37) (hts0 _ ms_in3) (hts0 _ ms_i3) hK.1 hP hD hS hA rfl (fun j hj => by rcases (show j = 0 ∨ j = 1 ∨ j = 2 ∨ j = 3 ∨ j = 4 ∨ j = 5 ∨ j = 6 ∨ j = 7 ∨ j = 8 ∨ j = 9 ∨ j = 10 ∨ j = 11 ∨ j = 12 ∨ j = 13 ∨ j = 14 ∨ j = 15 ∨ j = 16 ∨ j = 17 ∨ j = 18 ∨ j = 19 by omega) with rfl | rfl | rfl | rfl | rfl | rfl | rfl | rfl | rfl | rfl | rfl | rfl | rfl | rfl | rfl | rfl | rfl | rfl | rfl | rfl <;> rfl) (Nat.le_of_ble_eq_true rfl) (Nat.le_of_ble_eq_true rfl) dL_law_8 (fun q1 H hP hD hS => ?_)
  refine W.widen (k := 113) (n := 1886) (Nat.le_of_ble_eq_true rfl) (Nat.le_of_ble_eq_true rfl) ?_
  refine lv_dup hx hb dL_law_11 rfl ?_
  have hP : va_P D vwCl (cw cy ad c0st ++ (w0X3_init q1 ++ [])) H := hP
  have hD : va_D (fun q : Nat => s.heap.size ≤ q) (cw cy ad c0st ++ (w0X3_init q1 ++ [])) := hD
  have hF := z_fr (z_partD hD) hS hA
  refine va_callv (va_runI (As := []) (rest := [.ref q1]) ⟨hx, hb, hml, hown, hts⟩ (ctX3_init l D cy q1 H.size) (cwI 0 hts gL_law_X3_init rfl rfl rfl (hts0 _ ms_i3) (hts0 _ ms_m39) (hts0 _ ms_im3) rfl (by decide +kernel) ⟨Nat.le_of_ble_eq_true rfl, Nat.le_of_ble_eq_true rfl⟩) ⟨zBlind, fun U hU hW => ⟨rfl, by rw [hU], by rw [hU]; exact z_partP hP, hK.warm hW, (z_partD hD).weaken (fun _ _ _ _ => trivial)⟩⟩ rfl rfl hl.1 rfl (lv_room (Nat.le_of_ble_eq_true rfl)) dL_law_12 ⟨Nat.le_of_ble_eq_true rfl, Nat.le_of_ble_eq_true rfl⟩) hS (fun q _ h => hF q h) hF (fun am t H1 locs1 ht hvm hw hB hz hk hS => ?_)
  obtain ⟨hP1, hD1⟩ := hB
  rw [ht] at hP1
  have hw : am 0 0 = q1 := hw
  obtain ⟨hPj, hDj⟩ := z_join (cw cy ad c0st) [] hP hD hk hF hP1 hD1
  generalize H1 = H at hPj hS ⊢
  subst hw
  refine W.widen (k := 121) (n := 4163) (Nat.le_of_ble_eq_true rfl) (Nat.le_of_ble_eq_true rfl) ?_
  have hP : va_P D vwCl (cw cy ad c0st ++ mw cy am m0st) H := by rw [List.append_nil] at hPj; exact hPj
  have hD : va_D (fun q : Nat => s.heap.size ≤ q) (cw cy ad c0st ++ mw cy am m0st) := by rw [List.append_nil] at hDj; exact hDj
  refine lv_astore_n (lv' := [(2, .ref (am 0 0)), (1, .ref (ad 0 0)), (0, .ref b)]) hx hb dL_law_15 rfl hl (by decide) rfl (fun ls hl => ?_)
  refine lv_iconst (v := 1) hx hb dL_law_16 (by decide) ?_
  refine va_newa (atype := .long) (ty := .long) (N' := 1) (a0 := (1, xl (fun _ => 0))) hx hb (hts0 _ ms_acl) rfl hK.1 hP hD hS hA (fun cA => rfl) (by decide) (by decide) (Nat.le_of_ble_eq_true rfl) (Nat.le_of_ble_eq_true rfl) (Nat.le_of_ble_eq_true rfl) dL_law_17 (fun q2 cA H hK2 hP hD hS => ?_)
  have ecA : cA = cy 1 := by
    have h1 : s.vm.findClass ("[" ++ FieldType.long.toString) = some cA := (hK2.2 5 (cA, .long) rfl).2
    have h2 : s.vm.findClass ("[" ++ FieldType.long.toString) = some (cy 1) := (hK.1.2 1 (cy 1, .long) rfl).2
    exact Option.some.inj (h1.symm.trans h2)
  subst ecA
  have hP : va_P D vwCl (lwW cy ad am q2 c0st m0st (fun _ => 0)) H := perm_P hP
  have hD : va_D (fun q : Nat => s.heap.size ≤ q) (lwW cy ad am q2 c0st m0st (fun _ => 0)) := perm_D hD
  refine lv_astore_n (lv' := [(3, .ref q2), (2, .ref (am 0 0)), (1, .ref (ad 0 0)), (0, .ref b)]) hx hb dL_law_19 rfl hl (by decide) rfl (fun ls hl => ?_)
  refine lv_iconst (v := 0) hx hb dL_law_20 (by decide) ?_
  refine lv_istore (lv' := [(4, .int 0), (3, .ref q2), (2, .ref (am 0 0)), (1, .ref (ad 0 0)), (0, .ref b)]) hx hb dL_law_21 hl (by decide) rfl (fun ls hl => ?_)
  exact law_loop hL CL 512 0 rfl ad c0st m0st (fun _ => 0) _ _ RR_0 (by unfold Bud; rw [cnt_0]; exact ⟨Nat.le_of_ble_eq_true rfl, Nat.le_of_ble_eq_true rfl⟩) _ _ hP hD hS ls (lv_sub hl [4, 3, 2, 1, 0] rfl)

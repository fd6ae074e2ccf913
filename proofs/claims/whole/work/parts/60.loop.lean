/-! THE LOOP OF THE LAW, over RR -/
theorem pk_bond : pf_bond RR := fun _ _ _ _ _ _ _ h => p_bond h
theorem pk_drop : pf_drop RR := fun _ _ _ h => p_drop h
theorem pk_alter : pf_alter RR := fun _ _ _ _ _ h => p_alter h
theorem pk_of : pf_of RR := fun _ _ _ _ h => p_of h
theorem pk_flow : pf_flow RR := fun _ _ _ _ h => p_flow h
theorem pk_price : pf_price RR := fun _ _ _ _ h => p_price h
theorem pk_rateOf : pf_rateOf RR := fun _ _ _ _ h => p_rateOf h
theorem pk_contract : pf_contract RR := fun _ _ _ _ _ h => p_contract h
theorem pk_count : pf_count RR := fun _ _ _ h => p_count h
theorem pk_cheapest : pf_cheapest RR := fun _ _ _ h => p_cheapest h
theorem pk_ranked : pf_ranked RR := fun _ _ _ _ h => p_ranked h
theorem pk_mark : pf_mark RR := fun _ _ _ h => p_mark h
theorem pk_gap : pf_gap RR := fun _ _ _ _ h => p_gap h
theorem pk_switches : pf_switches RR := fun _ _ _ _ _ h => p_switches h
theorem pk_implied : pf_implied RR := fun _ _ _ h => p_implied h
theorem pk_meet : pf_meet RR := fun _ _ _ _ _ _ h => p_meet h
theorem pk_cost : pf_cost RR := fun _ _ _ _ _ h => p_cost h
theorem pk_tree : pf_tree RR := fun _ _ _ _ _ _ _ h => p_tree h
theorem pk_rate : pf_rate RR := fun _ _ _ _ h => p_rate h
theorem pk_value : pf_value RR := fun _ _ _ _ h => p_value h
theorem pk_act : pf_act RR := fun _ _ _ _ h => p_act h
theorem pk_path : pf_path RR := fun _ _ _ _ h => p_path h
theorem pk_often : pf_often RR := fun _ _ _ h => p_often h
theorem pk_fixed : pf_fixed RR := fun _ _ _ h => p_fixed h
theorem pk_only : pf_only RR := fun _ _ _ h => p_only h
theorem pk_without : pf_without RR := fun _ _ _ h => p_without h
theorem pk_fair : pf_fair RR := fun _ _ h => p_fair h
theorem RR_0 : RR c0st m0st := by
  have ok : okS 0 (fun _ _ => 0) (fun t => [600, 1, 40, 0, 600, 10, 0, 100000000, -1, -1].getD t 0) := by
    refine ⟨by omega, fun i hi => by omega, ?_⟩
    decide
  refine ⟨0, fun _ _ => 0, fun t => [600, 1, 40, 0, 600, 10, 0, 100000000, -1, -1].getD t 0, ⟨⟨ok, ⟨rfl, rfl⟩, rfl, ⟨rfl, rfl, rfl⟩, ⟨rfl, rfl, rfl, rfl, rfl⟩, ⟨fun i hi => hi, fun i j _ _ h => h⟩, fun i hi => by omega⟩, fun i hi => by omega⟩, ok, rfl, ⟨rfl, rfl, rfl, rfl, rfl, rfl, rfl, rfl, rfl, rfl⟩, fun i j hi => by omega⟩
theorem six_s (it : Nat) : zi (6 * (it : Int)) + (6 : Int32) = zi (6 * ((it + 1 : Nat) : Int)) := by
  rw [l6, zi_add]; congr 1 <;> omega
theorem six_in {it L k : Nat} (hL : L ≤ 3072) (h : 6 * it + 6 ≤ L) (hk : k < 6) : vp_in (zi (6 * (it : Int)) + zi (k : Int)) L := by
  rw [zi_add]
  exact inb_vp (inb_z (by omega) (by omega) (by omega))

set_option maxHeartbeats 4000000 in
set_option maxRecDepth 100000 in
/-- one round: from the switch on -/
theorem law_round {p : Program} {l : Launch} {e : Env} {s : State} {m : MethodId} {below : List Frame} {meth : Method} {c : Code} {b L : Nat} {xs : Nat → Int32} {D : va_G} {cy : Nat → ClassId} (hL : L ≤ 3072) (C : Lx p l s m meth c b L xs D cy) {am : Nat → Nat → Nat} {ao : Nat} {it : Nat} (hit : it < 512) (h6 : 6 * it + 6 ≤ L) (kk : ∀ (ad : Nat → Nat → Nat) (σ τ : ST) (o : Nat → Int64) (cs ss : Nat), RR σ τ → Bud (it + 1) cs ss σ → ∀ (H : Heap) (locs : List Loc), va_P D vwCl (lwW cy ad am ao σ τ o) H → va_D (fun q : Nat => s.heap.size ≤ q) (lwW cy ad am ao σ τ o) → va_S (fun q : Nat => s.heap.size ≤ q) s.heap H locs → ∀ ls : Array Slot, lv_has ls 8 [(0, .ref b), (1, .ref (ad 0 0)), (2, .ref (am 0 0)), (3, .ref ao), (4, .int (zi (6 * (((it + 1) : Nat) : Int))))] → W p l e room_1 s m #[Value.ref b] below meth c H locs cs ss (lw_Z below #[Value.ref b] s) (F0 m 23 ls [])) {x : Int32} {ad : Nat → Nat → Nat} {σ τ : ST} {o : Nat → Int64} {cs ss : Nat} (hR : RR σ τ) (hbud : Bud it cs ss σ) {H : Heap} {locs : List Loc} (hP : va_P D vwCl (lwW cy ad am ao σ τ o) H) (hD : va_D (fun q : Nat => s.heap.size ≤ q) (lwW cy ad am ao σ τ o)) (hS : va_S (fun q : Nat => s.heap.size ≤ q) s.heap H locs) {ls : Array Slot} (hl : lv_has ls 8 [(0, .ref b), (1, .ref (ad 0 0)), (2, .ref (am 0 0)), (3, .ref ao), (4, .int (zi (6 * (it : Int))))]) : W p l e room_1 s m #[Value.ref b] below meth c H locs cs ss (lw_Z below #[Value.ref b] s) (F0 m 40 ls [.int x]) := by
  obtain ⟨hx, hb, hr, hml, hown, hts, hX, hbl, hlocks, hK, hXX, htr⟩ := id C
  have i1 : vp_in (zi (6 * (it : Int)) + (1 : Int32)) L := six_in (k := 1) hL h6 (by omega)
  have i2 : vp_in (zi (6 * (it : Int)) + (2 : Int32)) L := six_in (k := 2) hL h6 (by omega)
  have i3 : vp_in (zi (6 * (it : Int)) + (3 : Int32)) L := six_in (k := 3) hL h6 (by omega)
  have i4 : vp_in (zi (6 * (it : Int)) + (4 : Int32)) L := six_in (k := 4) hL h6 (by omega)
  have i5 : vp_in (zi (6 * (it : Int)) + (5 : Int32)) L := six_in (k := 5) hL h6 (by omega)
  have k2 := kk
  rw [← six_s] at k2
  by_cases hz : 0 ≤ x.toInt ∧ x.toInt ≤ 26
  case neg =>
    refine lv_tableOut (tgt := 1435) hx hb dL_law_40 (by omega) (by decide) ?_
    refine lv_iinc (v := (zi (6 * (it : Int)) + (6 : Int32))) (lv' := [(4, .int (zi (6 * (it : Int)) + (6 : Int32))), (0, .ref b), (1, .ref (ad 0 0)), (2, .ref (am 0 0)), (3, .ref ao)]) hx hb dL_law_1435 hl (k := 4) rfl rfl (by decide) rfl (fun ls hl => ?_)
    refine lv_goto (tgt := 23) hx hb dL_law_1438 (by decide) ?_
    exact k2 ad σ τ o _ _ hR (by unfold Bud at hbud ⊢; omega) _ _ hP hD hS _ (lv_sub hl [1, 2, 3, 4, 0] rfl)
  have hz : x.toInt = 0 ∨ x.toInt = 1 ∨ x.toInt = 2 ∨ x.toInt = 3 ∨ x.toInt = 4 ∨ x.toInt = 5 ∨ x.toInt = 6 ∨ x.toInt = 7 ∨ x.toInt = 8 ∨ x.toInt = 9 ∨ x.toInt = 10 ∨ x.toInt = 11 ∨ x.toInt = 12 ∨ x.toInt = 13 ∨ x.toInt = 14 ∨ x.toInt = 15 ∨ x.toInt = 16 ∨ x.toInt = 17 ∨ x.toInt = 18 ∨ x.toInt = 19 ∨ x.toInt = 20 ∨ x.toInt = 21 ∨ x.toInt = 22 ∨ x.toInt = 23 ∨ x.toInt = 24 ∨ x.toInt = 25 ∨ x.toInt = 26 := by omega
  rcases hz with hz | hz | hz | hz | hz | hz | hz | hz | hz | hz | hz | hz | hz | hz | hz | hz | hz | hz | hz | hz | hz | hz | hz | hz | hz | hz | hz
  · refine lv_tableIn (off := 124) (tgt := 164) hx hb dL_law_40 (by omega) (by omega) (by rw [hz]; rfl) (by decide) ?_
    exact lawc_bond pk_bond C i1 i2 i3 i4 i5 (by omega) k2 hR hbud hP hD hS hl
  · refine lv_tableIn (off := 197) (tgt := 237) hx hb dL_law_40 (by omega) (by omega) (by rw [hz]; rfl) (by decide) ?_
    exact lawc_drop pk_drop C i1 i2 i3 i4 i5 (by omega) k2 hR hbud hP hD hS hl
  · refine lv_tableIn (off := 222) (tgt := 262) hx hb dL_law_40 (by omega) (by omega) (by rw [hz]; rfl) (by decide) ?_
    exact lawc_alter pk_alter C i1 i2 i3 i4 i5 (by omega) k2 hR hbud hP hD hS hl
  · refine lv_tableIn (off := 271) (tgt := 311) hx hb dL_law_40 (by omega) (by omega) (by rw [hz]; rfl) (by decide) ?_
    exact lawc_of pk_of C i1 i2 i3 i4 i5 (by omega) k2 hR hbud hP hD hS hl
  · refine lv_tableIn (off := 339) (tgt := 379) hx hb dL_law_40 (by omega) (by omega) (by rw [hz]; rfl) (by decide) ?_
    exact lawc_flow pk_flow C i1 i2 i3 i4 i5 (by omega) k2 hR hbud hP hD hS hl
  · refine lv_tableIn (off := 376) (tgt := 416) hx hb dL_law_40 (by omega) (by omega) (by rw [hz]; rfl) (by decide) ?_
    exact lawc_price pk_price C i1 i2 i3 i4 i5 (by omega) k2 hR hbud hP hD hS hl
  · refine lv_tableIn (off := 413) (tgt := 453) hx hb dL_law_40 (by omega) (by omega) (by rw [hz]; rfl) (by decide) ?_
    exact lawc_rateOf pk_rateOf C i1 i2 i3 i4 i5 (by omega) k2 hR hbud hP hD hS hl
  · refine lv_tableIn (off := 450) (tgt := 490) hx hb dL_law_40 (by omega) (by omega) (by rw [hz]; rfl) (by decide) ?_
    exact lawc_contract pk_contract C i1 i2 i3 i4 i5 (by omega) k2 hR hbud hP hD hS hl
  · refine lv_tableIn (off := 499) (tgt := 539) hx hb dL_law_40 (by omega) (by omega) (by rw [hz]; rfl) (by decide) ?_
    exact lawc_count pk_count C i1 i2 i3 i4 i5 (by omega) k2 hR hbud hP hD hS hl
  · refine lv_tableIn (off := 524) (tgt := 564) hx hb dL_law_40 (by omega) (by omega) (by rw [hz]; rfl) (by decide) ?_
    exact lawc_cheapest pk_cheapest C i1 i2 i3 i4 i5 (by omega) k2 hR hbud hP hD hS hl
  · refine lv_tableIn (off := 549) (tgt := 589) hx hb dL_law_40 (by omega) (by omega) (by rw [hz]; rfl) (by decide) ?_
    exact lawc_ranked pk_ranked C i1 i2 i3 i4 i5 (by omega) k2 hR hbud hP hD hS hl
  · refine lv_tableIn (off := 586) (tgt := 626) hx hb dL_law_40 (by omega) (by omega) (by rw [hz]; rfl) (by decide) ?_
    exact lawc_mark pk_mark C i1 i2 i3 i4 i5 (by omega) k2 hR hbud hP hD hS hl
  · refine lv_tableIn (off := 612) (tgt := 652) hx hb dL_law_40 (by omega) (by omega) (by rw [hz]; rfl) (by decide) ?_
    exact lawc_gap pk_gap C i1 i2 i3 i4 i5 (by omega) k2 hR hbud hP hD hS hl
  · refine lv_tableIn (off := 679) (tgt := 719) hx hb dL_law_40 (by omega) (by omega) (by rw [hz]; rfl) (by decide) ?_
    exact lawc_switches pk_switches C i1 i2 i3 i4 i5 (by omega) k2 hR hbud hP hD hS hl
  · refine lv_tableIn (off := 728) (tgt := 768) hx hb dL_law_40 (by omega) (by omega) (by rw [hz]; rfl) (by decide) ?_
    exact lawc_implied pk_implied C i1 i2 i3 i4 i5 (by omega) k2 hR hbud hP hD hS hl
  · refine lv_tableIn (off := 785) (tgt := 825) hx hb dL_law_40 (by omega) (by omega) (by rw [hz]; rfl) (by decide) ?_
    exact lawc_meet pk_meet C i1 i2 i3 i4 i5 (by omega) k2 hR hbud hP hD hS hl
  · refine lv_tableIn (off := 846) (tgt := 886) hx hb dL_law_40 (by omega) (by omega) (by rw [hz]; rfl) (by decide) ?_
    exact lawc_cost pk_cost C i1 i2 i3 i4 i5 (by omega) k2 hR hbud hP hD hS hl
  · refine lv_tableIn (off := 925) (tgt := 965) hx hb dL_law_40 (by omega) (by omega) (by rw [hz]; rfl) (by decide) ?_
    exact lawc_tree pk_tree C i1 i2 i3 i4 i5 (by omega) k2 hR hbud hP hD hS hl
  · refine lv_tableIn (off := 998) (tgt := 1038) hx hb dL_law_40 (by omega) (by omega) (by rw [hz]; rfl) (by decide) ?_
    exact lawc_rate pk_rate C i1 i2 i3 i4 i5 (by omega) k2 hR hbud hP hD hS hl
  · refine lv_tableIn (off := 1035) (tgt := 1075) hx hb dL_law_40 (by omega) (by omega) (by rw [hz]; rfl) (by decide) ?_
    exact lawc_value pk_value C i1 i2 i3 i4 i5 (by omega) k2 hR hbud hP hD hS hl
  · refine lv_tableIn (off := 1102) (tgt := 1142) hx hb dL_law_40 (by omega) (by omega) (by rw [hz]; rfl) (by decide) ?_
    exact lawc_act pk_act C i1 i2 i3 i4 i5 (by omega) k2 hR hbud hP hD hS hl
  · refine lv_tableIn (off := 1139) (tgt := 1179) hx hb dL_law_40 (by omega) (by omega) (by rw [hz]; rfl) (by decide) ?_
    exact lawc_path pk_path C i1 i2 i3 i4 i5 (by omega) k2 hR hbud hP hD hS hl
  · refine lv_tableIn (off := 1192) (tgt := 1232) hx hb dL_law_40 (by omega) (by omega) (by rw [hz]; rfl) (by decide) ?_
    exact lawc_often pk_often C i1 i2 i3 i4 i5 (by omega) k2 hR hbud hP hD hS hl
  · refine lv_tableIn (off := 1217) (tgt := 1257) hx hb dL_law_40 (by omega) (by omega) (by rw [hz]; rfl) (by decide) ?_
    exact lawc_fixed pk_fixed C i1 i2 i3 i4 i5 (by omega) k2 hR hbud hP hD hS hl
  · refine lv_tableIn (off := 1272) (tgt := 1312) hx hb dL_law_40 (by omega) (by omega) (by rw [hz]; rfl) (by decide) ?_
    exact lawc_only pk_only C i1 i2 i3 i4 i5 (by omega) k2 hR hbud hP hD hS hl
  · refine lv_tableIn (off := 1327) (tgt := 1367) hx hb dL_law_40 (by omega) (by omega) (by rw [hz]; rfl) (by decide) ?_
    exact lawc_without pk_without C i1 i2 i3 i4 i5 (by omega) k2 hR hbud hP hD hS hl
  · refine lv_tableIn (off := 1382) (tgt := 1422) hx hb dL_law_40 (by omega) (by omega) (by rw [hz]; rfl) (by decide) ?_
    exact lawc_fair pk_fair C i1 i2 i3 i4 i5 (by omega) k2 hR hbud hP hD hS hl
set_option maxHeartbeats 4000000 in
set_option maxRecDepth 100000 in
theorem law_loop {p : Program} {l : Launch} {e : Env} {s : State} {m : MethodId} {below : List Frame} {meth : Method} {c : Code} {b L : Nat} {xs : Nat → Int32} {D : va_G} {cy : Nat → ClassId} (hL : L ≤ 3072) (C : Lx p l s m meth c b L xs D cy) {am : Nat → Nat → Nat} {ao : Nat} : ∀ (k it : Nat), it + k = 512 → ∀ (ad : Nat → Nat → Nat) (σ τ : ST) (o : Nat → Int64) (cs ss : Nat), RR σ τ → Bud it cs ss σ → ∀ (H : Heap) (locs : List Loc), va_P D vwCl (lwW cy ad am ao σ τ o) H → va_D (fun q : Nat => s.heap.size ≤ q) (lwW cy ad am ao σ τ o) → va_S (fun q : Nat => s.heap.size ≤ q) s.heap H locs → ∀ ls : Array Slot, lv_has ls 8 [(0, .ref b), (1, .ref (ad 0 0)), (2, .ref (am 0 0)), (3, .ref ao), (4, .int (zi (6 * ((it : Nat) : Int))))] → W p l e room_1 s m #[Value.ref b] below meth c H locs cs ss (lw_Z below #[Value.ref b] s) (F0 m 23 ls []) := by
  obtain ⟨hx, hb, hr, hml, hown, hts, hX, hbl, hlocks, hK, hXX, htr⟩ := id C
  have hbA : ¬ (fun q : Nat => s.heap.size ≤ q) b := Nat.not_le.mpr hbl
  intro k
  induction k with
  | zero =>
    intro it hk ad σ τ o cs ss hR hbud H locs hP hD hS ls hl
    refine lv_iload hx hb dL_law_23 (lv_at hl 4 rfl) ?_
    refine lv_aload_n hx hb dL_law_25 rfl (lv_at hl 0 rfl) ?_
    refine va_slen hx hb hX hbl hbA hS dL_law_26 ?_
    refine lv_bipush (v := 6) hx hb dL_law_27 (by decide) ?_
    refine lv_isub hx hb dL_law_29 ?_
    refine lv_icmp_gt (tgt := 1441) hx hb dL_law_30 (by decide) (fun c_1 => ?_) (fun c_1 => ?_)
    · refine lv_iconst (v := 1) hx hb dL_law_1441 (by decide) ?_
      refine va_forget (fun q hq => hS.2.2 q hq) ?_
      refine W.widen (k := 601024) (n := 7293034) (by unfold Bud at hbud; omega) (by unfold Bud at hbud; omega) ?_
      exact lw_ret hx hb hr hlocks dL_law_1442
    · exfalso
      apply c_1
      show zi (L : Int) - zi 6 < zi (6 * (it : Int))
      rw [zi_sub, ylt (by omega) (by omega) (by omega) (by omega)]; omega
  | succ k ih =>
    intro it hk ad σ τ o cs ss hR hbud H locs hP hD hS ls hl
    refine lv_iload hx hb dL_law_23 (lv_at hl 4 rfl) ?_
    refine lv_aload_n hx hb dL_law_25 rfl (lv_at hl 0 rfl) ?_
    refine va_slen hx hb hX hbl hbA hS dL_law_26 ?_
    refine lv_bipush (v := 6) hx hb dL_law_27 (by decide) ?_
    refine lv_isub hx hb dL_law_29 ?_
    refine lv_icmp_gt (tgt := 1441) hx hb dL_law_30 (by decide) (fun c_1 => ?_) (fun c_1 => ?_)
    · refine lv_iconst (v := 1) hx hb dL_law_1441 (by decide) ?_
      refine va_forget (fun q hq => hS.2.2 q hq) ?_
      refine W.widen (k := 601024) (n := 7293034) (by unfold Bud at hbud; omega) (by unfold Bud at hbud; omega) ?_
      exact lw_ret hx hb hr hlocks dL_law_1442
    · have h6 : 6 * it + 6 ≤ L := by
        have c2 : ¬ zi (L : Int) - zi 6 < zi (6 * (it : Int)) := c_1
        rw [zi_sub, ylt (by omega) (by omega) (by omega) (by omega)] at c2
        omega
      refine lv_aload_n hx hb dL_law_33 rfl (lv_at hl 0 rfl) ?_
      refine lv_iload hx hb dL_law_34 (lv_at hl 4 rfl) ?_
      have i0 : vp_in (zi (6 * (it : Int))) L := inb_vp (inb_z (by omega) (by omega) (by omega))
      refine va_sld hx hb hX hbl hbA hS i0 dL_law_36 ?_
      refine lv_bipush (v := 31) hx hb dL_law_37 (by decide) ?_
      refine lv_iand hx hb dL_law_39 ?_
      exact law_round hL C (by omega) h6 (ih (it + 1) (by omega)) hR hbud hP hD hS hl

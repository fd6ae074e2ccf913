/-! THE CALLS THAT ASK: class and reference side by side -/
def RR (σ τ : ST) : Prop := ∃ n B G, cC σ n B G ∧ mM τ n B G
theorem lm1 : (-1 : Int32) = zi (-1) := rfl
theorem zi_ex (a : Int32) : ∃ z, r32 z ∧ a = zi z := ⟨a.toInt, zi_rg a, (zi_of a).symm⟩
theorem zl_ex (a : Int64) : ∃ z, r64 z ∧ a = zl z := ⟨a.toInt, zl_rg a, (zl_of a).symm⟩
section P1
variable {σ τ : ST} {n : Nat} {B : Nat → Nat → Int} {G : Nat → Int}
theorem mM_10 (M : mM τ n B G) {v : Int32} : mM (sI τ 0 0 10 v) n B G := by
  obtain ⟨a, b, c, d⟩ := M
  refine ⟨a, ?_, ?_, fun i j hi hj => ?_⟩
  · rw [gI_sI, if_neg (by omega)]; exact b
  · simp only [gI_sI]; exact c
  · rw [gI_sI, if_neg (by omega)]; exact d i j hi hj
theorem mM_fr {τ' : ST} (M : mM τ n B G) (h0 : gI τ' 0 = gI τ 0) (h1 : gI τ' 1 = gI τ 1) : mM τ' n B G := by
  unfold mM at *; rw [h0, h1]; exact M
theorem t10 {v : Int32} : gI (sI τ 0 0 10 v) 0 0 10 = v := by rw [gI_sI, if_pos ⟨rfl, rfl, rfl⟩]
theorem cnt_e {σ' : ST} (h : gW σ' = gW σ) : cntF σ' ≤ cntF σ := by unfold cntF; rw [h]; exact Nat.le_refl _
theorem m_refuse : mX3_refuse τ = some (0, sI τ 0 0 10 1) := rfl
theorem in_b {a : Int} {n : Nat} (h : r32 a) (hn : n ≤ 8) (c : 0 ≤ a ∧ a < n) : ∃ i : Nat, i < n ∧ a = i := ⟨a.toNat, by omega, by omega⟩
theorem p_price {a1 a2 : Int32} (h : RR σ τ) : ∃ q r, mX2_price σ a1 a2 = some q ∧ mX3_price τ a1 a2 = some r ∧ q.1 = r.1 ∧ RR q.2 r.2 ∧ cntF q.2 ≤ cntF σ := by
  obtain ⟨n, B, G, C, M⟩ := h
  have M' : mM (sI τ 0 0 10 0) n B G := mM_10 M
  have hn := M.1.1
  obtain ⟨z1, h1, rfl⟩ := zi_ex a1
  obtain ⟨z2, h2, rfl⟩ := zi_ex a2
  unfold mX2_price mX3_price
  rw [sv_z]
  simp only [c_has C h1, m_isBond M' h1, c_isRate h2, m_isRate h2, ob_s, b2i0]
  by_cases c : 0 ≤ z1 ∧ z1 < n
  · obtain ⟨i, hi, rfl⟩ := in_b h1 hn c
    by_cases d : 0 ≤ z2 ∧ z2 ≤ 3000
    · obtain ⟨σ1, e1, E1, C1⟩ := c_price C hi d.1 d.2
      simp (disch := omega) only [decide_eq_true c, decide_eq_true d, inb_z, gdt, yN, Int.toNat_natCast, c_pl C.1 hi, decide_true, e1, m_price1 M' hi d.1 d.2, ob_s, zl_I]
      exact ⟨_, _, rfl, rfl, rfl, ⟨n, B, G, C1, M'⟩, cnt_e E1.2.2.2⟩
    · simp only [decide_eq_true c, decide_eq_false d]
      exact ⟨_, _, rfl, rfl, rfl, ⟨n, B, G, C, M'⟩, Nat.le_refl _⟩
  · simp only [decide_eq_false c]
    exact ⟨_, _, rfl, rfl, rfl, ⟨n, B, G, C, M'⟩, Nat.le_refl _⟩
theorem p_rateOf {a1 a2 : Int32} (h : RR σ τ) : ∃ q r, mX2_rateOf σ a1 a2 = some q ∧ mX3_rateOf τ a1 a2 = some r ∧ q.1 = r.1 ∧ RR q.2 r.2 ∧ cntF q.2 ≤ cntF σ := by
  obtain ⟨n, B, G, C, M⟩ := h
  have M' : mM (sI τ 0 0 10 0) n B G := mM_10 M
  have hn := M.1.1
  obtain ⟨z1, h1, rfl⟩ := zi_ex a1
  obtain ⟨z2, h2, rfl⟩ := zi_ex a2
  unfold mX2_rateOf mX3_rateOf
  rw [sv_z]
  simp only [c_has C h1, m_isBond M' h1, ob_s, b2i0]
  by_cases c : 0 ≤ z1 ∧ z1 < n
  · obtain ⟨i, hi, rfl⟩ := in_b h1 hn c
    obtain ⟨σ1, e1, C1, w1⟩ := c_rateL (B := B) (G := G) hi h2 12 (-1) σ FU C (by omega) (by omega) (by omega) (by unfold FU; omega)
    have e2 := m_rateL M' hi h2 3001 0 FU (by omega) (by omega) (by unfold FU; omega)
    have e3 : kX2_rateOf_17 FU (σ, zi i, zi z2, -1, 2048) = _ := e1
    have e4 : kX3_rateOf_17 FU (sI τ 0 0 10 0, zi i, zi z2, 0) = _ := e2
    simp only [decide_eq_true c, e3, e4]
    refine ⟨_, _, rfl, rfl, ?_, ⟨n, B, G, C1, M'⟩, cnt_e w1⟩
    show zi _ = zi _
    rw [bl_sc (by omega) (fun x y _ hxy _ ht => ?_) (by decide)]
    · rfl
    · have := prZ_mono (C.1.1.2.1 i hi) hxy
      exact decide_eq_true (by have := of_decide_eq_true ht; omega)
  · simp only [decide_eq_false c]
    exact ⟨_, _, rfl, rfl, rfl, ⟨n, B, G, C, M'⟩, Nat.le_refl _⟩
theorem p_cheapest {a1 : Int32} (h : RR σ τ) : ∃ q r, mX2_cheapest σ a1 = some q ∧ mX3_cheapest τ a1 = some r ∧ q.1 = r.1 ∧ RR q.2 r.2 ∧ cntF q.2 ≤ cntF σ := by
  obtain ⟨n, B, G, C, M⟩ := h
  have M' : mM (sI τ 0 0 10 0) n B G := mM_10 M
  obtain ⟨z1, h1, rfl⟩ := zi_ex a1
  obtain ⟨x, ex, hx⟩ := c_bits C
  unfold mX2_cheapest mX3_cheapest
  rw [sv_z]
  simp only [c_isRate h1, m_isRate h1, ob_s, b2i0, ex]
  by_cases d : 0 ≤ z1 ∧ z1 ≤ 3000
  · obtain ⟨σ1, e1, C1, w1, _⟩ := c_cheapestAt C hx d.1 d.2
    simp only [decide_eq_true d, e1, m_cheapest1 M' d.1 d.2, ob_s]
    exact ⟨_, _, rfl, rfl, rfl, ⟨n, B, G, C1, M'⟩, cnt_e w1⟩
  · simp only [decide_eq_false d]
    exact ⟨_, _, rfl, rfl, rfl, ⟨n, B, G, C, M'⟩, Nat.le_refl _⟩
theorem p_ranked {a1 a2 : Int32} (h : RR σ τ) : ∃ q r, mX2_ranked σ a1 a2 = some q ∧ mX3_ranked τ a1 a2 = some r ∧ q.1 = r.1 ∧ RR q.2 r.2 ∧ cntF q.2 ≤ cntF σ := by
  obtain ⟨n, B, G, C, M⟩ := h
  have M' : mM (sI τ 0 0 10 0) n B G := mM_10 M
  have hn := M.1.1
  obtain ⟨z1, h1, rfl⟩ := zi_ex a1
  obtain ⟨z2, h2, rfl⟩ := zi_ex a2
  obtain ⟨x, ex, hx⟩ := c_bits C
  unfold mX2_ranked mX3_ranked
  rw [sv_z]
  simp only [c_isRate h1, m_isRate h1, ob_s, b2i0, ex]
  by_cases d : 0 ≤ z1 ∧ z1 ≤ 3000
  · obtain ⟨σ1, e1, C1, w1, hp⟩ := c_lay C hx d.1 d.2
    have e2 : kX2_ranked_23 FU (σ1, zi z2, x, 0) = _ := c_rankL C1 hx hp h2 n 0 FU (by omega) (by unfold FU; omega)
    have e3 : kX3_ranked_16 FU (sI τ 0 0 10 0, zi z1, zi z2, 0) = _ := m_rankL M' d.1 d.2 h2 n 0 FU (by omega) (by unfold FU; omega)
    simp only [decide_eq_true d, e1, e2, e3, ob_s]
    exact ⟨_, _, rfl, rfl, rfl, ⟨n, B, G, C1, M'⟩, cnt_e w1⟩
  · simp only [decide_eq_false d]
    exact ⟨_, _, rfl, rfl, rfl, ⟨n, B, G, C, M'⟩, Nat.le_refl _⟩
theorem p_mark {a1 : Int32} (h : RR σ τ) : ∃ q r, mX2_mark σ a1 = some q ∧ mX3_mark τ a1 = some r ∧ q.1 = r.1 ∧ RR q.2 r.2 ∧ cntF q.2 ≤ cntF σ := by
  obtain ⟨n, B, G, C, M⟩ := h
  have M' : mM (sI τ 0 0 10 0) n B G := mM_10 M
  obtain ⟨z1, h1, rfl⟩ := zi_ex a1
  obtain ⟨x, ex, hx⟩ := c_bits C
  unfold mX2_mark mX3_mark
  rw [sv_z]
  simp only [c_isRate h1, m_isRate h1, ob_s, b2i0, ex, m_isAny M']
  by_cases d : 0 ≤ z1 ∧ z1 ≤ 3000
  · cases a : anZ n (elZ B G) with
    | true =>
      obtain ⟨σ1, e1, C1, w1⟩ := c_markAt C hx a d.1 d.2
      simp only [decide_eq_true d, e1, m_mark1 M' a d.1 d.2, ob_s]
      exact ⟨_, _, rfl, rfl, rfl, ⟨n, B, G, C1, M'⟩, cnt_e w1⟩
    | false =>
      obtain ⟨σ1, e1, C1, w1⟩ := c_markAt0 C hx a d.1 d.2
      simp only [decide_eq_true d, e1, ob_s]
      exact ⟨_, _, rfl, rfl, rfl, ⟨n, B, G, C1, M'⟩, cnt_e w1⟩
  · simp only [decide_eq_false d]
    exact ⟨_, _, rfl, rfl, rfl, ⟨n, B, G, C, M'⟩, Nat.le_refl _⟩
theorem p_implied {a1 : Int64} (h : RR σ τ) : ∃ q r, mX2_implied σ a1 = some q ∧ mX3_implied τ a1 = some r ∧ q.1 = r.1 ∧ RR q.2 r.2 ∧ cntF q.2 ≤ cntF σ := by
  obtain ⟨n, B, G, C, M⟩ := h
  have M' : mM (sI τ 0 0 10 0) n B G := mM_10 M
  obtain ⟨z1, h1, rfl⟩ := zl_ex a1
  obtain ⟨x, ex, hx⟩ := c_bits C
  unfold mX2_implied mX3_implied
  rw [sv_z]
  simp only [ob_s, b2i0, ex, m_isAny M', bs_0 hx]
  cases a : anZ n (elZ B G) with
  | true =>
    obtain ⟨σ1, e1, C1, w1⟩ := c_implL hx a h1 12 (-1) σ FU C (by omega) (by omega) (by omega) (by unfold FU; omega)
    have e2 := m_implL M' a h1 3001 0 FU (by omega) (by omega) (by unfold FU; omega)
    have e3 : kX2_implied_19 FU (σ, zl z1, x, -1, 2048) = _ := e1
    have e4 : kX3_implied_16 FU (sI τ 0 0 10 0, zl z1, 0) = _ := e2
    simp only [e3, e4]
    refine ⟨_, _, rfl, rfl, ?_, ⟨n, B, G, C1, M'⟩, cnt_e w1⟩
    show zi _ = zi _
    rw [bl_sc (by omega) (fun x y _ hxy _ ht => ?_) (by decide)]
    · rfl
    · have := mkZ_mono C.1.1 a hxy
      exact decide_eq_true (by have := of_decide_eq_true ht; omega)
  | false =>
    exact ⟨_, _, rfl, rfl, rfl, ⟨n, B, G, C, M'⟩, Nat.le_refl _⟩
theorem p_flow {a1 a2 : Int32} (h : RR σ τ) : ∃ q r, mX2_flow σ a1 a2 = some q ∧ mX3_flow τ a1 a2 = some r ∧ q = r.1 ∧ RR σ r.2 := by
  obtain ⟨n, B, G, C, M⟩ := h
  have M' : mM (sI τ 0 0 10 0) n B G := mM_10 M
  have hn := M.1.1
  obtain ⟨z1, h1, rfl⟩ := zi_ex a1
  obtain ⟨z2, h2, rfl⟩ := zi_ex a2
  unfold mX2_flow mX3_flow
  rw [sv_z]
  simp only [c_has C h1, m_isBond M' h1, ob_s, b2i0]
  by_cases c : 0 ≤ z1 ∧ z1 < n
  · obtain ⟨i, hi, rfl⟩ := in_b h1 hn c
    have D := C.1.2.2.2.2.2.2 i hi
    obtain ⟨_, _, ⟨g2, g2'⟩, _⟩ := D.1
    obtain ⟨y1, y2⟩ := h2
    simp (disch := omega) only [decide_eq_true c, inb_z, gdt, yN, Int.toNat_natCast, c_pl C.1 hi, decide_true, D.2.1 2 (by omega), l1, c_wi, m_of1_2 M' hi, ob_s, yL, L1, m_isIn, b2i0]
    by_cases d : 1 ≤ z2 ∧ z2 ≤ B i 2
    · have e := D.2.2.1 z2.toNat (by omega) (by omega)
      rw [show (z2.toNat : Int) = z2 by omega] at e
      simp (disch := omega) only [decide_eq_true d, m_flow1 M' hi d.1 d.2, ob_s, zl_I, inb_z, gdt, yN, e]
      exact ⟨_, _, rfl, rfl, rfl, ⟨n, B, G, C, M'⟩⟩
    · simp only [decide_eq_false d]
      exact ⟨_, _, rfl, rfl, rfl, ⟨n, B, G, C, M'⟩⟩
  · simp only [decide_eq_false c]
    exact ⟨_, _, rfl, rfl, rfl, ⟨n, B, G, C, M'⟩⟩
theorem p_gap {a1 a2 : Int32} (h : RR σ τ) : ∃ q r, mX2_gap σ a1 a2 = some q ∧ mX3_gap τ a1 a2 = some r ∧ gI r.2 0 0 10 = rL_gap q ∧ (∀ v, q.1 = some v → v = r.1) ∧ RR q.2 r.2 ∧ cntF q.2 ≤ cntF σ := by
  obtain ⟨n, B, G, C, M⟩ := h
  have M' : mM (sI τ 0 0 10 0) n B G := mM_10 M
  have hn := M.1.1
  have no : ∀ v : Int64, (none : Option Int64) = some v → v = Int32.toInt64 0 := fun v h => by cases h
  obtain ⟨z1, h1, rfl⟩ := zi_ex a1
  obtain ⟨z2, h2, rfl⟩ := zi_ex a2
  obtain ⟨x, ex, hx⟩ := c_bits C
  unfold mX2_gap mX3_gap
  rw [sv_z]
  simp only [c_has C h1, m_isBond M' h1, c_isRate h2, m_isRate h2, m_refuse, ob_s, b2i0, ex]
  by_cases c : 0 ≤ z1 ∧ z1 < n
  · obtain ⟨i, hi, rfl⟩ := in_b h1 hn c
    simp only [decide_eq_true c, c_elig C hi, m_elig M' hi, ob_s, b2i0]
    cases e : elZ B G i with
    | false =>
      exact ⟨_, _, rfl, rfl, t10, no, ⟨n, B, G, C, mM_10 M'⟩, Nat.le_refl _⟩
    | true =>
      by_cases d : 0 ≤ z2 ∧ z2 ≤ 3000
      · have a : anZ n (elZ B G) = true := decide_eq_true ⟨i, hi, e⟩
        obtain ⟨σ1, e1, C1, w1⟩ := c_markAt C hx a d.1 d.2
        obtain ⟨σ2, e2, E2, C2⟩ := c_price C1 hi d.1 d.2
        have mb := mkZ_b C.1.1 a z2
        have fb := faZ_b (C.1.1.2.1 i hi) C.1.1.2.2.1.1
        have pb := prZ_b (C.1.1.2.1 i hi) z2
        have iv := m_invoice M' hi mb.1 mb.2
        have m1 : 0 ≤ mkZ (elZ B G) (PZ B z2) (FZ B G) n * faZ (B i) (G 0) := Int.mul_nonneg mb.1 fb.1
        have m2 : mkZ (elZ B G) (PZ B z2) (FZ B G) n * faZ (B i) (G 0) ≤ 16800000000000 * 168000 := Int.mul_le_mul mb.2 fb.2 fb.1 (by omega)
        simp (disch := omega) only [decide_eq_true d, e1, ob_s, inb_z, gdt, yN, Int.toNat_natCast, c_pl C1.1 hi, c_pl C2.1 hi, decide_true, e2, mX0_invoiceBy, C2.2 i hi, yL, zl_mul, L10000, wdv, zl_sub, m_price1 M' hi d.1 d.2, m_mark1 M' a d.1 d.2, iv]
        refine ⟨_, _, rfl, rfl, t10, fun v h => ?_, ⟨n, B, G, C2, M'⟩, cnt_e (E2.2.2.2.trans w1)⟩
        cases h; rfl
      · simp only [decide_eq_false d]
        exact ⟨_, _, rfl, rfl, t10, no, ⟨n, B, G, C, mM_10 M'⟩, Nat.le_refl _⟩
  · simp only [decide_eq_false c]
    exact ⟨_, _, rfl, rfl, t10, no, ⟨n, B, G, C, mM_10 M'⟩, Nat.le_refl _⟩
theorem p_of {a1 a2 : Int32} (h : RR σ τ) : ∃ q r, mX2_of σ a1 a2 = some q ∧ mX3_of τ a1 a2 = some r ∧ gI r.2 0 0 10 = rL_of q ∧ (∀ v, q.1 = some v → Int32.toInt64 v = Int32.toInt64 r.1) ∧ RR q.2 r.2 ∧ cntF q.2 ≤ cntF σ := by
  obtain ⟨n, B, G, C, M⟩ := h
  have M' : mM (sI τ 0 0 10 0) n B G := mM_10 M
  have hn := M.1.1
  have no : ∀ v : Int32, (none : Option Int32) = some v → Int32.toInt64 v = Int32.toInt64 0 := fun v h => by cases h
  have ys : ∀ w v : Int32, some w = some v → Int32.toInt64 v = Int32.toInt64 w := fun w v h => by cases h; rfl
  obtain ⟨z1, h1, rfl⟩ := zi_ex a1
  unfold mX2_of mX3_of
  rw [sv_z]
  simp only [c_has C h1, m_isBond M' h1, m_refuse, ob_s, b2i0]
  by_cases c : 0 ≤ z1 ∧ z1 < n
  · obtain ⟨i, hi, rfl⟩ := in_b h1 hn c
    have D := C.1.2.2.2.2.2.2 i hi
    have RN : RR σ (sI τ 0 0 10 0) := ⟨n, B, G, C, M'⟩
    simp (config := { maxSteps := 1000000 }) (disch := omega) only [decide_eq_true c, inb_z, gdt, yN, Int.toNat_natCast, c_pl C.1 hi, decide_true, c_elig C hi, m_elig M' hi, ob_s, b2i0, D.2.1 0 (by omega), D.2.1 1 (by omega), D.2.1 2 (by omega), D.2.1 3 (by omega), D.2.1 4 (by omega), D.2.1 5 (by omega), D.2.1 6 (by omega), C.2 i hi]
    by_cases k0 : a2 = 0
    · subst k0; simp only [if_true, m_of1_0 M' hi, ob_s]
      exact ⟨_, _, rfl, rfl, t10, ys _, RN, Nat.le_refl _⟩
    by_cases k1 : a2 = 1
    · subst k1; simp only [k0, if_false, if_true, m_of1_1 M' hi, ob_s]
      exact ⟨_, _, rfl, rfl, t10, ys _, RN, Nat.le_refl _⟩
    by_cases k2 : a2 = 2
    · subst k2; simp only [k0, k1, if_false, if_true, m_of1_2 M' hi, ob_s]
      exact ⟨_, _, rfl, rfl, t10, ys _, RN, Nat.le_refl _⟩
    by_cases k3 : a2 = 3
    · subst k3; simp only [k0, k1, k2, if_false, if_true, m_of1_3 M' hi, ob_s]
      exact ⟨_, _, rfl, rfl, t10, ys _, RN, Nat.le_refl _⟩
    by_cases k4 : a2 = 4
    · subst k4; simp only [k0, k1, k2, k3, if_false, if_true, m_of1_4 M' hi, ob_s]
      exact ⟨_, _, rfl, rfl, t10, ys _, RN, Nat.le_refl _⟩
    by_cases k5 : a2 = 5
    · subst k5; simp only [k0, k1, k2, k3, k4, if_false, if_true, m_of1_5 M' hi, ob_s]
      exact ⟨_, _, rfl, rfl, t10, ys _, RN, Nat.le_refl _⟩
    by_cases k6 : a2 = 6
    · subst k6; simp only [k0, k1, k2, k3, k4, k5, if_false, if_true, m_of1_6 M' hi, ob_s]
      exact ⟨_, _, rfl, rfl, t10, ys _, RN, Nat.le_refl _⟩
    simp only [k0, k1, k2, k3, k4, k5, k6, if_false]
    by_cases k7 : a2 = 7
    · subst k7; simp only [if_true, m_factor M' hi, ob_s, zl_I]
      exact ⟨_, _, rfl, rfl, t10, ys _, RN, Nat.le_refl _⟩
    simp only [k7, if_false]
    by_cases k8 : a2 = 8
    · subst k8; simp only [if_true]
      cases e : elZ B G i
      · exact ⟨_, _, rfl, rfl, t10, ys _, RN, Nat.le_refl _⟩
      · exact ⟨_, _, rfl, rfl, t10, ys _, RN, Nat.le_refl _⟩
    simp only [k8, if_false]
    exact ⟨_, _, rfl, rfl, t10, no, ⟨n, B, G, C, mM_10 M'⟩, Nat.le_refl _⟩
  · simp only [decide_eq_false c]
    exact ⟨_, _, rfl, rfl, t10, no, ⟨n, B, G, C, mM_10 M'⟩, Nat.le_refl _⟩
theorem p_count {a1 : Int32} (h : RR σ τ) : ∃ q r, mX2_count σ a1 = some q ∧ mX3_count τ a1 = some r ∧ q = r.1 ∧ RR σ r.2 := by
  obtain ⟨n, B, G, C, M⟩ := h
  have M' : mM (sI τ 0 0 10 0) n B G := mM_10 M
  have RN : RR σ (sI τ 0 0 10 0) := ⟨n, B, G, C, M'⟩
  obtain ⟨x, ex, hx⟩ := c_bits C
  obtain ⟨y, ey, hy⟩ := m_eligible M'
  have := bs_eq hx hy
  subst this
  obtain ⟨t2, t3, t4, t5, t6, t7, t8, t9, t11, t12⟩ := M'.2.2.1
  obtain ⟨s2, s3, s4⟩ := C.1.2.2.2.1
  obtain ⟨s5, s6, s7, s8, s9⟩ := C.1.2.2.2.2.1
  unfold mX2_count mX3_count
  rw [sv_z]
  simp only [C.1.2.2.1, M'.2.1, t2, t3, t4, t5, t6, t7, t8, t9, s2, s3, s4, s5, s6, s7, s8, s9, ex, ey, c_stocks C, m_stocks M', ob_s]
  by_cases k0 : a1 = 0
  · rw [if_pos k0, if_pos k0]; exact ⟨_, _, rfl, rfl, rfl, RN⟩
  rw [if_neg k0, if_neg k0]
  by_cases k1 : a1 = 1
  · rw [if_pos k1, if_pos k1]; exact ⟨_, _, rfl, rfl, rfl, RN⟩
  rw [if_neg k1, if_neg k1]
  by_cases k2 : a1 = 2
  · rw [if_pos k2, if_pos k2]; exact ⟨_, _, rfl, rfl, rfl, RN⟩
  rw [if_neg k2, if_neg k2]
  by_cases k3 : a1 = 3
  · rw [if_pos k3, if_pos k3]; exact ⟨_, _, rfl, rfl, rfl, RN⟩
  rw [if_neg k3, if_neg k3]
  by_cases k4 : a1 = 4
  · rw [if_pos k4, if_pos k4]; exact ⟨_, _, rfl, rfl, rfl, RN⟩
  rw [if_neg k4, if_neg k4]
  by_cases k5 : a1 = 5
  · rw [if_pos k5, if_pos k5]; exact ⟨_, _, rfl, rfl, rfl, RN⟩
  rw [if_neg k5, if_neg k5]
  by_cases k6 : a1 = 6
  · rw [if_pos k6, if_pos k6]; exact ⟨_, _, rfl, rfl, rfl, RN⟩
  rw [if_neg k6, if_neg k6]
  by_cases k7 : a1 = 7
  · rw [if_pos k7, if_pos k7]; exact ⟨_, _, rfl, rfl, rfl, RN⟩
  rw [if_neg k7, if_neg k7]
  by_cases k8 : a1 = 8
  · rw [if_pos k8, if_pos k8]; exact ⟨_, _, rfl, rfl, rfl, RN⟩
  rw [if_neg k8, if_neg k8]
  by_cases k9 : a1 = 9
  · rw [if_pos k9, if_pos k9]; exact ⟨_, _, rfl, rfl, rfl, RN⟩
  rw [if_neg k9, if_neg k9]
  by_cases k10 : a1 = 10
  · rw [if_pos k10, if_pos k10]; exact ⟨_, _, rfl, rfl, rfl, RN⟩
  rw [if_neg k10, if_neg k10]
  exact ⟨_, _, rfl, rfl, rfl, RN⟩
theorem keep_gW {k j : Nat} : gW (mX0_keepWorths σ k) j = (gW σ j || decide (j = k)) := by
  unfold mX0_keepWorths
  by_cases c : gW σ k = true
  · rw [if_pos c]
    by_cases e : j = k
    · subst e; simp [c]
    · simp [e]
  · rw [if_neg c]
    show (if j = k then true else gW σ j) = _
    by_cases e : j = k
    · simp [e]
    · simp [e]
theorem cC_keep (C : cC σ n B G) {i : Nat} (hi : i < n) : cC (mX0_keepWorths σ (gP σ i)) n B G := by
  unfold mX0_keepWorths
  by_cases c : gW σ (gP σ i) = true
  · rw [if_pos c]; exact C
  · rw [if_neg c]
    obtain ⟨⟨a, b, cc, d, e, f, g⟩, h⟩ := C
    have hn := a.1
    refine ⟨⟨a, b, cc, d, e, f, fun j hj => ?_⟩, h⟩
    obtain ⟨D1, D2, D3, D4⟩ := g j hj
    refine ⟨D1, D2, D3, fun w r hr => ?_⟩
    change gI (sR σ 10 (gP σ i) (fun _ => 0)) 10 (gP σ j) r = 0 ∨ gI (sR σ 10 (gP σ i) (fun _ => 0)) 10 (gP σ j) r = _
    rw [gI_sR]
    by_cases k : gP σ j = gP σ i
    · rw [if_pos ⟨rfl, k⟩]; exact Or.inl rfl
    · rw [if_neg (fun q => k q.2)]
      apply D4 _ r hr
      have w : (if gP σ j = gP σ i then true else gW σ (gP σ j)) = true := w
      rw [if_neg k] at w; exact w
theorem cnt_keep {k : Nat} (hk : k < 8) : cntF (mX0_keepWorths σ k) ≤ cntF σ := by
  unfold mX0_keepWorths
  by_cases c : gW σ k = true
  · rw [if_pos c]; exact Nat.le_refl _
  · rw [if_neg c]
    have := cntF_keep hk c
    omega
theorem c_keepL {x : Int32} : ∀ (j i : Nat) (σ : ST) (fuel : Nat), cC σ n B G → i + j = n → j < fuel → ∃ σ', kX2_keepWorths_2 fuel (σ, x, zi i) = some σ' ∧ cC σ' n B G ∧ cntF σ' ≤ cntF σ
  | 0, i, σ, fuel, C, hij, hf => by
    obtain ⟨fu, rfl⟩ : ∃ f, fuel = f + 1 := ⟨fuel - 1, by omega⟩
    have hn := C.1.1.1
    refine ⟨σ, ?_, C, Nat.le_refl _⟩
    rw [ksX2_keepWorths_2]
    unfold bkX2_keepWorths_2
    rw [C.1.2.2.1, if_pos (by rw [yle (by omega) (by omega) (by omega) (by omega)]; omega)]
  | j + 1, i, σ, fuel, C, hij, hf => by
    obtain ⟨fu, rfl⟩ : ∃ f, fuel = f + 1 := ⟨fuel - 1, by omega⟩
    have hn := C.1.1.1
    have hi : i < n := by omega
    rw [ksX2_keepWorths_2]
    unfold bkX2_keepWorths_2
    simp (disch := omega) only [C.1.2.2.1, c_isIn x (show i < 8 by omega), ob_s, inb_z, gdt, yN, Int.toNat_natCast, c_pl C.1 hi, decide_true, sv_z, l1, zi_add]
    rw [if_neg (by rw [yle (by omega) (by omega) (by omega) (by omega)]; omega)]
    cases c : gb x i with
    | false =>
      exact c_keepL j (i + 1) σ fu C (by omega) (by omega)
    | true =>
      obtain ⟨σ', e, C', w⟩ := c_keepL (x := x) j (i + 1) _ fu (cC_keep C hi) (by omega) (by omega)
      exact ⟨σ', e, C', Nat.le_trans w (cnt_keep (c_pl C.1 hi))⟩
theorem p_switches {a1 a2 a3 : Int32} (h : RR σ τ) : ∃ q r nn, mX2_switches σ a1 a2 a3 = some q ∧ mX3_switches τ a1 a2 a3 = some r ∧ q.1 = r.1 ∧ RR q.2 r.2 ∧ swN σ a1 a2 a3 nn ∧ nn + cntF q.2 ≤ cntF σ := by
  obtain ⟨n, B, G, C, M⟩ := h
  have M' : mM (sI τ 0 0 10 0) n B G := mM_10 M
  have hn := M.1.1
  obtain ⟨z1, h1, rfl⟩ := zi_ex a1
  obtain ⟨z2, h2, rfl⟩ := zi_ex a2
  obtain ⟨z3, h3, rfl⟩ := zi_ex a3
  obtain ⟨x, ex, hx⟩ := c_bits C
  have RN : RR σ (sI τ 0 0 10 0) := ⟨n, B, G, C, M'⟩
  have y1 := h1.1
  have y2 := h1.2
  have y3 := h2.1
  have y4 := h2.2
  have y5 := h3.1
  have y6 := h3.2
  have bt : (b2i true = (0 : Int32)) = False := by simp [b2i]
  have bf : (b2i false = (0 : Int32)) = True := by simp [b2i]
  unfold mX2_switches mX3_switches swN
  rw [sv_z]
  simp only [c_isRate h1, m_isRate h1, c_isRate h2, m_isRate h2, ob_s, ex, m_isAny M', Option.some.injEq]
  by_cases d1 : 0 ≤ z1 ∧ z1 ≤ 3000
  · by_cases d2 : 0 ≤ z2 ∧ z2 ≤ 3000
    · by_cases d3 : z2 < z1
      · have d3' : zi z2 < zi z1 := (zi_lt h2 h1).mpr d3
        simp only [decide_eq_true d1, decide_eq_true d2, bt, if_false, d3', if_true]
        exact ⟨_, _, 0, rfl, rfl, rfl, RN, fun _ _ _ _ _ _ _ _ k => absurd trivial k, Nat.le_of_eq (Nat.zero_add _)⟩
      · have d3' : ¬ zi z2 < zi z1 := fun q => d3 ((zi_lt h2 h1).mp q)
        simp only [decide_eq_true d1, decide_eq_true d2, bt, if_false, d3']
        by_cases d4 : z3 < -1
        · have d4' : zi z3 < (-1 : Int32) := (ylt (b := -1) (by omega) (by omega) (by omega) (by omega)).mpr d4
          have d5' : ¬ (-1 : Int32) ≤ zi z3 := by rw [lm1, yle (by omega) (by omega) (by omega) (by omega)]; omega
          simp only [d4', d5', if_true, if_false]
          cases a : anZ n (elZ B G) with
          | true => exact ⟨_, _, 0, rfl, rfl, rfl, RN, fun _ _ _ _ _ _ _ _ _ k => absurd trivial k, Nat.le_of_eq (Nat.zero_add _)⟩
          | false => exact ⟨_, _, 0, rfl, rfl, rfl, RN, fun _ _ _ _ _ _ _ _ _ k => absurd trivial k, Nat.le_of_eq (Nat.zero_add _)⟩
        · have d4' : ¬ zi z3 < (-1 : Int32) := fun q => d4 ((ylt (b := -1) (by omega) (by omega) (by omega) (by omega)).mp q)
          have d5' : (-1 : Int32) ≤ zi z3 := by rw [lm1, yle (by omega) (by omega) (by omega) (by omega)]; omega
          simp only [d4', d5', if_true, if_false]
          cases a : anZ n (elZ B G) with
          | false =>
            have x0 := (bs_0 hx).mpr a
            simp only [x0, if_true, bf]
            exact ⟨_, _, 0, rfl, rfl, rfl, RN, fun _ _ _ _ _ _ _ _ _ _ e k => absurd e.symm k, Nat.le_of_eq (Nat.zero_add _)⟩
          | true =>
            have x0 : ¬ x = 0 := fun q => by rw [(bs_0 hx).mp q] at a; cases a
            simp only [x0, if_false, bt]
            obtain ⟨σ1, e1, C1, w1⟩ := c_keepL (x := x) n 0 σ FU C (by omega) (by unfold FU; omega)
            have e1 : mX2_keepWorths σ x = some σ1 := e1
            obtain ⟨σ2, e2, C2, w2, _⟩ := c_cheapestAt C1 hx d1.1 d1.2
            obtain ⟨σ3, e3, C3, w3⟩ := c_swL (B := B) (G := G) hx d2.2 h3 (z2 - z1).toNat (z1 + 1) 0 σ2 FU C2 (by omega) (by omega) (by omega) (by omega) (by unfold FU; omega)
            have e4 := m_swL M' d2.2 h3 (z2 - z1).toNat (z1 + 1) 0 FU (by omega) (by omega) (by omega) (by omega) (by unfold FU; omega)
            rw [show z1 + 1 - 1 = z1 by omega] at e3
            have e3' : kX2_switches_60 FU (σ2, zi z2, zi z3, x, 0, zi (chZ (elZ B G) (PZ B z1) (FZ B G) n), zi (z1 + 1)) = _ := e3
            have e4' : kX3_switches_46 FU (sI τ 0 0 10 0, zi z2, zi z3, 0, zi (z1 + 1)) = _ := e4
            have ez : zi z1 + (1 : Int32) = zi (z1 + 1) := by rw [l1, zi_add]
            simp only [e1, e2, ob_s, ez, e3', e4']
            refine ⟨_, _, cntF σ - cntF σ1, rfl, rfl, rfl, ⟨n, B, G, C3, M'⟩, fun q7 q9 bt q14 _ _ _ _ _ _ e k kk => ?_, ?_⟩
            · subst e
              rw [e1] at kk
              cases kk
              omega
            · have a1 := cnt_e w3
              have a2 := cnt_e w2
              show cntF σ - cntF σ1 + cntF σ3 ≤ cntF σ
              omega
    · simp only [decide_eq_true d1, decide_eq_false d2]
      exact ⟨_, _, 0, rfl, rfl, rfl, RN, fun _ _ _ _ _ _ e k => absurd (by rw [← e]; rfl) k, Nat.le_of_eq (Nat.zero_add _)⟩
  · simp only [decide_eq_false d1]
    exact ⟨_, _, 0, rfl, rfl, rfl, RN, fun _ _ _ _ e k => absurd (by rw [← e]; rfl) k, Nat.le_of_eq (Nat.zero_add _)⟩
end P1

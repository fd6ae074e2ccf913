/-! THE CALLS OF THE TREE -/
section Q1
variable {σ τ : ST} {n : Nat} {B : Nat → Nat → Int} {G : Nat → Int} {f : Nat → Bool} {x : Int32}
def dlZ (nw : Int → Int) (car : Int) (may : Bool) (last : Nat) (d u : Nat) : Bool := decide (d = last) || decide (Wd nw car may last d u ≤ nw (2 * (u : Int) - d))
theorem AZ_dl {nw pk : Int → Int} {car : Int} {last : Nat} {d u : Nat} (hd : d ≤ last) : AZ nw pk car true last (last - d) u = if dlZ nw car true last d u = true then pk (2 * (u : Int) - d) else -2 := by
  by_cases c : d = last
  · subst c
    rw [Nat.sub_self, if_pos (by unfold dlZ; simp)]
    rfl
  · obtain ⟨k, hk⟩ : ∃ k, d + (k + 1) = last := ⟨last - d - 1, by omega⟩
    rw [show last - d = k + 1 by omega]
    have e0 : AZ nw pk car true last (k + 1) u = if true = true ∧ WZ nw car true last k u ≤ nw (2 * (u : Int) - ((last : Int) - ((k : Int) + 1))) then pk (2 * (u : Int) - ((last : Int) - ((k : Int) + 1))) else -2 := rfl
    have e1 : Wd nw car true last d u = WZ nw car true last k u := by unfold Wd; rw [show last - d - 1 = k by omega]
    rw [e0, show (last : Int) - ((k : Int) + 1) = d by omega]
    unfold dlZ
    rw [e1]
    by_cases g : WZ nw car true last k u ≤ nw (2 * (u : Int) - d)
    · rw [if_pos ⟨rfl, g⟩, if_pos (by simp [g])]
    · rw [if_neg (fun k => g k.2), if_neg (by simp [g, c])]
theorem c_valueBy (C : cC σ n B G) (hx : bs x f n) (ha : anZ n f = true) : ∃ σ', mX2_valueBy σ x = some (zl (VZ (nwZ f B G (G 7) n) (G 6) true (G 3).toNat (G 3).toNat 0), σ') ∧ cC σ' n B G ∧ gW σ' = gW σ ∧ ∀ d', d' ≤ (G 3).toNat → row σ' (VZ (nwZ f B G (G 7) n) (G 6) true (G 3).toNat ((G 3).toNat - d')) (AZ (nwZ f B G (G 7) n) (pkZ f B G (G 7) n) (G 6) true (G 3).toNat ((G 3).toNat - d')) d' := by
  obtain ⟨g0, g1, g2, g3, g4, g5, g6, g7, g8⟩ := C.1.1.2.2
  obtain ⟨σ1, e1, C1, w1, p1⟩ := c_layP C
  obtain ⟨σ2, e2, C2, w2, i2, l2⟩ := c_layN C1 hx ha g6.1 g6.2 p1
  obtain ⟨σ3, e3, C3, w3, i3, r3⟩ := c_roll (may := true) (last := (G 3).toNat) C2 l2 (nwZ_b C.1.1 ha g6.1 g6.2) (by omega)
  refine ⟨σ3, ?_, C3, w3.trans (w2.trans w1), r3⟩
  unfold mX2_valueBy
  rw [e1, ob_s, C1.1.2.2.2.2.1.2.2.2.2, e2, ob_s, C2.1.2.2.2.2.1.1]
  rw [show ((G 3).toNat : Int) = G 3 by omega] at e3
  have e3 : mX1_rollBack σ2 (zi (G 3)) 1 = some (zl (VZ (nwZ f B G (G 7) n) (G 6) true (G 3) (G 3).toNat 0), σ3) := e3
  rw [e3, ob_s, show ((G 3).toNat : Int) = G 3 by omega]
theorem m_treeN (M : mM τ n B G) (ha : anZ n (elZ B G) = true) : ∃ τ', mX3_laysTree τ (-1) = some τ' ∧ mM τ' n B G ∧ gI τ' 0 = gI τ 0 ∧ gI τ' 1 = gI τ 1 ∧ (∀ d', d' ≤ (G 3).toNat → mrow τ' (nwZ (elZ B G) B G (G 7) n) (pkZ (elZ B G) B G (G 7) n) (VZ (nwZ (elZ B G) B G (G 7) n) (G 6) true (G 3).toNat ((G 3).toNat - d')) (Wd (nwZ (elZ B G) B G (G 7) n) (G 6) true (G 3).toNat d') d' (d' = (G 3).toNat)) := by
  have g3 := M.1.2.2.2.2.1
  exact m_tree M ha (Or.inl ⟨rfl, rfl, by omega⟩) (by omega)
theorem m_deliv (M : mM τ n B G) {nw pk V W : Int → Int} {car : Int} {d u : Nat} (hd : d ≤ (G 3).toNat) (hu : u ≤ d) (hW : ∀ u, W u = Wd nw car true (G 3).toNat d u) (h1 : -20000000000 ≤ nw (2 * (u : Int) - d) ∧ nw (2 * (u : Int) - d) ≤ 20000000000) (h2 : -40000000000 ≤ W u ∧ W u ≤ 40000000000) (R : mrow τ nw pk V W d (d = (G 3).toNat)) : mX3_delivers τ (zi d) (zi u) = some (b2i (dlZ nw car true (G 3).toNat d u)) := by
  have g3 := M.1.2.2.2.2.1
  have ea : (21 : Int32) * zi d + zi u = zi (21 * d + u : Nat) := by rw [l21, zi_mul, zi_add]; rfl
  unfold mX3_delivers
  rw [M.2.2.1.2.2.2.1, ea]
  have q1 : (zi (d : Int) = zi (G 3)) ↔ d = (G 3).toNat := by
    rw [yeq (by omega) (by omega) (by omega) (by omega)]; omega
  simp (disch := omega) only [q1, inb_z, gdt, yN, Int.toNat_natCast, (R u hu).2.1]
  unfold dlZ
  rw [← hW]
  by_cases c : d = (G 3).toNat
  · rw [if_pos c]; simp [c]
  · rw [if_neg c, (R u hu).2.2.2 c]
    have lt : (lg_cmp (zl (nw (2 * (u : Int) - d))) (zl (W u)) < (0 : Int32)) ↔ nw (2 * (u : Int) - d) < W u := by
      rw [lc_lt]; exact wlt (by omega) (by omega) (by omega) (by omega)
    simp only [lt]
    by_cases g : nw (2 * (u : Int) - d) < W u
    · rw [if_pos g]
      have : ¬ W u ≤ nw (2 * (u : Int) - d) := by omega
      simp [c, this]
    · rw [if_neg g]
      have : W u ≤ nw (2 * (u : Int) - d) := by omega
      simp [this]
theorem Wd_b (S : okS n B G) (ha : anZ n f = true) {may : Bool} {last d : Nat} (hl : last ≤ 20) (u : Int) : -40000000000 ≤ Wd (nwZ f B G (G 7) n) (G 6) may last d u ∧ Wd (nwZ f B G (G 7) n) (G 6) may last d u ≤ 40000000000 := by
  obtain ⟨g0, g1, g2, g3, g4, g5, g6, g7, g8⟩ := S.2.2
  have b1 := VZ_b (nwZ_b S ha g6.1 g6.2) g5.1 g5.2 (may := may) (last := last) (last - d - 1) u
  have b2 := VZ_b (nwZ_b S ha g6.1 g6.2) g5.1 g5.2 (may := may) (last := last) (last - d - 1) (u + 1)
  unfold Wd WZ
  have : ((last - d - 1 : Nat) : Int) ≤ 20 := by omega
  omega
theorem p_value {a1 a2 : Int32} (h : RR σ τ) : ∃ q r, mX2_value σ a1 a2 = some q ∧ mX3_value τ a1 a2 = some r ∧ gI r.2 0 0 10 = rL_value q ∧ (∀ v, q.1 = some v → v = r.1) ∧ RR q.2 r.2 ∧ cntF q.2 ≤ cntF σ := by
  obtain ⟨n, B, G, C, M⟩ := h
  have M' : mM (sI τ 0 0 10 0) n B G := mM_10 M
  have g3 := C.1.1.2.2.2.2.1
  have no : ∀ v : Int64, (none : Option Int64) = some v → v = Int32.toInt64 0 := fun v h => by cases h
  obtain ⟨z1, h1, rfl⟩ := zi_ex a1
  obtain ⟨z2, h2, rfl⟩ := zi_ex a2
  obtain ⟨x, ex, hx⟩ := c_bits C
  unfold mX2_value mX3_value
  rw [sv_z]
  simp only [ex, c_hasNode C h1 h2, m_isNode M' h1 h2, m_refuse, m_isAny M', ob_s, b2i0, bs_0 hx]
  by_cases c : (0 ≤ z1 ∧ z1 ≤ G 3) ∧ 0 ≤ z2 ∧ z2 ≤ z1
  · cases a : anZ n (elZ B G) with
    | true =>
      obtain ⟨d, rfl⟩ : ∃ d : Nat, z1 = d := ⟨z1.toNat, by omega⟩
      obtain ⟨u, rfl⟩ : ∃ u : Nat, z2 = u := ⟨z2.toNat, by omega⟩
      obtain ⟨σ1, e1, C1, w1, r1⟩ := c_valueBy C hx a
      obtain ⟨τ1, f1, M1, t0, _, r2⟩ := m_treeN M' a
      have ea : (21 : Int32) * zi d + zi u = zi (21 * d + u : Nat) := by rw [l21, zi_mul, zi_add]; rfl
      simp (disch := omega) only [decide_eq_true c, e1, f1, ob_s, ea, inb_z, gdt, yN, Int.toNat_natCast, (r1 d (by omega) u (by omega)).1, (r2 d (by omega) u (by omega)).1]
      refine ⟨_, _, rfl, rfl, ?_, fun v hv => by cases hv; rfl, ⟨n, B, G, C1, M1⟩, cnt_e w1⟩
      show gI τ1 0 0 10 = 0
      rw [t0]; exact t10
    | false =>
      simp only [decide_eq_true c]
      exact ⟨_, _, rfl, rfl, t10, no, ⟨n, B, G, C, mM_10 M'⟩, Nat.le_refl _⟩
  · simp only [decide_eq_false c]
    exact ⟨_, _, rfl, rfl, t10, no, ⟨n, B, G, C, mM_10 M'⟩, Nat.le_refl _⟩
theorem p_act {a1 a2 : Int32} (h : RR σ τ) : ∃ q r, mX2_act σ a1 a2 = some q ∧ mX3_act τ a1 a2 = some r ∧ q.1 = r.1 ∧ RR q.2 r.2 ∧ cntF q.2 ≤ cntF σ := by
  obtain ⟨n, B, G, C, M⟩ := h
  have M' : mM (sI τ 0 0 10 0) n B G := mM_10 M
  obtain ⟨g0, g1, g2, g3, g4, g5, g6, g7, g8⟩ := C.1.1.2.2
  unfold mX2_act mX3_act
  rw [sv_z]
  generalize sI τ 0 0 10 0 = τ' at M' ⊢
  have RN : RR σ τ' := ⟨n, B, G, C, M'⟩
  obtain ⟨z1, h1, rfl⟩ := zi_ex a1
  obtain ⟨z2, h2, rfl⟩ := zi_ex a2
  obtain ⟨x, ex, hx⟩ := c_bits C
  simp only [ex, c_hasNode C h1 h2, m_isNode M' h1 h2, m_isAny M', ob_s, b2i0, bs_0 hx]
  by_cases c : (0 ≤ z1 ∧ z1 ≤ G 3) ∧ 0 ≤ z2 ∧ z2 ≤ z1
  · cases a : anZ n (elZ B G) with
    | true =>
      obtain ⟨d, rfl⟩ : ∃ d : Nat, z1 = d := ⟨z1.toNat, by omega⟩
      obtain ⟨u, rfl⟩ : ∃ u : Nat, z2 = u := ⟨z2.toNat, by omega⟩
      obtain ⟨σ1, e1, C1, w1, r1⟩ := c_valueBy C hx a
      obtain ⟨τ1, f1, M1, t0, _, r2⟩ := m_treeN M' a
      have ea : (21 : Int32) * zi d + zi u = zi (21 * d + u : Nat) := by rw [l21, zi_mul, zi_add]; rfl
      have dv := m_deliv M1 (car := G 6) (show d ≤ (G 3).toNat by omega) (show u ≤ d by omega) (fun _ => rfl) (nwZ_b C.1.1 a g6.1 g6.2 _) (Wd_b C.1.1 a (by omega) _) (r2 d (by omega))
      have av := (r1 d (by omega) u (by omega)).2
      rw [AZ_dl (by omega)] at av
      simp (disch := omega) only [decide_eq_true c, e1, f1, ob_s, ea, inb_z, gdt, yN, Int.toNat_natCast, av, dv, b2i0, (r2 d (by omega) u (by omega)).2.2.1]
      cases dd : dlZ (nwZ (elZ B G) B G (G 7) n) (G 6) true (G 3).toNat d u with
      | true => exact ⟨_, _, rfl, rfl, rfl, ⟨n, B, G, C1, M1⟩, cnt_e w1⟩
      | false => exact ⟨_, _, rfl, rfl, rfl, ⟨n, B, G, C1, M1⟩, cnt_e w1⟩
    | false =>
      simp only [decide_eq_true c]
      exact ⟨_, _, rfl, rfl, rfl, RN, Nat.le_refl _⟩
  · simp only [decide_eq_false c]
    exact ⟨_, _, rfl, rfl, rfl, RN, Nat.le_refl _⟩
theorem m_dayIn (M : mM τ n B G) {z : Int} (h : r32 z) : mX3_isIn (Int32.toInt64 (zi z)) 0 (Int32.toInt64 (gI τ 0 0 5)) = some (b2i (decide (0 ≤ z ∧ z ≤ G 3))) := by
  have g3 := M.1.2.2.2.2.1
  obtain ⟨y1, y2⟩ := h
  rw [M.2.2.1.2.2.2.1, yL y1 y2, yL (by omega) (by omega), L0, m_isIn (by omega) (by omega) (by omega) (by omega) (by omega) (by omega)]
theorem p_fixed {a1 : Int32} (h : RR σ τ) : ∃ q r, mX2_fixed σ a1 = some q ∧ mX3_fixed τ a1 = some r ∧ gI r.2 0 0 10 = rL_fixed q ∧ (∀ v, q.1 = some v → v = r.1) ∧ RR q.2 r.2 ∧ cntF q.2 ≤ cntF σ := by
  obtain ⟨n, B, G, C, M⟩ := h
  have M' : mM (sI τ 0 0 10 0) n B G := mM_10 M
  obtain ⟨g0, g1, g2, g3, g4, g5, g6, g7, g8⟩ := C.1.1.2.2
  have no : ∀ v : Int64, (none : Option Int64) = some v → v = Int32.toInt64 0 := fun v h => by cases h
  obtain ⟨z1, h1, rfl⟩ := zi_ex a1
  obtain ⟨x, ex, hx⟩ := c_bits C
  unfold mX2_fixed mX3_fixed
  rw [sv_z]
  simp only [ex, c_hasDay C h1, m_dayIn M' h1, m_refuse, m_isAny M', ob_s, b2i0, bs_0 hx]
  by_cases c : 0 ≤ z1 ∧ z1 ≤ G 3
  · cases a : anZ n (elZ B G) with
    | true =>
      obtain ⟨d, rfl⟩ : ∃ d : Nat, z1 = d := ⟨z1.toNat, by omega⟩
      obtain ⟨σ1, e1, C1, w1, p1⟩ := c_layP C
      obtain ⟨σ2, e2, C2, w2, i2, l2⟩ := c_layN C1 hx a g6.1 g6.2 p1
      obtain ⟨σ3, e3, C3, w3, i3, r3⟩ := c_roll (may := false) (last := d) C2 l2 (nwZ_b C.1.1 a g6.1 g6.2) (by omega)
      obtain ⟨τ1, f1, M1, t0, _, r2⟩ := m_tree (may := false) (last := d) M' a (Or.inr ⟨rfl, rfl⟩) (by omega)
      have e3 : mX1_rollBack σ2 (zi d) 0 = _ := e3
      have n0 : Int32.toNatClampNeg 0 = 0 := by decide
      have i0 : inb (0 : Int32) 441 = true := by decide
      have v0 := (r2 0 (by omega) 0 (by omega)).1
      simp only [decide_eq_true c, e1, e2, e3, f1, ob_s, C1.1.2.2.2.2.1.2.2.2.2, n0, i0, gdt]
      refine ⟨_, _, rfl, rfl, ?_, fun v hv => ?_, ⟨n, B, G, C3, M1⟩, cnt_e (w3.trans (w2.trans w1))⟩
      · show gI τ1 0 0 10 = 0
        rw [t0]; exact t10
      · cases hv
        exact v0.symm
    | false =>
      simp only [decide_eq_true c]
      exact ⟨_, _, rfl, rfl, t10, no, ⟨n, B, G, C, mM_10 M'⟩, Nat.le_refl _⟩
  · simp only [decide_eq_false c]
    exact ⟨_, _, rfl, rfl, t10, no, ⟨n, B, G, C, mM_10 M'⟩, Nat.le_refl _⟩
theorem chZ_cg {f f' : Nat → Bool} {P F : Nat → Int} : ∀ k, (∀ i, i < k → f i = f' i) → chZ f P F k = chZ f' P F k
  | 0, _ => rfl
  | k + 1, h => by
    unfold chZ
    rw [chZ_cg k (fun i hi => h i (by omega)), h k (by omega)]
theorem nwZ_cg {f f' : Nat → Bool} {G' : Nat → Int} (hf : ∀ i, i < n → f i = f' i) (h0 : G' 0 = G 0) (h4 : G' 4 = G 4) (h5 : G' 5 = G 5) (m : Int) : nwZ f' B G' m n = nwZ f B G m n := by
  have gv : gvZ B G' m = gvZ B G m := by
    funext y i
    unfold gvZ inZ rlZ
    rw [h0, h4, h5]
  funext y
  unfold nwZ pkZ
  rw [gv, chZ_cg n hf]
def upG (G : Nat → Int) (t : Nat) (v : Int) : Nat → Int := fun s => if s = t then v else G s
theorem p_only {a1 : Int32} (h : RR σ τ) : ∃ q r, mX2_only σ a1 = some q ∧ mX3_only τ a1 = some r ∧ gI r.2 0 0 10 = rL_only q ∧ (∀ v, q.1 = some v → v = r.1) ∧ RR q.2 r.2 ∧ cntF q.2 ≤ cntF σ := by
  obtain ⟨n, B, G, C, M⟩ := h
  have M' : mM (sI τ 0 0 10 0) n B G := mM_10 M
  have hn := M.1.1
  obtain ⟨g0, g1, g2, g3, g4, g5, g6, g7, g8⟩ := C.1.1.2.2
  have no : ∀ v : Int64, (none : Option Int64) = some v → v = Int32.toInt64 0 := fun v h => by cases h
  obtain ⟨z1, h1, rfl⟩ := zi_ex a1
  unfold mX2_only mX3_only
  rw [sv_z]
  simp only [c_has C h1, m_isBond M' h1, m_refuse, ob_s, b2i0]
  by_cases c : 0 ≤ z1 ∧ z1 < n
  · obtain ⟨b, hb, rfl⟩ := in_b h1 hn c
    simp only [decide_eq_true c, c_elig C hb, m_elig M' hb, ob_s, b2i0]
    cases e : elZ B G b with
    | false =>
      exact ⟨_, _, rfl, rfl, t10, no, ⟨n, B, G, C, mM_10 M'⟩, Nat.le_refl _⟩
    | true =>
      have hx : bs ((1 : Int32) <<< (zi b &&& 31)) (fun i => decide (i = b)) n := fun k => by
        rw [gb_1 (by omega)]
        by_cases q : k = b
        · subst q; simp [hb]
        · simp [q]
      have a1 : anZ n (fun i => decide (i = b)) = true := decide_eq_true ⟨b, hb, by simp⟩
      obtain ⟨σ1, e1, C1, w1, r1⟩ := c_valueBy C hx a1
      have ok' : okS n B (upG G 8 b) := ⟨hn, C.1.1.2.1, g0, g1, g2, g3, g4, g5, g6, ⟨by show (-1 : Int) ≤ (b : Int); omega, by show (b : Int) < 8; omega⟩, g8⟩
      have fe : ∀ i, i < n → decide (i = b) = elZ B (upG G 8 b) i := fun i hi => by
        have e' := e
        unfold elZ at e' ⊢
        have q8 : upG G 8 b 8 = (b : Int) := rfl
        have q9 : upG G 8 b 9 = G 9 := rfl
        have q1 : upG G 8 b 1 = G 1 := rfl
        have q2 : upG G 8 b 2 = G 2 := rfl
        have q0 : upG G 8 b 0 = G 0 := rfl
        rw [q8, q9, q1, q2, q0]
        by_cases q : i = b
        · subst q
          rw [C.1.2.1.1] at e'
          simp only [decide_true, Bool.true_or, Bool.true_and] at e'
          rw [e']
          simp
        · have q' : ¬ (i : Int) = (b : Int) := by omega
          have q'' : ¬ (b : Int) = -1 := by omega
          simp only [q, q', q'', decide_false, Bool.false_or, Bool.false_and]
      have a2 : anZ n (elZ B (upG G 8 b)) = true := decide_eq_true ⟨b, hb, by rw [← fe b hb]; simp⟩
      have Mb : mM (sI (sI τ 0 0 10 0) 0 0 11 (zi b)) n B (upG G 8 b) := by
        obtain ⟨m1, m2, ⟨t2, t3, t4, t5, t6, t7, t8, t9, t11, t12⟩, m4⟩ := M'
        refine ⟨ok', ?_, ⟨?_, ?_, ?_, ?_, ?_, ?_, ?_, ?_, ?_, ?_⟩, fun i j hi hj => ?_⟩
        · rw [gI_sI, if_neg (by omega)]; exact m2
        · rw [gI_sI, if_neg (by omega)]; exact t2
        · rw [gI_sI, if_neg (by omega)]; exact t3
        · rw [gI_sI, if_neg (by omega)]; exact t4
        · rw [gI_sI, if_neg (by omega)]; exact t5
        · rw [gI_sI, if_neg (by omega)]; exact t6
        · rw [gI_sI, if_neg (by omega)]; exact t7
        · rw [gI_sI, if_neg (by omega)]; exact t8
        · rw [gI_sI, if_neg (by omega)]; exact t9
        · rw [gI_sI, if_pos ⟨rfl, rfl, rfl⟩]; rfl
        · rw [gI_sI, if_neg (by omega)]; exact t12
        · rw [gI_nt (by decide)]; exact m4 i j hi hj
      obtain ⟨τ1, f1, M1, t0, ti, r2⟩ := m_treeN Mb a2
      have n0 : Int32.toNatClampNeg 0 = 0 := by decide
      have i0 : inb (0 : Int32) 441 = true := by decide
      have v0 := (r2 0 (by omega) 0 (by omega)).1
      have cg := nwZ_cg (B := B) (G := G) (n := n) (f := fun i => decide (i = b)) (f' := elZ B (upG G 8 b)) (G' := upG G 8 b) fe rfl rfl rfl (G 7)
      have v1 : gJ τ1 1 0 0 = zl (VZ (nwZ (fun i => decide (i = b)) B G (G 7) n) (G 6) true (G 3).toNat (G 3).toNat 0) := by
        rw [← cg]; exact v0
      have Mf : mM (sI τ1 0 0 11 (-1)) n B G := by
        have tt : ∀ q, q ≠ 11 → gI (sI τ1 0 0 11 (-1)) 0 0 q = gI (sI τ 0 0 10 0) 0 0 q := fun q hq => by
          rw [gI_sI, if_neg (fun h => hq h.2.2), t0, gI_sI, if_neg (fun h => hq h.2.2)]
        obtain ⟨m1, m2, ⟨t2, t3, t4, t5, t6, t7, t8, t9, t11, t12⟩, m4⟩ := M'
        refine ⟨m1, ?_, ⟨?_, ?_, ?_, ?_, ?_, ?_, ?_, ?_, ?_, ?_⟩, fun i j hi hj => ?_⟩
        · rw [tt 1 (by decide)]; exact m2
        · rw [tt 2 (by decide)]; exact t2
        · rw [tt 3 (by decide)]; exact t3
        · rw [tt 4 (by decide)]; exact t4
        · rw [tt 5 (by decide)]; exact t5
        · rw [tt 6 (by decide)]; exact t6
        · rw [tt 7 (by decide)]; exact t7
        · rw [tt 8 (by decide)]; exact t8
        · rw [tt 9 (by decide)]; exact t9
        · rw [gI_sI, if_pos ⟨rfl, rfl, rfl⟩, C.1.2.1.1]; rfl
        · rw [tt 12 (by decide)]; exact t12
        · rw [gI_nt (by decide), ti, gI_nt (by decide)]; exact m4 i j hi hj
      have th : gI (sI τ1 0 0 11 (-1)) 0 0 10 = 0 := by
        rw [gI_sI, if_neg (by decide), t0, gI_sI, if_neg (by decide)]; exact t10
      simp only [e1, f1, ob_s, sv_z, n0, i0, gdt]
      refine ⟨_, _, rfl, rfl, th, fun v hv => ?_, ⟨n, B, G, C1, Mf⟩, cnt_e w1⟩
      cases hv
      exact v1.symm
  · simp only [decide_eq_false c]
    exact ⟨_, _, rfl, rfl, t10, no, ⟨n, B, G, C, mM_10 M'⟩, Nat.le_refl _⟩
end Q1

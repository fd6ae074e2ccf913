/-! THE CALLS THAT CHANGE: the contract, the tree, a new bond, a bond that goes -/
section P3
variable {σ τ : ST} {n : Nat} {B : Nat → Nat → Int} {G : Nat → Int}
theorem cK_7 (C : cK σ n B G) {k : Nat} {v : Int32} : cK (sI σ 2 k 7 v) n B G := by
  obtain ⟨a, b, c, d, e, f, g⟩ := C
  refine ⟨a, b, c, d, e, f, fun i hi => ?_⟩
  change bD _ (gP σ i) _
  obtain ⟨D1, D2, D3, D4⟩ := g i hi
  refine ⟨D1, fun j hj => ?_, D3, D4⟩
  rw [gI_sI, if_neg (by omega)]; exact D2 j hj
theorem c_factorBy (C : cK σ n B G) {i : Nat} (hi : i < n) : ∃ σ', mX0_factorBy σ (gP σ i) (zi (G 0)) = some σ' ∧ cK σ' n B G ∧ gP σ' = gP σ ∧ gW σ' = gW σ ∧ gI σ' 2 (gP σ i) 7 = zi (faZ (B i) (G 0)) ∧ ∀ k, k ≠ gP σ i → gI σ' 2 k 7 = gI σ 2 k 7 := by
  have g0 := C.1.2.2.1
  obtain ⟨σ1, e1, E1, C1⟩ := c_worth C hi (r := G 0) g0.1 (by omega)
  have w := woZ_b (C.1.2.1 i hi) g0.1
  refine ⟨sI σ1 2 (gP σ i) 7 (zi (faZ (B i) (G 0))), ?_, cK_7 C1, E1.2.2.1, E1.2.2.2, ?_, fun k hk => ?_⟩
  · unfold mX0_factorBy faZ
    simp (disch := omega) only [e1, ob_s, l10000, ydv, sv_z]
  · rw [gI_sI, if_pos ⟨rfl, rfl, rfl⟩]
  · rw [gI_sI, if_neg (fun q => hk q.2.1), E1.1 2 (by omega)]
theorem c_factorL : ∀ (j i : Nat) (σ : ST) (fuel : Nat), cK σ n B G → (∀ q, q < i → gI σ 2 (gP σ q) 7 = zi (faZ (B q) (G 0))) → i + j = n → j < fuel → ∃ σ', kX2_contract_69 fuel (σ, zi (G 0), zi i) = some (1, σ') ∧ cC σ' n B G ∧ gW σ' = gW σ
  | 0, i, σ, fuel, C, hq, hij, hf => by
    obtain ⟨fu, rfl⟩ : ∃ f, fuel = f + 1 := ⟨fuel - 1, by omega⟩
    have hn := C.1.1
    refine ⟨σ, ?_, ⟨C, fun q hq' => hq q (by omega)⟩, rfl⟩
    rw [ksX2_contract_69]
    unfold bkX2_contract_69
    rw [C.2.2.1, if_pos (by rw [yle (by omega) (by omega) (by omega) (by omega)]; omega)]
  | j + 1, i, σ, fuel, C, hq, hij, hf => by
    obtain ⟨fu, rfl⟩ : ∃ f, fuel = f + 1 := ⟨fuel - 1, by omega⟩
    have hn := C.1.1
    have hi : i < n := by omega
    obtain ⟨σ1, e1, C1, P1, W1, f1, f2⟩ := c_factorBy C hi
    obtain ⟨σ', e, C', w⟩ := c_factorL j (i + 1) σ1 fu C1 (fun q hq' => by
      rw [P1]
      by_cases c : q = i
      · subst c; exact f1
      · rw [f2 _ (fun k => c (C.2.2.2.2.2.1.2 q i (by omega) (by omega) k))]; exact hq q (by omega)) (by omega) (by omega)
    refine ⟨σ', ?_, C', w.trans W1⟩
    rw [← e, ksX2_contract_69]
    unfold bkX2_contract_69
    simp (disch := omega) only [C.2.2.1, inb_z, gdt, yN, Int.toNat_natCast, c_pl C hi, decide_true, e1, ob_s, l1, zi_add]
    rw [if_neg (by rw [yle (by omega) (by omega) (by omega) (by omega)]; omega)]
    rfl
def upG3 (G : Nat → Int) (s : Nat) (a b c : Int) : Nat → Int := fun t => if t = s then a else if t = s + 1 then b else if t = s + 2 then c else G t
theorem p_contract {a1 a2 a3 : Int32} (h : RR σ τ) : ∃ q r, mX2_contract σ a1 a2 a3 = some q ∧ mX3_contract τ a1 a2 a3 = some r ∧ q.1 = r.1 ∧ RR q.2 r.2 ∧ cntF q.2 ≤ cntF σ := by
  obtain ⟨n, B, G, C, M⟩ := h
  have M' : mM (sI τ 0 0 10 0) n B G := mM_10 M
  have hn := M.1.1
  unfold mX2_contract mX3_contract
  rw [sv_z]
  generalize sI τ 0 0 10 0 = τ' at M' ⊢
  have RN : RR σ τ' := ⟨n, B, G, C, M'⟩
  obtain ⟨z1, h1, rfl⟩ := zi_ex a1
  obtain ⟨z2, h2, rfl⟩ := zi_ex a2
  obtain ⟨z3, h3, rfl⟩ := zi_ex a3
  have y3 := h2.1
  have y4 := h2.2
  have y5 := h3.1
  have y6 := h3.2
  have m2 : mX3_isIn (zi z2).toInt64 1 40 = some (b2i (decide (1 ≤ z2 ∧ z2 ≤ 40))) := by
    rw [yL y3 y4, L1, L40, m_isIn (by omega) (by omega) (by omega) (by omega) (by omega) (by omega)]
  have m3 : mX3_isIn (zi z3).toInt64 (zi z2).toInt64 40 = some (b2i (decide (z2 ≤ z3 ∧ z3 ≤ 40))) := by
    rw [yL y3 y4, yL y5 y6, L40, m_isIn (by omega) (by omega) (by omega) (by omega) (by omega) (by omega)]
  have k2 : (zi z2 < (1 : Int32)) ↔ z2 < 1 := by rw [l1]; exact ylt (by omega) (by omega) (by omega) (by omega)
  have k3 : ((40 : Int32) < zi z3) ↔ 40 < z3 := by rw [l40]; exact ylt (by omega) (by omega) (by omega) (by omega)
  have k4 : (zi z2 ≤ zi z3) ↔ z2 ≤ z3 := yle (by omega) (by omega) (by omega) (by omega)
  obtain ⟨t2, t3, t4, t5, t6, t7, t8, t9, t11, t12⟩ := M'.2.2.1
  obtain ⟨s2, s3, s4⟩ := C.1.2.2.2.1
  obtain ⟨g0, g1, g2, g3, g4, g5, g6, g7, g8⟩ := C.1.1.2.2
  simp (disch := omega) only [c_isRate h1, m_isRate h1, ob_s, b2id0, m2, m3, k2, k3, k4, t2, t3, t4, s2, s3, s4]
  by_cases d1 : 0 ≤ z1 ∧ z1 ≤ 3000
  · simp only [if_neg (not_not_intro d1)]
    by_cases d : 1 ≤ z2 ∧ z2 ≤ z3 ∧ z3 ≤ 40
    · rw [if_neg (show ¬ z2 < 1 by omega), if_neg (show ¬ 40 < z3 by omega), if_pos (show z2 ≤ z3 by omega), if_neg (show ¬ ¬ (1 ≤ z2 ∧ z2 ≤ 40) by omega), if_neg (show ¬ ¬ (z2 ≤ z3 ∧ z3 ≤ 40) by omega)]
      have q1 : (zi z1 = zi (G 0)) ↔ z1 = G 0 := yeq (by omega) (by omega) (by omega) (by omega)
      have q2 : (zi z2 = zi (G 1)) ↔ z2 = G 1 := yeq (by omega) (by omega) (by omega) (by omega)
      have q3 : (zi z3 = zi (G 2)) ↔ z3 = G 2 := yeq (by omega) (by omega) (by omega) (by omega)
      have q4 : (zi (G 0) = zi z1) ↔ G 0 = z1 := yeq (by omega) (by omega) (by omega) (by omega)
      have q5 : (zi (G 1) = zi z2) ↔ G 1 = z2 := yeq (by omega) (by omega) (by omega) (by omega)
      have q6 : (zi (G 2) = zi z3) ↔ G 2 = z3 := yeq (by omega) (by omega) (by omega) (by omega)
      simp only [q1, q2, q3, q4, q5, q6]
      have go : ∃ q r, kX2_contract_51 (σ, zi z1, zi z2, zi z3) = some q ∧ kX3_contract_65 (τ', zi z1, zi z2, zi z3) = some r ∧ q.1 = r.1 ∧ RR q.2 r.2 ∧ cntF q.2 ≤ cntF σ := by
        rw [ksX2_contract_51, ksX3_contract_65]
        unfold bkX2_contract_51 bkX3_contract_65
        simp only [sv_z]
        have ok : okS n B (upG3 G 0 z1 z2 z3) := ⟨hn, C.1.1.2.1, d1, ⟨d.1, d.2⟩, g2, g3, g4, g5, g6, g7, g8⟩
        have K : cK (sI (sI (sI σ 0 0 2 (zi z1)) 0 0 3 (zi z2)) 0 0 4 (zi z3)) n B (upG3 G 0 z1 z2 z3) := by
          obtain ⟨a, b, c, _, e, f, g⟩ := C.1
          exact ⟨ok, b, c, ⟨rfl, rfl, rfl⟩, e, f, g⟩
        obtain ⟨σ', e, C', w⟩ := c_factorL n 0 _ FU K (fun q hq => absurd hq (by omega)) (by omega) (by unfold FU; omega)
        have e : kX2_contract_69 FU (sI (sI (sI σ 0 0 2 (zi z1)) 0 0 3 (zi z2)) 0 0 4 (zi z3), zi z1, 0) = some (1, σ') := e
        refine ⟨_, _, e, rfl, rfl, ⟨n, B, _, C', ok, M'.2.1, ⟨rfl, rfl, rfl, t5, t6, t7, t8, t9, t11, t12⟩, M'.2.2.2⟩, cnt_e w⟩
      by_cases e1 : z1 = G 0
      · rw [if_pos e1, if_pos e1.symm]
        by_cases e2 : z2 = G 1
        · rw [if_pos e2, if_pos e2.symm]
          by_cases e3 : z3 = G 2
          · rw [if_pos e3, if_pos e3.symm]
            exact ⟨_, _, rfl, rfl, rfl, RN, Nat.le_refl _⟩
          · rw [if_neg e3, if_neg (fun k => e3 k.symm)]; exact go
        · rw [if_neg e2, if_neg (fun k => e2 k.symm)]; exact go
      · rw [if_neg e1, if_neg (fun k => e1 k.symm)]; exact go
    · have L : (if z2 < 1 then (some ((0 : Int32), σ)) else if 40 < z3 then some (0, σ) else if z2 ≤ z3 then (if zi z1 = zi (G 0) then if zi z2 = zi (G 1) then if zi z3 = zi (G 2) then some (0, σ) else kX2_contract_51 (σ, zi z1, zi z2, zi z3) else kX2_contract_51 (σ, zi z1, zi z2, zi z3) else kX2_contract_51 (σ, zi z1, zi z2, zi z3)) else some (0, σ)) = some (0, σ) := by
        by_cases x1 : z2 < 1
        · rw [if_pos x1]
        · rw [if_neg x1]
          by_cases x2 : 40 < z3
          · rw [if_pos x2]
          · rw [if_neg x2, if_neg (by omega)]
      rw [L]
      by_cases x1 : 1 ≤ z2 ∧ z2 ≤ 40
      · rw [if_neg (not_not_intro x1), if_pos (show ¬ (z2 ≤ z3 ∧ z3 ≤ 40) by omega)]
        exact ⟨_, _, rfl, rfl, rfl, RN, Nat.le_refl _⟩
      · rw [if_pos x1]
        exact ⟨_, _, rfl, rfl, rfl, RN, Nat.le_refl _⟩
  · simp only [if_pos d1]
    exact ⟨_, _, rfl, rfl, rfl, RN, Nat.le_refl _⟩
def upG5 (G : Nat → Int) (a b c d e : Int) : Nat → Int := fun t => if t = 3 then a else if t = 4 then b else if t = 5 then c else if t = 6 then d else if t = 7 then e else G t
theorem p_tree {a1 a2 a3 a4 a5 : Int32} (h : RR σ τ) : ∃ q r, mX2_tree σ a1 a2 a3 a4 a5 = some q ∧ mX3_tree τ a1 a2 a3 a4 a5 = some r ∧ q.1 = r.1 ∧ RR q.2 r.2 ∧ cntF q.2 ≤ cntF σ := by
  obtain ⟨n, B, G, C, M⟩ := h
  have M' : mM (sI τ 0 0 10 0) n B G := mM_10 M
  have hn := M.1.1
  unfold mX2_tree mX3_tree
  rw [sv_z]
  generalize sI τ 0 0 10 0 = τ' at M' ⊢
  have RN : RR σ τ' := ⟨n, B, G, C, M'⟩
  obtain ⟨z1, ⟨h1, h1'⟩, rfl⟩ := zi_ex a1
  obtain ⟨z2, ⟨h2, h2'⟩, rfl⟩ := zi_ex a2
  obtain ⟨z3, ⟨h3, h3'⟩, rfl⟩ := zi_ex a3
  obtain ⟨z4, ⟨h4, h4'⟩, rfl⟩ := zi_ex a4
  obtain ⟨z5, ⟨h5, h5'⟩, rfl⟩ := zi_ex a5
  have m1 : mX3_isIn (zi z1).toInt64 0 20 = some (b2i (decide (0 ≤ z1 ∧ z1 ≤ 20))) := by
    rw [yL (by omega) (by omega), L0, L20, m_isIn (by omega) (by omega) (by omega) (by omega) (by omega) (by omega)]
  have m3 : mX3_isIn (zi z3).toInt64 0 50 = some (b2i (decide (0 ≤ z3 ∧ z3 ≤ 50))) := by
    rw [yL (by omega) (by omega), L0, L50, m_isIn (by omega) (by omega) (by omega) (by omega) (by omega) (by omega)]
  have m4 : mX3_isIn (zi z4).toInt64 (-1000000) 1000000 = some (b2i (decide (-1000000 ≤ z4 ∧ z4 ≤ 1000000))) := by
    rw [yL (by omega) (by omega), L1000000, zl_neg, m_isIn (by omega) (by omega) (by omega) (by omega) (by omega) (by omega)]
  have m5 : mX3_isIn (zi z5).toInt64 0 999999999 = some (b2i (decide (0 ≤ z5 ∧ z5 ≤ 999999999))) := by
    rw [yL (by omega) (by omega), L0, L999999999, m_isIn (by omega) (by omega) (by omega) (by omega) (by omega) (by omega)]
  have k1 : mX2_within (zi z1) 0 20 = some (b2i (decide (0 ≤ z1 ∧ z1 ≤ 20))) := by
    rw [l0, l20, c_wi (by omega) (by omega) (by omega) (by omega) (by omega) (by omega)]
  have k3 : mX2_within (zi z3) 0 50 = some (b2i (decide (0 ≤ z3 ∧ z3 ≤ 50))) := by
    rw [l0, l50, c_wi (by omega) (by omega) (by omega) (by omega) (by omega) (by omega)]
  have k4 : mX2_within (zi z4) (-1000000) 1000000 = some (b2i (decide (-1000000 ≤ z4 ∧ z4 ≤ 1000000))) := by
    rw [l1000000, zi_neg, c_wi (by omega) (by omega) (by omega) (by omega) (by omega) (by omega)]
  have k5 : mX2_within (zi z5) 0 999999999 = some (b2i (decide (0 ≤ z5 ∧ z5 ≤ 999999999))) := by
    rw [l0, l999999999, c_wi (by omega) (by omega) (by omega) (by omega) (by omega) (by omega)]
  obtain ⟨t2, t3, t4, t5, t6, t7, t8, t9, t11, t12⟩ := M'.2.2.1
  obtain ⟨s5, s6, s7, s8, s9⟩ := C.1.2.2.2.2.1
  obtain ⟨g0, g1, g2, g3, g4, g5, g6, g7, g8⟩ := C.1.1.2.2
  simp only [c_isRate ⟨h2, h2'⟩, m_isRate ⟨h2, h2'⟩, ob_s, b2id0, m1, m3, m4, m5, k1, k3, k4, k5, t5, t6, t7, t8, t9]
  by_cases d1 : 0 ≤ z1 ∧ z1 ≤ 20
  case neg =>
    simp only [if_pos d1]; exact ⟨_, _, rfl, rfl, rfl, RN, Nat.le_refl _⟩
  simp only [if_neg (not_not_intro d1)]
  by_cases d2 : 0 ≤ z2 ∧ z2 ≤ 3000
  case neg =>
    simp only [if_pos d2]; exact ⟨_, _, rfl, rfl, rfl, RN, Nat.le_refl _⟩
  simp only [if_neg (not_not_intro d2)]
  by_cases d3 : 0 ≤ z3 ∧ z3 ≤ 50
  case neg =>
    simp only [if_pos d3]; exact ⟨_, _, rfl, rfl, rfl, RN, Nat.le_refl _⟩
  simp only [if_neg (not_not_intro d3)]
  by_cases d4 : -1000000 ≤ z4 ∧ z4 ≤ 1000000
  case neg =>
    simp only [if_pos d4]; exact ⟨_, _, rfl, rfl, rfl, RN, Nat.le_refl _⟩
  simp only [if_neg (not_not_intro d4)]
  by_cases d5 : 0 ≤ z5 ∧ z5 ≤ 999999999
  case neg =>
    simp only [if_pos d5]; exact ⟨_, _, rfl, rfl, rfl, RN, Nat.le_refl _⟩
  simp only [if_neg (not_not_intro d5)]
  unfold mX1_change
  have q1 : (zi z1 = zi (G 3)) ↔ z1 = G 3 := yeq (by omega) (by omega) (by omega) (by omega)
  have q2 : (zi z2 = zi (G 4)) ↔ z2 = G 4 := yeq (by omega) (by omega) (by omega) (by omega)
  have q3 : (zi z3 = zi (G 5)) ↔ z3 = G 5 := yeq (by omega) (by omega) (by omega) (by omega)
  have q4 : (zi z4 = zi (G 6)) ↔ z4 = G 6 := yeq (by omega) (by omega) (by omega) (by omega)
  have q5 : (zi z5 = zi (G 7)) ↔ z5 = G 7 := yeq (by omega) (by omega) (by omega) (by omega)
  have p1 : (zi (G 3) = zi z1) ↔ z1 = G 3 := ⟨fun k => q1.mp k.symm, fun k => (q1.mpr k).symm⟩
  have p2 : (zi (G 4) = zi z2) ↔ z2 = G 4 := ⟨fun k => q2.mp k.symm, fun k => (q2.mpr k).symm⟩
  have p3 : (zi (G 5) = zi z3) ↔ z3 = G 5 := ⟨fun k => q3.mp k.symm, fun k => (q3.mpr k).symm⟩
  have p4 : (zi (G 6) = zi z4) ↔ z4 = G 6 := ⟨fun k => q4.mp k.symm, fun k => (q4.mpr k).symm⟩
  have p5 : (zi (G 7) = zi z5) ↔ z5 = G 7 := ⟨fun k => q5.mp k.symm, fun k => (q5.mpr k).symm⟩
  simp only [s5, s6, s7, s8, s9, q1, q2, q3, q4, q5, p1, p2, p3, p4, p5]
  have go : ∃ q r, ((kX1_change_44 (σ, zi z1, zi z2, zi z3, zi z4, zi z5)).bind fun q_11 => gd (zb q_11.1) (some (q_11.1, q_11.2))) = some q ∧ kX3_tree_110 (τ', zi z1, zi z2, zi z3, zi z4, zi z5) = some r ∧ q.1 = r.1 ∧ RR q.2 r.2 ∧ cntF q.2 ≤ cntF σ := by
    have ok : okS n B (upG5 G z1 z2 z3 z4 z5) := ⟨hn, C.1.1.2.1, g0, g1, d1, d2, d3, d4, d5, g7, g8⟩
    refine ⟨_, _, rfl, rfl, rfl, ⟨n, B, upG5 G z1 z2 z3 z4 z5, ?_, ok, M'.2.1, ⟨t2, t3, t4, rfl, rfl, rfl, rfl, rfl, t11, t12⟩, M'.2.2.2⟩, cnt_e rfl⟩
    obtain ⟨⟨a, b, c, dd, e, f, g⟩, hh⟩ := C
    exact ⟨⟨ok, b, c, dd, ⟨rfl, rfl, rfl, rfl, rfl⟩, f, g⟩, hh⟩
  by_cases e1 : z1 = G 3
  case neg => simp only [if_neg e1]; exact go
  by_cases e2 : z2 = G 4
  case neg => simp only [if_pos e1, if_neg e2]; exact go
  by_cases e3 : z3 = G 5
  case neg => simp only [if_pos e1, if_pos e2, if_neg e3]; exact go
  by_cases e4 : z4 = G 6
  case neg => simp only [if_pos e1, if_pos e2, if_pos e3, if_neg e4]; exact go
  by_cases e5 : z5 = G 7
  case neg => simp only [if_pos e1, if_pos e2, if_pos e3, if_pos e4, if_neg e5]; exact go
  simp only [if_pos e1, if_pos e2, if_pos e3, if_pos e4, if_pos e5]
  exact ⟨_, _, rfl, rfl, rfl, RN, Nat.le_refl _⟩
end P3

/-! THE REFERENCE over the state that is meant -/
def okS (n : Nat) (B : Nat → Nat → Int) (G : Nat → Int) : Prop := n ≤ 8 ∧ (∀ i, i < n → gdB (B i)) ∧ (0 ≤ G 0 ∧ G 0 ≤ 3000) ∧ (1 ≤ G 1 ∧ G 1 ≤ G 2 ∧ G 2 ≤ 40) ∧ (0 ≤ G 3 ∧ G 3 ≤ 20) ∧ (0 ≤ G 4 ∧ G 4 ≤ 3000) ∧ (0 ≤ G 5 ∧ G 5 ≤ 50) ∧ (-1000000 ≤ G 6 ∧ G 6 ≤ 1000000) ∧ (0 ≤ G 7 ∧ G 7 ≤ 999999999) ∧ (-1 ≤ G 8 ∧ G 8 < 8) ∧ (-1 ≤ G 9 ∧ G 9 < 8)
def mM (τ : ST) (n : Nat) (B : Nat → Nat → Int) (G : Nat → Int) : Prop := okS n B G ∧ gI τ 0 0 1 = zi n ∧ (gI τ 0 0 2 = zi (G 0) ∧ gI τ 0 0 3 = zi (G 1) ∧ gI τ 0 0 4 = zi (G 2) ∧ gI τ 0 0 5 = zi (G 3) ∧ gI τ 0 0 6 = zi (G 4) ∧ gI τ 0 0 7 = zi (G 5) ∧ gI τ 0 0 8 = zi (G 6) ∧ gI τ 0 0 9 = zi (G 7) ∧ gI τ 0 0 11 = zi (G 8) ∧ gI τ 0 0 12 = zi (G 9)) ∧ ∀ i j, i < n → j < 7 → gI τ 1 0 (7 * i + j) = zi (B i j)
section M0
variable {τ : ST} {n : Nat} {B : Nat → Nat → Int} {G : Nat → Int}
theorem m_of1 (M : mM τ n B G) {i : Nat} (hi : i < n) {j : Nat} (hj : j < 7) : mX3_of1 τ (zi i) (zi j) = some (zi (B i j)) := by
  have hn := M.1.1
  unfold mX3_of1
  simp (disch := omega) only [l7, zi_mul, zi_add, inb_z, yN, gdt]
  rw [show (7 * (i : Int) + j).toNat = 7 * i + j by omega, M.2.2.2 i j hi hj]
theorem m_of1_0 (M : mM τ n B G) {i : Nat} (hi : i < n) : mX3_of1 τ (zi i) 0 = some (zi (B i 0)) := m_of1 M hi (j := 0) (by omega)
theorem m_of1_1 (M : mM τ n B G) {i : Nat} (hi : i < n) : mX3_of1 τ (zi i) 1 = some (zi (B i 1)) := m_of1 M hi (j := 1) (by omega)
theorem m_of1_2 (M : mM τ n B G) {i : Nat} (hi : i < n) : mX3_of1 τ (zi i) 2 = some (zi (B i 2)) := m_of1 M hi (j := 2) (by omega)
theorem m_of1_3 (M : mM τ n B G) {i : Nat} (hi : i < n) : mX3_of1 τ (zi i) 3 = some (zi (B i 3)) := m_of1 M hi (j := 3) (by omega)
theorem m_of1_4 (M : mM τ n B G) {i : Nat} (hi : i < n) : mX3_of1 τ (zi i) 4 = some (zi (B i 4)) := m_of1 M hi (j := 4) (by omega)
theorem m_of1_5 (M : mM τ n B G) {i : Nat} (hi : i < n) : mX3_of1 τ (zi i) 5 = some (zi (B i 5)) := m_of1 M hi (j := 5) (by omega)
theorem m_of1_6 (M : mM τ n B G) {i : Nat} (hi : i < n) : mX3_of1 τ (zi i) 6 = some (zi (B i 6)) := m_of1 M hi (j := 6) (by omega)
theorem m_owed (M : mM τ n B G) {i : Nat} (hi : i < n) {p : Int} (h1 : 1 ≤ p) (h2 : p ≤ B i 2) : mX3_owed τ (zi i) (zi p) = some (zl (owZ (B i) p)) := by
  obtain ⟨⟨g0, g0'⟩, g1, ⟨g2, g2'⟩, ⟨g3, g3', g3''⟩, _⟩ := M.1.2.1 i hi
  unfold mX3_owed owZ
  simp only [m_of1_0 M hi, m_of1_2 M hi, m_of1_3 M hi, ob_s]
  simp (disch := omega) only [l0, l1, l2, L100000000, zi_sub, yeq, ylt]
  by_cases c : B i 0 = 2
  · have := g3'' c
    simp only [c, if_true]
    by_cases d : 0 < p - 1 - (B i 2 - B i 3)
    · simp only [d, if_true]
      simp (disch := omega) only [yL, nzl_z, gdt, wdv, zl_sub, zl_mul]
    · simp only [d, if_false]
  · simp only [c, if_false]
theorem m_back (M : mM τ n B G) {i : Nat} (hi : i < n) {p : Int} (h1 : 1 ≤ p) (h2 : p ≤ B i 2) : mX3_back τ (zi i) (zi p) = some (zl (bkZ (B i) p)) := by
  obtain ⟨⟨g0, g0'⟩, g1, ⟨g2, g2'⟩, ⟨g3, g3', g3''⟩, _⟩ := M.1.2.1 i hi
  unfold mX3_back bkZ
  simp only [m_of1_0 M hi, m_of1_2 M hi, m_of1_3 M hi, m_owed M hi h1 h2, ob_s]
  simp (disch := omega) only [l0, l1, l2, L100000000, L0, zi_sub, yeq, yle]
  by_cases c : p = B i 2
  · simp only [c, if_true]
  · simp only [c, if_false]
    by_cases d : B i 0 = 2
    · have := g3'' d
      simp only [d, if_true]
      by_cases e : p ≤ B i 2 - B i 3
      · simp only [e, if_true]
      · simp only [e, if_false]
        simp (disch := omega) only [yL, nzl_z, gdt, wdv]
    · simp only [d, if_false]
theorem m_flow1 (M : mM τ n B G) {i : Nat} (hi : i < n) {p : Int} (h1 : 1 ≤ p) (h2 : p ≤ B i 2) : mX3_flow1 τ (zi i) (zi p) = some (zl (flZ (B i) p)) := by
  have g := M.1.2.1 i hi
  have a := cpZ_b g h1
  have c := owZ_b g h1 h2
  have d := coZ_b g h1 h2
  have e := bkZ_b g h1 h2
  obtain ⟨⟨g0, g0'⟩, g1, ⟨g2, g2'⟩, ⟨g3, g3', g3''⟩, _⟩ := g
  unfold mX3_flow1 kX3_flow1_30 bkX3_flow1_30 flZ
  simp only [m_of1_0 M hi, m_of1_1 M hi, m_of1_3 M hi, m_owed M hi h1 h2, m_back M hi h1 h2, ob_s]
  have key : ∀ y : Int, B i 1 + y = cpZ (B i) p → some ((zi (B i 1) + zi y).toInt64 * zl (owZ (B i) p) / 10000 + zl (bkZ (B i) p)) = some (zl (cpZ (B i) p * owZ (B i) p / 10000 + bkZ (B i) p)) := by
    intro y hy
    rw [zi_add, hy]
    simp (disch := omega) only [yL, zl_mul, L10000, wdv, zl_add]
  by_cases f : B i 0 = 1
  · rw [if_pos (by rw [f]; rfl)]
    simp only [l1, zi_sub, zi_mul]
    apply key
    unfold cpZ; rw [if_pos f]
  · rw [if_neg (by rw [l1, yeq (by omega) (by omega) (by omega) (by omega)]; exact f)]
    apply key 0
    unfold cpZ; rw [if_neg f]
theorem m_worthL (M : mM τ n B G) {i : Nat} (hi : i < n) {r : Int} (hr : 0 ≤ r) (hr2 : r ≤ 3200) : ∀ (k : Nat) (v : Int) (fuel : Nat), (k : Int) ≤ B i 2 → ivZ (B i) k v → k < fuel → kX3_worth_10 τ fuel (zi i, zi r, zl v, zi k) = some (zl (wZ (flZ (B i)) r k v))
  | 0, v, fuel, hk, hv, hf => by
    obtain ⟨f, rfl⟩ : ∃ f, fuel = f + 1 := ⟨fuel - 1, by omega⟩
    unfold kX3_worth_10
    rw [fx_s]
    unfold bkX3_worth_10
    rw [if_pos (show zi ((0 : Nat) : Int) ≤ (0 : Int32) by decide)]
    rfl
  | k + 1, v, fuel, hk, hv, hf => by
    obtain ⟨f, rfl⟩ : ∃ f, fuel = f + 1 := ⟨fuel - 1, by omega⟩
    have g := M.1.2.1 i hi
    have g2 := g.2.2.1
    have t := ivZ_top g hk hv
    have fb := flZ_t g (p := ((k + 1 : Nat) : Int)) (by omega) hk
    have ih := m_worthL M hi hr hr2 k _ f (by omega) (ivZ_s g (by omega) hr hv) (by omega)
    unfold kX3_worth_10 at ih ⊢
    rw [fx_s]
    unfold bkX3_worth_10
    simp (disch := omega) only [l0, yle, m_flow1 M hi (p := ((k + 1 : Nat) : Int)) (by omega) hk, ob_s, yL, L10000, zl_add, nzl_z, gdt, zl_mul, wdv, l1, zi_neg, zi_add]
    rw [if_neg (by omega)]
    rw [show ((k + 1 : Nat) : Int) + -1 = k by omega, show ((k + 1 : Nat) : Int) = (k : Int) + 1 by omega]
    exact ih
theorem m_worth (M : mM τ n B G) {i : Nat} (hi : i < n) {r : Int} (hr : 0 ≤ r) (hr2 : r ≤ 3200) : mX3_worth τ (zi i) (zi r) = some (zl (woZ (B i) r)) := by
  have g := (M.1.2.1 i hi).2.2.1
  unfold mX3_worth
  rw [m_of1_2 M hi, ob_s]
  have := m_worthL M hi hr hr2 (B i 2).toNat 0 FU (by omega) (ivZ_0 _ (by omega)) (by unfold FU; omega)
  rw [show ((B i 2).toNat : Int) = B i 2 by omega] at this
  exact this
theorem m_price1 (M : mM τ n B G) {i : Nat} (hi : i < n) {r : Int} (hr : 0 ≤ r) (hr2 : r ≤ 3000) : mX3_price1 τ (zi i) (zi r) = some (zl (prZ (B i) r)) := by
  obtain ⟨_, _, _, _, g4, _⟩ := M.1.2.1 i hi
  unfold mX3_price1 prZ
  simp (disch := omega) only [m_of1_4 M hi, ob_s, zi_add, l0, yle]
  by_cases c : 0 ≤ r + B i 4
  · simp (disch := omega) only [c, if_true, m_worth M hi, ob_s]
  · simp (disch := omega) only [c, if_false, m_worth M hi, ob_s]
theorem m_factor (M : mM τ n B G) {i : Nat} (hi : i < n) : mX3_factor τ (zi i) = some (zl (faZ (B i) (G 0))) := by
  have g0 := M.1.2.2.1
  have w := woZ_b (M.1.2.1 i hi) g0.1
  unfold mX3_factor faZ
  rw [M.2.2.1.1]
  simp (disch := omega) only [m_worth M hi, ob_s, L10000, wdv]
end M0

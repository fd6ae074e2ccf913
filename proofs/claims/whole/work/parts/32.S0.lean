/-! WHAT A BOND PAYS AND IS WORTH, over whole numbers -/
def owZ (b : Nat → Int) (p : Int) : Int := if b 0 = 2 then (if 0 < (p - 1) - (b 2 - b 3) then 100000000 - ((p - 1) - (b 2 - b 3)) * (100000000 / b 3) else 100000000) else 100000000
def bkZ (b : Nat → Int) (p : Int) : Int := if p = b 2 then owZ b p else if b 0 = 2 then (if p ≤ b 2 - b 3 then 0 else 100000000 / b 3) else 0
def cpZ (b : Nat → Int) (p : Int) : Int := b 1 + (if b 0 = 1 then (p - 1) * b 3 else 0)
def flZ (b : Nat → Int) (p : Int) : Int := cpZ b p * owZ b p / 10000 + bkZ b p
def gdB (b : Nat → Int) : Prop := (0 ≤ b 0 ∧ b 0 ≤ 3) ∧ (0 ≤ b 1 ∧ b 1 ≤ 2000) ∧ (1 ≤ b 2 ∧ b 2 ≤ 40) ∧ (0 ≤ b 3 ∧ b 3 ≤ 100 ∧ (b 0 = 2 → 1 ≤ b 3 ∧ b 3 ≤ b 2)) ∧ (-200 ≤ b 4 ∧ b 4 ≤ 200) ∧ (0 ≤ b 5 ∧ b 5 ≤ 99) ∧ (0 ≤ b 6 ∧ b 6 ≤ 1)
def wZ (f : Int → Int) (r : Int) : Nat → Int → Int
  | 0, v => v
  | k + 1, v => wZ f r k ((v + f ((k : Int) + 1)) * 10000 / (10000 + r))
def woZ (b : Nat → Int) (r : Int) : Int := wZ (flZ b) r (b 2).toNat 0
def prZ (b : Nat → Int) (r : Int) : Int := woZ b (if 0 ≤ r + b 4 then r + b 4 else 0)
def faZ (b : Nat → Int) (nt : Int) : Int := woZ b nt / 10000
theorem q_le {E : Int} (h : 1 ≤ E) (h2 : E ≤ 100) : 0 ≤ 100000000 / E ∧ 100000000 / E * E ≤ 100000000 ∧ 100000000 / E ≤ 100000000 := by
  refine ⟨Int.ediv_nonneg (by omega) (by omega), Int.ediv_mul_le _ (by omega), ?_⟩
  exact Int.ediv_le_self _ (by omega)
theorem owZ_b {b : Nat → Int} (g : gdB b) {p : Int} (h1 : 1 ≤ p) (h2 : p ≤ b 2) : 0 ≤ owZ b p ∧ owZ b p ≤ 100000000 := by
  unfold owZ
  obtain ⟨_, _, g2, ⟨g3, g3', g3''⟩, _⟩ := g
  by_cases h : b 0 = 2
  · rw [if_pos h]
    obtain ⟨e1, e2⟩ := g3'' h
    by_cases hp : 0 < (p - 1) - (b 2 - b 3)
    · rw [if_pos hp]
      obtain ⟨q1, q2, q3⟩ := q_le e1 g3'
      have m1 : 0 ≤ ((p - 1) - (b 2 - b 3)) * (100000000 / b 3) := Int.mul_nonneg (by omega) q1
      have m2 : ((p - 1) - (b 2 - b 3)) * (100000000 / b 3) ≤ b 3 * (100000000 / b 3) := Int.mul_le_mul_of_nonneg_right (by omega) q1
      rw [Int.mul_comm (b 3)] at m2
      omega
    · rw [if_neg hp]; omega
  · rw [if_neg h]; omega
theorem owZ_s {b : Nat → Int} (g : gdB b) {p : Int} (h2 : p < b 2) : owZ b (p + 1) = owZ b p - bkZ b p := by
  obtain ⟨_, _, g2, ⟨g3, g3', g3''⟩, _⟩ := g
  unfold bkZ
  rw [if_neg (by omega)]
  unfold owZ
  by_cases h : b 0 = 2
  · simp only [h, if_true]
    obtain ⟨e1, e2⟩ := g3'' h
    generalize 100000000 / b 3 = q
    by_cases c : p ≤ b 2 - b 3
    · rw [if_neg (by omega), if_neg (by omega), if_pos c]; omega
    · rw [if_pos (by omega), if_neg c]
      by_cases c2 : 0 < (p - 1) - (b 2 - b 3)
      · rw [if_pos c2]
        rw [show p + 1 - 1 - (b 2 - b 3) = (p - 1 - (b 2 - b 3)) + 1 by omega, Int.add_mul]; omega
      · rw [if_neg c2]
        rw [show p + 1 - 1 - (b 2 - b 3) = 1 by omega]; omega
  · simp only [h, if_false]; omega
theorem bkZ_b {b : Nat → Int} (g : gdB b) {p : Int} (h1 : 1 ≤ p) (h2 : p ≤ b 2) : 0 ≤ bkZ b p ∧ bkZ b p ≤ owZ b p := by
  by_cases e : p = b 2
  · have := owZ_b g h1 h2
    unfold bkZ; rw [if_pos e]; omega
  · have a := owZ_b g h1 h2
    have c := owZ_b g (p := p + 1) (by omega) (by omega)
    rw [owZ_s g (by omega)] at c
    refine ⟨?_, by omega⟩
    unfold bkZ; rw [if_neg e]
    obtain ⟨_, _, g2, ⟨g3, g3', g3''⟩, _⟩ := g
    by_cases h : b 0 = 2
    · rw [if_pos h]
      obtain ⟨e1, e2⟩ := g3'' h
      have := q_le e1 g3'
      split <;> omega
    · rw [if_neg h]; omega
theorem cpZ_b {b : Nat → Int} (g : gdB b) {p : Int} (h1 : 1 ≤ p) : 0 ≤ cpZ b p ∧ cpZ b p ≤ 2000 + 100 * (p - 1) := by
  obtain ⟨_, g1, g2, ⟨g3, g3', g3''⟩, _⟩ := g
  unfold cpZ
  split
  · have m1 : 0 ≤ (p - 1) * b 3 := Int.mul_nonneg (by omega) g3
    have m2 : (p - 1) * b 3 ≤ (p - 1) * 100 := Int.mul_le_mul_of_nonneg_left g3' (by omega)
    omega
  · omega
theorem coZ_b {b : Nat → Int} (g : gdB b) {p : Int} (h1 : 1 ≤ p) (h2 : p ≤ b 2) : 0 ≤ cpZ b p * owZ b p ∧ cpZ b p * owZ b p ≤ (2000 + 100 * (p - 1)) * 100000000 := by
  have a := cpZ_b g h1
  have c := owZ_b g h1 h2
  refine ⟨Int.mul_nonneg a.1 c.1, ?_⟩
  have := Int.mul_le_mul a.2 c.2 c.1 (by omega : (0 : Int) ≤ 2000 + 100 * (p - 1))
  exact this
theorem flZ_b {b : Nat → Int} (g : gdB b) {p : Int} (h1 : 1 ≤ p) (h2 : p ≤ b 2) : 0 ≤ flZ b p ∧ flZ b p ≤ 10000 * (2000 + 100 * (p - 1)) + bkZ b p := by
  have a := coZ_b g h1 h2
  have c := bkZ_b g h1 h2
  unfold flZ
  generalize cpZ b p * owZ b p = x at *
  omega
/-- the bound at a step -/
def bdZ (b : Nat → Int) (k : Nat) : Int := 20000000 * (b 2 - k) + 500000 * (b 2 * (b 2 - 1) - k * ((k : Int) - 1)) + (if (k : Int) = b 2 then 0 else owZ b (k + 1))
def ivZ (b : Nat → Int) (k : Nat) (v : Int) : Prop := 0 ≤ v ∧ v ≤ bdZ b k
theorem bdZ_s {b : Nat → Int} (g : gdB b) {k : Nat} (h : (k : Int) + 1 ≤ b 2) : bdZ b (k + 1) + 10000 * (2000 + 100 * (k : Int)) + bkZ b ((k : Int) + 1) = bdZ b k := by
  unfold bdZ
  rw [if_neg (show ¬ (k : Int) = b 2 by omega)]
  have e : ((k + 1 : Nat) : Int) * (((k + 1 : Nat) : Int) - 1) = (k : Int) * ((k : Int) - 1) + 2 * k := by
    rw [show ((k + 1 : Nat) : Int) = (k : Int) + 1 by omega]; grind
  rw [e]
  generalize (k : Int) * ((k : Int) - 1) = x
  generalize b 2 * (b 2 - 1) = y
  by_cases c : ((k + 1 : Nat) : Int) = b 2
  · rw [if_pos c]
    unfold bkZ
    rw [if_pos (by omega)]
    omega
  · rw [if_neg c]
    have := owZ_s g (p := (k : Int) + 1) (by omega)
    rw [show ((k + 1 : Nat) : Int) + 1 = (k : Int) + 1 + 1 by omega, this]
    omega
theorem ivZ_s {b : Nat → Int} (g : gdB b) {k : Nat} (h : (k : Int) + 1 ≤ b 2) {v r : Int} (hr : 0 ≤ r) (i : ivZ b (k + 1) v) : ivZ b k ((v + flZ b ((k : Int) + 1)) * 10000 / (10000 + r)) := by
  have f := flZ_b g (p := (k : Int) + 1) (by omega) h
  have s := bdZ_s g h
  have n : 0 ≤ v + flZ b ((k : Int) + 1) := by have := i.1; omega
  refine ⟨Int.ediv_nonneg (by omega) (by omega), ?_⟩
  have d : (v + flZ b ((k : Int) + 1)) * 10000 / (10000 + r) ≤ v + flZ b ((k : Int) + 1) := by
    apply Int.ediv_le_of_le_mul (by omega)
    exact Int.mul_le_mul_of_nonneg_left (by omega) n
  have := i.2
  omega
theorem bdZ_top {b : Nat → Int} (g : gdB b) {k : Nat} (h : (k : Int) ≤ b 2) : bdZ b k ≤ 1680000000 := by
  have g2 := g.2.2.1
  have a : (if (k : Int) = b 2 then 0 else owZ b (k + 1)) ≤ 100000000 := by
    split
    · omega
    · exact (owZ_b g (by omega) (by omega)).2
  unfold bdZ
  have m1 : b 2 * (b 2 - 1) ≤ 40 * 39 := Int.mul_le_mul (by omega) (by omega) (by omega) (by omega)
  have m2 : 0 ≤ (k : Int) * ((k : Int) - 1) := by
    by_cases c : k = 0
    · subst c; decide
    · exact Int.mul_nonneg (by omega) (by omega)
  omega
theorem ivZ_top {b : Nat → Int} (g : gdB b) {k : Nat} (h : (k : Int) ≤ b 2) {v : Int} (i : ivZ b k v) : 0 ≤ v ∧ v ≤ 1680000000 := ⟨i.1, Int.le_trans i.2 (bdZ_top g h)⟩
theorem ivZ_0 (b : Nat → Int) (h : 0 ≤ b 2) : ivZ b (b 2).toNat 0 := by
  refine ⟨by omega, ?_⟩
  unfold bdZ
  rw [show ((b 2).toNat : Int) = b 2 by omega, if_pos rfl]; omega
theorem flZ_t {b : Nat → Int} (g : gdB b) {p : Int} (h1 : 1 ≤ p) (h2 : p ≤ b 2) : 0 ≤ flZ b p ∧ flZ b p ≤ 1680000000 := by
  have f := flZ_b g h1 h2
  have s := bdZ_s g (k := (p - 1).toNat) (by omega)
  rw [show (((p - 1).toNat : Nat) : Int) = p - 1 by omega, show p - 1 + 1 = p by omega] at s
  have t := bdZ_top g (k := (p - 1).toNat) (by omega)
  have u : 0 ≤ bdZ b ((p - 1).toNat + 1) := by
    unfold bdZ
    have hh : ((((p - 1).toNat + 1 : Nat)) : Int) = p := by omega
    rw [hh]
    have m : p * (p - 1) ≤ b 2 * (b 2 - 1) := Int.mul_le_mul (by omega) (by omega) (by omega) (by omega)
    have o : 0 ≤ (if p = b 2 then 0 else owZ b (p + 1)) := by
      split
      · omega
      · exact (owZ_b g (by omega) (by omega)).1
    omega
  omega
theorem wZ_iv {b : Nat → Int} (g : gdB b) {r : Int} (hr : 0 ≤ r) : ∀ (k : Nat) (v : Int), (k : Int) ≤ b 2 → ivZ b k v → 0 ≤ wZ (flZ b) r k v ∧ wZ (flZ b) r k v ≤ 1680000000
  | 0, v, h, i => ivZ_top g h i
  | k + 1, v, h, i => wZ_iv g hr k _ (by omega) (ivZ_s g (by omega) hr i)
theorem woZ_b {b : Nat → Int} (g : gdB b) {r : Int} (hr : 0 ≤ r) : 0 ≤ woZ b r ∧ woZ b r ≤ 1680000000 := by
  have := g.2.2.1
  exact wZ_iv g hr _ _ (by omega) (ivZ_0 b (by omega))
theorem prZ_b {b : Nat → Int} (g : gdB b) (r : Int) : 0 ≤ prZ b r ∧ prZ b r ≤ 1680000000 := by
  unfold prZ
  exact woZ_b g (by split <;> omega)
theorem faZ_b {b : Nat → Int} (g : gdB b) {r : Int} (hr : 0 ≤ r) : 0 ≤ faZ b r ∧ faZ b r ≤ 168000 := by
  have := woZ_b g hr
  unfold faZ; omega
/-! a worth never rises with the rate -/
theorem dv_mono {a a' c c' : Int} (h0 : 0 ≤ a') (h1 : a' ≤ a) (h2 : 0 < c) (h3 : c ≤ c') : a' / c' ≤ a / c := by
  apply Int.le_ediv_of_mul_le h2
  have p : 0 ≤ a' / c' := Int.ediv_nonneg h0 (by omega)
  have q : a' / c' * c ≤ a' / c' * c' := Int.mul_le_mul_of_nonneg_left h3 p
  have r : a' / c' * c' ≤ a' := Int.ediv_mul_le _ (by omega)
  omega
theorem wZ_mono {f : Int → Int} {N : Nat} (hf : ∀ k : Nat, k < N → 0 ≤ f ((k : Int) + 1)) {r r' : Int} (h0 : 0 ≤ r) (h1 : r ≤ r') : ∀ (k : Nat) (v v' : Int), k ≤ N → 0 ≤ v' → v' ≤ v → wZ f r' k v' ≤ wZ f r k v
  | 0, v, v', _, _, h => h
  | k + 1, v, v', hk, hv, h => by
    have := hf k (by omega)
    exact wZ_mono hf h0 h1 k _ _ (by omega) (Int.ediv_nonneg (by omega) (by omega)) (dv_mono (by omega) (by omega) (by omega) (by omega))
theorem woZ_mono {b : Nat → Int} (g : gdB b) {r r' : Int} (h0 : 0 ≤ r) (h1 : r ≤ r') : woZ b r' ≤ woZ b r := by
  have := g.2.2.1
  exact wZ_mono (N := (b 2).toNat) (fun k hk => (flZ_b g (by omega) (by omega)).1) h0 h1 _ _ _ (Nat.le_refl _) (by omega) (by omega)
theorem prZ_mono {b : Nat → Int} (g : gdB b) {r r' : Int} (h1 : r ≤ r') : prZ b r' ≤ prZ b r := by
  unfold prZ
  apply woZ_mono g
  · split <;> omega
  · split <;> split <;> omega

/-! THE CLASS over the state that is meant -/
def bD (σ : ST) (k : Nat) (b : Nat → Int) : Prop := gdB b ∧ (∀ j, j < 7 → gI σ 2 k j = zi (b j)) ∧ (∀ p : Nat, 1 ≤ p → (p : Int) ≤ b 2 → gI σ 3 k p = zi (flZ b p)) ∧ (gW σ k = true → ∀ r : Nat, r ≤ 3200 → gI σ 10 k r = 0 ∨ gI σ 10 k r = zi (woZ b r))
def eqX (σ σ' : ST) : Prop := (∀ t, t ≠ 10 → gI σ' t = gI σ t) ∧ gJ σ' = gJ σ ∧ gP σ' = gP σ ∧ gW σ' = gW σ
theorem eqX.rf (σ : ST) : eqX σ σ := ⟨fun _ _ => rfl, rfl, rfl, rfl⟩
theorem eqX.tr {a b c : ST} (h1 : eqX a b) (h2 : eqX b c) : eqX a c := ⟨fun t h => (h2.1 t h).trans (h1.1 t h), h2.2.1.trans h1.2.1, h2.2.2.1.trans h1.2.2.1, h2.2.2.2.trans h1.2.2.2⟩
theorem c_within {a b c : Int} (ha : r32 a) (hb : r32 b) (hc : r32 c) : mX2_within (zi a) (zi b) (zi c) = some (b2i (decide (b ≤ a ∧ a ≤ c))) := by
  unfold mX2_within
  simp only [zi_lt ha hb, zi_lt hc ha]
  by_cases h : a < b
  · rw [if_pos h, decide_eq_false (by omega)]; rfl
  · rw [if_neg h]
    by_cases h2 : c < a
    · rw [if_pos h2, decide_eq_false (by omega)]; rfl
    · rw [if_neg h2, decide_eq_true (by omega)]; rfl
theorem c_wi {a b c : Int} (h1 : -2147483648 ≤ a) (h2 : a < 2147483648) (h3 : -2147483648 ≤ b) (h4 : b < 2147483648) (h5 : -2147483648 ≤ c) (h6 : c < 2147483648) : mX2_within (zi a) (zi b) (zi c) = some (b2i (decide (b ≤ a ∧ a ≤ c))) := c_within ⟨h1, h2⟩ ⟨h3, h4⟩ ⟨h5, h6⟩
theorem c_isRate {a : Int} (h : r32 a) : mX2_isRate (zi a) = some (b2i (decide (0 ≤ a ∧ a ≤ 3000))) := by
  obtain ⟨h1, h2⟩ := h
  unfold mX2_isRate
  simp (disch := omega) only [l0, l3000, c_wi, ob_s, b2iz, gdt]
section C0
variable {σ : ST} {n : Nat} {B : Nat → Nat → Int} {G : Nat → Int}
theorem c_discL {k : Nat} {b : Nat → Int} (hk : k < 8) (D : bD σ k b) {r : Int} (hr : 0 ≤ r) (hr2 : r ≤ 3200) : ∀ (p : Nat) (v : Int) (fuel : Nat), (p : Int) ≤ b 2 → ivZ b p v → p < fuel → kX0_discounted_20 σ fuel (k, zi (10000 + r), zl v, zi p) = some (zi (wZ (flZ b) r p v))
  | 0, v, fuel, hp, hv, hf => by
    obtain ⟨f, rfl⟩ : ∃ f, fuel = f + 1 := ⟨fuel - 1, by omega⟩
    change bkX0_discounted_20 σ (kX0_discounted_20 σ f) _ _ _ _ = _
    unfold bkX0_discounted_20
    simp only [hk, decide_true, gdt]
    rw [if_pos (show zi ((0 : Nat) : Int) < (1 : Int32) by decide), zl_I]
    rfl
  | p + 1, v, fuel, hp, hv, hf => by
    obtain ⟨f, rfl⟩ : ∃ f, fuel = f + 1 := ⟨fuel - 1, by omega⟩
    obtain ⟨g, D2, D3, _⟩ := id D
    have g2 := g.2.2.1
    have t := ivZ_top g hp hv
    have fb := flZ_t g (p := ((p + 1 : Nat) : Int)) (by omega) hp
    have ih := c_discL hk D hr hr2 p _ f (by omega) (ivZ_s g (by omega) hr hv) (by omega)
    change bkX0_discounted_20 σ (kX0_discounted_20 σ f) _ _ _ _ = _
    unfold bkX0_discounted_20
    simp (disch := omega) only [hk, decide_true, gdt, l1, ylt, inb_z, yL, yN, nzl_z, Int.toNat_natCast, D3 (p + 1) (by omega) hp, zl_add, zl_mul, L10000, wdv, zi_neg, zi_add]
    rw [if_neg (by omega), show ((p + 1 : Nat) : Int) + -1 = p by omega, show ((p + 1 : Nat) : Int) = (p : Int) + 1 by omega]
    exact ih
theorem c_disc {k : Nat} {b : Nat → Int} (hk : k < 8) (D : bD σ k b) {r : Int} (hr : 0 ≤ r) (hr2 : r ≤ 3200) : mX0_discounted σ k (zi r) = some (zi (woZ b r)) := by
  have g2 := D.1.2.2.1
  unfold mX0_discounted
  simp (disch := omega) only [l0, l10000, zi_add, ylt, D.2.1 2 (by omega)]
  rw [if_pos (by omega)]
  have := c_discL hk D hr hr2 (b 2).toNat 0 FU (by omega) (ivZ_0 _ (by omega)) (by unfold FU; omega)
  rw [show ((b 2).toNat : Int) = b 2 by omega] at this
  exact this
theorem bD_sX {k : Nat} {b : Nat → Int} (D : bD σ k b) {r : Nat} : bD (sI σ 10 k r (zi (woZ b r))) k b := by
  obtain ⟨g, D2, D3, D4⟩ := D
  refine ⟨g, fun j h => ?_, fun p h1 h2 => ?_, fun w q hq => ?_⟩
  · rw [gI_sI, if_neg (by omega)]; exact D2 j h
  · rw [gI_sI, if_neg (by omega)]; exact D3 p h1 h2
  · rw [gI_sI]
    by_cases c : q = r
    · subst c; rw [if_pos ⟨rfl, rfl, rfl⟩]; exact Or.inr rfl
    · rw [if_neg (by omega)]; exact D4 w q hq
theorem bD_sXo {k k' : Nat} {b : Nat → Int} (D : bD σ k' b) (h : k' ≠ k) {r : Nat} {v : Int32} : bD (sI σ 10 k r v) k' b := by
  obtain ⟨g, D2, D3, D4⟩ := D
  refine ⟨g, fun j h => ?_, fun p h1 h2 => ?_, fun w q hq => ?_⟩
  · rw [gI_sI, if_neg (by omega)]; exact D2 j h
  · rw [gI_sI, if_neg (by omega)]; exact D3 p h1 h2
  · rw [gI_sI, if_neg (by omega)]; exact D4 w q hq
theorem eqX_10 {k r : Nat} {v : Int32} : eqX σ (sI σ 10 k r v) := ⟨fun t h => gI_nt h, rfl, rfl, rfl⟩
theorem c_worthAt {k : Nat} {b : Nat → Int} (hk : k < 8) (D : bD σ k b) {r : Int} (hr : 0 ≤ r) (hr2 : r ≤ 3200) : ∃ σ', mX0_worthAt σ k (zi r) = some (zi (woZ b r), σ') ∧ eqX σ σ' ∧ bD σ' k b ∧ ∀ k' b', k' ≠ k → bD σ k' b' → bD σ' k' b' := by
  have d := c_disc hk D hr hr2
  unfold mX0_worthAt
  by_cases w : gW σ k = true
  · rw [if_pos w]
    simp (disch := omega) only [l0, l3200, c_wi, ob_s, d, inb_z, gdt, yN, sv_z, decide_eq_true (show 0 ≤ r ∧ r ≤ 3200 from ⟨hr, hr2⟩)]
    rw [if_neg (by decide)]
    by_cases c : gI σ 10 k r.toNat = zi 0
    · rw [if_pos c, gI_sI, if_pos ⟨rfl, rfl, rfl⟩]
      have e : zi (woZ b r) = zi (woZ b (r.toNat : Int)) := by rw [show (r.toNat : Int) = r by omega]
      refine ⟨_, rfl, eqX_10, ?_, fun k' b' h D' => bD_sXo D' h⟩
      rw [e]; exact bD_sX D
    · rw [if_neg c]
      have q := D.2.2.2 w r.toNat (by omega)
      rcases q with q | q
      · exact absurd q c
      · rw [q, show (r.toNat : Int) = r by omega]
        exact ⟨σ, rfl, eqX.rf σ, D, fun _ _ _ h => h⟩
  · rw [if_neg w, d, ob_s]
    exact ⟨σ, rfl, eqX.rf σ, D, fun _ _ _ h => h⟩
def cK (σ : ST) (n : Nat) (B : Nat → Nat → Int) (G : Nat → Int) : Prop := okS n B G ∧ (G 8 = -1 ∧ G 9 = -1) ∧ gI σ 0 0 1 = zi n ∧ (gI σ 0 0 2 = zi (G 0) ∧ gI σ 0 0 3 = zi (G 1) ∧ gI σ 0 0 4 = zi (G 2)) ∧ (gI σ 1 0 0 = zi (G 3) ∧ gI σ 1 0 1 = zi (G 4) ∧ gI σ 1 0 2 = zi (G 5) ∧ gI σ 1 0 3 = zi (G 6) ∧ gI σ 1 0 4 = zi (G 7)) ∧ ((∀ i, i < 8 → gP σ i < 8) ∧ ∀ i j, i < 8 → j < 8 → gP σ i = gP σ j → i = j) ∧ ∀ i, i < n → bD σ (gP σ i) (B i)
def cC (σ : ST) (n : Nat) (B : Nat → Nat → Int) (G : Nat → Int) : Prop := cK σ n B G ∧ ∀ i, i < n → gI σ 2 (gP σ i) 7 = zi (faZ (B i) (G 0))
theorem bD_fr {σ' : ST} {k : Nat} {b : Nat → Int} (D : bD σ k b) (h2 : gI σ' 2 = gI σ 2) (h3 : gI σ' 3 = gI σ 3) (h10 : gI σ' 10 = gI σ 10) (hw : gW σ' = gW σ) : bD σ' k b := by
  unfold bD at *; rw [h2, h3, h10, hw]; exact D
theorem cC_fr {σ' : ST} (C : cC σ n B G) (h0 : gI σ' 0 = gI σ 0) (h1 : gI σ' 1 = gI σ 1) (h2 : gI σ' 2 = gI σ 2) (h3 : gI σ' 3 = gI σ 3) (h10 : gI σ' 10 = gI σ 10) (hp : gP σ' = gP σ) (hw : gW σ' = gW σ) : cC σ' n B G := by
  unfold cC cK bD at *
  rw [h0, h1, h2, h3, h10, hp, hw]; exact C
theorem cC_sI (C : cC σ n B G) {t i j : Nat} {v : Int32} (h : 4 ≤ t ∧ t ≠ 10) : cC (sI σ t i j v) n B G :=
  cC_fr C (gI_nt (by omega)) (gI_nt (by omega)) (gI_nt (by omega)) (gI_nt (by omega)) (gI_nt (by omega)) rfl rfl
theorem cC_sR (C : cC σ n B G) {t i : Nat} {r : Nat → Int32} (h : 4 ≤ t ∧ t ≠ 10) : cC (sR σ t i r) n B G :=
  cC_fr C (gI_Rnt (by omega)) (gI_Rnt (by omega)) (gI_Rnt (by omega)) (gI_Rnt (by omega)) (gI_Rnt (by omega)) rfl rfl
theorem cC_sJ (C : cC σ n B G) {t i j : Nat} {v : Int64} : cC (sJ σ t i j v) n B G := cC_fr C rfl rfl rfl rfl rfl rfl rfl
theorem cK_X {σ' : ST} (C : cK σ n B G) (E : eqX σ σ') (hb : ∀ i, i < n → bD σ' (gP σ i) (B i)) : cK σ' n B G := by
  obtain ⟨a, b, c, d, e, f, g⟩ := C
  obtain ⟨E1, E2, E3, E4⟩ := E
  refine ⟨a, b, ?_, ?_, ?_, ?_, ?_⟩
  · rw [E1 0 (by omega)]; exact c
  · rw [E1 0 (by omega)]; exact d
  · rw [E1 1 (by omega)]; exact e
  · rw [E3]; exact f
  · rw [E3]; exact hb
theorem c_pl (C : cK σ n B G) {i : Nat} (h : i < n) : gP σ i < 8 := C.2.2.2.2.2.1.1 i (by have := C.1.1; omega)
theorem c_worth (C : cK σ n B G) {i : Nat} (hi : i < n) {r : Int} (hr : 0 ≤ r) (hr2 : r ≤ 3200) : ∃ σ', mX0_worthAt σ (gP σ i) (zi r) = some (zi (woZ (B i) r), σ') ∧ eqX σ σ' ∧ cK σ' n B G := by
  have hn := C.1.1
  obtain ⟨σ', e, E, h1, h2⟩ := c_worthAt (c_pl C hi) (C.2.2.2.2.2.2 i hi) hr hr2
  refine ⟨σ', e, E, cK_X C E (fun j hj => ?_)⟩
  by_cases c : j = i
  · subst c; exact h1
  · exact h2 _ _ (fun q => c (C.2.2.2.2.2.1.2 j i (by omega) (by omega) q)) (C.2.2.2.2.2.2 j hj)
theorem c_price (C : cC σ n B G) {i : Nat} (hi : i < n) {r : Int} (hr : 0 ≤ r) (hr2 : r ≤ 3000) : ∃ σ', mX0_priceAt σ (gP σ i) (zi r) = some (zi (prZ (B i) r), σ') ∧ eqX σ σ' ∧ cC σ' n B G := by
  have D := C.1.2.2.2.2.2.2 i hi
  obtain ⟨_, _, _, _, g4, _⟩ := D.1
  obtain ⟨σ', e, E, K⟩ := c_worth C.1 hi (r := if 0 ≤ r + B i 4 then r + B i 4 else 0) (by split <;> omega) (by split <;> omega)
  refine ⟨σ', ?_, E, K, fun j hj => by rw [E.2.2.1, E.1 2 (by omega)]; exact C.2 j hj⟩
  unfold mX0_priceAt prZ
  simp (disch := omega) only [l0, D.2.1 4 (by omega), zi_add, ylt]
  have : (if 0 < r + B i 4 then zi (r + B i 4) else zi 0) = zi (if 0 ≤ r + B i 4 then r + B i 4 else 0) := by
    by_cases c : 0 < r + B i 4
    · rw [if_pos c, if_pos (by omega)]
    · rw [if_neg c]
      by_cases d : 0 ≤ r + B i 4
      · rw [if_pos d, show r + B i 4 = 0 by omega]
      · rw [if_neg d]
  rw [this, e]; rfl
theorem c_has (C : cC σ n B G) {a : Int} (h : r32 a) : mX2_has σ (zi a) = some (b2i (decide (0 ≤ a ∧ a < n))) := by
  obtain ⟨h1, h2⟩ := h
  have hn := C.1.1.1
  unfold mX2_has
  rw [C.1.2.2.1]
  simp (disch := omega) only [l0, l1, zi_sub, c_wi, ob_s, b2iz, gdt]
  congr 2
  exact decide_eq_decide.mpr (by omega)
theorem c_elig (C : cC σ n B G) {i : Nat} (hi : i < n) : mX2_isEligible σ (zi i) = some (b2i (elZ B G i)) := by
  have hn := C.1.1.1
  obtain ⟨g0, g1, g2, g3, g4, g5, g6, g7, g8, g9⟩ := C.1.1.2.2
  have D := C.1.2.2.2.2.2.2 i hi
  obtain ⟨_, _, ⟨p1, p2⟩, _, _, _, ⟨q1, q2⟩⟩ := D.1
  have fb := faZ_b D.1 g0.1
  obtain ⟨_, t3, t4⟩ := C.1.2.2.2.1
  unfold mX2_isEligible elZ
  simp (disch := omega) only [inb_z, gdt, yN, Int.toNat_natCast, c_pl C.1 hi, decide_true, D.2.1 6 (by omega), D.2.1 2 (by omega), C.2 i hi, t3, t4, c_wi, ob_s, l0, yeq, yle, C.1.2.1.1, C.1.2.1.2, Bool.true_or, Bool.true_and]
  have c0 : ¬ (i : Int) = -1 := by omega
  simp only [c0, decide_false, Bool.not_false, Bool.true_and]
  by_cases c2 : B i 6 = 0
  · simp only [c2, if_true, decide_true, Bool.true_and]
    by_cases c3 : G 1 ≤ B i 2 ∧ B i 2 ≤ G 2
    · rw [decide_eq_true c3, if_neg (by decide)]
      by_cases c4 : faZ (B i) (G 0) ≤ 0
      · rw [if_pos c4, decide_eq_false (by omega)]; rfl
      · rw [if_neg c4, decide_eq_true (by omega)]; rfl
    · rw [decide_eq_false c3]; rfl
  · simp only [c2, if_false, decide_false]; rfl
theorem c_eligL (C : cC σ n B G) : ∀ (j i : Nat) (x : Int32) (fuel : Nat), i + j = n → bs x (elZ B G) i → j < fuel → ∃ x', kX2_eligibleBits_4 σ fuel (x, zi i) = some x' ∧ bs x' (elZ B G) n
  | 0, i, x, fuel, hij, hx, hf => by
    obtain ⟨f, rfl⟩ : ∃ f, fuel = f + 1 := ⟨fuel - 1, by omega⟩
    have hn := C.1.1.1
    refine ⟨x, ?_, by rw [← hij]; exact hx⟩
    change bkX2_eligibleBits_4 σ (kX2_eligibleBits_4 σ f) _ _ = _
    unfold bkX2_eligibleBits_4
    rw [C.1.2.2.1, if_pos (by rw [yle (by omega) (by omega) (by omega) (by omega)]; omega)]
  | j + 1, i, x, fuel, hij, hx, hf => by
    obtain ⟨f, rfl⟩ : ∃ f, fuel = f + 1 := ⟨fuel - 1, by omega⟩
    have hn := C.1.1.1
    have hs : bs (if elZ B G i then x ||| ((1 : Int32) <<< (zi i &&& 31)) else x) (elZ B G) (i + 1) := by
      intro k
      cases c : elZ B G i with
      | true =>
        rw [if_pos rfl, gb_or1 x (by omega), hx k]
        by_cases e : k = i
        · subst e; simp [c]
        · by_cases e2 : k < i
          · simp [e, e2, show k < i + 1 by omega]
          · simp [e, e2, show ¬ k < i + 1 by omega]
      | false =>
        rw [if_neg (by decide), hx k]
        by_cases e : k = i
        · subst e; simp [c]
        · by_cases e2 : k < i
          · simp [e2, show k < i + 1 by omega]
          · simp [e2, show ¬ k < i + 1 by omega]
    obtain ⟨x', e, h⟩ := c_eligL C j (i + 1) _ f (by omega) hs (by omega)
    refine ⟨x', ?_, h⟩
    rw [← e]
    change bkX2_eligibleBits_4 σ (kX2_eligibleBits_4 σ f) _ _ = _
    unfold bkX2_eligibleBits_4
    simp only [C.1.2.2.1, c_elig C (show i < n by omega), ob_s, b2i0]
    rw [if_neg (by rw [yle (by omega) (by omega) (by omega) (by omega)]; omega)]
    simp only [l1, zi_add]
    cases c : elZ B G i with
    | true => simp
    | false => simp
theorem c_bits (C : cC σ n B G) : ∃ x, mX2_eligibleBits σ = some x ∧ bs x (elZ B G) n := by
  have hn := C.1.1.1
  exact c_eligL C n 0 0 FU (by omega) (fun k => by rw [gb_0]; simp) (by unfold FU; omega)
theorem c_stocksL (C : cC σ n B G) : ∀ (j i : Nat) (fuel : Nat), i + j = n → j < fuel → kX2_eligibleStock_4 σ fuel (zi (stZ (elZ B G) (fun i => B i 5) i), zi i) = some (zi (stZ (elZ B G) (fun i => B i 5) n))
  | 0, i, fuel, hij, hf => by
    obtain ⟨f, rfl⟩ : ∃ f, fuel = f + 1 := ⟨fuel - 1, by omega⟩
    have hn := C.1.1.1
    have : i = n := by omega
    subst this
    change bkX2_eligibleStock_4 σ (kX2_eligibleStock_4 σ f) _ _ = _
    unfold bkX2_eligibleStock_4
    rw [C.1.2.2.1, if_pos (by rw [yle (by omega) (by omega) (by omega) (by omega)]; omega)]
  | j + 1, i, fuel, hij, hf => by
    obtain ⟨f, rfl⟩ : ∃ f, fuel = f + 1 := ⟨fuel - 1, by omega⟩
    have hn := C.1.1.1
    have ih := c_stocksL C j (i + 1) f (by omega) (by omega)
    have hi : i < n := by omega
    rw [← ih]
    change bkX2_eligibleStock_4 σ (kX2_eligibleStock_4 σ f) _ _ = _
    unfold bkX2_eligibleStock_4
    simp (disch := omega) only [C.1.2.2.1, c_elig C hi, ob_s, b2i0, inb_z, gdt, yN, Int.toNat_natCast, c_pl C.1 hi, decide_true, (C.1.2.2.2.2.2.2 i hi).2.1 5]
    rw [if_neg (by rw [yle (by omega) (by omega) (by omega) (by omega)]; omega)]
    simp only [l1, zi_add]
    cases c : elZ B G i with
    | true => simp [stZ, c]
    | false => simp [stZ, c]
theorem c_stocks (C : cC σ n B G) : mX2_eligibleStock σ = some (zi (stZ (elZ B G) (fun i => B i 5) n)) := by
  have hn := C.1.1.1
  exact c_stocksL C n 0 FU (by omega) (by unfold FU; omega)
end C0

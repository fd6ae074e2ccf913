/-! THE REFERENCE'S LOOPS OVER RATES AND RANKS -/
section M2
variable {τ : ST} {n : Nat} {B : Nat → Nat → Int} {G : Nat → Int}
theorem m_rank1 (M : mM τ n B G) {r kk : Int} (hr : 0 ≤ r) (hr2 : r ≤ 3000) (hk : r32 kk) {b : Nat} (hb : b < n) (rc : ST × Int32 × Int32 × Int32 → Option (Int32 × ST)) : ∀ (j i : Nat) (fuel : Nat), i + j = n → j < fuel → kX3_ranked_41 rc fuel (τ, zi r, zi kk, zi b, zi (cnZ (elZ B G) (PZ B r) (FZ B G) b i), zi i) = if cnZ (elZ B G) (PZ B r) (FZ B G) b n = kk then some (zi b, τ) else rc (τ, zi r, zi kk, zi ((b + 1 : Nat) : Int))
  | 0, i, fuel, hij, hf => by
    obtain ⟨fu, rfl⟩ : ∃ f, fuel = f + 1 := ⟨fuel - 1, by omega⟩
    have hn := M.1.1
    have : i = n := by omega
    subst this
    have cb := cnZ_b (elZ B G) (PZ B r) (FZ B G) b i
    obtain ⟨k1, k2⟩ := hk
    rw [ksX3_ranked_41]
    unfold bkX3_ranked_41
    rw [M.2.1, if_pos (by rw [yle (by omega) (by omega) (by omega) (by omega)]; omega)]
    simp (disch := omega) only [yeq, l1, zi_add]
    rfl
  | j + 1, i, fuel, hij, hf => by
    obtain ⟨fu, rfl⟩ : ∃ f, fuel = f + 1 := ⟨fuel - 1, by omega⟩
    have hn := M.1.1
    have hi : i < n := by omega
    have ih := m_rank1 M hr hr2 hk hb rc j (i + 1) fu (by omega) (by omega)
    rw [← ih, ksX3_ranked_41]
    unfold bkX3_ranked_41
    simp (disch := omega) only [M.2.1, m_elig M hi, ob_s, b2i0, m_isDearer M hb hi hr hr2, m_isDearer M hi hb hr hr2, l0, l1, zi_add, yeq, yle, Int.add_zero]
    rw [if_neg (by omega)]
    have e1 : cnZ (elZ B G) (PZ B r) (FZ B G) b (i + 1) = cnZ (elZ B G) (PZ B r) (FZ B G) b i + (if elZ B G i = true ∧ (PZ B r i * FZ B G b < PZ B r b * FZ B G i ∨ PZ B r i * FZ B G b = PZ B r b * FZ B G i ∧ i < b) then 1 else 0) := rfl
    rw [e1]
    have z0 : ∀ q : Bool, (b2i q = zi 0) ↔ q = false := fun q => b2i0
    simp only [z0]
    cases c : elZ B G i with
    | false => simp
    | true =>
      simp only [true_and]
      rw [if_neg (by decide)]
      show _ = kX3_ranked_41 rc fu (τ, zi r, zi kk, zi b, zi (cnZ (elZ B G) (PZ B r) (FZ B G) b i + (if prZ (B i) r * faZ (B b) (G 0) < prZ (B b) r * faZ (B i) (G 0) ∨ prZ (B i) r * faZ (B b) (G 0) = prZ (B b) r * faZ (B i) (G 0) ∧ i < b then 1 else 0)), zi ((i : Int) + 1))
      by_cases e : i = b
      · rw [if_pos (by omega), if_neg (by rw [e]; omega), Int.add_zero]
      · generalize prZ (B i) r * faZ (B b) (G 0) = X
        generalize prZ (B b) r * faZ (B i) (G 0) = Y
        rw [if_neg (by omega)]
        by_cases d : X < Y
        · rw [if_neg (by simp [d]), if_pos (Or.inl d)]
        · rw [if_pos (by simp [d])]
          by_cases h : (b : Int) ≤ i
          · rw [if_pos h, if_neg (by omega), Int.add_zero]
          · rw [if_neg h]
            by_cases g : Y < X
            · rw [if_neg (by simp [g]), if_neg (by omega), Int.add_zero]
            · rw [if_pos (by simp [g]), if_pos (by omega)]
theorem m_rankL (M : mM τ n B G) {r kk : Int} (hr : 0 ≤ r) (hr2 : r ≤ 3000) (hk : r32 kk) : ∀ (j i : Nat) (fuel : Nat), i + j = n → j < fuel → kX3_ranked_16 fuel (τ, zi r, zi kk, zi i) = some (zi (rkZ (elZ B G) (fun b => cnZ (elZ B G) (PZ B r) (FZ B G) b n) kk j i), τ)
  | 0, i, fuel, hij, hf => by
    obtain ⟨fu, rfl⟩ : ∃ f, fuel = f + 1 := ⟨fuel - 1, by omega⟩
    have hn := M.1.1
    rw [ksX3_ranked_16]
    unfold bkX3_ranked_16
    rw [M.2.1, if_pos (by rw [yle (by omega) (by omega) (by omega) (by omega)]; omega)]
    rfl
  | j + 1, i, fuel, hij, hf => by
    obtain ⟨fu, rfl⟩ : ∃ f, fuel = f + 1 := ⟨fuel - 1, by omega⟩
    have hn := M.1.1
    have hi : i < n := by omega
    have ih := m_rankL M hr hr2 hk j (i + 1) fu (by omega) (by omega)
    rw [ksX3_ranked_16]
    unfold bkX3_ranked_16 rkZ
    simp only [M.2.1, m_elig M hi, ob_s, b2i0]
    rw [if_neg (by rw [yle (by omega) (by omega) (by omega) (by omega)]; omega)]
    cases c : elZ B G i with
    | false =>
      simp only [l1, zi_add]
      simp
      exact ih
    | true =>
      rw [if_neg (by decide)]
      have := m_rank1 M hr hr2 hk hi (kX3_ranked_16 fu) n 0 FU (by omega) (by unfold FU; omega)
      have e : kX3_ranked_41 (kX3_ranked_16 fu) FU (τ, zi r, zi kk, zi i, 0, 0) = _ := this
      rw [e]
      by_cases d : cnZ (elZ B G) (PZ B r) (FZ B G) i n = kk
      · rw [if_pos d, if_pos ⟨rfl, d⟩]
      · rw [if_neg d, if_neg (fun h => d h.2)]; exact ih
theorem m_swL (M : mM τ n B G) {to kk : Int} (ht : to ≤ 3000) (hk : r32 kk) : ∀ (j : Nat) (r c : Int) (fuel : Nat), r + j = to + 1 → 1 ≤ r → 0 ≤ c → c < r → j < fuel → kX3_switches_46 fuel (τ, zi to, zi kk, zi c, zi r) = some (zi (swZ (fun r => chZ (elZ B G) (PZ B r) (FZ B G) n) kk j r c), τ)
  | 0, r, c, fuel, hij, hr, hc, hc2, hf => by
    obtain ⟨fu, rfl⟩ : ∃ f, fuel = f + 1 := ⟨fuel - 1, by omega⟩
    obtain ⟨k1, k2⟩ := hk
    rw [ksX3_switches_46]
    unfold bkX3_switches_46 swZ
    simp (disch := omega) only [ylt, l1, zi_neg, yeq]
    rw [if_pos (by omega)]
    split <;> rfl
  | j + 1, r, c, fuel, hij, hr, hc, hc2, hf => by
    obtain ⟨fu, rfl⟩ : ∃ f, fuel = f + 1 := ⟨fuel - 1, by omega⟩
    have hn := M.1.1
    obtain ⟨k1, k2⟩ := id hk
    have b1 := chZ_b (elZ B G) (PZ B r) (FZ B G) n
    have b2 := chZ_b (elZ B G) (PZ B (r - 1)) (FZ B G) n
    have ih := fun c h1 h2 => m_swL M ht hk j (r + 1) c fu (by omega) (by omega) h1 h2 (by omega)
    rw [ksX3_switches_46]
    unfold bkX3_switches_46 swZ
    simp (disch := omega) only [ylt, l1, zi_neg, zi_sub, m_cheapest1 M (r := r) (by omega) (by omega), m_cheapest1 M (r := r - 1) (by omega) (by omega), ob_s, yeq, zi_add]
    rw [if_neg (by omega)]
    by_cases d : chZ (elZ B G) (PZ B r) (FZ B G) n = chZ (elZ B G) (PZ B (r - 1)) (FZ B G) n
    · rw [if_pos d, if_pos d]
      exact ih c (by omega) (by omega)
    · rw [if_neg d, if_neg d]
      by_cases e : c = kk
      · rw [if_pos e, if_pos e]
      · rw [if_neg e, if_neg e]
        exact ih (c + 1) (by omega) (by omega)
theorem m_rateL (M : mM τ n B G) {i : Nat} (hi : i < n) {p : Int} (hp : r32 p) : ∀ (j : Nat) (r : Int) (fuel : Nat), 0 ≤ r → r + j = 3001 → j < fuel → kX3_rateOf_17 fuel (τ, zi i, zi p, zi r) = some (zi (scZ (fun r => decide (p < prZ (B i) r)) j r), τ)
  | 0, r, fuel, hr, hij, hf => by
    obtain ⟨fu, rfl⟩ : ∃ f, fuel = f + 1 := ⟨fuel - 1, by omega⟩
    rw [ksX3_rateOf_17]
    unfold bkX3_rateOf_17 scZ
    simp (disch := omega) only [l3000, ylt]
    rw [if_pos (by omega)]
    rfl
  | j + 1, r, fuel, hr, hij, hf => by
    obtain ⟨fu, rfl⟩ : ∃ f, fuel = f + 1 := ⟨fuel - 1, by omega⟩
    obtain ⟨p1, p2⟩ := id hp
    have ih := m_rateL M hi hp j (r + 1) fu (by omega) (by omega) (by omega)
    have pb := prZ_b (M.1.2.1 i hi) r
    rw [ksX3_rateOf_17]
    unfold bkX3_rateOf_17 scZ
    simp (disch := omega) only [l3000, ylt, m_price1 M hi (r := r) hr (by omega), ob_s, yL, l0, lz_gt, wlt, l1, zi_add]
    rw [if_neg (by omega)]
    by_cases t : p < prZ (B i) r
    · rw [if_pos t, if_pos (decide_eq_true t)]; exact ih
    · rw [if_neg t, if_neg (by simp [t])]
theorem m_implL (M : mM τ n B G) (ha : anZ n (elZ B G) = true) {m : Int} (hm : r64 m) : ∀ (j : Nat) (r : Int) (fuel : Nat), 0 ≤ r → r + j = 3001 → j < fuel → kX3_implied_16 fuel (τ, zl m, zi r) = some (zi (scZ (fun r => decide (m < mkZ (elZ B G) (PZ B r) (FZ B G) n)) j r), τ)
  | 0, r, fuel, hr, hij, hf => by
    obtain ⟨fu, rfl⟩ : ∃ f, fuel = f + 1 := ⟨fuel - 1, by omega⟩
    rw [ksX3_implied_16]
    unfold bkX3_implied_16 scZ
    simp (disch := omega) only [l3000, ylt]
    rw [if_pos (by omega)]
    rfl
  | j + 1, r, fuel, hr, hij, hf => by
    obtain ⟨fu, rfl⟩ : ∃ f, fuel = f + 1 := ⟨fuel - 1, by omega⟩
    obtain ⟨p1, p2⟩ := id hm
    have ih := m_implL M ha hm j (r + 1) fu (by omega) (by omega) (by omega)
    have pb := mkZ_b M.1 ha r
    rw [ksX3_implied_16]
    unfold bkX3_implied_16 scZ
    simp (disch := omega) only [l3000, ylt, m_mark1 M ha (r := r) hr (by omega), ob_s, l0, lz_gt, wlt, l1, zi_add]
    rw [if_neg (by omega)]
    by_cases t : m < mkZ (elZ B G) (PZ B r) (FZ B G) n
    · rw [if_pos t, if_pos (decide_eq_true t)]; exact ih
    · rw [if_neg t, if_neg (by simp [t])]
/-- the mark never rises with the rate -/
theorem chZ_min {f : Nat → Bool} {P F : Nat → Int} : ∀ (k : Nat), (∀ i, i < k → f i = true → 0 < F i) → ∀ i, i < k → f i = true → P (chZ f P F k).toNat * F i ≤ P i * F (chZ f P F k).toNat
  | 0, _, i, hi, _ => by omega
  | k + 1, hF, i, hi, fi => by
    have ih := chZ_min (P := P) k (fun i h => hF i (by omega))
    have b := chZ_b f P F k
    have cf := chZ_f f P F k
    have cn := chZ_n f P F k
    have e1 : chZ f P F (k + 1) = if f k = true ∧ (chZ f P F k = -1 ∨ P k * F (chZ f P F k).toNat < P (chZ f P F k).toNat * F k) then (k : Int) else chZ f P F k := rfl
    rw [e1]
    by_cases c : f k = true ∧ (chZ f P F k = -1 ∨ P k * F (chZ f P F k).toNat < P (chZ f P F k).toNat * F k)
    · rw [if_pos c, Int.toNat_natCast]
      by_cases e : i = k
      · subst e; exact Int.le_refl _
      · rcases c.2 with c2 | c2
        · rw [cn c2 i (by omega)] at fi; cases fi
        · by_cases c3 : chZ f P F k = -1
          · rw [cn c3 i (by omega)] at fi; cases fi
          have h1 := ih i (by omega) fi
          have cf := cf c3
          generalize hq : (chZ f P F k).toNat = q at *
          have fq := hF q (by omega) cf
          have fk := hF k (by omega) c.1
          have fi' := hF i (by omega) fi
          -- P k * F q < P q * F k, P q * F i ≤ P i * F q
          have s1 : P k * F q * F i ≤ P q * F k * F i := Int.mul_le_mul_of_nonneg_right (by omega) (by omega)
          have s2 : P q * F i * F k ≤ P i * F q * F k := Int.mul_le_mul_of_nonneg_right h1 (by omega)
          have s3 : (P k * F i) * F q ≤ (P i * F k) * F q := by
            have a1 : P k * F q * F i = (P k * F i) * F q := by grind
            have a2 : P q * F k * F i = P q * F i * F k := by grind
            have a3 : P i * F q * F k = (P i * F k) * F q := by grind
            omega
          exact Int.le_of_mul_le_mul_right s3 fq
    · rw [if_neg c]
      by_cases e : i = k
      · subst e
        have c2 : ¬ (chZ f P F i = -1 ∨ P i * F (chZ f P F i).toNat < P (chZ f P F i).toNat * F i) := fun h => c ⟨fi, h⟩
        omega
      · exact ih i (by omega) fi
theorem mkZ_mono (S : okS n B G) (ha : anZ n (elZ B G) = true) {r r' : Int} (h : r ≤ r') : mkZ (elZ B G) (PZ B r') (FZ B G) n ≤ mkZ (elZ B G) (PZ B r) (FZ B G) n := by
  obtain ⟨c1, c2, c3⟩ := chZ_any (PZ B r) (FZ B G) ha
  obtain ⟨d1, d2, d3⟩ := chZ_any (PZ B r') (FZ B G) ha
  have mn := chZ_min (f := elZ B G) (P := PZ B r') (F := FZ B G) n (fun i _ h => el_fac h) (chZ (elZ B G) (PZ B r) (FZ B G) n).toNat (by omega) c3
  unfold mkZ
  generalize hA : (chZ (elZ B G) (PZ B r) (FZ B G) n).toNat = a at *
  generalize hb : (chZ (elZ B G) (PZ B r') (FZ B G) n).toNat = b at *
  have ha' : a < n := by omega
  have f1 : 0 < FZ B G a := el_fac c3
  have f2 : 0 < FZ B G b := el_fac d3
  have p1 : PZ B r' a ≤ PZ B r a := prZ_mono (S.2.1 a ha') h
  have p2 : 0 ≤ PZ B r' b := (prZ_b (S.2.1 b (by omega)) r').1
  generalize PZ B r' a = pa' at *
  generalize PZ B r a = pa at *
  generalize PZ B r' b = pb at *
  generalize FZ B G a = fa at *
  generalize FZ B G b = fb at *
  -- pb * fa ≤ pa' * fb ≤ pa * fb
  have s1 : pa' * fb ≤ pa * fb := Int.mul_le_mul_of_nonneg_right p1 (by omega)
  apply Int.le_ediv_of_mul_le f1
  have q0 : pb * 10000 / fb * fb ≤ pb * 10000 := Int.ediv_mul_le _ (by omega)
  have s2 : (pb * 10000 / fb * fa) * fb ≤ (pa * 10000) * fb := by
    have a1 : (pb * 10000 / fb * fa) * fb = (pb * 10000 / fb * fb) * fa := by grind
    have a2 : (pb * 10000 / fb * fb) * fa ≤ (pb * 10000) * fa := Int.mul_le_mul_of_nonneg_right q0 (by omega)
    have a3 : (pb * 10000) * fa = (pb * fa) * 10000 := by grind
    have a4 : (pa * 10000) * fb = (pa * fb) * 10000 := by grind
    omega
  exact Int.le_of_mul_le_mul_right s2 f2
end M2

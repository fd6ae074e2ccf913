/-! WHO IS ELIGIBLE, THE CHEAPEST ONE, THE MARK: what is meant -/
abbrev b2i (b : Bool) : Int32 := if b then 1 else 0
theorem b2i0 {b : Bool} : (b2i b = (0 : Int32)) ↔ b = false := by cases b <;> simp [b2i]
theorem b2iz (b : Bool) : zb (b2i b) = true := by cases b <;> rfl
def elZ (B : Nat → Nat → Int) (G : Nat → Int) (i : Nat) : Bool := (decide (G 8 = -1) || decide ((i : Int) = G 8)) && (!decide ((i : Int) = G 9) && (decide (B i 6 = 0) && (decide (G 1 ≤ B i 2 ∧ B i 2 ≤ G 2) && decide (0 < faZ (B i) (G 0)))))
def bs (x : Int32) (f : Nat → Bool) (n : Nat) : Prop := ∀ k, gb x k = (decide (k < n) && f k)
theorem bs_eq {x y : Int32} {f : Nat → Bool} {n : Nat} (h1 : bs x f n) (h2 : bs y f n) : x = y := by
  apply Int32.toBitVec_inj.mp
  apply BitVec.eq_of_getLsbD_eq
  intro i _
  exact (h1 i).trans (h2 i).symm
def anZ (n : Nat) (f : Nat → Bool) : Bool := decide (∃ k, k < n ∧ f k = true)
theorem bs_0 {x : Int32} {f : Nat → Bool} {n : Nat} (h : bs x f n) : (x = (0 : Int32)) ↔ anZ n f = false := by
  rw [gb_z]
  unfold anZ
  constructor
  · intro q
    apply decide_eq_false
    rintro ⟨k, hk, hf⟩
    have := h k
    rw [q k, hf] at this
    simp [hk] at this
  · intro q i
    have q := of_decide_eq_false q
    rw [h i]
    by_cases c : i < n
    · cases e : f i with
      | true => exact absurd ⟨i, c, e⟩ q
      | false => simp
    · simp [c]
def chZ (f : Nat → Bool) (P F : Nat → Int) : Nat → Int
  | 0 => -1
  | k + 1 => if f k = true ∧ (chZ f P F k = -1 ∨ P k * F (chZ f P F k).toNat < P (chZ f P F k).toNat * F k) then (k : Int) else chZ f P F k
theorem chZ_b (f : Nat → Bool) (P F : Nat → Int) : ∀ k, -1 ≤ chZ f P F k ∧ chZ f P F k < k
  | 0 => by unfold chZ; omega
  | k + 1 => by
    have := chZ_b f P F k
    unfold chZ; split <;> omega
theorem chZ_f (f : Nat → Bool) (P F : Nat → Int) : ∀ k, chZ f P F k ≠ -1 → f (chZ f P F k).toNat = true
  | 0, h => absurd rfl h
  | k + 1, h => by
    have ih := chZ_f f P F k
    unfold chZ at h ⊢
    split
    · rename_i c; rw [Int.toNat_natCast]; exact c.1
    · rename_i c; rw [if_neg c] at h; exact ih h
theorem chZ_n (f : Nat → Bool) (P F : Nat → Int) : ∀ k, chZ f P F k = -1 → ∀ i, i < k → f i = false
  | 0, _, i, hi => absurd hi (by omega)
  | k + 1, h, i, hi => by
    have ih := chZ_n f P F k
    unfold chZ at h
    by_cases c : f k = true ∧ (chZ f P F k = -1 ∨ P k * F (chZ f P F k).toNat < P (chZ f P F k).toNat * F k)
    · rw [if_pos c] at h; omega
    · rw [if_neg c] at h
      by_cases e : i = k
      · subst e
        cases q : f i with
        | false => rfl
        | true => exact absurd ⟨q, Or.inl h⟩ c
      · exact ih h i (by omega)
theorem chZ_any {f : Nat → Bool} (P F : Nat → Int) {n : Nat} (h : anZ n f = true) : 0 ≤ chZ f P F n ∧ chZ f P F n < n ∧ f (chZ f P F n).toNat = true := by
  obtain ⟨k, hk, hf⟩ := of_decide_eq_true h
  have b := chZ_b f P F n
  have ne : chZ f P F n ≠ -1 := fun e => by
    rw [chZ_n f P F n e k hk] at hf; cases hf
  exact ⟨by omega, b.2, chZ_f f P F n ne⟩
def mkZ (f : Nat → Bool) (P F : Nat → Int) (n : Nat) : Int := P (chZ f P F n).toNat * 10000 / F (chZ f P F n).toNat
def stZ (f : Nat → Bool) (S : Nat → Int) : Nat → Int
  | 0 => 0
  | k + 1 => stZ f S k + (if f k then S k else 0)
/-! the reference -/
section M1
variable {τ : ST} {n : Nat} {B : Nat → Nat → Int} {G : Nat → Int}
theorem m_isIn {a b c : Int} (a1 : -9223372036854775808 ≤ a) (a2 : a < 9223372036854775808) (b1 : -9223372036854775808 ≤ b) (b2 : b < 9223372036854775808) (c1 : -9223372036854775808 ≤ c) (c2 : c < 9223372036854775808) : mX3_isIn (zl a) (zl b) (zl c) = some (b2i (decide (b ≤ a ∧ a ≤ c))) := by
  unfold mX3_isIn
  simp only [lc_lt, lc_gt, wlt a1 a2 b1 b2, wlt c1 c2 a1 a2]
  by_cases h : a < b
  · rw [if_pos h, decide_eq_false (by omega)]; rfl
  · rw [if_neg h]
    by_cases h2 : c < a
    · rw [if_pos h2, decide_eq_false (by omega)]; rfl
    · rw [if_neg h2, decide_eq_true (by omega)]; rfl
theorem m_isRate {a : Int} (h : r32 a) : mX3_isRate (zi a) = some (b2i (decide (0 ≤ a ∧ a ≤ 3000))) := by
  obtain ⟨h1, h2⟩ := h
  unfold mX3_isRate
  simp (disch := omega) only [yL, L0, L3000, m_isIn, ob_s, b2iz, gdt]
theorem m_isBond (M : mM τ n B G) {a : Int} (h : r32 a) : mX3_isBond τ (zi a) = some (b2i (decide (0 ≤ a ∧ a < n))) := by
  obtain ⟨h1, h2⟩ := h
  have hn := M.1.1
  unfold mX3_isBond
  rw [M.2.1]
  simp (disch := omega) only [yL, L0, l1, zi_sub, m_isIn, ob_s, b2iz, gdt]
  congr 2
  exact decide_eq_decide.mpr (by omega)
theorem m_elig (M : mM τ n B G) {i : Nat} (hi : i < n) : mX3_isEligible τ (zi i) = some (b2i (elZ B G i)) := by
  have hn := M.1.1
  obtain ⟨g0, g1, g2, g3, g4, g5, g6, g7, g8, g9⟩ := M.1.2.2
  obtain ⟨_, _, ⟨p1, p2⟩, _, _, _, ⟨q1, q2⟩⟩ := M.1.2.1 i hi
  have fb := faZ_b (M.1.2.1 i hi) g0.1
  obtain ⟨t2, t3, t4, t5, t6, t7, t8, t9, t11, t12⟩ := M.2.2.1
  have key : kX3_isEligible_16 τ (zi i) = some (b2i (!decide ((i : Int) = G 9) && (decide (B i 6 = 0) && (decide (G 1 ≤ B i 2 ∧ B i 2 ≤ G 2) && decide (0 < faZ (B i) (G 0)))))) := by
    unfold kX3_isEligible_16 bkX3_isEligible_16
    rw [t12, t3, t4]
    simp (disch := omega) only [m_of1_6 M hi, m_of1_2 M hi, m_factor M hi, ob_s, l0, L0, yeq, yL, m_isIn, lz_le, wle]
    by_cases c1 : (i : Int) = G 9
    · simp [c1, b2i, l0]
    · simp only [c1, if_false, decide_false, Bool.not_false, Bool.true_and]
      by_cases c2 : B i 6 = 0
      · simp only [c2, if_true, decide_true, Bool.true_and]
        by_cases c3 : G 1 ≤ B i 2 ∧ B i 2 ≤ G 2
        · simp only [c3, decide_true, b2i, if_true, Bool.true_and]
          rw [if_neg (by decide)]
          by_cases c4 : faZ (B i) (G 0) ≤ 0
          · have c5 : ¬ 0 < faZ (B i) (G 0) := by omega
            rw [if_pos c4, decide_eq_false c5]; rfl
          · have c5 : 0 < faZ (B i) (G 0) := by omega
            rw [if_neg c4, decide_eq_true c5]; rfl
        · simp only [c3, decide_false, b2i]; rfl
      · simp only [c2, if_false, decide_false, b2i]; rfl
  unfold mX3_isEligible elZ
  rw [t11, key]
  simp (disch := omega) only [l1, zi_neg, yeq]
  by_cases c1 : G 8 = -1
  · simp only [c1, if_true, decide_true, Bool.true_or, Bool.true_and]
  · by_cases c2 : (i : Int) = G 8
    · simp only [c1, c2, if_true, if_false, decide_true, Bool.or_true, Bool.true_and]
    · simp only [c1, c2, if_false, decide_false, Bool.or_false, Bool.false_and]; rfl
theorem m_eligL (M : mM τ n B G) : ∀ (j i : Nat) (x : Int32) (fuel : Nat), i + j = n → bs x (elZ B G) i → j < fuel → ∃ x', kX3_eligible_4 τ fuel (x, zi i) = some x' ∧ bs x' (elZ B G) n
  | 0, i, x, fuel, hij, hx, hf => by
    obtain ⟨f, rfl⟩ : ∃ f, fuel = f + 1 := ⟨fuel - 1, by omega⟩
    have hn := M.1.1
    refine ⟨x, ?_, by rw [← hij]; exact hx⟩
    unfold kX3_eligible_4
    rw [fx_s]
    unfold bkX3_eligible_4
    simp only [M.2.1]
    rw [if_pos (by rw [yle (by omega) (by omega) (by omega) (by omega)]; omega)]
  | j + 1, i, x, fuel, hij, hx, hf => by
    obtain ⟨f, rfl⟩ : ∃ f, fuel = f + 1 := ⟨fuel - 1, by omega⟩
    have hn := M.1.1
    have hs : bs (if elZ B G i then x ||| ((1 : Int32) <<< (zi i &&& 31)) else x ||| 0) (elZ B G) (i + 1) := by
      intro k
      cases c : elZ B G i with
      | true =>
        rw [if_pos rfl, gb_or1 x (by omega), hx k]
        by_cases e : k = i
        · subst e; simp [c]
        · by_cases e2 : k < i
          · simp [e, e2, show k < i + 1 by omega]
          · simp [e, e2, show ¬ k < i + 1 by omega]
      | false =>
        rw [if_neg (by decide), gb_or, gb_0, Bool.or_false, hx k]
        by_cases e : k = i
        · subst e; simp [c]
        · by_cases e2 : k < i
          · simp [e2, show k < i + 1 by omega]
          · simp [e2, show ¬ k < i + 1 by omega]
    obtain ⟨x', e, h⟩ := m_eligL M j (i + 1) _ f (by omega) hs (by omega)
    refine ⟨x', ?_, h⟩
    rw [← e]
    change bkX3_eligible_4 τ (kX3_eligible_4 τ f) _ _ = _
    unfold bkX3_eligible_4
    simp only [M.2.1, m_elig M (show i < n by omega), ob_s, b2i0]
    rw [if_neg (by rw [yle (by omega) (by omega) (by omega) (by omega)]; omega)]
    simp only [l1, zi_add]
    cases c : elZ B G i with
    | true => simp
    | false => simp
theorem m_eligible (M : mM τ n B G) : ∃ x, mX3_eligible τ = some x ∧ bs x (elZ B G) n := by
  have hn := M.1.1
  exact m_eligL M n 0 0 FU (by omega) (fun k => by rw [gb_0]; simp) (by unfold FU; omega)
theorem m_isAny (M : mM τ n B G) : mX3_isAny τ = some (b2i (anZ n (elZ B G))) := by
  obtain ⟨x, e, h⟩ := m_eligible M
  unfold mX3_isAny
  rw [e, ob_s]
  cases c : anZ n (elZ B G) with
  | false => rw [if_pos ((bs_0 h).mpr c)]; rfl
  | true => rw [if_neg (fun q => by rw [(bs_0 h).mp q] at c; cases c)]; rfl
theorem m_stocksL (M : mM τ n B G) : ∀ (j i : Nat) (fuel : Nat), i + j = n → j < fuel → kX3_stocks_4 τ fuel (zi (stZ (elZ B G) (fun i => B i 5) i), zi i) = some (zi (stZ (elZ B G) (fun i => B i 5) n))
  | 0, i, fuel, hij, hf => by
    obtain ⟨f, rfl⟩ : ∃ f, fuel = f + 1 := ⟨fuel - 1, by omega⟩
    have hn := M.1.1
    have : i = n := by omega
    subst this
    unfold kX3_stocks_4
    rw [fx_s]
    unfold bkX3_stocks_4
    simp only [M.2.1]
    rw [if_pos (by rw [yle (by omega) (by omega) (by omega) (by omega)]; omega)]
  | j + 1, i, fuel, hij, hf => by
    obtain ⟨f, rfl⟩ : ∃ f, fuel = f + 1 := ⟨fuel - 1, by omega⟩
    have hn := M.1.1
    have ih := m_stocksL M j (i + 1) f (by omega) (by omega)
    rw [← ih]
    change bkX3_stocks_4 τ (kX3_stocks_4 τ f) _ _ = _
    unfold bkX3_stocks_4
    simp only [M.2.1, m_elig M (show i < n by omega), m_of1_5 M (show i < n by omega), ob_s, b2i0]
    rw [if_neg (by rw [yle (by omega) (by omega) (by omega) (by omega)]; omega)]
    simp only [l0, l1, zi_add]
    cases c : elZ B G i with
    | true => simp [stZ, c]
    | false => simp [stZ, c]
theorem m_stocks (M : mM τ n B G) : mX3_stocks τ = some (zi (stZ (elZ B G) (fun i => B i 5) n)) := by
  have hn := M.1.1
  exact m_stocksL M n 0 FU (by omega) (by unfold FU; omega)
theorem mul_b {P F : Int} (h1 : 0 ≤ P) (h2 : P ≤ 1680000000) (h3 : 0 ≤ F) (h4 : F ≤ 168000) : 0 ≤ P * F ∧ P * F ≤ 282240000000000 := by
  refine ⟨Int.mul_nonneg h1 h3, ?_⟩
  have := Int.mul_le_mul h2 h4 h3 (by omega : (0 : Int) ≤ 1680000000)
  omega
theorem m_isDearer (M : mM τ n B G) {a b : Nat} (ha : a < n) (hb : b < n) {r : Int} (hr : 0 ≤ r) (hr2 : r ≤ 3000) : mX3_isDearer τ (zi a) (zi b) (zi r) = some (b2i (decide (prZ (B b) r * faZ (B a) (G 0) < prZ (B a) r * faZ (B b) (G 0)))) := by
  have g0 := M.1.2.2.1
  have pa := prZ_b (M.1.2.1 a ha) r
  have pb := prZ_b (M.1.2.1 b hb) r
  have fa := faZ_b (M.1.2.1 a ha) g0.1
  have fb := faZ_b (M.1.2.1 b hb) g0.1
  have m1 := mul_b pa.1 pa.2 fb.1 fb.2
  have m2 := mul_b pb.1 pb.2 fa.1 fa.2
  unfold mX3_isDearer
  simp (disch := omega) only [m_price1 M ha hr hr2, m_price1 M hb hr hr2, m_factor M ha, m_factor M hb, ob_s, zl_mul, lc_le, wle]
  by_cases c : prZ (B a) r * faZ (B b) (G 0) ≤ prZ (B b) r * faZ (B a) (G 0)
  · rw [if_pos c, decide_eq_false (by omega)]; rfl
  · rw [if_neg c, decide_eq_true (by omega)]; rfl
abbrev PZ (B : Nat → Nat → Int) (r : Int) : Nat → Int := fun i => prZ (B i) r
abbrev FZ (B : Nat → Nat → Int) (G : Nat → Int) : Nat → Int := fun i => faZ (B i) (G 0)
theorem m_cheapL (M : mM τ n B G) {r : Int} (hr : 0 ≤ r) (hr2 : r ≤ 3000) : ∀ (j i : Nat) (fuel : Nat), i + j = n → j < fuel → kX3_cheapest1_4 τ fuel (zi r, zi (chZ (elZ B G) (PZ B r) (FZ B G) i), zi i) = some (zi (chZ (elZ B G) (PZ B r) (FZ B G) n))
  | 0, i, fuel, hij, hf => by
    obtain ⟨f, rfl⟩ : ∃ f, fuel = f + 1 := ⟨fuel - 1, by omega⟩
    have hn := M.1.1
    have : i = n := by omega
    subst this
    unfold kX3_cheapest1_4
    rw [fx_s]
    unfold bkX3_cheapest1_4
    simp only [M.2.1]
    rw [if_pos (by rw [yle (by omega) (by omega) (by omega) (by omega)]; omega)]
  | j + 1, i, fuel, hij, hf => by
    obtain ⟨f, rfl⟩ : ∃ f, fuel = f + 1 := ⟨fuel - 1, by omega⟩
    have hn := M.1.1
    have ih := m_cheapL M hr hr2 j (i + 1) f (by omega) (by omega)
    have cb := chZ_b (elZ B G) (PZ B r) (FZ B G) i
    rw [← ih]
    change bkX3_cheapest1_4 τ (kX3_cheapest1_4 τ f) _ _ _ = _
    unfold bkX3_cheapest1_4
    simp only [M.2.1, m_elig M (show i < n by omega), ob_s, b2i0]
    rw [if_neg (by rw [yle (by omega) (by omega) (by omega) (by omega)]; omega)]
    have e1 : chZ (elZ B G) (PZ B r) (FZ B G) (i + 1) = if elZ B G i = true ∧ (chZ (elZ B G) (PZ B r) (FZ B G) i = -1 ∨ PZ B r i * FZ B G (chZ (elZ B G) (PZ B r) (FZ B G) i).toNat < PZ B r (chZ (elZ B G) (PZ B r) (FZ B G) i).toNat * FZ B G i) then (i : Int) else chZ (elZ B G) (PZ B r) (FZ B G) i := rfl
    rw [e1]
    generalize chZ (elZ B G) (PZ B r) (FZ B G) i = q at *
    simp (disch := omega) only [l1, zi_add, zi_neg, yeq]
    cases c : elZ B G i with
    | false => simp
    | true =>
      by_cases d : q = -1
      · simp [d]
      · simp only [d, if_false]
        obtain ⟨m, rfl⟩ : ∃ m : Nat, q = m := ⟨q.toNat, by omega⟩
        rw [m_isDearer M (show m < n by omega) (show i < n by omega) hr hr2]
        simp only [ob_s, b2i0, Int.toNat_natCast]
        by_cases e : prZ (B i) r * faZ (B m) (G 0) < prZ (B m) r * faZ (B i) (G 0)
        · simp [e]
        · simp [e]
theorem m_cheapest1 (M : mM τ n B G) {r : Int} (hr : 0 ≤ r) (hr2 : r ≤ 3000) : mX3_cheapest1 τ (zi r) = some (zi (chZ (elZ B G) (PZ B r) (FZ B G) n)) := by
  have hn := M.1.1
  exact m_cheapL M hr hr2 n 0 FU (by omega) (by unfold FU; omega)
theorem el_fac {i : Nat} (h : elZ B G i = true) : 0 < faZ (B i) (G 0) := by
  unfold elZ at h
  simp only [Bool.and_eq_true, decide_eq_true_eq] at h
  exact h.2.2.2.2
theorem m_mark1 (M : mM τ n B G) (ha : anZ n (elZ B G) = true) {r : Int} (hr : 0 ≤ r) (hr2 : r ≤ 3000) : mX3_mark1 τ (zi r) = some (zl (mkZ (elZ B G) (PZ B r) (FZ B G) n)) := by
  obtain ⟨c1, c2, c3⟩ := chZ_any (PZ B r) (FZ B G) ha
  unfold mX3_mark1 mkZ
  rw [m_cheapest1 M hr hr2, ob_s]
  generalize chZ (elZ B G) (PZ B r) (FZ B G) n = q at *
  obtain ⟨m, rfl⟩ : ∃ m : Nat, q = m := ⟨q.toNat, by omega⟩
  rw [Int.toNat_natCast] at *
  have hm : m < n := by omega
  have pb := prZ_b (M.1.2.1 m hm) r
  have fb := faZ_b (M.1.2.1 m hm) M.1.2.2.1.1
  have f0 := el_fac c3
  simp (disch := omega) only [m_price1 M hm hr hr2, m_factor M hm, ob_s, nzl_z, gdt, L10000, zl_mul, wdv]
theorem m_invoice (M : mM τ n B G) {i : Nat} (hi : i < n) {m : Int} (h0 : 0 ≤ m) (h1 : m ≤ 16800000000000) : mX3_invoice τ (zi i) (zl m) = some (zl (m * faZ (B i) (G 0) / 10000)) := by
  have fb := faZ_b (M.1.2.1 i hi) M.1.2.2.1.1
  have m1 : 0 ≤ m * faZ (B i) (G 0) := Int.mul_nonneg h0 fb.1
  have m2 : m * faZ (B i) (G 0) ≤ 16800000000000 * 168000 := Int.mul_le_mul h1 fb.2 fb.1 (by omega)
  unfold mX3_invoice
  simp (disch := omega) only [m_factor M hi, ob_s, zl_mul, L10000, wdv]
theorem mkZ_b (M : okS n B G) (ha : anZ n (elZ B G) = true) (r : Int) : 0 ≤ mkZ (elZ B G) (PZ B r) (FZ B G) n ∧ mkZ (elZ B G) (PZ B r) (FZ B G) n ≤ 16800000000000 := by
  obtain ⟨c1, c2, c3⟩ := chZ_any (PZ B r) (FZ B G) ha
  unfold mkZ
  generalize chZ (elZ B G) (PZ B r) (FZ B G) n = q at *
  have pb := prZ_b (M.2.1 q.toNat (by omega)) r
  have f0 := el_fac c3
  change 0 ≤ prZ (B q.toNat) r * 10000 / faZ (B q.toNat) (G 0) ∧ prZ (B q.toNat) r * 10000 / faZ (B q.toNat) (G 0) ≤ _
  refine ⟨Int.ediv_nonneg (by omega) (by omega), ?_⟩
  have := Int.ediv_le_self (a := prZ (B q.toNat) r * 10000) (faZ (B q.toNat) (G 0)) (by omega)
  omega
end M1

/-! PRICES, THE CHEAPEST, RANKS, MARKS, SEARCHES -/
def cnZ (f : Nat → Bool) (P F : Nat → Int) (b : Nat) : Nat → Int
  | 0 => 0
  | k + 1 => cnZ f P F b k + (if f k = true ∧ (P k * F b < P b * F k ∨ P k * F b = P b * F k ∧ k < b) then 1 else 0)
theorem cnZ_b (f : Nat → Bool) (P F : Nat → Int) (b : Nat) : ∀ k, 0 ≤ cnZ f P F b k ∧ cnZ f P F b k ≤ k
  | 0 => by unfold cnZ; omega
  | k + 1 => by
    have := cnZ_b f P F b k
    unfold cnZ; split <;> omega
def rkZ (f : Nat → Bool) (cn : Nat → Int) (kk : Int) : Nat → Nat → Int
  | 0, _ => -1
  | j + 1, i => if f i = true ∧ cn i = kk then (i : Int) else rkZ f cn kk j (i + 1)
def swZ (ch : Int → Int) (kk : Int) : Nat → Int → Int → Int
  | 0, _, c => if kk = -1 then c else -1
  | j + 1, r, c => if ch r = ch (r - 1) then swZ ch kk j (r + 1) c else if c = kk then r else swZ ch kk j (r + 1) (c + 1)
def scZ (t : Int → Bool) : Nat → Int → Int
  | 0, _ => -1
  | j + 1, r => if t r = true then scZ t j (r + 1) else r
theorem scZ_n {t : Int → Bool} : ∀ (j : Nat) (r : Int), (∀ x, r ≤ x → x < r + j → t x = true) → scZ t j r = -1
  | 0, _, _ => rfl
  | j + 1, r, h => by
    unfold scZ
    rw [if_pos (h r (by omega) (by omega))]
    exact scZ_n j (r + 1) (fun x h1 h2 => h x (by omega) (by omega))
theorem scZ_y {t : Int → Bool} : ∀ (j : Nat) (r q : Int), r ≤ q → q < r + j → (∀ x, r ≤ x → x < q → t x = true) → t q = false → scZ t j r = q
  | 0, r, q, h1, h2, _, _ => by omega
  | j + 1, r, q, h1, h2, h, hq => by
    unfold scZ
    by_cases c : r = q
    · subst c; rw [hq]; rfl
    · rw [if_pos (h r (by omega) (by omega))]
      exact scZ_y j (r + 1) q (by omega) (by omega) (fun x h1 h2 => h x (by omega) (by omega)) hq
def blZ (t : Int → Bool) (M : Int) : Nat → Int → Int
  | 0, d => d
  | s + 1, d => if d + 2 ^ s ≤ M ∧ t (d + 2 ^ s) = true then blZ t M s (d + 2 ^ s) else blZ t M s d
theorem blZ_p {t : Int → Bool} {M : Int} {s : Nat} {d S : Int} (hS : 2 ^ s = S) (h1 : d + S ≤ M) (h2 : t (d + S) = true) : blZ t M (s + 1) d = blZ t M s (d + S) := by
  subst hS
  show (if d + 2 ^ s ≤ M ∧ t (d + 2 ^ s) = true then blZ t M s (d + 2 ^ s) else blZ t M s d) = _
  rw [if_pos ⟨h1, h2⟩]
theorem blZ_m {t : Int → Bool} {M : Int} {s : Nat} {d S : Int} (hS : 2 ^ s = S) (h : d + S ≤ M → t (d + S) = false) : blZ t M (s + 1) d = blZ t M s d := by
  subst hS
  show (if d + 2 ^ s ≤ M ∧ t (d + 2 ^ s) = true then blZ t M s (d + 2 ^ s) else blZ t M s d) = _
  rw [if_neg (fun q => by rw [h q.1] at q; cases q.2)]
def blI (t : Int → Bool) (M : Int) (s : Nat) (d : Int) : Prop := -1 ≤ d ∧ d ≤ M ∧ (∀ x, 0 ≤ x → x ≤ d → t x = true) ∧ (M < d + 2 ^ s ∨ t (d + 2 ^ s) = false)
theorem blI_s {t : Int → Bool} {M : Int} (mono : ∀ x y, 0 ≤ x → x ≤ y → y ≤ M → t y = true → t x = true) {s : Nat} {d : Int} (h : blI t M (s + 1) d) : if d + 2 ^ s ≤ M ∧ t (d + 2 ^ s) = true then blI t M s (d + 2 ^ s) else blI t M s d := by
  obtain ⟨h1, h2, h3, h4⟩ := h
  have hp : (0 : Int) < 2 ^ s := Int.pow_pos (by decide)
  have hd : (2 : Int) ^ (s + 1) = 2 ^ s + 2 ^ s := by rw [Int.pow_succ]; omega
  by_cases c : d + 2 ^ s ≤ M ∧ t (d + 2 ^ s) = true
  · rw [if_pos c]
    refine ⟨by omega, c.1, fun x hx hy => mono x _ hx hy c.1 c.2, ?_⟩
    rw [hd] at h4
    rw [Int.add_assoc]; exact h4
  · rw [if_neg c]
    refine ⟨h1, h2, h3, ?_⟩
    by_cases e : d + 2 ^ s ≤ M
    · right
      cases q : t (d + 2 ^ s) with
      | false => rfl
      | true => exact absurd ⟨e, q⟩ c
    · left; omega
theorem blZ_i {t : Int → Bool} {M : Int} (mono : ∀ x y, 0 ≤ x → x ≤ y → y ≤ M → t y = true → t x = true) : ∀ (s : Nat) (d : Int), blI t M s d → blI t M 0 (blZ t M s d)
  | 0, d, h => h
  | s + 1, d, h => by
    have := blI_s mono h
    unfold blZ
    by_cases c : d + 2 ^ s ≤ M ∧ t (d + 2 ^ s) = true
    · rw [if_pos c] at this ⊢; exact blZ_i mono s _ this
    · rw [if_neg c] at this ⊢; exact blZ_i mono s _ this
theorem bl_sc {t : Int → Bool} {M : Int} (hM : 0 ≤ M) (mono : ∀ x y, 0 ≤ x → x ≤ y → y ≤ M → t y = true → t x = true) {s : Nat} (hs : M < -1 + 2 ^ s) : (if blZ t M s (-1) = M then -1 else blZ t M s (-1) + 1) = scZ t (M + 1).toNat 0 := by
  have i := blZ_i mono s (-1) ⟨by omega, by omega, fun x h1 h2 => by omega, Or.inl hs⟩
  generalize blZ t M s (-1) = d at *
  obtain ⟨h1, h2, h3, h4⟩ := i
  by_cases c : d = M
  · rw [if_pos c, scZ_n]
    intro x hx hy
    exact h3 x hx (by omega)
  · rw [if_neg c, scZ_y _ _ (d + 1) (by omega) (by omega) (fun x hx hy => h3 x hx (by omega))]
    rcases h4 with h4 | h4
    · have : (2 : Int) ^ 0 = 1 := rfl
      omega
    · exact h4
def stp : Nat → Int
  | 0 => 0
  | s + 1 => 2 ^ s
theorem stp_h : ∀ s, stp (s + 1) / 2 = stp s
  | 0 => by decide
  | s + 1 => by
    show (2 : Int) ^ (s + 1) / 2 = 2 ^ s
    rw [Int.pow_succ]; omega
theorem stp_b : ∀ {s : Nat}, s ≤ 31 → 0 ≤ stp s ∧ stp s ≤ 1073741824
  | 0, _ => by decide
  | s + 1, h => by
    have a : (0 : Int) < 2 ^ s := Int.pow_pos (by decide)
    have b : (2 : Int) ^ s ≤ 2 ^ 30 := by
      have := Nat.pow_le_pow_right (n := 2) (by decide) (show s ≤ 30 by omega)
      have h2 : ((2 ^ s : Nat) : Int) ≤ ((2 ^ 30 : Nat) : Int) := Int.ofNat_le.mpr this
      rw [Int.natCast_pow, Int.natCast_pow] at h2
      exact h2
    have e : (2 : Int) ^ 30 = 1073741824 := by decide
    show 0 ≤ (2 : Int) ^ s ∧ (2 : Int) ^ s ≤ 1073741824
    omega
section C1
variable {σ : ST} {n : Nat} {B : Nat → Nat → Int} {G : Nat → Int} {f : Nat → Bool} {x : Int32}
theorem c_layL (hx : bs x f n) {r : Int} (hr : 0 ≤ r) (hr2 : r ≤ 3000) : ∀ (j i : Nat) (σ : ST) (fuel : Nat), cC σ n B G → i + j = n → j < fuel → (∀ q, q < i → f q = true → gI σ 4 0 q = zi (prZ (B q) r)) → ∃ σ', kX2_layPrices_2 fuel (σ, zi r, x, zi i) = some σ' ∧ cC σ' n B G ∧ gW σ' = gW σ ∧ ∀ q, q < n → f q = true → gI σ' 4 0 q = zi (prZ (B q) r)
  | 0, i, σ, fuel, C, hij, hf, hp => by
    obtain ⟨fu, rfl⟩ : ∃ f, fuel = f + 1 := ⟨fuel - 1, by omega⟩
    have hn := C.1.1.1
    refine ⟨σ, ?_, C, rfl, by rw [← hij]; exact hp⟩
    change bkX2_layPrices_2 (kX2_layPrices_2 fu) _ _ _ _ = _
    unfold bkX2_layPrices_2
    rw [C.1.2.2.1, if_pos (by rw [yle (by omega) (by omega) (by omega) (by omega)]; omega)]
  | j + 1, i, σ, fuel, C, hij, hf, hp => by
    obtain ⟨fu, rfl⟩ : ∃ f, fuel = f + 1 := ⟨fuel - 1, by omega⟩
    have hn := C.1.1.1
    have hi : i < n := by omega
    have gi : gb x i = f i := by rw [hx i]; simp [hi]
    cases c : f i with
    | false =>
      obtain ⟨σ', e, C', w, h⟩ := c_layL hx hr hr2 j (i + 1) σ fu C (by omega) (by omega) (fun q hq hfq => by
        by_cases e : q = i
        · subst e; rw [c] at hfq; cases hfq
        · exact hp q (by omega) hfq)
      refine ⟨σ', ?_, C', w, h⟩
      rw [← e]
      change bkX2_layPrices_2 (kX2_layPrices_2 fu) _ _ _ _ = _
      unfold bkX2_layPrices_2
      simp only [C.1.2.2.1, c_isIn x (show i < 8 by omega), gi, c, ob_s]
      rw [if_neg (by rw [yle (by omega) (by omega) (by omega) (by omega)]; omega)]
      simp [l1, zi_add]
    | true =>
      obtain ⟨σ1, e1, E1, C1⟩ := c_price C hi hr hr2
      have C2 : cC (sI σ1 4 0 i (zi (prZ (B i) r))) n B G := cC_sI C1 (by omega)
      obtain ⟨σ', e, C', w, h⟩ := c_layL hx hr hr2 j (i + 1) _ fu C2 (by omega) (by omega) (fun q hq hfq => by
        rw [gI_sI]
        by_cases e : q = i
        · subst e; rw [if_pos ⟨rfl, rfl, rfl⟩]
        · rw [if_neg (by omega), E1.1 4 (by omega)]; exact hp q (by omega) hfq)
      refine ⟨σ', ?_, C', w.trans E1.2.2.2, h⟩
      rw [← e]
      change bkX2_layPrices_2 (kX2_layPrices_2 fu) _ _ _ _ = _
      unfold bkX2_layPrices_2
      simp (disch := omega) only [C.1.2.2.1, c_isIn x (show i < 8 by omega), gi, c, ob_s, inb_z, gdt, yN, Int.toNat_natCast, c_pl C.1 hi, decide_true, e1, sv_z]
      rw [if_neg (by rw [yle (by omega) (by omega) (by omega) (by omega)]; omega), if_neg (by decide)]
      simp only [l1, zi_add]
      rfl
theorem c_lay (C : cC σ n B G) (hx : bs x f n) {r : Int} (hr : 0 ≤ r) (hr2 : r ≤ 3000) : ∃ σ', mX2_layPrices σ (zi r) x = some σ' ∧ cC σ' n B G ∧ gW σ' = gW σ ∧ ∀ q, q < n → f q = true → gI σ' 4 0 q = zi (prZ (B q) r) := by
  have hn := C.1.1.1
  exact c_layL hx hr hr2 n 0 σ FU C (by omega) (by unfold FU; omega) (fun q hq => absurd hq (by omega))
theorem c_ahead (C : cC σ n B G) {r : Int} {i j : Nat} (hi : i < n) (hj : j < n) (pi : gI σ 4 0 i = zi (prZ (B i) r)) (pj : gI σ 4 0 j = zi (prZ (B j) r)) : mX2_comesAhead σ (zi i) (zi j) = some (b2i (decide (PZ B r i * FZ B G j < PZ B r j * FZ B G i ∨ PZ B r i * FZ B G j = PZ B r j * FZ B G i ∧ i < j))) := by
  have hn := C.1.1.1
  have g0 := C.1.1.2.2.1
  have gi := C.1.1.2.1 i hi
  have gj := C.1.1.2.1 j hj
  have p1 := prZ_b gi r
  have p2 := prZ_b gj r
  have f1 := faZ_b gi g0.1
  have f2 := faZ_b gj g0.1
  have m1 := mul_b p1.1 p1.2 f2.1 f2.2
  have m2 := mul_b p2.1 p2.2 f1.1 f1.2
  unfold mX2_comesAhead
  simp (disch := omega) only [inb_z, gdt, yN, Int.toNat_natCast, c_pl C.1 hi, c_pl C.1 hj, decide_true, pi, pj, C.2 i hi, C.2 j hj, yL, zl_mul, l0, lz_lt, lz_eq, wlt, weq, yle]
  show _ = some (b2i (decide (prZ (B i) r * faZ (B j) (G 0) < prZ (B j) r * faZ (B i) (G 0) ∨ prZ (B i) r * faZ (B j) (G 0) = prZ (B j) r * faZ (B i) (G 0) ∧ i < j)))
  generalize prZ (B i) r * faZ (B j) (G 0) = X
  generalize prZ (B j) r * faZ (B i) (G 0) = Y
  by_cases a : X < Y
  · rw [if_pos a, decide_eq_true (Or.inl a)]; rfl
  · rw [if_neg a]
    by_cases b : X = Y
    · rw [if_pos b]
      by_cases c : (j : Int) ≤ i
      · rw [if_pos c, decide_eq_false (by omega)]; rfl
      · rw [if_neg c, decide_eq_true (by omega)]; rfl
    · rw [if_neg b, decide_eq_false (by omega)]; rfl
theorem c_cheapL (C : cC σ n B G) (hx : bs x f n) {r : Int} (hp : ∀ q, q < n → f q = true → gI σ 4 0 q = zi (prZ (B q) r)) : ∀ (j i : Nat) (fuel : Nat), i + j = n → j < fuel → kX2_cheapestAt_11 fuel (σ, x, zi (chZ f (PZ B r) (FZ B G) i), zi i) = some (zi (chZ f (PZ B r) (FZ B G) n), σ)
  | 0, i, fuel, hij, hf => by
    obtain ⟨fu, rfl⟩ : ∃ f, fuel = f + 1 := ⟨fuel - 1, by omega⟩
    have hn := C.1.1.1
    have : i = n := by omega
    subst this
    change bkX2_cheapestAt_11 (kX2_cheapestAt_11 fu) _ _ _ _ = _
    unfold bkX2_cheapestAt_11
    rw [C.1.2.2.1, if_pos (by rw [yle (by omega) (by omega) (by omega) (by omega)]; omega)]
  | j + 1, i, fuel, hij, hf => by
    obtain ⟨fu, rfl⟩ : ∃ f, fuel = f + 1 := ⟨fuel - 1, by omega⟩
    have hn := C.1.1.1
    have hi : i < n := by omega
    have gi : gb x i = f i := by rw [hx i]; simp [hi]
    have ih := c_cheapL C hx hp j (i + 1) fu (by omega) (by omega)
    have cb := chZ_b f (PZ B r) (FZ B G) i
    have cf := chZ_f f (PZ B r) (FZ B G) i
    rw [← ih]
    change bkX2_cheapestAt_11 (kX2_cheapestAt_11 fu) _ _ _ _ = _
    unfold bkX2_cheapestAt_11
    simp only [C.1.2.2.1, c_isIn x (show i < 8 by omega), gi, ob_s]
    rw [if_neg (by rw [yle (by omega) (by omega) (by omega) (by omega)]; omega)]
    have e1 : chZ f (PZ B r) (FZ B G) (i + 1) = if f i = true ∧ (chZ f (PZ B r) (FZ B G) i = -1 ∨ PZ B r i * FZ B G (chZ f (PZ B r) (FZ B G) i).toNat < PZ B r (chZ f (PZ B r) (FZ B G) i).toNat * FZ B G i) then (i : Int) else chZ f (PZ B r) (FZ B G) i := rfl
    rw [e1]
    generalize chZ f (PZ B r) (FZ B G) i = q at *
    simp (disch := omega) only [l1, zi_add, zi_neg, yeq]
    cases c : f i with
    | false => simp
    | true =>
      rw [if_pos rfl, if_neg (by decide)]
      by_cases d : q = -1
      · simp [d]
      · simp only [d, if_false]
        have cf := cf d
        obtain ⟨m, rfl⟩ : ∃ m : Nat, q = m := ⟨q.toNat, by omega⟩
        rw [Int.toNat_natCast] at *
        rw [c_ahead C hi (show m < n by omega) (hp i hi c) (hp m (by omega) cf)]
        simp only [ob_s, b2i0]
        by_cases e : PZ B r i * FZ B G m < PZ B r m * FZ B G i
        · rw [if_neg (by simp [e]), if_pos (by simp [e])]; rfl
        · have hm : ¬ i < m := by omega
          rw [if_pos (by simp [e, hm]), if_neg (by simp [e])]; rfl
theorem c_cheapestAt (C : cC σ n B G) (hx : bs x f n) {r : Int} (hr : 0 ≤ r) (hr2 : r ≤ 3000) : ∃ σ', mX2_cheapestAt σ (zi r) x = some (zi (chZ f (PZ B r) (FZ B G) n), σ') ∧ cC σ' n B G ∧ gW σ' = gW σ ∧ ∀ q, q < n → f q = true → gI σ' 4 0 q = zi (prZ (B q) r) := by
  have hn := C.1.1.1
  obtain ⟨σ', e, C', w, h⟩ := c_lay C hx hr hr2
  refine ⟨σ', ?_, C', w, h⟩
  unfold mX2_cheapestAt
  rw [e, ob_s]
  exact c_cheapL C' hx h n 0 FU (by omega) (by unfold FU; omega)
theorem c_manyL (C : cC σ n B G) (hx : bs x f n) {r : Int} (hp : ∀ q, q < n → f q = true → gI σ 4 0 q = zi (prZ (B q) r)) {b : Nat} (hb : b < n) (fb : f b = true) : ∀ (j i : Nat) (fuel : Nat), i + j = n → j < fuel → kX2_howManyAhead_5 σ fuel (zi b, x, zi (cnZ f (PZ B r) (FZ B G) b i), zi i) = some (zi (cnZ f (PZ B r) (FZ B G) b n))
  | 0, i, fuel, hij, hf => by
    obtain ⟨fu, rfl⟩ : ∃ f, fuel = f + 1 := ⟨fuel - 1, by omega⟩
    have hn := C.1.1.1
    have : i = n := by omega
    subst this
    change bkX2_howManyAhead_5 σ (kX2_howManyAhead_5 σ fu) _ _ _ _ = _
    unfold bkX2_howManyAhead_5
    rw [C.1.2.2.1, if_pos (by rw [yle (by omega) (by omega) (by omega) (by omega)]; omega)]
  | j + 1, i, fuel, hij, hf => by
    obtain ⟨fu, rfl⟩ : ∃ f, fuel = f + 1 := ⟨fuel - 1, by omega⟩
    have hn := C.1.1.1
    have hi : i < n := by omega
    have gi : gb x i = f i := by rw [hx i]; simp [hi]
    have ih := c_manyL C hx hp hb fb j (i + 1) fu (by omega) (by omega)
    rw [← ih]
    change bkX2_howManyAhead_5 σ (kX2_howManyAhead_5 σ fu) _ _ _ _ = _
    unfold bkX2_howManyAhead_5
    simp only [C.1.2.2.1, c_isIn x (show i < 8 by omega), gi, ob_s]
    rw [if_neg (by rw [yle (by omega) (by omega) (by omega) (by omega)]; omega)]
    have e1 : cnZ f (PZ B r) (FZ B G) b (i + 1) = cnZ f (PZ B r) (FZ B G) b i + (if f i = true ∧ (PZ B r i * FZ B G b < PZ B r b * FZ B G i ∨ PZ B r i * FZ B G b = PZ B r b * FZ B G i ∧ i < b) then 1 else 0) := rfl
    rw [e1]
    simp only [l1, zi_add]
    cases c : f i with
    | false => simp
    | true =>
      rw [if_pos rfl, if_neg (by decide), c_ahead C hi hb (hp i hi c) (hp b hb fb)]
      simp only [ob_s, b2i0]
      by_cases e : PZ B r i * FZ B G b < PZ B r b * FZ B G i ∨ PZ B r i * FZ B G b = PZ B r b * FZ B G i ∧ i < b
      · rw [if_neg (by simp only [decide_eq_false_iff_not]; exact fun h => h e), if_pos ⟨trivial, e⟩]; rfl
      · rw [if_pos (decide_eq_false e), if_neg (fun h => e h.2), Int.add_zero]; rfl
theorem c_rankL (C : cC σ n B G) (hx : bs x f n) {r : Int} (hp : ∀ q, q < n → f q = true → gI σ 4 0 q = zi (prZ (B q) r)) {kk : Int} (hk : r32 kk) : ∀ (j i : Nat) (fuel : Nat), i + j = n → j < fuel → kX2_ranked_23 fuel (σ, zi kk, x, zi i) = some (zi (rkZ f (fun b => cnZ f (PZ B r) (FZ B G) b n) kk j i), σ)
  | 0, i, fuel, hij, hf => by
    obtain ⟨fu, rfl⟩ : ∃ f, fuel = f + 1 := ⟨fuel - 1, by omega⟩
    have hn := C.1.1.1
    change bkX2_ranked_23 (kX2_ranked_23 fu) _ _ _ _ = _
    unfold bkX2_ranked_23
    rw [C.1.2.2.1, if_pos (by rw [yle (by omega) (by omega) (by omega) (by omega)]; omega)]
    rfl
  | j + 1, i, fuel, hij, hf => by
    obtain ⟨fu, rfl⟩ : ∃ f, fuel = f + 1 := ⟨fuel - 1, by omega⟩
    have hn := C.1.1.1
    have hi : i < n := by omega
    have gi : gb x i = f i := by rw [hx i]; simp [hi]
    have ih := c_rankL C hx hp hk j (i + 1) fu (by omega) (by omega)
    have cb := cnZ_b f (PZ B r) (FZ B G) i n
    obtain ⟨k1, k2⟩ := hk
    change bkX2_ranked_23 (kX2_ranked_23 fu) _ _ _ _ = _
    unfold bkX2_ranked_23 rkZ
    simp only [C.1.2.2.1, c_isIn x (show i < 8 by omega), gi, ob_s]
    rw [if_neg (by rw [yle (by omega) (by omega) (by omega) (by omega)]; omega)]
    cases c : f i with
    | false =>
      simp only [l1, zi_add]
      simp
      exact ih
    | true =>
      have := c_manyL C hx hp hi c n 0 FU (by omega) (by unfold FU; omega)
      have e : mX2_howManyAhead σ (zi i) x = some (zi (cnZ f (PZ B r) (FZ B G) i n)) := this
      rw [if_pos rfl, if_neg (by decide), e]
      simp (disch := omega) only [ob_s, yeq, l1, zi_add]
      by_cases d : cnZ f (PZ B r) (FZ B G) i n = kk
      · rw [if_pos d, if_pos ⟨trivial, d⟩]
      · rw [if_neg d, if_neg (fun h => d h.2)]; exact ih
theorem c_markAt (C : cC σ n B G) (hx : bs x (elZ B G) n) (ha : anZ n (elZ B G) = true) {r : Int} (hr : 0 ≤ r) (hr2 : r ≤ 3000) : ∃ σ', mX2_markAt σ (zi r) x = some (zl (mkZ (elZ B G) (PZ B r) (FZ B G) n), σ') ∧ cC σ' n B G ∧ gW σ' = gW σ := by
  have hn := C.1.1.1
  obtain ⟨c1, c2, c3⟩ := chZ_any (PZ B r) (FZ B G) ha
  obtain ⟨σ', e, C', w, h⟩ := c_cheapestAt C hx hr hr2
  refine ⟨σ', ?_, C', w⟩
  unfold mX2_markAt mkZ
  rw [e, ob_s]
  generalize chZ (elZ B G) (PZ B r) (FZ B G) n = q at *
  obtain ⟨m, rfl⟩ : ∃ m : Nat, q = m := ⟨q.toNat, by omega⟩
  rw [Int.toNat_natCast] at *
  have hm : m < n := by omega
  have pb := prZ_b (C.1.1.2.1 m hm) r
  have fb := faZ_b (C.1.1.2.1 m hm) C.1.1.2.2.1.1
  have f0 := el_fac c3
  simp (disch := omega) only [l1, l0, zi_neg, yeq, inb_z, gdt, yN, Int.toNat_natCast, c_pl C'.1 hm, decide_true, C'.2 m hm, h m hm c3, ylt, yL, nzl_z, L10000, zl_mul, wdv]
  rw [if_neg (by omega), if_pos f0]
theorem c_markAt0 (C : cC σ n B G) (hx : bs x (elZ B G) n) (ha : anZ n (elZ B G) = false) {r : Int} (hr : 0 ≤ r) (hr2 : r ≤ 3000) : ∃ σ', mX2_markAt σ (zi r) x = some (zl (-1), σ') ∧ cC σ' n B G ∧ gW σ' = gW σ := by
  obtain ⟨σ', e, C', w, h⟩ := c_cheapestAt C hx hr hr2
  refine ⟨σ', ?_, C', w⟩
  have hc : chZ (elZ B G) (PZ B r) (FZ B G) n = -1 := by
    have b := chZ_b (elZ B G) (PZ B r) (FZ B G) n
    by_cases c : chZ (elZ B G) (PZ B r) (FZ B G) n = -1
    · exact c
    · exact absurd ⟨_, (by omega : (chZ (elZ B G) (PZ B r) (FZ B G) n).toNat < n), chZ_f _ _ _ n c⟩ (of_decide_eq_false ha)
  unfold mX2_markAt
  rw [e, ob_s, hc, if_pos (by rfl)]
  rfl
theorem c_swL (hx : bs x f n) {to kk : Int} (ht : to ≤ 3000) (hk : r32 kk) : ∀ (j : Nat) (r c : Int) (σ : ST) (fuel : Nat), cC σ n B G → r + j = to + 1 → 1 ≤ r → 0 ≤ c → c < r → j < fuel → ∃ σ', kX2_switches_60 fuel (σ, zi to, zi kk, x, zi c, zi (chZ f (PZ B (r - 1)) (FZ B G) n), zi r) = some (zi (swZ (fun r => chZ f (PZ B r) (FZ B G) n) kk j r c), σ') ∧ cC σ' n B G ∧ gW σ' = gW σ
  | 0, r, c, σ, fuel, C, hij, hr, hc, hc2, hf => by
    obtain ⟨fu, rfl⟩ : ∃ f, fuel = f + 1 := ⟨fuel - 1, by omega⟩
    obtain ⟨k1, k2⟩ := hk
    refine ⟨σ, ?_, C, rfl⟩
    change bkX2_switches_60 (kX2_switches_60 fu) _ _ _ _ _ _ _ = _
    unfold bkX2_switches_60 swZ
    simp (disch := omega) only [ylt, l1, zi_neg, yeq]
    rw [if_pos (by omega)]
    split <;> rfl
  | j + 1, r, c, σ, fuel, C, hij, hr, hc, hc2, hf => by
    obtain ⟨fu, rfl⟩ : ∃ f, fuel = f + 1 := ⟨fuel - 1, by omega⟩
    have hn := C.1.1.1
    obtain ⟨k1, k2⟩ := id hk
    obtain ⟨σ1, e1, C1, w1, _⟩ := c_cheapestAt C hx (r := r) (by omega) (by omega)
    have b1 := chZ_b f (PZ B r) (FZ B G) n
    have b2 := chZ_b f (PZ B (r - 1)) (FZ B G) n
    have ih := fun c h1 h2 => c_swL hx ht hk j (r + 1) c σ1 fu C1 (by omega) (by omega) h1 h2 (by omega)
    rw [show r + 1 - 1 = r by omega] at ih
    have go : kX2_switches_60 (fu + 1) (σ, zi to, zi kk, x, zi c, zi (chZ f (PZ B (r - 1)) (FZ B G) n), zi r) = if chZ f (PZ B r) (FZ B G) n = chZ f (PZ B (r - 1)) (FZ B G) n then kX2_switches_60 fu (σ1, zi to, zi kk, x, zi c, zi (chZ f (PZ B r) (FZ B G) n), zi (r + 1)) else if c = kk then some (zi r, σ1) else kX2_switches_60 fu (σ1, zi to, zi kk, x, zi (c + 1), zi (chZ f (PZ B r) (FZ B G) n), zi (r + 1)) := by
      change bkX2_switches_60 (kX2_switches_60 fu) _ _ _ _ _ _ _ = _
      unfold bkX2_switches_60
      simp (disch := omega) only [ylt, l1, zi_neg, yeq, e1, ob_s, zi_add]
      rw [if_neg (by omega)]
    rw [go]
    unfold swZ
    by_cases d : chZ f (PZ B r) (FZ B G) n = chZ f (PZ B (r - 1)) (FZ B G) n
    · rw [if_pos d, if_pos d]
      obtain ⟨σ', e, C', w⟩ := ih c (by omega) (by omega)
      exact ⟨σ', e, C', w.trans w1⟩
    · rw [if_neg d, if_neg d]
      by_cases e : c = kk
      · rw [if_pos e, if_pos e]; exact ⟨σ1, rfl, C1, w1⟩
      · rw [if_neg e, if_neg e]
        obtain ⟨σ', e, C', w⟩ := ih (c + 1) (by omega) (by omega)
        exact ⟨σ', e, C', w.trans w1⟩
theorem c_rateL {i : Nat} (hi : i < n) {p : Int} (hp : r32 p) : ∀ (s : Nat) (d : Int) (σ : ST) (fuel : Nat), cC σ n B G → s ≤ 12 → -1 ≤ d → d ≤ 3000 → s < fuel → ∃ σ', kX2_rateOf_17 fuel (σ, zi i, zi p, zi d, zi (stp s)) = some (zi (if blZ (fun r => decide (p < prZ (B i) r)) 3000 s d = 3000 then -1 else blZ (fun r => decide (p < prZ (B i) r)) 3000 s d + 1), σ') ∧ cC σ' n B G ∧ gW σ' = gW σ
  | 0, d, σ, fuel, C, hs, hd, hd2, hf => by
    obtain ⟨fu, rfl⟩ : ∃ f, fuel = f + 1 := ⟨fuel - 1, by omega⟩
    refine ⟨σ, ?_, C, rfl⟩
    rw [ksX2_rateOf_17]
    unfold bkX2_rateOf_17 blZ stp
    simp (disch := omega) only [l0, yle, l3000, yeq, l1, zi_add, zi_neg]
    rw [if_pos (by omega)]
    split <;> rfl
  | s + 1, d, σ, fuel, C, hs, hd, hd2, hf => by
    obtain ⟨fu, rfl⟩ : ∃ f, fuel = f + 1 := ⟨fuel - 1, by omega⟩
    have hn := C.1.1.1
    obtain ⟨p1, p2⟩ := id hp
    have sb : 0 ≤ (2 : Int) ^ s ∧ (2 : Int) ^ s ≤ 1073741824 := stp_b (s := s + 1) (by omega)
    have hh : (2 : Int) ^ s / 2 = stp s := stp_h s
    have pos : (0 : Int) < 2 ^ s := Int.pow_pos (by decide)
    rw [show stp (s + 1) = 2 ^ s from rfl, ksX2_rateOf_17]
    unfold bkX2_rateOf_17
    obtain ⟨S, hS⟩ : ∃ S : Int, 2 ^ s = S := ⟨_, rfl⟩
    rw [hS] at sb hh pos ⊢
    simp (disch := omega) only [l0, yle, l3000, l1, l2, zi_add, zi_neg, ylt, ydv, hh, inb_z, gdt, yN, Int.toNat_natCast, c_pl C.1 hi, decide_true]
    rw [if_neg (by omega)]
    by_cases c : 3000 < d + S
    · rw [if_pos c, blZ_m hS (fun h => by omega)]
      exact c_rateL hi hp s d σ fu C (by omega) hd hd2 (by omega)
    · rw [if_neg c]
      obtain ⟨σ1, e1, E1, C1⟩ := c_price C hi (r := d + S) (by omega) (by omega)
      have pb := prZ_b (C.1.1.2.1 i hi) (d + S)
      rw [e1, ob_s]
      simp (disch := omega) only [yle]
      by_cases t : p < prZ (B i) (d + S)
      · rw [if_neg (by omega), blZ_p hS (by omega) (decide_eq_true t)]
        obtain ⟨σ', e, C', w⟩ := c_rateL hi hp s (d + S) σ1 fu C1 (by omega) (by omega) (by omega) (by omega)
        exact ⟨σ', e, C', w.trans E1.2.2.2⟩
      · rw [if_pos (by omega), blZ_m hS (fun _ => decide_eq_false t)]
        obtain ⟨σ', e, C', w⟩ := c_rateL hi hp s d σ1 fu C1 (by omega) hd hd2 (by omega)
        exact ⟨σ', e, C', w.trans E1.2.2.2⟩
theorem c_implL (hx : bs x (elZ B G) n) (ha : anZ n (elZ B G) = true) {m : Int} (hm : r64 m) : ∀ (s : Nat) (d : Int) (σ : ST) (fuel : Nat), cC σ n B G → s ≤ 12 → -1 ≤ d → d ≤ 3000 → s < fuel → ∃ σ', kX2_implied_19 fuel (σ, zl m, x, zi d, zi (stp s)) = some (zi (if blZ (fun r => decide (m < mkZ (elZ B G) (PZ B r) (FZ B G) n)) 3000 s d = 3000 then -1 else blZ (fun r => decide (m < mkZ (elZ B G) (PZ B r) (FZ B G) n)) 3000 s d + 1), σ') ∧ cC σ' n B G ∧ gW σ' = gW σ
  | 0, d, σ, fuel, C, hs, hd, hd2, hf => by
    obtain ⟨fu, rfl⟩ : ∃ f, fuel = f + 1 := ⟨fuel - 1, by omega⟩
    refine ⟨σ, ?_, C, rfl⟩
    rw [ksX2_implied_19]
    unfold bkX2_implied_19 blZ stp
    simp (disch := omega) only [l0, yle, l3000, yeq, l1, zi_add, zi_neg]
    rw [if_pos (by omega)]
    split <;> rfl
  | s + 1, d, σ, fuel, C, hs, hd, hd2, hf => by
    obtain ⟨fu, rfl⟩ : ∃ f, fuel = f + 1 := ⟨fuel - 1, by omega⟩
    have hn := C.1.1.1
    obtain ⟨p1, p2⟩ := id hm
    have sb : 0 ≤ (2 : Int) ^ s ∧ (2 : Int) ^ s ≤ 1073741824 := stp_b (s := s + 1) (by omega)
    have hh : (2 : Int) ^ s / 2 = stp s := stp_h s
    have pos : (0 : Int) < 2 ^ s := Int.pow_pos (by decide)
    rw [show stp (s + 1) = 2 ^ s from rfl, ksX2_implied_19]
    unfold bkX2_implied_19
    obtain ⟨S, hS⟩ : ∃ S : Int, 2 ^ s = S := ⟨_, rfl⟩
    rw [hS] at sb hh pos ⊢
    simp (disch := omega) only [l0, yle, l3000, l1, l2, zi_add, zi_neg, ylt, ydv, hh]
    rw [if_neg (by omega)]
    by_cases c : 3000 < d + S
    · rw [if_pos c, blZ_m hS (fun h => by omega)]
      exact c_implL hx ha hm s d σ fu C (by omega) hd hd2 (by omega)
    · rw [if_neg c]
      obtain ⟨σ1, e1, C1, E1⟩ := c_markAt C hx ha (r := d + S) (by omega) (by omega)
      have pb := mkZ_b C.1.1 ha (d + S)
      rw [e1, ob_s]
      simp (disch := omega) only [lz_le, wle]
      by_cases t : m < mkZ (elZ B G) (PZ B (d + S)) (FZ B G) n
      · rw [if_neg (by omega), blZ_p hS (by omega) (decide_eq_true t)]
        obtain ⟨σ', e, C', w⟩ := c_implL hx ha hm s (d + S) σ1 fu C1 (by omega) (by omega) (by omega) (by omega)
        exact ⟨σ', e, C', w.trans E1⟩
      · rw [if_pos (by omega), blZ_m hS (fun _ => decide_eq_false t)]
        obtain ⟨σ', e, C', w⟩ := c_implL hx ha hm s d σ1 fu C1 (by omega) hd hd2 (by omega)
        exact ⟨σ', e, C', w.trans E1⟩
end C1

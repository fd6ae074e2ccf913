/-! THE TREE: what is meant -/
def rlZ (G : Nat → Int) (x : Int) : Int := if 0 ≤ G 4 + G 5 * x then (if G 4 + G 5 * x ≤ 3000 then G 4 + G 5 * x else 3000) else 0
theorem rlZ_b (G : Nat → Int) (x : Int) : 0 ≤ rlZ G x ∧ rlZ G x ≤ 3000 := by
  unfold rlZ; split
  · split <;> omega
  · omega
def inZ (B : Nat → Nat → Int) (G : Nat → Int) (m : Int) (i : Nat) : Int := m * faZ (B i) (G 0) / 10000
def gvZ (B : Nat → Nat → Int) (G : Nat → Int) (m x : Int) (i : Nat) : Int := inZ B G m i - prZ (B i) (rlZ G x)
def ngZ (g : Nat → Int) : Nat → Int := fun i => - g i
def pkZ (f : Nat → Bool) (B : Nat → Nat → Int) (G : Nat → Int) (m : Int) (n : Nat) (x : Int) : Int := chZ f (ngZ (gvZ B G m x)) one1 n
def nwZ (f : Nat → Bool) (B : Nat → Nat → Int) (G : Nat → Int) (m : Int) (n : Nat) (x : Int) : Int := gvZ B G m x (pkZ f B G m n x).toNat
def VZ (nw : Int → Int) (car : Int) (may : Bool) (last : Int) : Nat → Int → Int
  | 0, u => nw (2 * u - last)
  | k + 1, u => if may = true ∧ (VZ nw car may last k u + VZ nw car may last k (u + 1)) / 2 - car ≤ nw (2 * u - (last - ((k : Int) + 1))) then nw (2 * u - (last - ((k : Int) + 1))) else (VZ nw car may last k u + VZ nw car may last k (u + 1)) / 2 - car
def WZ (nw : Int → Int) (car : Int) (may : Bool) (last : Int) (k : Nat) (u : Int) : Int := (VZ nw car may last k u + VZ nw car may last k (u + 1)) / 2 - car
def AZ (nw pk : Int → Int) (car : Int) (may : Bool) (last : Int) : Nat → Int → Int
  | 0, u => pk (2 * u - last)
  | k + 1, u => if may = true ∧ WZ nw car may last k u ≤ nw (2 * u - (last - ((k : Int) + 1))) then pk (2 * u - (last - ((k : Int) + 1))) else -2
theorem VZ_b {nw : Int → Int} (hn : ∀ x, -20000000000 ≤ nw x ∧ nw x ≤ 20000000000) {car : Int} (h1 : -1000000 ≤ car) (h2 : car ≤ 1000000) {may : Bool} {last : Int} : ∀ (k : Nat) (u : Int), -20000000000 - 1000001 * (k : Int) ≤ VZ nw car may last k u ∧ VZ nw car may last k u ≤ 20000000000 + 1000001 * (k : Int)
  | 0, u => by
    have := hn (2 * u - last)
    unfold VZ; omega
  | k + 1, u => by
    have a := VZ_b hn h1 h2 (may := may) (last := last) k u
    have b := VZ_b hn h1 h2 (may := may) (last := last) k (u + 1)
    have c := hn (2 * u - (last - ((k : Int) + 1)))
    unfold VZ
    generalize VZ nw car may last k u = p at *
    generalize VZ nw car may last k (u + 1) = q at *
    split <;> omega
theorem sh2 (x : Int64) : (0 ≤ x ^^^ (2 : Int64)) ↔ 0 ≤ x := by
  rw [← i64_nlt, ← i64_nlt]
  apply not_congr
  have key : ∀ y : Int64, (y < 0) ↔ y.toBitVec.msb = true := by
    intro y
    rw [Int64.lt_iff_toInt_lt, BitVec.msb_eq_toInt]
    simp
  rw [key, key, Int64.toBitVec_xor, BitVec.msb_xor]
  have : (2 : Int64).toBitVec.msb = false := by decide
  rw [this]; simp
theorem tdiv2 (a : Int) : (0 ≤ a → a.tdiv 2 = a / 2) ∧ (a < 0 → a.tdiv 2 = -((-a) / 2)) := by
  refine ⟨fun h => Int.tdiv_eq_ediv_of_nonneg h, fun h => ?_⟩
  have := Int.neg_tdiv (-a) 2
  rw [Int.neg_neg] at this
  rw [this, Int.tdiv_eq_ediv_of_nonneg (by omega)]
theorem tdv {a : Int} (h1 : -4000000000000000000 ≤ a) (h2 : a ≤ 4000000000000000000) : zl a / zl 2 = zl (a.tdiv 2) := zl_div ⟨by omega, by omega⟩ ⟨by omega, by omega⟩ (by omega)
theorem sh2z (x : Int64) : (zl 0 ≤ x ^^^ zl 2) ↔ zl 0 ≤ x := sh2 x
theorem td_b (a : Int) : (0 ≤ a ∧ a.tdiv 2 = a / 2) ∨ (a < 0 ∧ a.tdiv 2 = -((-a) / 2)) := by
  obtain ⟨t1, t2⟩ := tdiv2 a
  by_cases c : 0 ≤ a
  · exact Or.inl ⟨c, t1 c⟩
  · exact Or.inr ⟨by omega, t2 (by omega)⟩
theorem c_floor {a : Int} (h1 : -4000000000000000000 ≤ a) (h2 : a ≤ 4000000000000000000) : mJ9_floorDiv_f86c9 (zl a) (2 : Int64) = some (zl (a / 2)) := by
  have td := td_b a
  unfold mJ9_floorDiv_f86c9
  rw [L2, nzl_z (by omega) (by omega) (by omega), gdt, tdv h1 h2, zl_mul, L0, L1, zl_sub]
  generalize a.tdiv 2 = t at *
  have q : (zl 0 ≤ zl a) ↔ 0 ≤ a := wle (by omega) (by omega) (by omega) (by omega)
  have e : (zl (t * 2) = zl a) ↔ t * 2 = a := weq (by omega) (by omega) (by omega) (by omega)
  simp only [lc_ge, sh2z, lc_eq, q, e]
  by_cases c : 0 ≤ a
  · rw [if_pos c, show t = a / 2 by omega]
  · rw [if_neg c]
    by_cases d : t * 2 = a
    · rw [if_pos d, show t = a / 2 by omega]
    · rw [if_neg d, show t - 1 = a / 2 by omega]
theorem m_down {a : Int} (h1 : -4000000000000000000 ≤ a) (h2 : a ≤ 4000000000000000000) : mX3_down (zl a) (2 : Int64) = some (zl (a / 2)) := by
  have td := td_b a
  unfold mX3_down
  rw [L2, nzl_z (by omega) (by omega) (by omega), gdt, gdt, tdv h1 h2, zl_mul, zl_sub, L0, L1, zl_sub]
  generalize a.tdiv 2 = t at *
  have q : (zl 0 ≤ zl (a - t * 2)) ↔ 0 ≤ a - t * 2 := wle (by omega) (by omega) (by omega) (by omega)
  simp only [lc_ge, q]
  by_cases d : 0 ≤ a - t * 2
  · rw [if_pos d, show t = a / 2 by omega]
  · rw [if_neg d, show t - 1 = a / 2 by omega]
section P8
variable {σ τ : ST} {n : Nat} {B : Nat → Nat → Int} {G : Nat → Int} {f : Nat → Bool} {x : Int32} {m : Int}
theorem gvZ_b (S : okS n B G) {i : Nat} (hi : i < n) (h0 : 0 ≤ m) (h1 : m ≤ 999999999) (y : Int) : -20000000000 ≤ gvZ B G m y i ∧ gvZ B G m y i ≤ 20000000000 := by
  have p := prZ_b (S.2.1 i hi) (rlZ G y)
  have v := iv_b (S.2.1 i hi) S.2.2.1.1 h0 h1
  unfold gvZ inZ
  omega
theorem pkZ_a (ha : anZ n f = true) (y : Int) : 0 ≤ pkZ f B G m n y ∧ pkZ f B G m n y < n ∧ f (pkZ f B G m n y).toNat = true := chZ_any _ _ ha
theorem nwZ_b (S : okS n B G) (ha : anZ n f = true) (h0 : 0 ≤ m) (h1 : m ≤ 999999999) (y : Int) : -20000000000 ≤ nwZ f B G m n y ∧ nwZ f B G m n y ≤ 20000000000 := by
  have := pkZ_a (B := B) (G := G) (m := m) ha y
  exact gvZ_b S (by omega) h0 h1 y
/-! prices by level -/
theorem c_lay1 {lev : Nat} (hl : (lev : Int) ≤ 2 * G 3) {r : Int} (hr : 0 ≤ r) (hr2 : r ≤ 3000) (rc : ST × Int32 × Int32 → Option ST) : ∀ (j i : Nat) (σ : ST) (fuel : Nat), cC σ n B G → i + j = n → (∀ q, q < i → gI σ 7 lev q = zi (prZ (B q) r)) → j < fuel → ∃ σ', kX1_layPrices_22 rc fuel (σ, zi n, zi lev, zi r, zi i) = rc (σ', zi n, zi (lev + 1 : Nat)) ∧ cC σ' n B G ∧ gW σ' = gW σ ∧ (∀ q, q < n → gI σ' 7 lev q = zi (prZ (B q) r)) ∧ ∀ l, l ≠ lev → gI σ' 7 l = gI σ 7 l
  | 0, i, σ, fuel, C, hij, hq, hf => by
    obtain ⟨fu, rfl⟩ : ∃ f, fuel = f + 1 := ⟨fuel - 1, by omega⟩
    have hn := C.1.1.1
    refine ⟨σ, ?_, C, rfl, by rw [← hij]; exact hq, fun _ _ => rfl⟩
    rw [ksX1_layPrices_22]
    unfold bkX1_layPrices_22
    rw [if_pos (by rw [yle (by omega) (by omega) (by omega) (by omega)]; omega)]
    have ei : zi lev + (1 : Int32) = zi (lev + 1 : Nat) := by rw [l1, zi_add]; rfl
    rw [ei]
  | j + 1, i, σ, fuel, C, hij, hq, hf => by
    obtain ⟨fu, rfl⟩ : ∃ f, fuel = f + 1 := ⟨fuel - 1, by omega⟩
    have hn := C.1.1.1
    have hi : i < n := by omega
    have g3 := C.1.1.2.2.2.2.1
    obtain ⟨σ1, e1, E1, C1⟩ := c_price C hi hr hr2
    obtain ⟨σ', e, C', w, k1, k2⟩ := c_lay1 hl hr hr2 rc j (i + 1) (sI σ1 7 lev i (zi (prZ (B i) r))) fu (cC_sI C1 (by omega)) (by omega) (fun q hq' => by
      rw [gI_sI]
      by_cases k : q = i
      · rw [if_pos ⟨rfl, rfl, k⟩, k]
      · rw [if_neg (fun h => k h.2.2), E1.1 7 (by omega)]; exact hq q (by omega)) (by omega)
    refine ⟨σ', ?_, C', w.trans E1.2.2.2, k1, fun l hl => ?_⟩
    · rw [← e, ksX1_layPrices_22]
      unfold bkX1_layPrices_22
      have ei : zi i + (1 : Int32) = zi (i + 1 : Nat) := by rw [l1, zi_add]; rfl
      simp (disch := omega) only [yle, inb_z, gdt, yN, Int.toNat_natCast, c_pl C.1 hi, decide_true, e1, ob_s, sv_z, ei]
      rw [if_neg (by omega)]
    · rw [k2 l hl, gI_ni hl, E1.1 7 (by omega)]
theorem c_lay2 : ∀ (j lev : Nat) (σ : ST) (fuel : Nat), cC σ n B G → (lev : Int) + j = 2 * G 3 + 1 → (∀ (l q : Nat), l < lev → q < n → gI σ 7 l q = zi (prZ (B q) (rlZ G ((l : Int) - G 3)))) → j < fuel → ∃ σ', kX1_layPrices_2 fuel (σ, zi n, zi lev) = some σ' ∧ cC σ' n B G ∧ gW σ' = gW σ ∧ ∀ (l q : Nat), (l : Int) ≤ 2 * G 3 → q < n → gI σ' 7 l q = zi (prZ (B q) (rlZ G ((l : Int) - G 3)))
  | 0, lev, σ, fuel, C, hij, hq, hf => by
    obtain ⟨fu, rfl⟩ : ∃ f, fuel = f + 1 := ⟨fuel - 1, by omega⟩
    have g3 := C.1.1.2.2.2.2.1
    refine ⟨σ, ?_, C, rfl, fun l q hl hq' => hq l q (by omega) hq'⟩
    rw [ksX1_layPrices_2]
    unfold bkX1_layPrices_2
    rw [C.1.2.2.2.2.1.1, l2, zi_mul, if_pos (by rw [ylt (by omega) (by omega) (by omega) (by omega)]; omega)]
  | j + 1, lev, σ, fuel, C, hij, hq, hf => by
    obtain ⟨fu, rfl⟩ : ∃ f, fuel = f + 1 := ⟨fuel - 1, by omega⟩
    have hn := C.1.1.1
    have g3 := C.1.1.2.2.2.2.1
    have rb := rlZ_b G ((lev : Int) - G 3)
    have ra : mX1_rateAt σ (zi lev) = some (zi (rlZ G ((lev : Int) - G 3))) := c_rateAt C (by omega) (by omega)
    obtain ⟨σ1, e1, C1, w1, p1, p2⟩ := c_lay1 (n := n) (B := B) (G := G) (lev := lev) (by omega) rb.1 rb.2 (kX1_layPrices_2 fu) n 0 σ FU C (by omega) (fun q hq => by omega) (by unfold FU; omega)
    obtain ⟨σ', e, C', w, k⟩ := c_lay2 j (lev + 1) σ1 fu C1 (by omega) (fun l q hl hq' => by
      by_cases k : l = lev
      · subst k; exact p1 q hq'
      · rw [p2 l k]; exact hq l q (by omega) hq') (by omega)
    refine ⟨σ', ?_, C', w.trans w1, k⟩
    rw [← e, ← e1, ksX1_layPrices_2]
    unfold bkX1_layPrices_2
    rw [C.1.2.2.2.2.1.1, l2, zi_mul, if_neg (by rw [ylt (by omega) (by omega) (by omega) (by omega)]; omega), ra, ob_s]
    rfl
theorem c_layP (C : cC σ n B G) : ∃ σ', mX1_layPrices σ (gI σ 0 0 1) = some σ' ∧ cC σ' n B G ∧ gW σ' = gW σ ∧ ∀ (l q : Nat), (l : Int) ≤ 2 * G 3 → q < n → gI σ' 7 l q = zi (prZ (B q) (rlZ G ((l : Int) - G 3))) := by
  have g3 := C.1.1.2.2.2.2.1
  unfold mX1_layPrices
  rw [C.1.2.2.1]
  exact c_lay2 (2 * G 3 + 1).toNat 0 σ FU C (by omega) (fun l q hl _ => by omega) (by unfold FU; omega)
/-! what delivering gives, by level -/
def fN (f : Nat → Bool) (n : Nat) : Nat → Bool := fun i => decide (i < n) && f i
theorem chZ_fN {P F : Nat → Int} : ∀ k, k ≤ n → chZ (fN f n) P F k = chZ f P F k
  | 0, _ => rfl
  | k + 1, h => by
    unfold chZ
    rw [chZ_fN k (by omega)]
    have : fN f n k = f k := by unfold fN; simp [show k < n by omega]
    rw [this]
theorem chZ_fN2 {P F : Nat → Int} : ∀ j, chZ (fN f n) P F (n + j) = chZ f P F n
  | 0 => chZ_fN n (Nat.le_refl _)
  | j + 1 => by
    rw [show n + (j + 1) = (n + j) + 1 by omega]
    have e : chZ (fN f n) P F (n + j + 1) = if fN f n (n + j) = true ∧ (chZ (fN f n) P F (n + j) = -1 ∨ P (n + j) * F (chZ (fN f n) P F (n + j)).toNat < P (chZ (fN f n) P F (n + j)).toNat * F (n + j)) then ((n + j : Nat) : Int) else chZ (fN f n) P F (n + j) := rfl
    have nn : ¬ n + j < n := by omega
    have : fN f n (n + j) = false := by unfold fN; simp [nn]
    rw [e, this, if_neg (fun q => by cases q.1), chZ_fN2 j]
theorem chZ_8 {P F : Nat → Int} (hn : n ≤ 8) : chZ (fN f n) P F 8 = chZ f P F n := by
  have := chZ_fN2 (f := f) (n := n) (P := P) (F := F) (8 - n)
  rw [show n + (8 - n) = 8 by omega] at this; exact this
theorem c_bestL (S : okS n B G) (hx : bs x f n) (h0 : 0 ≤ m) (h1 : m ≤ 999999999) {lev : Nat} {y : Int} (hl : lev < 41) (hI : ∀ i, i < n → f i = true → gJ σ 3 0 i = zl (inZ B G m i)) (hP : ∀ i, i < n → gI σ 7 lev i = zi (prZ (B i) (rlZ G y))) : ∀ (j i : Nat) (c : Int) (fuel : Nat), i + j = 8 → (chZ (fN f n) (ngZ (gvZ B G m y)) one1 i ≠ -1 → c = gvZ B G m y (chZ (fN f n) (ngZ (gvZ B G m y)) one1 i).toNat) → j < fuel → kX1_bestOn_8 σ fuel (zi lev, x, zi (chZ (fN f n) (ngZ (gvZ B G m y)) one1 i), zl c, zi i) = some (zi (chZ (fN f n) (ngZ (gvZ B G m y)) one1 8))
  | 0, i, c, fuel, hij, hc, hf => by
    obtain ⟨fu, rfl⟩ : ∃ f, fuel = f + 1 := ⟨fuel - 1, by omega⟩
    have : i = 8 := by omega
    subst this
    rw [ksX1_bestOn_8]
    unfold bkX1_bestOn_8
    rw [if_pos (by decide)]
  | j + 1, i, c, fuel, hij, hc, hf => by
    obtain ⟨fu, rfl⟩ : ∃ f, fuel = f + 1 := ⟨fuel - 1, by omega⟩
    have gi : gb x i = fN f n i := by rw [hx i]; rfl
    have cb := chZ_b (fN f n) (ngZ (gvZ B G m y)) one1 i
    have cf := chZ_f (fN f n) (ngZ (gvZ B G m y)) one1 i
    have ih := fun c hc => c_bestL S hx h0 h1 hl hI hP j (i + 1) c fu (by omega) hc (by omega)
    have e1 : chZ (fN f n) (ngZ (gvZ B G m y)) one1 (i + 1) = if fN f n i = true ∧ (chZ (fN f n) (ngZ (gvZ B G m y)) one1 i = -1 ∨ ngZ (gvZ B G m y) i * 1 < ngZ (gvZ B G m y) (chZ (fN f n) (ngZ (gvZ B G m y)) one1 i).toNat * 1) then (i : Int) else chZ (fN f n) (ngZ (gvZ B G m y)) one1 i := rfl
    rw [e1] at ih
    rw [ksX1_bestOn_8]
    unfold bkX1_bestOn_8
    have ei : zi i + (1 : Int32) = zi (i + 1 : Nat) := by rw [l1, zi_add]; rfl
    have c8 : ¬ (8 : Int32) ≤ zi i := by rw [l8, yle (by omega) (by omega) (by omega) (by omega)]; omega
    rw [if_neg c8, c_isIn x (show i < 8 by omega), gi, ob_s, ei]
    generalize chZ (fN f n) (ngZ (gvZ B G m y)) one1 i = q at *
    cases d : fN f n i with
    | false =>
      rw [d] at ih
      rw [if_pos (by rfl)]
      have := ih c
      rw [if_neg (fun k => by cases k.1)] at this
      exact this hc
    | true =>
      rw [d] at ih
      have hi : i < n ∧ f i = true := by unfold fN at d; simpa using d
      have gb' := gvZ_b S hi.1 h0 h1 y
      have pb := prZ_b (S.2.1 i hi.1) (rlZ G y)
      have gv : gJ σ 3 0 i - Int32.toInt64 (gI σ 7 lev i) = zl (gvZ B G m y i) := by
        rw [hI i hi.1 hi.2, hP i hi.1, yL (by omega) (by omega), zl_sub]; rfl
      have ne : (zi q = (-1 : Int32)) ↔ q = -1 := by
        rw [lm1]; exact yeq (by omega) (by omega) (by omega) (by omega)
      rw [if_neg (by decide)]
      simp (disch := omega) only [inb_z, gdt, yN, Int.toNat_natCast, gv, ne]
      by_cases e : q = -1
      · rw [if_pos e]
        have := ih (gvZ B G m y i)
        rw [if_pos ⟨rfl, Or.inl e⟩] at this
        exact this (fun _ => by rw [Int.toNat_natCast])
      · rw [if_neg e]
        have hc' := hc e
        have cf := cf e
        have hq : q.toNat < n ∧ f q.toNat = true := by unfold fN at cf; simpa using cf
        have gq := gvZ_b S hq.1 h0 h1 y
        have le : (lg_cmp (zl (gvZ B G m y i)) (zl c) ≤ (0 : Int32)) ↔ gvZ B G m y i ≤ c := by
          rw [lc_le]; exact wle (by omega) (by omega) (by omega) (by omega)
        simp only [le]
        by_cases g : gvZ B G m y i ≤ c
        · rw [if_pos g]
          have := ih c
          rw [if_neg (fun k => by
            rcases k.2 with k | k
            · exact e k
            · unfold ngZ at k; rw [hc'] at g; omega)] at this
          exact this hc
        · rw [if_neg g]
          have := ih (gvZ B G m y i)
          rw [if_pos ⟨rfl, Or.inr (by unfold ngZ; rw [hc'] at g; omega)⟩] at this
          exact this (fun _ => by rw [Int.toNat_natCast])
theorem c_bestOn (S : okS n B G) (hx : bs x f n) (h0 : 0 ≤ m) (h1 : m ≤ 999999999) {lev : Nat} {y : Int} (hl : lev < 41) (hI : ∀ i, i < n → f i = true → gJ σ 3 0 i = zl (inZ B G m i)) (hP : ∀ i, i < n → gI σ 7 lev i = zi (prZ (B i) (rlZ G y))) : mX1_bestOn σ (zi lev) x = some (zi (pkZ f B G m n y)) := by
  have := c_bestL S hx h0 h1 hl hI hP 8 0 0 FU (by omega) (fun k => absurd rfl k) (by unfold FU; omega)
  rw [chZ_8 S.1] at this
  exact this
theorem c_now1 (hx : bs x f n) (h0 : 0 ≤ m) (h1 : m ≤ 999999999) (rest : ST → Option ST) (hrest : ∀ σ, rest σ = kX1_layNow_44 FU (σ, x, 0)) : ∀ (j i : Nat) (σ : ST) (fuel : Nat), cC σ n B G → i + j = 8 → (∀ q, q < i → q < n → f q = true → gJ σ 3 0 q = zl (inZ B G m q)) → j < fuel → ∃ σ', kX1_layNow_3 fuel (σ, x, zi m, zi i) = rest σ' ∧ cC σ' n B G ∧ gW σ' = gW σ ∧ gI σ' = gI σ ∧ ∀ q, q < n → f q = true → gJ σ' 3 0 q = zl (inZ B G m q)
  | 0, i, σ, fuel, C, hij, hq, hf => by
    obtain ⟨fu, rfl⟩ : ∃ f, fuel = f + 1 := ⟨fuel - 1, by omega⟩
    have : i = 8 := by omega
    subst this
    have hn := C.1.1.1
    refine ⟨σ, ?_, C, rfl, rfl, fun q hqn => hq q (by omega) hqn⟩
    rw [ksX1_layNow_3]
    unfold bkX1_layNow_3
    rw [if_pos (by decide), hrest]
  | j + 1, i, σ, fuel, C, hij, hq, hf => by
    obtain ⟨fu, rfl⟩ : ∃ f, fuel = f + 1 := ⟨fuel - 1, by omega⟩
    have hn := C.1.1.1
    have gi : gb x i = fN f n i := by rw [hx i]; rfl
    have ei : zi i + (1 : Int32) = zi (i + 1 : Nat) := by rw [l1, zi_add]; rfl
    have c8 : ¬ (8 : Int32) ≤ zi i := by rw [l8, yle (by omega) (by omega) (by omega) (by omega)]; omega
    rw [ksX1_layNow_3]
    unfold bkX1_layNow_3
    rw [if_neg c8, c_isIn x (show i < 8 by omega), gi, ob_s, ei]
    cases d : fN f n i with
    | false =>
      rw [if_pos (by rfl)]
      exact c_now1 hx h0 h1 rest hrest j (i + 1) σ fu C (by omega) (fun q hq' hqn hfq => by
        by_cases k : q = i
        · subst k; unfold fN at d; simp [hqn, hfq] at d
        · exact hq q (by omega) hqn hfq) (by omega)
    | true =>
      have hi : i < n ∧ f i = true := by unfold fN at d; simpa using d
      have fb := faZ_b (C.1.1.2.1 i hi.1) C.1.1.2.2.1.1
      have vb := iv_b (C.1.1.2.1 i hi.1) C.1.1.2.2.1.1 h0 h1
      obtain ⟨σ', e, C', w, k1, k2⟩ := c_now1 hx h0 h1 rest hrest j (i + 1) (sJ σ 3 0 i (zl (inZ B G m i))) fu (cC_sJ C) (by omega) (fun q hq' hqn hfq => by
        rw [gJ_sJ]
        by_cases k : q = i
        · rw [if_pos ⟨rfl, rfl, k⟩, k]
        · rw [if_neg (fun h => k h.2.2)]; exact hq q (by omega) hqn hfq) (by omega)
      refine ⟨σ', ?_, C', w, k1, k2⟩
      rw [← e, if_neg (by decide)]
      simp (disch := omega) only [inb_z, gdt, yN, Int.toNat_natCast, c_pl C.1 hi.1, decide_true, mX0_invoiceBy, C.2 i hi.1, yL, zl_mul, L10000, wdv, ob_s, sv_z]
      rfl
theorem c_now2 (hx : bs x f n) (ha : anZ n f = true) (h0 : 0 ≤ m) (h1 : m ≤ 999999999) : ∀ (j lev : Nat) (σ : ST) (fuel : Nat), cC σ n B G → (lev : Int) + j = 2 * G 3 + 1 → (∀ q, q < n → f q = true → gJ σ 3 0 q = zl (inZ B G m q)) → (∀ (l q : Nat), (l : Int) ≤ 2 * G 3 → q < n → gI σ 7 l q = zi (prZ (B q) (rlZ G ((l : Int) - G 3)))) → (∀ l : Nat, l < lev → gI σ 8 0 l = zi (pkZ f B G m n ((l : Int) - G 3)) ∧ gJ σ 2 0 l = zl (nwZ f B G m n ((l : Int) - G 3))) → j < fuel → ∃ σ', kX1_layNow_44 fuel (σ, x, zi lev) = some σ' ∧ cC σ' n B G ∧ gW σ' = gW σ ∧ gI σ' 7 = gI σ 7 ∧ ∀ l : Nat, (l : Int) ≤ 2 * G 3 → gI σ' 8 0 l = zi (pkZ f B G m n ((l : Int) - G 3)) ∧ gJ σ' 2 0 l = zl (nwZ f B G m n ((l : Int) - G 3))
  | 0, lev, σ, fuel, C, hij, hI, hP, hq, hf => by
    obtain ⟨fu, rfl⟩ : ∃ f, fuel = f + 1 := ⟨fuel - 1, by omega⟩
    have g3 := C.1.1.2.2.2.2.1
    refine ⟨σ, ?_, C, rfl, rfl, fun l hl => hq l (by omega)⟩
    rw [ksX1_layNow_44]
    unfold bkX1_layNow_44
    rw [C.1.2.2.2.2.1.1, l2, zi_mul, if_pos (by rw [ylt (by omega) (by omega) (by omega) (by omega)]; omega)]
  | j + 1, lev, σ, fuel, C, hij, hI, hP, hq, hf => by
    obtain ⟨fu, rfl⟩ : ∃ f, fuel = f + 1 := ⟨fuel - 1, by omega⟩
    have hn := C.1.1.1
    have g3 := C.1.1.2.2.2.2.1
    have pa := pkZ_a (B := B) (G := G) (m := m) ha ((lev : Int) - G 3)
    have bo := c_bestOn (σ := σ) C.1.1 hx h0 h1 (lev := lev) (y := (lev : Int) - G 3) (by omega) hI (fun i hi => hP lev i (by omega) hi)
    have ei : zi lev + (1 : Int32) = zi (lev + 1 : Nat) := by rw [l1, zi_add]; rfl
    rw [ksX1_layNow_44]
    unfold bkX1_layNow_44
    rw [C.1.2.2.2.2.1.1, l2, zi_mul, if_neg (by rw [ylt (by omega) (by omega) (by omega) (by omega)]; omega), bo, ob_s, ei]
    have enw : nwZ f B G m n ((lev : Int) - G 3) = gvZ B G m ((lev : Int) - G 3) (pkZ f B G m n ((lev : Int) - G 3)).toNat := rfl
    generalize hq0 : pkZ f B G m n ((lev : Int) - G 3) = q at *
    obtain ⟨k, rfl⟩ : ∃ k : Nat, q = k := ⟨q.toNat, by omega⟩
    rw [Int.toNat_natCast] at *
    have hk : k < n := by omega
    have pb := prZ_b (C.1.1.2.1 k hk) (rlZ G ((lev : Int) - G 3))
    have ne : ¬ zi (k : Int) = (-1 : Int32) := by
      rw [lm1, yeq (by omega) (by omega) (by omega) (by omega)]; omega
    have t7 : gI (sI σ 8 0 lev (zi k)) 7 lev k = zi (prZ (B k) (rlZ G ((lev : Int) - G 3))) := by
      rw [gI_nt (by decide)]; exact hP lev k (by omega) hk
    have t3 : gJ (sI σ 8 0 lev (zi k)) 3 0 k = zl (inZ B G m k) := hI k hk pa.2.2
    have gv : zl (inZ B G m k) - Int32.toInt64 (zi (prZ (B k) (rlZ G ((lev : Int) - G 3)))) = zl (nwZ f B G m n ((lev : Int) - G 3)) := by
      rw [yL (by omega) (by omega), zl_sub, enw]; rfl
    obtain ⟨σ', e, C', w, k1, k2⟩ := c_now2 hx ha h0 h1 j (lev + 1) (sJ (sI σ 8 0 lev (zi k)) 2 0 lev (zl (nwZ f B G m n ((lev : Int) - G 3)))) fu (cC_sJ (cC_sI C (by omega))) (by omega) (fun q hqn hfq => by
      rw [gJ_nt (by decide)]; exact hI q hqn hfq) (fun l q hl hqn => by
      rw [gI_sJ, gI_nt (by decide)]; exact hP l q hl hqn) (fun l hl => by
      rw [gI_sJ, gI_sI, gJ_sJ]
      by_cases c : l = lev
      · subst c; rw [if_pos ⟨rfl, rfl, rfl⟩, if_pos ⟨rfl, rfl, rfl⟩, hq0]; exact ⟨rfl, rfl⟩
      · rw [if_neg (fun h => c h.2.2), if_neg (fun h => c h.2.2)]; exact hq l (by omega)) (by omega)
    refine ⟨σ', ?_, C', w, k1.trans (gI_nt (σ := σ) (t := 8) (i := 0) (j := lev) (v := zi k) (a := 7) (by decide)), k2⟩
    rw [← e]
    simp (disch := omega) only [inb_z, gdt, yN, Int.toNat_natCast, sv_z, t7, t3, gv]
    rw [if_neg ne]
theorem c_layN (C : cC σ n B G) (hx : bs x f n) (ha : anZ n f = true) (h0 : 0 ≤ m) (h1 : m ≤ 999999999) (hP : ∀ (l q : Nat), (l : Int) ≤ 2 * G 3 → q < n → gI σ 7 l q = zi (prZ (B q) (rlZ G ((l : Int) - G 3)))) : ∃ σ', mX1_layNow σ x (zi m) = some σ' ∧ cC σ' n B G ∧ gW σ' = gW σ ∧ gI σ' 7 = gI σ 7 ∧ ∀ l : Nat, (l : Int) ≤ 2 * G 3 → gI σ' 8 0 l = zi (pkZ f B G m n ((l : Int) - G 3)) ∧ gJ σ' 2 0 l = zl (nwZ f B G m n ((l : Int) - G 3)) := by
  have g3 := C.1.1.2.2.2.2.1
  obtain ⟨σ1, e1, C1, w1, i1, k1⟩ := c_now1 hx h0 h1 (fun σ => kX1_layNow_44 FU (σ, x, 0)) (fun _ => rfl) 8 0 σ FU C (by omega) (fun q hq => by omega) (by unfold FU; omega)
  obtain ⟨σ', e, C', w, i2, k2⟩ := c_now2 hx ha h0 h1 (2 * G 3 + 1).toNat 0 σ1 FU C1 (by omega) k1 (fun l q hl hq => by rw [i1]; exact hP l q hl hq) (fun l hl => by omega) (by unfold FU; omega)
  exact ⟨σ', e1.trans e, C', w.trans w1, by rw [i2, i1], k2⟩
end P8

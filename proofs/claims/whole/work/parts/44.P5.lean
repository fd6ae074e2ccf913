/-! A BOND THAT GOES; THE RATE OF A NODE -/
section P5
variable {σ τ : ST} {n : Nat} {B : Nat → Nat → Int} {G : Nat → Int}
def drB (B : Nat → Nat → Int) (b : Nat) : Nat → Nat → Int := fun i => if i < b then B i else B (i + 1)
theorem c_dropL {b : Nat} {k2 : Nat} (hk : k2 < 8) (hn : n ≤ 8) {σ0 : ST} (pl : ∀ i, i < 8 → gP σ0 i < 8) (sz : gI σ0 0 0 1 = zi n) : ∀ (j i : Nat) (σ : ST) (fuel : Nat), b ≤ i → i + j + 1 = n → (∀ t, gI σ t = gI σ0 t) → gW σ = gW σ0 → (∀ q, gP σ q = if b ≤ q ∧ q < i then gP σ0 (q + 1) else gP σ0 q) → j < fuel → ∃ σ', kX2_drop_19 fuel (σ, k2, zi i) = some (zi (n - 1 : Nat), σ') ∧ (∀ t, t ≠ 0 → gI σ' t = gI σ0 t) ∧ (∀ i q, gI σ' 0 i q = if i = 0 ∧ q = 1 then zi (n - 1 : Nat) else gI σ0 0 i q) ∧ gW σ' = gW σ0 ∧ (∀ q, gP σ' q = if q = n - 1 then k2 else if b ≤ q ∧ q < n - 1 then gP σ0 (q + 1) else gP σ0 q)
  | 0, i, σ, fuel, hb, hij, hI, hW, hP, hf => by
    obtain ⟨fu, rfl⟩ : ∃ f, fuel = f + 1 := ⟨fuel - 1, by omega⟩
    have hi : i = n - 1 := by omega
    subst hi
    have es : gI σ 0 0 1 = zi n := by rw [hI]; exact sz
    have e1 : zi n - (1 : Int32) = zi (n - 1 : Nat) := by
      rw [l1, zi_sub]; congr 1; omega
    refine ⟨sP (sI σ 0 0 1 (zi (n - 1 : Nat))) (n - 1) k2, ?_, fun t ht => ?_, fun i q => ?_, hW, fun q => ?_⟩
    · rw [ksX2_drop_19]
      unfold bkX2_drop_19
      rw [es, e1]
      have e2 : gI (sI σ 0 0 1 (zi (n - 1 : Nat))) 0 0 1 = zi (n - 1 : Nat) := by rw [gI_sI, if_pos ⟨rfl, rfl, rfl⟩]
      simp (disch := omega) only [hk, decide_true, gdt, l1, zi_add, yle, sv_z]
      rw [if_pos (by omega), e2]
      simp (disch := omega) only [inb_z, gdt, yN, Int.toNat_natCast, gI_sP, e2]
    · rw [gI_sP, gI_nt ht]; exact hI t
    · rw [gI_sP, gI_sI]
      by_cases c : i = 0 ∧ q = 1
      · rw [if_pos ⟨rfl, c⟩, if_pos c]
      · rw [if_neg (fun k => c k.2), if_neg c, hI]
    · rw [gP_sP]
      change (if q = n - 1 then k2 else gP σ q) = _
      by_cases c : q = n - 1
      · rw [if_pos c, if_pos c]
      · rw [if_neg c, if_neg c, hP]
  | j + 1, i, σ, fuel, hb, hij, hI, hW, hP, hf => by
    obtain ⟨fu, rfl⟩ : ∃ f, fuel = f + 1 := ⟨fuel - 1, by omega⟩
    have es : gI σ 0 0 1 = zi n := by rw [hI]; exact sz
    have ep : gP σ (i + 1) = gP σ0 (i + 1) := by rw [hP, if_neg (by omega)]
    obtain ⟨σ', e, r⟩ := c_dropL (b := b) hk hn pl sz j (i + 1) (sP σ i (gP σ0 (i + 1))) fu (by omega) (by omega) hI hW (fun q => by
      rw [gP_sP, hP]
      by_cases c : q = i
      · subst c; rw [if_pos rfl, if_pos (by omega)]
      · rw [if_neg c]
        by_cases d : b ≤ q ∧ q < i
        · rw [if_pos d, if_pos (by omega)]
        · rw [if_neg d, if_neg (by omega)]) (by omega)
    refine ⟨σ', ?_, r⟩
    rw [← e, ksX2_drop_19]
    unfold bkX2_drop_19
    rw [es]
    simp (disch := omega) only [hk, decide_true, gdt, l1, zi_add, yle, sv_z, inb_z, yN]
    rw [if_neg (by omega), show ((i : Int) + 1).toNat = i + 1 by omega, show ((i : Int)).toNat = i by omega, ep, decide_eq_true (pl (i + 1) (by omega)), gdt]
    rfl
theorem m_dropL {b : Nat} (hn : n ≤ 8) {τ0 : ST} (sz : gI τ0 0 0 1 = zi (n - 1 : Nat)) (hb : b < n) : ∀ (j k : Nat) (τ : ST) (fuel : Nat), 7 * b ≤ k → k + j = 7 * (n - 1) → (∀ t, t ≠ 1 → gI τ t = gI τ0 t) → (∀ q, gI τ 1 0 q = if 7 * b ≤ q ∧ q < k then gI τ0 1 0 (q + 7) else gI τ0 1 0 q) → j < fuel → ∃ τ', kX3_drop_30 fuel (τ, zi k) = some (zi (n - 1 : Nat), τ') ∧ (∀ t, t ≠ 1 → gI τ' t = gI τ0 t) ∧ (∀ q, gI τ' 1 0 q = if 7 * b ≤ q ∧ q < 7 * (n - 1) then gI τ0 1 0 (q + 7) else gI τ0 1 0 q)
  | 0, k, τ, fuel, h1, hij, hI, hP, hf => by
    obtain ⟨fu, rfl⟩ : ∃ f, fuel = f + 1 := ⟨fuel - 1, by omega⟩
    have : k = 7 * (n - 1) := by omega
    subst this
    have es : gI τ 0 0 1 = zi (n - 1 : Nat) := by rw [hI 0 (by omega)]; exact sz
    refine ⟨τ, ?_, hI, hP⟩
    rw [ksX3_drop_30]
    unfold bkX3_drop_30
    rw [es]
    simp (disch := omega) only [l7, zi_mul, yle]
    rw [if_pos (by omega)]
  | j + 1, k, τ, fuel, h1, hij, hI, hP, hf => by
    obtain ⟨fu, rfl⟩ : ∃ f, fuel = f + 1 := ⟨fuel - 1, by omega⟩
    have es : gI τ 0 0 1 = zi (n - 1 : Nat) := by rw [hI 0 (by omega)]; exact sz
    have ep : gI τ 1 0 (k + 7) = gI τ0 1 0 (k + 7) := by rw [hP, if_neg (by omega)]
    obtain ⟨τ', e, r⟩ := m_dropL hn sz hb j (k + 1) (sI τ 1 0 k (gI τ0 1 0 (k + 7))) fu (by omega) (by omega) (fun t ht => by rw [gI_nt ht]; exact hI t ht) (fun q => by
      rw [gI_sI, hP]
      by_cases c : q = k
      · subst c; rw [if_pos ⟨rfl, rfl, rfl⟩, if_pos (by omega)]
      · rw [if_neg (fun q => c q.2.2)]
        by_cases d : 7 * b ≤ q ∧ q < k
        · rw [if_pos d, if_pos (by omega)]
        · rw [if_neg d, if_neg (by omega)]) (by omega)
    refine ⟨τ', ?_, r⟩
    rw [← e, ksX3_drop_30]
    unfold bkX3_drop_30
    rw [es]
    simp (disch := omega) only [l7, l1, zi_mul, zi_add, yle, inb_z, gdt, yN, sv_z]
    rw [if_neg (by omega), show ((k : Int) + 7).toNat = k + 7 by omega, show ((k : Int)).toNat = k by omega, ep]
    rfl
theorem p_drop {a1 : Int32} (h : RR σ τ) : ∃ q r, mX2_drop σ a1 = some q ∧ mX3_drop τ a1 = some r ∧ q.1 = r.1 ∧ RR q.2 r.2 ∧ cntF q.2 ≤ cntF σ := by
  obtain ⟨n, B, G, C, M⟩ := h
  have M' : mM (sI τ 0 0 10 0) n B G := mM_10 M
  have hn := M.1.1
  unfold mX2_drop mX3_drop
  rw [sv_z]
  generalize sI τ 0 0 10 0 = τ' at M' ⊢
  have RN : RR σ τ' := ⟨n, B, G, C, M'⟩
  obtain ⟨z1, h1, rfl⟩ := zi_ex a1
  simp only [c_has C h1, m_isBond M' h1, ob_s, b2id0]
  by_cases c : 0 ≤ z1 ∧ z1 < n
  case neg =>
    simp only [if_pos c]; exact ⟨_, _, rfl, rfl, rfl, RN, Nat.le_refl _⟩
  simp only [if_neg (not_not_intro c)]
  obtain ⟨i, hi, rfl⟩ := in_b h1 hn c
  obtain ⟨⟨a, b, cc, d, e, f, g⟩, hh⟩ := C
  obtain ⟨σ', e1, s1, s2, s3, s4⟩ := c_dropL (b := i) (f.1 i (by omega)) hn f.1 cc (n - 1 - i) i σ FU (Nat.le_refl _) (by omega) (fun _ => rfl) rfl (fun q => by rw [if_neg (by omega)]) (by unfold FU; omega)
  have e2 : zi n - (1 : Int32) = zi (n - 1 : Nat) := by rw [l1, zi_sub]; congr 1; omega
  obtain ⟨τ2, f1, r1, r2⟩ := m_dropL (b := i) hn (τ0 := sI τ' 0 0 1 (zi (n - 1 : Nat))) (by rw [gI_sI, if_pos ⟨rfl, rfl, rfl⟩]) hi (7 * (n - 1) - 7 * i) (7 * i) (sI τ' 0 0 1 (zi (n - 1 : Nat))) FU (Nat.le_refl _) (by omega) (fun _ _ => rfl) (fun q => by rw [if_neg (by omega)]) (by unfold FU; omega)
  have e3 : (7 : Int32) * zi i = zi (7 * i : Nat) := by rw [l7, zi_mul]; congr 1
  simp (disch := omega) only [inb_z, gdt, yN, Int.toNat_natCast, f.1 i (by omega), decide_true, e1, sv_z, M'.2.1, e2, e3, f1]
  have ok : okS (n - 1) (drB B i) G := by
    refine ⟨by omega, fun q hq => ?_, a.2.2⟩
    unfold drB
    split
    · exact a.2.1 q (by omega)
    · exact a.2.1 (q + 1) (by omega)
  have tg : ∀ t, t ≠ 0 → t ≠ 1 → gI τ2 t = gI τ' t := fun t h0 h1 => by rw [r1 t h1, gI_nt h0]
  have t0 : ∀ q, q ≠ 1 → gI τ2 0 0 q = gI τ' 0 0 q := fun q hq => by
    rw [r1 0 (by decide), gI_sI, if_neg (fun k => hq k.2.2)]
  refine ⟨_, _, rfl, rfl, rfl, ⟨n - 1, drB B i, G, ?_, ok, ?_, ?_, ?_⟩, cnt_e s3⟩
  · -- the place of the q-th one
    have pi : ∀ q, q < 8 → ∃ p, p < 8 ∧ gP σ' q = gP σ p ∧ ((q = n - 1 ∧ p = i) ∨ (q ≠ n - 1 ∧ i ≤ q ∧ q < n - 1 ∧ p = q + 1) ∨ (q ≠ n - 1 ∧ ¬ (i ≤ q ∧ q < n - 1) ∧ p = q)) := by
      intro q hq
      rw [s4]
      by_cases c1 : q = n - 1
      · rw [if_pos c1]; exact ⟨i, by omega, rfl, Or.inl ⟨c1, rfl⟩⟩
      · rw [if_neg c1]
        by_cases c2 : i ≤ q ∧ q < n - 1
        · rw [if_pos c2]; exact ⟨q + 1, by omega, rfl, Or.inr (Or.inl ⟨c1, c2.1, c2.2, rfl⟩)⟩
        · rw [if_neg c2]; exact ⟨q, hq, rfl, Or.inr (Or.inr ⟨c1, c2, rfl⟩)⟩
    have g0 : ∀ q, q ≠ 1 → gI σ' 0 0 q = gI σ 0 0 q := fun q hq => by rw [s2, if_neg (fun k => hq k.2)]
    have bq : ∀ q, q < n - 1 → ∃ p, p < n ∧ gP σ' q = gP σ p ∧ drB B i q = B p := by
      intro q hq
      rw [s4, if_neg (by omega)]
      unfold drB
      by_cases c2 : q < i
      · rw [if_neg (by omega), if_pos c2]; exact ⟨q, by omega, rfl, rfl⟩
      · rw [if_pos (by omega), if_neg c2]; exact ⟨q + 1, by omega, rfl, rfl⟩
    refine ⟨⟨ok, b, ?_, ?_, ?_, ⟨fun q hq => ?_, fun q q' hq hq' he => ?_⟩, fun q hq => ?_⟩, fun q hq => ?_⟩
    · rw [s2, if_pos ⟨rfl, rfl⟩]
    · rw [g0 2 (by decide), g0 3 (by decide), g0 4 (by decide)]; exact d
    · rw [s1 1 (by decide)]; exact e
    · obtain ⟨p, hp, ep, _⟩ := pi q hq
      rw [ep]; exact f.1 p hp
    · obtain ⟨p, hp, ep, op⟩ := pi q hq
      obtain ⟨p', hp', ep', op'⟩ := pi q' hq'
      rw [ep, ep'] at he
      have := f.2 p p' hp hp' he
      omega
    · obtain ⟨p, hp, ep, eb⟩ := bq q hq
      rw [ep, eb]
      exact bD_fr (g p hp) (s1 2 (by decide)) (s1 3 (by decide)) (s1 10 (by decide)) s3
    · obtain ⟨p, hp, ep, eb⟩ := bq q hq
      rw [ep, eb, s1 2 (by decide)]
      exact hh p hp
  · rw [r1 0 (by decide), gI_sI, if_pos ⟨rfl, rfl, rfl⟩]
  · rw [t0 2 (by decide), t0 3 (by decide), t0 4 (by decide), t0 5 (by decide), t0 6 (by decide), t0 7 (by decide), t0 8 (by decide), t0 9 (by decide), t0 11 (by decide), t0 12 (by decide)]
    exact M'.2.2.1
  · intro q j hq hj
    have ex : ∀ x, gI (sI τ' 0 0 1 (zi (n - 1 : Nat))) 1 0 x = gI τ' 1 0 x := fun x => by rw [gI_nt (by decide)]
    rw [r2, ex, ex]
    unfold drB
    by_cases c1 : q < i
    · rw [if_neg (by omega), if_pos c1]; exact M'.2.2.2 q j (by omega) hj
    · rw [if_pos (by omega), if_neg c1, show 7 * q + j + 7 = 7 * (q + 1) + j by omega]
      exact M'.2.2.2 (q + 1) j (by omega) hj
/-! the rate of a node -/
def rtZ (G : Nat → Int) (d u : Int) : Int := if 0 ≤ G 4 + G 5 * (2 * u - d) then (if G 4 + G 5 * (2 * u - d) ≤ 3000 then G 4 + G 5 * (2 * u - d) else 3000) else 0
theorem rtZ_b (d u : Int) : 0 ≤ rtZ G d u ∧ rtZ G d u ≤ 3000 := by
  unfold rtZ; split
  · split <;> omega
  · omega
theorem ju_b (S : okS n B G) {x : Int} (h1 : -20 ≤ x) (h2 : x ≤ 20) : -1000 ≤ G 5 * x ∧ G 5 * x ≤ 1000 := by
  obtain ⟨j1, j2⟩ := S.2.2.2.2.2.2.1
  constructor
  · have a : G 5 * (-20) ≤ G 5 * x := Int.mul_le_mul_of_nonneg_left h1 j1
    omega
  · have a : G 5 * x ≤ G 5 * 20 := Int.mul_le_mul_of_nonneg_left h2 j1
    omega
theorem m_rate1 (M : mM τ n B G) {d u : Int} (h1 : 0 ≤ u) (h2 : u ≤ d) (h3 : d ≤ 20) : mX3_rate1 τ (zi d) (zi u) = some (zi (rtZ G d u)) := by
  obtain ⟨t2, t3, t4, t5, t6, t7, t8, t9, t11, t12⟩ := M.2.2.1
  obtain ⟨g0, g1, g2, g3, g4, g5, g6, g7, g8⟩ := M.1.2.2
  have jb := ju_b M.1 (x := 2 * u - d) (by omega) (by omega)
  unfold mX3_rate1 rtZ
  rw [t6, t7]
  simp (disch := omega) only [l0, l2, l3000, zi_mul, zi_sub, zi_add, yle]
  by_cases a : 0 ≤ G 4 + G 5 * (2 * u - d)
  · simp only [if_pos a]
    by_cases b : G 4 + G 5 * (2 * u - d) ≤ 3000
    · simp only [if_pos b]
    · simp only [if_neg b]
  · simp only [if_neg a]
theorem c_rateAt (C : cC σ n B G) {l : Int} (h1 : G 3 - 20 ≤ l) (h2 : l ≤ G 3 + 20) : mX1_rateAt σ (zi l) = some (zi (if 0 ≤ G 4 + G 5 * (l - G 3) then (if G 4 + G 5 * (l - G 3) ≤ 3000 then G 4 + G 5 * (l - G 3) else 3000) else 0)) := by
  obtain ⟨s5, s6, s7, s8, s9⟩ := C.1.2.2.2.2.1
  obtain ⟨g0, g1, g2, g3, g4, g5, g6, g7, g8⟩ := C.1.1.2.2
  have jb := ju_b C.1.1 (x := l - G 3) (by omega) (by omega)
  unfold mX1_rateAt
  rw [s5, s6, s7]
  simp (disch := omega) only [l0, l3000, zi_mul, zi_sub, zi_add, ylt]
  congr 1
  have xb : -1000 ≤ G 4 + G 5 * (l - G 3) := by omega
  generalize G 4 + G 5 * (l - G 3) = x at *
  by_cases a : x < 3000
  · simp only [if_pos a]
    have xl : -2147483648 ≤ x := by omega
    simp only [ylt (a := 0) (b := x) (by omega) (by omega) xl (by omega)]
    by_cases b : 0 < x
    · rw [if_pos b, if_pos (by omega), if_pos (by omega)]
    · rw [if_neg b]
      by_cases c : 0 ≤ x
      · rw [if_pos c, if_pos (by omega), show x = 0 by omega]
      · rw [if_neg c]
  · simp only [if_neg a]
    rw [if_pos (show zi 0 < zi 3000 by decide), if_pos (by omega)]
    by_cases c : x ≤ 3000
    · rw [if_pos c, show x = 3000 by omega]
    · rw [if_neg c]
theorem m_isNode (M : mM τ n B G) {d u : Int} (hd : r32 d) (hu : r32 u) : mX3_isNode τ (zi d) (zi u) = some (b2i (decide ((0 ≤ d ∧ d ≤ G 3) ∧ 0 ≤ u ∧ u ≤ d))) := by
  obtain ⟨t2, t3, t4, t5, t6, t7, t8, t9, t11, t12⟩ := M.2.2.1
  obtain ⟨g0, g1, g2, g3, g4, g5, g6, g7, g8⟩ := M.1.2.2
  obtain ⟨d1, d2⟩ := hd
  obtain ⟨u1, u2⟩ := hu
  unfold mX3_isNode
  rw [t5]
  simp (disch := omega) only [yL, L0, m_isIn, ob_s, b2id0]
  by_cases a : 0 ≤ d ∧ d ≤ G 3
  · rw [if_neg (not_not_intro a)]
    by_cases b : 0 ≤ u ∧ u ≤ d
    · rw [if_neg (not_not_intro b), decide_eq_true ⟨a, b⟩]; rfl
    · rw [if_pos b, decide_eq_false (fun k => b k.2)]; rfl
  · rw [if_pos a, decide_eq_false (fun k => a k.1)]; rfl
theorem c_hasDay (C : cC σ n B G) {d : Int} (hd : r32 d) : mX1_hasDay σ (zi d) = some (b2i (decide (0 ≤ d ∧ d ≤ G 3))) := by
  obtain ⟨s5, s6, s7, s8, s9⟩ := C.1.2.2.2.2.1
  obtain ⟨g0, g1, g2, g3, g4, g5, g6, g7, g8⟩ := C.1.1.2.2
  obtain ⟨d1, d2⟩ := hd
  unfold mX1_hasDay
  rw [s5]
  simp (disch := omega) only [l0, c_wi, ob_s, b2iz, gdt]
theorem c_hasNode (C : cC σ n B G) {d u : Int} (hd : r32 d) (hu : r32 u) : mX1_hasNode σ (zi d) (zi u) = some (b2i (decide ((0 ≤ d ∧ d ≤ G 3) ∧ 0 ≤ u ∧ u ≤ d))) := by
  unfold mX1_hasNode
  rw [c_hasDay C hd, ob_s]
  obtain ⟨d1, d2⟩ := hd
  obtain ⟨u1, u2⟩ := hu
  simp (disch := omega) only [l0, c_wi, ob_s, b2id0z]
  by_cases a : 0 ≤ d ∧ d ≤ G 3
  · rw [if_neg (not_not_intro a)]
    by_cases b : 0 ≤ u ∧ u ≤ d
    · rw [if_neg (not_not_intro b), decide_eq_true ⟨a, b⟩]; rfl
    · rw [if_pos b, decide_eq_false (fun k => b k.2)]; rfl
  · rw [if_pos a, decide_eq_false (fun k => a k.1)]; rfl
theorem c_level (C : cC σ n B G) {d u : Int} : mX1_level σ (zi d) (zi u) = some (zi (G 3 + 2 * u - d)) := by
  unfold mX1_level
  rw [C.1.2.2.2.2.1.1, l2, zi_mul, zi_add, zi_sub]
theorem p_rate {a1 a2 : Int32} (h : RR σ τ) : ∃ q r, mX2_rate σ a1 a2 = some q ∧ mX3_rate τ a1 a2 = some r ∧ q = r.1 ∧ RR σ r.2 := by
  obtain ⟨n, B, G, C, M⟩ := h
  have M' : mM (sI τ 0 0 10 0) n B G := mM_10 M
  have hn := M.1.1
  unfold mX2_rate mX3_rate
  rw [sv_z]
  generalize sI τ 0 0 10 0 = τ' at M' ⊢
  have RN : RR σ τ' := ⟨n, B, G, C, M'⟩
  obtain ⟨z1, h1, rfl⟩ := zi_ex a1
  obtain ⟨z2, h2, rfl⟩ := zi_ex a2
  obtain ⟨g0, g1, g2, g3, g4, g5, g6, g7, g8⟩ := C.1.1.2.2
  simp only [c_hasNode C h1 h2, m_isNode M' h1 h2, ob_s, b2id0, c_level C]
  by_cases c : (0 ≤ z1 ∧ z1 ≤ G 3) ∧ 0 ≤ z2 ∧ z2 ≤ z1
  · simp only [if_neg (not_not_intro c), c_rateAt C (l := G 3 + 2 * z2 - z1) (by omega) (by omega), m_rate1 M' (d := z1) (u := z2) (by omega) (by omega) (by omega), ob_s]
    refine ⟨_, _, rfl, rfl, ?_, RN⟩
    show zi _ = zi _
    unfold rtZ
    rw [show G 3 + 2 * z2 - z1 - G 3 = 2 * z2 - z1 by omega]
  · simp only [if_pos c]
    exact ⟨_, _, rfl, rfl, rfl, RN⟩
end P5

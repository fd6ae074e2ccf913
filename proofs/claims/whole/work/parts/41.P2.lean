/-! THE CALLS THAT CHANGE -/
theorem b2id0 {p : Prop} [Decidable p] : (b2i (decide p) = (0 : Int32)) ↔ ¬ p := by rw [b2i0]; exact decide_eq_false_iff_not
theorem b2id0z {p : Prop} [Decidable p] : (b2i (decide p) = zi 0) ↔ ¬ p := b2id0
theorem zb_0 : zb (zi 0) = true := rfl
theorem zb_1 : zb (zi 1) = true := rfl
def canB (k c p e : Int) : Prop := (0 ≤ c ∧ c ≤ 2000) ∧ (1 ≤ p ∧ p ≤ 40) ∧ ((k = 0 ∧ e = 0) ∨ (k = 1 ∧ 1 ≤ e ∧ e ≤ 100) ∨ (k = 2 ∧ 1 ≤ e ∧ e ≤ p) ∨ (k = 3 ∧ e = 0 ∧ c = 0))
theorem c_canBe {k c p e : Int} (hk : r32 k) (hc : r32 c) (hp : r32 p) (he : r32 e) : (mX2_canBe (zi k) (zi c) (zi p) (zi e) = some 1 ∧ canB k c p e) ∨ (mX2_canBe (zi k) (zi c) (zi p) (zi e) = some 0 ∧ ¬ canB k c p e) := by
  obtain ⟨k1, k2⟩ := hk
  obtain ⟨c1, c2⟩ := hc
  obtain ⟨p1, p2⟩ := hp
  obtain ⟨e1, e2⟩ := he
  unfold mX2_canBe canB
  simp (disch := omega) only [l0, l1, l2, l3, l40, l100, l2000, c_wi, ob_s, b2id0z, b2iz, gdt, yeq]
  by_cases h1 : 0 ≤ c ∧ c ≤ 2000
  · rw [if_neg (fun q => q h1)]
    by_cases h2 : 1 ≤ p ∧ p ≤ 40
    · rw [if_neg (fun q => q h2)]
      by_cases a0 : k = 0
      · rw [if_pos a0]
        by_cases x : e = 0
        · rw [if_pos x]; left; exact ⟨rfl, h1, h2, Or.inl ⟨a0, x⟩⟩
        · rw [if_neg x]; right; exact ⟨rfl, by omega⟩
      · rw [if_neg a0]
        by_cases a1 : k = 1
        · rw [if_pos a1]
          by_cases x : 1 ≤ e ∧ e ≤ 100
          · rw [decide_eq_true x]; left; exact ⟨rfl, h1, h2, Or.inr (Or.inl ⟨a1, x⟩)⟩
          · rw [decide_eq_false x]; right; exact ⟨rfl, by omega⟩
        · rw [if_neg a1]
          by_cases a2 : k = 2
          · rw [if_pos a2]
            by_cases x : 1 ≤ e ∧ e ≤ p
            · rw [decide_eq_true x]; left; exact ⟨rfl, h1, h2, Or.inr (Or.inr (Or.inl ⟨a2, x⟩))⟩
            · rw [decide_eq_false x]; right; exact ⟨rfl, by omega⟩
          · rw [if_neg a2]
            by_cases a3 : k = 3
            · rw [if_pos a3]
              by_cases x : e = 0
              · rw [if_pos x]
                by_cases y : c = 0
                · rw [if_pos y]; left; exact ⟨rfl, h1, h2, Or.inr (Or.inr (Or.inr ⟨a3, x, y⟩))⟩
                · rw [if_neg y]; right; exact ⟨rfl, by omega⟩
              · rw [if_neg x]; right; exact ⟨rfl, by omega⟩
            · rw [if_neg a3]; right; exact ⟨rfl, by omega⟩
    · rw [if_pos h2]; right; exact ⟨rfl, fun q => h2 q.2.1⟩
  · rw [if_pos h1]; right; exact ⟨rfl, fun q => h1 q.1⟩
theorem m_isGood {k c p e s : Int} (hk : r32 k) (hc : r32 c) (hp : r32 p) (he : r32 e) (hs : r32 s) : (mX3_isGood (zi k) (zi c) (zi p) (zi e) (zi s) = some 1 ∧ canB k c p e ∧ (-200 ≤ s ∧ s ≤ 200)) ∨ (mX3_isGood (zi k) (zi c) (zi p) (zi e) (zi s) = some 0 ∧ ¬ (canB k c p e ∧ (-200 ≤ s ∧ s ≤ 200))) := by
  obtain ⟨k1, k2⟩ := hk
  obtain ⟨c1, c2⟩ := hc
  obtain ⟨p1, p2⟩ := hp
  obtain ⟨e1, e2⟩ := he
  obtain ⟨s1, s2⟩ := hs
  unfold mX3_isGood canB
  simp (disch := omega) only [l0, l1, l2, l3, L0, L1, L3, L40, L100, L200, L2000, zl_neg, yL, m_isIn, ob_s, b2id0z, b2iz, gdt, yeq]
  by_cases h0 : 0 ≤ k ∧ k ≤ 3
  · rw [if_neg (fun q => q h0)]
    by_cases h1 : 0 ≤ c ∧ c ≤ 2000
    · rw [if_neg (fun q => q h1)]
      by_cases h2 : 1 ≤ p ∧ p ≤ 40
      · rw [if_neg (fun q => q h2)]
        by_cases h3 : -200 ≤ s ∧ s ≤ 200
        · rw [if_neg (fun q => q h3)]
          by_cases a1 : k = 1
          · rw [if_pos a1]
            by_cases x : 1 ≤ e ∧ e ≤ 100
            · rw [decide_eq_true x]; left; exact ⟨rfl, ⟨h1, h2, Or.inr (Or.inl ⟨a1, x⟩)⟩, h3⟩
            · rw [decide_eq_false x]; right; exact ⟨rfl, by omega⟩
          · rw [if_neg a1]
            by_cases a2 : k = 2
            · rw [if_pos a2]
              by_cases x : 1 ≤ e ∧ e ≤ p
              · rw [decide_eq_true x]; left; exact ⟨rfl, ⟨h1, h2, Or.inr (Or.inr (Or.inl ⟨a2, x⟩))⟩, h3⟩
              · rw [decide_eq_false x]; right; exact ⟨rfl, by omega⟩
            · rw [if_neg a2]
              by_cases x : e = 0
              · rw [if_pos x]
                by_cases a0 : k = 0
                · rw [if_pos a0]; left; exact ⟨rfl, ⟨h1, h2, Or.inl ⟨a0, x⟩⟩, h3⟩
                · rw [if_neg a0]
                  by_cases y : c = 0
                  · rw [if_pos y]; left; exact ⟨rfl, ⟨h1, h2, Or.inr (Or.inr (Or.inr ⟨by omega, x, y⟩))⟩, h3⟩
                  · rw [if_neg y]; right; exact ⟨rfl, by omega⟩
              · rw [if_neg x]; right; exact ⟨rfl, by omega⟩
        · rw [if_pos h3]; right; exact ⟨rfl, fun q => h3 q.2⟩
      · rw [if_pos h2]; right; exact ⟨rfl, fun q => h2 q.1.2.1⟩
    · rw [if_pos h1]; right; exact ⟨rfl, fun q => h1 q.1.1⟩
  · rw [if_pos h0]; right; exact ⟨rfl, by omega⟩
/-! worths depend on the first four fields alone -/
theorem flZ_c {b b' : Nat → Int} (h0 : b' 0 = b 0) (h1 : b' 1 = b 1) (h2 : b' 2 = b 2) (h3 : b' 3 = b 3) : flZ b' = flZ b := by
  funext p
  unfold flZ cpZ bkZ owZ
  rw [h0, h1, h2, h3]
theorem woZ_c {b b' : Nat → Int} (h0 : b' 0 = b 0) (h1 : b' 1 = b 1) (h2 : b' 2 = b 2) (h3 : b' 3 = b 3) (r : Int) : woZ b' r = woZ b r := by
  unfold woZ
  rw [flZ_c h0 h1 h2 h3, h2]
theorem faZ_c {b b' : Nat → Int} (h0 : b' 0 = b 0) (h1 : b' 1 = b 1) (h2 : b' 2 = b 2) (h3 : b' 3 = b 3) (r : Int) : faZ b' r = faZ b r := by
  unfold faZ; rw [woZ_c h0 h1 h2 h3]
def upB (B : Nat → Nat → Int) (i j : Nat) (v : Int) : Nat → Nat → Int := fun i' j' => if i' = i ∧ j' = j then v else B i' j'
theorem upB_o {B : Nat → Nat → Int} {i i' j : Nat} {v : Int} (h : i' ≠ i) : upB B i j v i' = B i' := by
  funext j'
  unfold upB; rw [if_neg (fun q => h q.1)]
theorem upB_n {B : Nat → Nat → Int} {i j j' : Nat} {v : Int} (h : j' ≠ j) : upB B i j v i j' = B i j' := by
  unfold upB; rw [if_neg (fun q => h q.2)]
theorem upB_y {B : Nat → Nat → Int} {i j : Nat} {v : Int} : upB B i j v i j = v := by
  unfold upB; rw [if_pos ⟨rfl, rfl⟩]
section P2
variable {σ τ : ST} {n : Nat} {B : Nat → Nat → Int} {G : Nat → Int}
theorem okS_up (S : okS n B G) {i j : Nat} {v : Int} (g : gdB (upB B i j v i)) : okS n (upB B i j v) G := by
  refine ⟨S.1, fun q hq => ?_, S.2.2⟩
  by_cases c : q = i
  · rw [c]; exact g
  · rw [upB_o c]; exact S.2.1 q hq
theorem c_set (C : cC σ n B G) {i j : Nat} (hi : i < n) (h4 : 4 ≤ j) (h7 : j < 7) {v : Int} (g : gdB (upB B i j v i)) : cC (sI σ 2 (gP σ i) j (zi v)) n (upB B i j v) G := by
  obtain ⟨⟨a, b, c, d, e, f, gg⟩, h⟩ := C
  have hn := a.1
  have inj : ∀ q, q < n → gP σ q = gP σ i → q = i := fun q hq => f.2 q i (by omega) (by omega)
  refine ⟨⟨okS_up a g, b, c, d, e, f, fun q hq => ?_⟩, fun q hq => ?_⟩
  · change bD _ (gP σ q) _
    obtain ⟨D1, D2, D3, D4⟩ := gg q hq
    by_cases cq : q = i
    · subst cq
      have u0 := upB_n (B := B) (i := q) (j := j) (j' := 0) (v := v) (by omega)
      have u1 := upB_n (B := B) (i := q) (j := j) (j' := 1) (v := v) (by omega)
      have u2 := upB_n (B := B) (i := q) (j := j) (j' := 2) (v := v) (by omega)
      have u3 := upB_n (B := B) (i := q) (j := j) (j' := 3) (v := v) (by omega)
      refine ⟨g, fun j' hj' => ?_, fun p p1 p2 => ?_, fun w r hr => ?_⟩
      · rw [gI_sI]
        by_cases cj : j' = j
        · subst cj; rw [if_pos ⟨rfl, rfl, rfl⟩, upB_y]
        · rw [if_neg (by omega), upB_n cj]; exact D2 j' hj'
      · rw [gI_sI, if_neg (by omega), flZ_c u0 u1 u2 u3]; exact D3 p p1 (by rw [← u2]; exact p2)
      · rw [gI_sI, if_neg (by omega), woZ_c u0 u1 u2 u3]; exact D4 w r hr
    · rw [upB_o cq]
      have ne : gP σ q ≠ gP σ i := fun k => cq (inj q hq k)
      refine ⟨D1, fun j' hj' => ?_, fun p p1 p2 => ?_, fun w r hr => ?_⟩
      · rw [gI_sI, if_neg (fun k => ne k.2.1)]; exact D2 j' hj'
      · rw [gI_sI, if_neg (by omega)]; exact D3 p p1 p2
      · rw [gI_sI, if_neg (by omega)]; exact D4 w r hr
  · change gI (sI σ 2 (gP σ i) j (zi v)) 2 (gP σ q) 7 = _
    rw [gI_sI, if_neg (by omega), h q hq]
    by_cases cq : q = i
    · subst cq
      rw [faZ_c (upB_n (by omega)) (upB_n (by omega)) (upB_n (by omega)) (upB_n (by omega))]
    · rw [upB_o cq]
theorem m_set (M : mM τ n B G) {i j : Nat} (hi : i < n) (h7 : j < 7) {v : Int} (g : gdB (upB B i j v i)) : mM (sI τ 1 0 (7 * i + j) (zi v)) n (upB B i j v) G := by
  obtain ⟨a, b, c, d⟩ := M
  refine ⟨okS_up a g, b, c, fun i' j' hi' hj' => ?_⟩
  rw [gI_sI]
  unfold upB
  by_cases e : i' = i ∧ j' = j
  · rw [if_pos e, if_pos (by omega)]
  · rw [if_neg e, if_neg (by omega)]; exact d i' j' hi' hj'
theorem alt_fin (C : cC σ n B G) (M : mM τ n B G) {i : Nat} (hi : i < n) {w : Nat} (hw : w < 3) {z : Int} {P : Prop} [Decidable P] (hg : P → gdB (upB B i (4 + w) z i)) : ∃ q r, (some (if P then ((1 : Int32), sI σ 2 (gP σ i) (4 + w) (zi z)) else (0, σ)) : Option (Int32 × ST)) = some q ∧ (some (if P then ((1 : Int32), sI τ 1 0 (7 * i + (4 + w)) (zi z)) else (0, τ)) : Option (Int32 × ST)) = some r ∧ q.1 = r.1 ∧ RR q.2 r.2 ∧ cntF q.2 ≤ cntF σ := by
  by_cases p : P
  · rw [if_pos p, if_pos p]
    exact ⟨_, _, rfl, rfl, rfl, ⟨n, _, G, c_set C hi (by omega) (by omega) (hg p), m_set M hi (by omega) (hg p)⟩, cnt_e rfl⟩
  · rw [if_neg p, if_neg p]
    exact ⟨_, _, rfl, rfl, rfl, ⟨n, B, G, C, M⟩, Nat.le_refl _⟩
theorem m_alt (M : mM τ n B G) {i : Nat} (hi : i < n) {w : Nat} (hw : w < 3) {z : Int} (hz : r32 z) (P : Prop) [Decidable P] : kX3_alter_69 (τ, zi i, zi (w : Int), zi z, b2i (decide P)) = some (if P ∧ ¬ z = B i (4 + w) then (1, sI τ 1 0 (7 * i + (4 + w)) (zi z)) else (0, τ)) := by
  have hn := M.1.1
  obtain ⟨z1, z2⟩ := hz
  have b1 : -2147483648 ≤ B i (4 + w) ∧ B i (4 + w) < 2147483648 := by
    obtain ⟨g0, g1, g2, g3, ⟨g4, g4'⟩, ⟨g5, g5'⟩, ⟨g6, g6'⟩⟩ := M.1.2.1 i hi
    have : w = 0 ∨ w = 1 ∨ w = 2 := by omega
    rcases this with e | e | e <;> subst e <;> (constructor <;> (simp only [Nat.add_zero, Nat.reduceAdd]; omega))
  rw [ksX3_alter_69]
  unfold bkX3_alter_69
  by_cases p : P
  · rw [decide_eq_true p, if_neg (show ¬ b2i true = (0 : Int32) by decide)]
    have e1 : (4 : Int32) + zi (w : Int) = zi ((4 + w : Nat) : Int) := by
      rw [l4, zi_add, show ((4 + w : Nat) : Int) = 4 + (w : Int) by omega]
    rw [e1, m_of1 M hi (show 4 + w < 7 by omega), ob_s]
    simp (disch := omega) only [yeq, l7, l4, zi_mul, zi_add, inb_z, gdt, yN, sv_z]
    by_cases e : B i (4 + w) = z
    · rw [if_pos e, if_neg (fun k => k.2 e.symm)]
    · rw [if_neg e, if_pos ⟨p, fun k => e k.symm⟩, show (7 * (i : Int) + 4 + (w : Int)).toNat = 7 * i + (4 + w) by omega]
  · rw [decide_eq_false p, if_pos (show b2i false = (0 : Int32) by rfl), if_neg (fun k => p k.1)]
theorem c_alt (C : cC σ n B G) {i : Nat} (hi : i < n) {w : Nat} (hw : w < 3) {z : Int} (hz : r32 z) (P : Prop) [Decidable P] {f : Option Int32} (hf : f = some (b2i (decide P))) : ((if zi z = gI σ 2 (gP σ i) (4 + w) then (some ((0 : Int32), σ)) else (f.bind fun q_2 => if q_2 = (0 : Int32) then (some ((0 : Int32), σ)) else (sv (sI σ 2 (gP σ i) (4 + w) (zi z)) fun σ_4 => some ((1 : Int32), σ_4)))).bind fun q_6 => gd (zb q_6.1) (some (q_6.1, q_6.2))) = some (if P ∧ ¬ z = B i (4 + w) then (1, sI σ 2 (gP σ i) (4 + w) (zi z)) else (0, σ)) := by
  have D := C.1.2.2.2.2.2.2 i hi
  have b1 : -2147483648 ≤ B i (4 + w) ∧ B i (4 + w) < 2147483648 := by
    obtain ⟨g0, g1, g2, g3, ⟨g4, g4'⟩, ⟨g5, g5'⟩, ⟨g6, g6'⟩⟩ := D.1
    have : w = 0 ∨ w = 1 ∨ w = 2 := by omega
    rcases this with e | e | e <;> subst e <;> (constructor <;> (simp only [Nat.add_zero, Nat.reduceAdd]; omega))
  rw [D.2.1 (4 + w) (by omega), hf, ob_s]
  simp only [zi_eq hz b1, b2id0, sv_z]
  by_cases e : z = B i (4 + w)
  · rw [if_pos e, if_neg (fun k => k.2 e)]; rfl
  · rw [if_neg e]
    by_cases p : P
    · rw [if_neg (fun k => k p), if_pos ⟨p, e⟩]; rfl
    · rw [if_pos p, if_neg (fun k => p k.1)]; rfl
theorem p_alter {a1 a2 a3 : Int32} (h : RR σ τ) : ∃ q r, mX2_alter σ a1 a2 a3 = some q ∧ mX3_alter τ a1 a2 a3 = some r ∧ q.1 = r.1 ∧ RR q.2 r.2 ∧ cntF q.2 ≤ cntF σ := by
  obtain ⟨n, B, G, C, M⟩ := h
  have M' : mM (sI τ 0 0 10 0) n B G := mM_10 M
  have hn := M.1.1
  unfold mX2_alter mX3_alter
  rw [sv_z]
  generalize sI τ 0 0 10 0 = τ' at M' ⊢
  have RN : RR σ τ' := ⟨n, B, G, C, M'⟩
  obtain ⟨z1, h1, rfl⟩ := zi_ex a1
  obtain ⟨z2, h2, rfl⟩ := zi_ex a2
  obtain ⟨z3, h3, rfl⟩ := zi_ex a3
  have y3 := h2.1
  have y4 := h2.2
  have y5 := h3.1
  have y6 := h3.2
  simp only [c_has C h1, m_isBond M' h1, ob_s, b2i0]
  by_cases c : 0 ≤ z1 ∧ z1 < n
  · obtain ⟨i, hi, rfl⟩ := in_b h1 hn c
    obtain ⟨g0, g1, g2, g3, ⟨g4, g4'⟩, ⟨g5, g5'⟩, ⟨g6, g6'⟩⟩ := C.1.1.2.1 i hi
    have m1 : mX3_isIn (zi z2).toInt64 0 2 = some (b2i (decide (0 ≤ z2 ∧ z2 ≤ 2))) := by
      rw [yL y3 y4, L0, L2, m_isIn (by omega) (by omega) (by omega) (by omega) (by omega) (by omega)]
    have m2 : mX3_isIn (zi z3).toInt64 (-200) 200 = some (b2i (decide (-200 ≤ z3 ∧ z3 ≤ 200))) := by
      rw [yL y5 y6, L200, zl_neg, m_isIn (by omega) (by omega) (by omega) (by omega) (by omega) (by omega)]
    have m3 : mX3_isIn (zi z3).toInt64 0 99 = some (b2i (decide (0 ≤ z3 ∧ z3 ≤ 99))) := by
      rw [yL y5 y6, L0, L99, m_isIn (by omega) (by omega) (by omega) (by omega) (by omega) (by omega)]
    have m4 : mX3_isIn (zi z3).toInt64 0 1 = some (b2i (decide (0 ≤ z3 ∧ z3 ≤ 1))) := by
      rw [yL y5 y6, L0, L1, m_isIn (by omega) (by omega) (by omega) (by omega) (by omega) (by omega)]
    have k2 : mX2_within (zi z3) (-200) 200 = some (b2i (decide (-200 ≤ z3 ∧ z3 ≤ 200))) := by
      rw [l200, zi_neg, c_wi (by omega) (by omega) (by omega) (by omega) (by omega) (by omega)]
    have k3 : mX2_within (zi z3) 0 99 = some (b2i (decide (0 ≤ z3 ∧ z3 ≤ 99))) := by
      rw [l0, l99, c_wi (by omega) (by omega) (by omega) (by omega) (by omega) (by omega)]
    have k4 : mX2_within (zi z3) 0 1 = some (b2i (decide (0 ≤ z3 ∧ z3 ≤ 1))) := by
      rw [l0, l1, c_wi (by omega) (by omega) (by omega) (by omega) (by omega) (by omega)]
    simp (disch := omega) only [decide_eq_true c, inb_z, gdt, yN, Int.toNat_natCast, c_pl C.1 hi, decide_true, m1, m2, m3, m4, ob_s]
    have tf : (true = false) = False := by simp
    simp only [tf, if_false, b2id0]
    by_cases w0 : z2 = 0
    · subst w0
      have f1 := c_alt C hi (w := 0) (by omega) h3 _ k2
      have f2 := m_alt M' hi (w := 0) (by omega) h3 (-200 ≤ z3 ∧ z3 ≤ 200)
      have f1 : ((mX0_changeSpread σ (gP σ i) (zi z3)).bind fun q_6 => gd (zb q_6.1) (some (q_6.1, q_6.2))) = _ := f1
      have f2 : kX3_alter_69 (τ', zi i, zi 0, zi z3, b2i (decide (-200 ≤ z3 ∧ z3 ≤ 200))) = _ := f2
      rw [if_pos (show zi 0 = (0 : Int32) from rfl), if_neg (show ¬ ¬ ((0 : Int) ≤ 0 ∧ (0 : Int) ≤ 2) by omega), if_pos (show zi 0 = (0 : Int32) from rfl), f1, f2]
      refine alt_fin C M' hi (w := 0) (by omega) (fun hp => ?_)
      refine ⟨by rw [upB_n (by omega)]; exact g0, by rw [upB_n (by omega)]; exact g1, by rw [upB_n (by omega)]; exact g2, ?_, by rw [upB_y]; exact hp.1, by rw [upB_n (by omega)]; exact ⟨g5, g5'⟩, by rw [upB_n (by omega)]; exact ⟨g6, g6'⟩⟩
      rw [upB_n (by omega), upB_n (by omega), upB_n (by omega)]; exact g3
    have w0' : ¬ zi z2 = (0 : Int32) := by rw [l0, yeq (by omega) (by omega) (by omega) (by omega)]; exact w0
    by_cases w1 : z2 = 1
    · subst w1
      have f1 := c_alt C hi (w := 1) (by omega) h3 _ k3
      have f2 := m_alt M' hi (w := 1) (by omega) h3 (0 ≤ z3 ∧ z3 ≤ 99)
      have f1 : ((mX0_changeStock σ (gP σ i) (zi z3)).bind fun q_6 => gd (zb q_6.1) (some (q_6.1, q_6.2))) = _ := f1
      have f2 : kX3_alter_69 (τ', zi i, zi 1, zi z3, b2i (decide (0 ≤ z3 ∧ z3 ≤ 99))) = _ := f2
      rw [if_neg w0', if_pos (show zi 1 = (1 : Int32) from rfl), if_neg (show ¬ ¬ ((0 : Int) ≤ 1 ∧ (1 : Int) ≤ 2) by omega), if_neg w0', if_pos (show zi 1 = (1 : Int32) from rfl), f1, f2]
      refine alt_fin C M' hi (w := 1) (by omega) (fun hp => ?_)
      refine ⟨by rw [upB_n (by omega)]; exact g0, by rw [upB_n (by omega)]; exact g1, by rw [upB_n (by omega)]; exact g2, ?_, by rw [upB_n (by omega)]; exact ⟨g4, g4'⟩, by rw [upB_y]; exact hp.1, by rw [upB_n (by omega)]; exact ⟨g6, g6'⟩⟩
      rw [upB_n (by omega), upB_n (by omega), upB_n (by omega)]; exact g3
    have w1' : ¬ zi z2 = (1 : Int32) := by rw [l1, yeq (by omega) (by omega) (by omega) (by omega)]; exact w1
    by_cases w2 : z2 = 2
    · subst w2
      have f1 := c_alt C hi (w := 2) (by omega) h3 _ k4
      have f2 := m_alt M' hi (w := 2) (by omega) h3 (0 ≤ z3 ∧ z3 ≤ 1)
      have f1 : ((mX0_changeBarred σ (gP σ i) (zi z3)).bind fun q_6 => gd (zb q_6.1) (some (q_6.1, q_6.2))) = _ := f1
      have f2 : kX3_alter_69 (τ', zi i, zi 2, zi z3, b2i (decide (0 ≤ z3 ∧ z3 ≤ 1))) = _ := f2
      rw [if_neg w0', if_neg w1', if_pos (show zi 2 = (2 : Int32) from rfl), if_neg (show ¬ ¬ ((0 : Int) ≤ 2 ∧ (2 : Int) ≤ 2) by omega), if_neg w0', if_neg w1', f1, f2]
      refine alt_fin C M' hi (w := 2) (by omega) (fun hp => ?_)
      refine ⟨by rw [upB_n (by omega)]; exact g0, by rw [upB_n (by omega)]; exact g1, by rw [upB_n (by omega)]; exact g2, ?_, by rw [upB_n (by omega)]; exact ⟨g4, g4'⟩, by rw [upB_n (by omega)]; exact ⟨g5, g5'⟩, by rw [upB_y]; exact hp.1⟩
      rw [upB_n (by omega), upB_n (by omega), upB_n (by omega)]; exact g3
    have w2' : ¬ zi z2 = (2 : Int32) := by rw [l2, yeq (by omega) (by omega) (by omega) (by omega)]; exact w2
    rw [if_neg w0', if_neg w1', if_neg w2', if_pos (show ¬ (0 ≤ z2 ∧ z2 ≤ 2) by omega)]
    exact ⟨_, _, rfl, rfl, rfl, RN, Nat.le_refl _⟩
  · simp only [decide_eq_false c]
    exact ⟨_, _, rfl, rfl, rfl, RN, Nat.le_refl _⟩
end P2

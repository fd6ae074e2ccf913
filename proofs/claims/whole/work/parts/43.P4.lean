/-! A NEW BOND, A BOND THAT GOES -/
section P4
variable {σ τ : ST} {n : Nat} {B : Nat → Nat → Int} {G : Nat → Int}
def owE (b : Nat → Int) (p : Int) : Int := if p ≤ b 2 then owZ b p else 0
theorem owE_s {b : Nat → Int} (g : gdB b) {p : Int} (h2 : p ≤ b 2) : owE b (p + 1) = owE b p - bkZ b p := by
  unfold owE
  rw [if_pos h2]
  by_cases c : p = b 2
  · rw [if_neg (by omega)]
    unfold bkZ; rw [if_pos c]; omega
  · rw [if_pos (by omega)]; exact owZ_s g (by omega)
theorem c_paid {k : Nat} {b : Nat → Int} (g : gdB b) (f0 : gI σ 2 k 0 = zi (b 0)) (f2 : gI σ 2 k 2 = zi (b 2)) (f3 : gI σ 2 k 3 = zi (b 3)) {p : Int} (h1 : 1 ≤ p) (h2 : p ≤ b 2) : mX0_paidBack σ k (zi p) (zi (owZ b p)) = some (zi (bkZ b p)) := by
  obtain ⟨⟨g0, g0'⟩, g1, ⟨g2, g2'⟩, ⟨g3, g3', g3''⟩, _⟩ := g
  unfold mX0_paidBack bkZ
  rw [f0, f2, f3]
  simp (disch := omega) only [l0, l2, l100000000, yeq, yle, zi_sub]
  by_cases c : p = b 2
  · simp only [if_pos c]
  · simp only [if_neg c]
    by_cases d : b 0 = 2
    · have := g3'' d
      simp only [if_pos d]
      rw [if_neg (by omega)]
      by_cases e : p ≤ b 2 - b 3
      · simp only [if_pos e]
      · simp only [if_neg e]
        simp (disch := omega) only [nzi_z, gdt, ydv]
    · simp only [if_neg d]
theorem c_coup {k : Nat} {b : Nat → Int} (g : gdB b) (f0 : gI σ 2 k 0 = zi (b 0)) (f1 : gI σ 2 k 1 = zi (b 1)) (f3 : gI σ 2 k 3 = zi (b 3)) {p : Int} : mX0_couponIn σ k (zi p) = some (zi (cpZ b p)) := by
  obtain ⟨⟨g0, g0'⟩, _⟩ := g
  unfold mX0_couponIn cpZ
  rw [f0, f1, f3]
  simp (disch := omega) only [l1, yeq, zi_sub, zi_mul, zi_add]
  by_cases c : b 0 = 1
  · simp only [if_pos c]; rw [Int.mul_comm]
  · simp only [if_neg c, Int.add_zero]
theorem c_flowsL {k : Nat} (hk : k < 8) {b : Nat → Int} (g : gdB b) : ∀ (j p : Nat) (σ : ST) (fuel : Nat), gI σ 2 k 0 = zi (b 0) → gI σ 2 k 1 = zi (b 1) → gI σ 2 k 2 = zi (b 2) → gI σ 2 k 3 = zi (b 3) → 1 ≤ p → (p : Int) + j = b 2 + 1 → (∀ q : Nat, 1 ≤ q → q < p → gI σ 3 k q = zi (flZ b q)) → j < fuel → ∃ σ', kX0_layFlows_5 fuel (σ, k, zi (owE b p), zi p) = some σ' ∧ (∀ t, t ≠ 3 → gI σ' t = gI σ t) ∧ (∀ k', k' ≠ k → gI σ' 3 k' = gI σ 3 k') ∧ gP σ' = gP σ ∧ gW σ' = gW σ ∧ ∀ q : Nat, 1 ≤ q → (q : Int) ≤ b 2 → gI σ' 3 k q = zi (flZ b q)
  | 0, p, σ, fuel, f0, f1, f2, f3, h1, hij, hq, hf => by
    obtain ⟨fu, rfl⟩ : ∃ f, fuel = f + 1 := ⟨fuel - 1, by omega⟩
    have g2 := g.2.2.1
    refine ⟨σ, ?_, fun _ _ => rfl, fun _ _ => rfl, rfl, rfl, fun q h1 h2 => hq q h1 (by omega)⟩
    rw [ksX0_layFlows_5]
    unfold bkX0_layFlows_5
    rw [f2]
    simp (disch := omega) only [hk, decide_true, gdt, ylt]
    rw [if_pos (by omega)]
  | j + 1, p, σ, fuel, f0, f1, f2, f3, h1, hij, hq, hf => by
    obtain ⟨fu, rfl⟩ : ∃ f, fuel = f + 1 := ⟨fuel - 1, by omega⟩
    have g2 := g.2.2.1
    have ow := owZ_b g (p := p) (by omega) (by omega)
    have cb := cpZ_b g (p := p) (by omega)
    have co := coZ_b g (p := p) (by omega) (by omega)
    have bb := bkZ_b g (p := p) (by omega) (by omega)
    have oe : owE b p = owZ b p := by unfold owE; rw [if_pos (by omega)]
    obtain ⟨σ', e, a1, a2, a3, a4, a5⟩ := c_flowsL hk g j (p + 1) (sI σ 3 k p (zi (flZ b p))) fu f0 f1 f2 f3 (by omega) (by omega) (fun q q1 q2 => by
      rw [gI_sI]
      by_cases c : q = p
      · subst c; rw [if_pos ⟨rfl, rfl, rfl⟩]
      · rw [if_neg (by omega)]; exact hq q q1 (by omega)) (by omega)
    refine ⟨σ', ?_, fun t ht => (a1 t ht).trans (gI_nt ht), fun k' hk' => (a2 k' hk').trans (gI_ni hk'), a3, a4, a5⟩
    rw [← e, ksX0_layFlows_5]
    unfold bkX0_layFlows_5
    have pd := c_paid (σ := σ) (k := k) g f0 f2 f3 (p := p) (by omega) (by omega)
    have cp := c_coup (σ := σ) (k := k) g f0 f1 f3 (p := p)
    rw [f2, oe, pd, cp]
    simp (disch := omega) only [hk, decide_true, gdt, ylt, yle, l41, ob_s, inb_z, yN, Int.toNat_natCast, sv_z, yL, zl_mul, L10000, wdv, zl_I, zi_add, zi_sub, l1]
    rw [if_neg (by omega), if_neg (by omega)]
    have := owE_s g (p := p) (by omega)
    rw [show ((p + 1 : Nat) : Int) = (p : Int) + 1 by omega, this, oe]
    rfl
def nwB (k c p e s : Int) : Nat → Int := fun j => if j = 0 then k else if j = 1 then c else if j = 2 then p else if j = 3 then e else if j = 4 then s else 0
theorem nwB_g {k c p e s : Int} (h : canB k c p e) (hs : -200 ≤ s ∧ s ≤ 200) : gdB (nwB k c p e s) := by
  unfold canB at h
  show (0 ≤ k ∧ k ≤ 3) ∧ (0 ≤ c ∧ c ≤ 2000) ∧ (1 ≤ p ∧ p ≤ 40) ∧ (0 ≤ e ∧ e ≤ 100 ∧ (k = 2 → 1 ≤ e ∧ e ≤ p)) ∧ (-200 ≤ s ∧ s ≤ 200) ∧ ((0 : Int) ≤ 0 ∧ (0 : Int) ≤ 99) ∧ ((0 : Int) ≤ 0 ∧ (0 : Int) ≤ 1)
  omega
theorem c_become {k0 : Nat} (hk : k0 < 8) {k c p e s : Int} (g : gdB (nwB k c p e s)) : ∃ σ', mX0_become σ k0 (zi k) (zi c) (zi p) (zi e) (zi s) = some σ' ∧ gI σ' 0 = gI σ 0 ∧ gI σ' 1 = gI σ 1 ∧ gP σ' = gP σ ∧ gW σ' = gW σ ∧ bD σ' k0 (nwB k c p e s) ∧ (∀ k' b', k' ≠ k0 → bD σ k' b' → bD σ' k' b') ∧ ∀ k', k' ≠ k0 → gI σ' 2 k' = gI σ 2 k' := by
  have g2 : 1 ≤ p ∧ p ≤ 40 := g.2.2.1
  obtain ⟨σ1, e1, a1, a2, a3, a4, a5⟩ := c_flowsL hk g p.toNat 1 (sI (sI (sI (sI (sI (sI (sI σ 2 k0 0 (zi k)) 2 k0 1 (zi c)) 2 k0 2 (zi p)) 2 k0 3 (zi e)) 2 k0 4 (zi s)) 2 k0 5 0) 2 k0 6 0) FU (by simp [gI_sI, nwB]) (by simp [gI_sI, nwB]) (by simp [gI_sI, nwB]) (by simp [gI_sI, nwB]) (by omega) (by show ((1 : Nat) : Int) + (p.toNat : Int) = p + 1; omega) (fun q h1 h2 => by omega) (by unfold FU; omega)
  have ho : owE (nwB k c p e s) ((1 : Nat) : Int) = 100000000 := by
    have g3 : 0 ≤ e ∧ e ≤ 100 ∧ (k = 2 → 1 ≤ e ∧ e ≤ p) := g.2.2.2.1
    show (if (1 : Int) ≤ p then (if k = 2 then (if 0 < ((1 : Int) - 1) - (p - e) then 100000000 - (((1 : Int) - 1) - (p - e)) * (100000000 / e) else 100000000) else 100000000) else 0) = 100000000
    rw [if_pos (by omega)]
    by_cases d : k = 2
    · rw [if_pos d, if_neg (by have := g3.2.2 d; omega)]
    · rw [if_neg d]
  rw [ho] at e1
  have e1 : mX0_layFlows (sI (sI (sI (sI (sI (sI (sI σ 2 k0 0 (zi k)) 2 k0 1 (zi c)) 2 k0 2 (zi p)) 2 k0 3 (zi e)) 2 k0 4 (zi s)) 2 k0 5 0) 2 k0 6 0) k0 = some σ1 := e1
  have fld : ∀ j, j < 7 → gI σ1 2 k0 j = zi (nwB k c p e s j) := by
    intro j hj
    rw [a1 2 (by omega)]
    have : j = 0 ∨ j = 1 ∨ j = 2 ∨ j = 3 ∨ j = 4 ∨ j = 5 ∨ j = 6 := by omega
    rcases this with q | q | q | q | q | q | q <;> subst q <;> simp [gI_sI, nwB] <;> rfl
  have oth : ∀ k', k' ≠ k0 → gI σ1 2 k' = gI σ 2 k' := by
    intro k' hk'
    rw [a1 2 (by omega), gI_ni hk', gI_ni hk', gI_ni hk', gI_ni hk', gI_ni hk', gI_ni hk', gI_ni hk']
  have tg : ∀ t, t ≠ 2 → t ≠ 3 → gI σ1 t = gI σ t := by
    intro t h2 h3
    rw [a1 t h3, gI_nt h2, gI_nt h2, gI_nt h2, gI_nt h2, gI_nt h2, gI_nt h2, gI_nt h2]
  have t3 : ∀ k', k' ≠ k0 → gI σ1 3 k' = gI σ 3 k' := by
    intro k' hk'
    rw [a2 k' hk', gI_nt (by omega), gI_nt (by omega), gI_nt (by omega), gI_nt (by omega), gI_nt (by omega), gI_nt (by omega), gI_nt (by omega)]
  unfold mX0_become
  simp only [sv_z, e1, ob_s]
  by_cases w : gW σ1 k0 = true
  · rw [if_pos w]
    refine ⟨_, rfl, ?_, ?_, a3, a4, ⟨g, ?_, ?_, ?_⟩, ?_, ?_⟩
    · rw [gI_Rnt (by omega)]; exact tg 0 (by omega) (by omega)
    · rw [gI_Rnt (by omega)]; exact tg 1 (by omega) (by omega)
    · intro j hj; rw [gI_Rnt (by omega)]; exact fld j hj
    · intro q q1 q2; rw [gI_Rnt (by omega)]; exact a5 q q1 q2
    · intro _ r _; rw [gI_Rat]; exact Or.inl rfl
    · intro k' b' hk' D
      obtain ⟨D1, D2, D3, D4⟩ := D
      refine ⟨D1, fun j hj => ?_, fun q q1 q2 => ?_, fun w' r hr => ?_⟩
      · rw [gI_Rnt (by omega), oth k' hk']; exact D2 j hj
      · rw [gI_Rnt (by omega), t3 k' hk']; exact D3 q q1 q2
      · rw [gI_Rni hk', tg 10 (by omega) (by omega)]
        exact D4 (by rw [gW_sR, a4] at w'; exact w') r hr
    · intro k' hk'; rw [gI_Rnt (by omega)]; exact oth k' hk'
  · rw [if_neg w]
    refine ⟨_, rfl, tg 0 (by omega) (by omega), tg 1 (by omega) (by omega), a3, a4, ⟨g, fld, a5, fun k => absurd k w⟩, ?_, oth⟩
    intro k' b' hk' D
    obtain ⟨D1, D2, D3, D4⟩ := D
    refine ⟨D1, fun j hj => ?_, fun q q1 q2 => ?_, fun w' r hr => ?_⟩
    · rw [oth k' hk']; exact D2 j hj
    · rw [t3 k' hk']; exact D3 q q1 q2
    · rw [tg 10 (by omega) (by omega)]
      exact D4 (by rw [a4] at w'; exact w') r hr
def apB (B : Nat → Nat → Int) (n : Nat) (b : Nat → Int) : Nat → Nat → Int := fun i => if i = n then b else B i
theorem apB_y {b : Nat → Int} : apB B n b n = b := by unfold apB; rw [if_pos rfl]
theorem apB_n {b : Nat → Int} {i : Nat} (h : i < n) : apB B n b i = B i := by unfold apB; rw [if_neg (by omega)]
theorem okS_ap (S : okS n B G) (hn : n < 8) {b : Nat → Int} (g : gdB b) : okS (n + 1) (apB B n b) G := by
  refine ⟨by omega, fun i hi => ?_, S.2.2⟩
  by_cases c : i = n
  · subst c; rw [apB_y]; exact g
  · rw [apB_n (by omega)]; exact S.2.1 i (by omega)
theorem m_app (M : mM τ n B G) (hn : n < 8) {k c p e s : Int} (g : gdB (nwB k c p e s)) : mM (sI (sI (sI (sI (sI (sI (sI (sI τ 1 0 (7 * n + 0) (zi k)) 1 0 (7 * n + 1) (zi c)) 1 0 (7 * n + 2) (zi p)) 1 0 (7 * n + 3) (zi e)) 1 0 (7 * n + 4) (zi s)) 1 0 (7 * n + 5) 0) 1 0 (7 * n + 6) 0) 0 0 1 (zi (n + 1 : Nat))) (n + 1) (apB B n (nwB k c p e s)) G := by
  obtain ⟨a, b, cc, d⟩ := M
  refine ⟨okS_ap a hn g, ?_, ?_, fun i j hi hj => ?_⟩
  · rw [gI_sI, if_pos ⟨rfl, rfl, rfl⟩]
  · simp only [gI_sI]; exact cc
  · by_cases q : i = n
    · subst q
      rw [apB_y]
      have : j = 0 ∨ j = 1 ∨ j = 2 ∨ j = 3 ∨ j = 4 ∨ j = 5 ∨ j = 6 := by omega
      rcases this with q | q | q | q | q | q | q <;> subst q <;> simp [gI_sI, nwB] <;> rfl
    · rw [apB_n (by omega), gI_sI, if_neg (by omega), gI_sI, if_neg (by omega), gI_sI, if_neg (by omega), gI_sI, if_neg (by omega), gI_sI, if_neg (by omega), gI_sI, if_neg (by omega), gI_sI, if_neg (by omega), gI_sI, if_neg (by omega)]
      exact d i j (by omega) hj
theorem t01 {σ : ST} {i j : Nat} {v : Int32} : gI (sI σ 1 i j v) 0 = gI σ 0 := gI_nt (by decide)
theorem m_bondG (M : mM τ n B G) (hn : n < 8) {k c p e s : Int} : (gd (inb (((7 : Int32) * (gI τ 0 0 1)) + (0 : Int32)) 56) (sv (sI τ 1 0 (Int32.toNatClampNeg (((7 : Int32) * (gI τ 0 0 1)) + (0 : Int32))) (zi k)) fun σ_6 => gd (inb (((7 : Int32) * (gI τ 0 0 1)) + (1 : Int32)) 56) (sv (sI σ_6 1 0 (Int32.toNatClampNeg (((7 : Int32) * (gI τ 0 0 1)) + (1 : Int32))) (zi c)) fun σ_8 => gd (inb (((7 : Int32) * (gI τ 0 0 1)) + (2 : Int32)) 56) (sv (sI σ_8 1 0 (Int32.toNatClampNeg (((7 : Int32) * (gI τ 0 0 1)) + (2 : Int32))) (zi p)) fun σ_10 => gd (inb (((7 : Int32) * (gI τ 0 0 1)) + (3 : Int32)) 56) (sv (sI σ_10 1 0 (Int32.toNatClampNeg (((7 : Int32) * (gI τ 0 0 1)) + (3 : Int32))) (zi e)) fun σ_12 => gd (inb (((7 : Int32) * (gI τ 0 0 1)) + (4 : Int32)) 56) (sv (sI σ_12 1 0 (Int32.toNatClampNeg (((7 : Int32) * (gI τ 0 0 1)) + (4 : Int32))) (zi s)) fun σ_14 => gd (inb (((7 : Int32) * (gI τ 0 0 1)) + (5 : Int32)) 56) (sv (sI σ_14 1 0 (Int32.toNatClampNeg (((7 : Int32) * (gI τ 0 0 1)) + (5 : Int32))) (0 : Int32)) fun σ_16 => gd (inb (((7 : Int32) * (gI τ 0 0 1)) + (6 : Int32)) 56) (sv (sI σ_16 1 0 (Int32.toNatClampNeg (((7 : Int32) * (gI τ 0 0 1)) + (6 : Int32))) (0 : Int32)) fun σ_18 => sv (sI σ_18 0 0 1 ((gI σ_18 0 0 1) + (1 : Int32))) fun σ_19 => some (((gI σ_19 0 0 1) - (1 : Int32)), σ_19)))))))) : Option (Int32 × ST)) = some (zi n, sI (sI (sI (sI (sI (sI (sI (sI τ 1 0 (7 * n + 0) (zi k)) 1 0 (7 * n + 1) (zi c)) 1 0 (7 * n + 2) (zi p)) 1 0 (7 * n + 3) (zi e)) 1 0 (7 * n + 4) (zi s)) 1 0 (7 * n + 5) 0) 1 0 (7 * n + 6) 0) 0 0 1 (zi (n + 1 : Nat))) := by
  rw [M.2.1]
  have i0 : ∀ q : Nat, q < 7 → inb ((7 : Int32) * zi n + zi q) 56 = true ∧ Int32.toNatClampNeg ((7 : Int32) * zi n + zi q) = 7 * n + q := by
    intro q hq
    rw [l7, zi_mul, zi_add]
    refine ⟨inb_z (by omega) (by omega) (by omega), ?_⟩
    rw [yN (by omega) (by omega)]; omega
  have j0 := i0 0 (by omega)
  have j1 := i0 1 (by omega)
  have j2 := i0 2 (by omega)
  have j3 := i0 3 (by omega)
  have j4 := i0 4 (by omega)
  have j5 := i0 5 (by omega)
  have j6 := i0 6 (by omega)
  have k0 : inb ((7 : Int32) * zi n + 0) 56 = true ∧ Int32.toNatClampNeg ((7 : Int32) * zi n + 0) = 7 * n + 0 := j0
  have k1 : inb ((7 : Int32) * zi n + 1) 56 = true ∧ Int32.toNatClampNeg ((7 : Int32) * zi n + 1) = 7 * n + 1 := j1
  have k2 : inb ((7 : Int32) * zi n + 2) 56 = true ∧ Int32.toNatClampNeg ((7 : Int32) * zi n + 2) = 7 * n + 2 := j2
  have k3 : inb ((7 : Int32) * zi n + 3) 56 = true ∧ Int32.toNatClampNeg ((7 : Int32) * zi n + 3) = 7 * n + 3 := j3
  have k4 : inb ((7 : Int32) * zi n + 4) 56 = true ∧ Int32.toNatClampNeg ((7 : Int32) * zi n + 4) = 7 * n + 4 := j4
  have k5 : inb ((7 : Int32) * zi n + 5) 56 = true ∧ Int32.toNatClampNeg ((7 : Int32) * zi n + 5) = 7 * n + 5 := j5
  have k6 : inb ((7 : Int32) * zi n + 6) 56 = true ∧ Int32.toNatClampNeg ((7 : Int32) * zi n + 6) = 7 * n + 6 := j6
  simp only [k0.1, k0.2, k1.1, k1.2, k2.1, k2.2, k3.1, k3.2, k4.1, k4.2, k5.1, k5.2, k6.1, k6.2, gdt, sv_z, t01, M.2.1]
  have e1 : zi n + (1 : Int32) = zi (n + 1 : Nat) := by rw [l1, zi_add]; rfl
  rw [e1]
  congr 2
  show zi (n + 1 : Nat) - 1 = zi n
  rw [l1, zi_sub]; congr 1; omega
theorem p_bond {a1 a2 a3 a4 a5 : Int32} (h : RR σ τ) : ∃ q r, mX2_bond σ a1 a2 a3 a4 a5 = some q ∧ mX3_bond τ a1 a2 a3 a4 a5 = some r ∧ q.1 = r.1 ∧ RR q.2 r.2 ∧ cntF q.2 ≤ cntF σ := by
  obtain ⟨n, B, G, C, M⟩ := h
  have M' : mM (sI τ 0 0 10 0) n B G := mM_10 M
  have hn := M.1.1
  unfold mX2_bond mX3_bond
  rw [sv_z]
  generalize sI τ 0 0 10 0 = τ' at M' ⊢
  have RN : RR σ τ' := ⟨n, B, G, C, M'⟩
  obtain ⟨z1, h1, rfl⟩ := zi_ex a1
  obtain ⟨z2, h2, rfl⟩ := zi_ex a2
  obtain ⟨z3, h3, rfl⟩ := zi_ex a3
  obtain ⟨z4, h4, rfl⟩ := zi_ex a4
  obtain ⟨z5, h5, rfl⟩ := zi_ex a5
  have c5 := h5.1
  have c5' := h5.2
  have k5 : mX2_within (zi z5) (-200) 200 = some (b2i (decide (-200 ≤ z5 ∧ z5 ≤ 200))) := by
    rw [l200, zi_neg, c_wi (by omega) (by omega) (by omega) (by omega) (by omega) (by omega)]
  have q8 : ((8 : Int32) ≤ gI σ 0 0 1) ↔ n = 8 := by
    rw [C.1.2.2.1, l8, yle (by omega) (by omega) (by omega) (by omega)]; omega
  have r8 : (gI τ' 0 0 1 = (8 : Int32)) ↔ n = 8 := by
    rw [M'.2.1, l8, yeq (by omega) (by omega) (by omega) (by omega)]; omega
  simp only [q8, r8, k5, ob_s, b2id0]
  by_cases n8 : n = 8
  · simp only [if_pos n8]
    exact ⟨_, _, rfl, rfl, rfl, RN, Nat.le_refl _⟩
  simp only [if_neg n8]
  rcases m_isGood h1 h2 h3 h4 h5 with ⟨eg, gg⟩ | ⟨eg, gg⟩
  · rcases c_canBe h1 h2 h3 h4 with ⟨ec, gc⟩ | ⟨ec, gc⟩
    case inr => exact absurd gg.1 gc
    have hg := nwB_g gc gg.2
    rw [eg, ec]
    simp only [ob_s, if_neg (not_not_intro gg.2)]
    rw [if_neg (show ¬ (1 : Int32) = 0 by decide), if_neg (show ¬ (1 : Int32) = 0 by decide), m_bondG M' (by omega), C.1.2.2.1]
    have pl : gP σ n < 8 := C.1.2.2.2.2.2.1.1 n (by omega)
    obtain ⟨σ1, e1, a0, a1, aP, aW, aD, aO, aF⟩ := c_become (σ := σ) pl hg
    have g0 := C.1.1.2.2.1
    obtain ⟨σ2, e2, E2, D2, O2⟩ := c_worthAt pl aD (r := G 0) g0.1 (by omega)
    have wb := woZ_b hg g0.1
    have gn : gI σ1 0 0 2 = zi (G 0) := by rw [a0]; exact C.1.2.2.2.1.1
    have f1 : mX0_factorBy σ1 (gP σ n) (zi (G 0)) = some (sI σ2 2 (gP σ n) 7 (zi (faZ (nwB z1 z2 z3 z4 z5) (G 0)))) := by
      unfold mX0_factorBy faZ
      simp (disch := omega) only [e2, ob_s, l10000, ydv, sv_z]
    have sz : gI (sI σ2 2 (gP σ n) 7 (zi (faZ (nwB z1 z2 z3 z4 z5) (G 0)))) 0 0 1 = zi n := by
      rw [gI_nt (by decide), E2.1 0 (by decide), a0]; exact C.1.2.2.1
    simp (disch := omega) only [inb_z, gdt, yN, Int.toNat_natCast, pl, decide_true, e1, ob_s, gn, f1, sv_z]
    have e3 : zi n + (1 : Int32) = zi (n + 1 : Nat) := by rw [l1, zi_add]; rfl
    rw [sz, e3]
    have cc : cC (sI (sI σ2 2 (gP σ n) 7 (zi (faZ (nwB z1 z2 z3 z4 z5) (G 0)))) 0 0 1 (zi (n + 1 : Nat))) (n + 1) (apB B n (nwB z1 z2 z3 z4 z5)) G := by
      obtain ⟨⟨a, b, c, d, e, f, gg'⟩, hh⟩ := C
      have gP' : gP σ2 = gP σ := E2.2.2.1.trans aP
      have ne : ∀ i, i < n → gP σ i ≠ gP σ n := fun i hi k => by
        have := f.2 i n (by omega) (by omega) k; omega
      refine ⟨⟨okS_ap a (by omega) hg, b, ?_, ?_, ?_, ?_, fun i hi => ?_⟩, fun i hi => ?_⟩
      · rw [gI_sI, if_pos ⟨rfl, rfl, rfl⟩]
      · simp only [gI_sI]
        rw [E2.1 0 (by decide), a0]; exact d
      · have t : gI (sI (sI σ2 2 (gP σ n) 7 (zi (faZ (nwB z1 z2 z3 z4 z5) (G 0)))) 0 0 1 (zi (n + 1 : Nat))) 1 = gI σ 1 := by
          rw [gI_nt (by decide), gI_nt (by decide), E2.1 1 (by decide), a1]
        rw [t]; exact e
      · change (∀ i, i < 8 → gP σ2 i < 8) ∧ ∀ i j, i < 8 → j < 8 → gP σ2 i = gP σ2 j → i = j
        rw [gP']; exact f
      · change bD _ (gP σ2 i) _
        rw [gP']
        have fr : ∀ k b, bD σ2 k b → bD (sI (sI σ2 2 (gP σ n) 7 (zi (faZ (nwB z1 z2 z3 z4 z5) (G 0)))) 0 0 1 (zi (n + 1 : Nat))) k b := by
          intro k b D
          obtain ⟨D1, D2, D3, D4⟩ := D
          refine ⟨D1, fun j hj => ?_, D3, D4⟩
          rw [gI_nt (by decide), gI_sI, if_neg (by omega)]; exact D2 j hj
        by_cases q : i = n
        · subst q; rw [apB_y]; exact fr _ _ D2
        · rw [apB_n (by omega)]
          exact fr _ _ (O2 _ _ (ne i (by omega)) (aO _ _ (ne i (by omega)) (gg' i (by omega))))
      · change gI _ 2 (gP σ2 i) 7 = _
        rw [gP', gI_nt (by decide), gI_sI]
        by_cases q : i = n
        · subst q; rw [if_pos ⟨rfl, rfl, rfl⟩, apB_y]
        · rw [if_neg (fun k => ne i (by omega) k.2.1), apB_n (by omega), E2.1 2 (by decide), aF _ (ne i (by omega))]
          exact hh i (by omega)
    refine ⟨_, _, rfl, rfl, ?_, ⟨n + 1, _, G, cc, m_app M' (by omega) hg⟩, cnt_e (E2.2.2.2.trans aW)⟩
    show zi (n + 1 : Nat) - 1 = zi n
    rw [l1, zi_sub]; congr 1; omega
  · rw [eg]
    by_cases s5 : -200 ≤ z5 ∧ z5 ≤ 200
    · simp only [if_neg (not_not_intro s5)]
      rcases c_canBe h1 h2 h3 h4 with ⟨ec, gc⟩ | ⟨ec, gc⟩
      · exact absurd ⟨gc, s5⟩ gg
      · rw [ec]
        exact ⟨_, _, rfl, rfl, rfl, RN, Nat.le_refl _⟩
    · simp only [if_pos s5]
      exact ⟨_, _, rfl, rfl, rfl, RN, Nat.le_refl _⟩
end P4

/-! THE TREE ROLLED BACK: the class -/
section P9
variable {σ τ : ST} {n : Nat} {B : Nat → Nat → Int} {G : Nat → Int} {nw pk : Int → Int} {may : Bool} {last : Nat}
def lvl (σ : ST) (G : Nat → Int) (nw pk : Int → Int) : Prop := ∀ l : Nat, (l : Int) ≤ 2 * G 3 → gI σ 8 0 l = zi (pk ((l : Int) - G 3)) ∧ gJ σ 2 0 l = zl (nw ((l : Int) - G 3))
def row (σ : ST) (V A : Int → Int) (d : Nat) : Prop := ∀ u : Nat, u ≤ d → gJ σ 1 d u = zl (V u) ∧ gI σ 6 d u = zi (A u)
theorem c_deliver (C : cC σ n B G) (L : lvl σ G nw pk) {d u : Nat} (hu : u ≤ d) (hd : (d : Int) ≤ G 3) : mX1_deliverAt σ (zi d) (zi u) = some (sI (sJ σ 1 d u (zl (nw (2 * (u : Int) - d)))) 6 d u (zi (pk (2 * (u : Int) - d)))) := by
  have g3 := C.1.1.2.2.2.2.1
  obtain ⟨l1', l2'⟩ := L (G 3 + 2 * (u : Int) - d).toNat (by omega)
  rw [show (((G 3 + 2 * (u : Int) - d).toNat : Nat) : Int) - G 3 = 2 * (u : Int) - d by omega] at l1' l2'
  unfold mX1_deliverAt
  rw [c_level C, ob_s]
  simp (disch := omega) only [inb_z, gdt, yN, Int.toNat_natCast, sv_z, gI_sJ, l1', l2']
theorem row_up (L : lvl σ G nw pk) {d u : Nat} {v : Int64} {w : Int32} : lvl (sI (sJ σ 1 d u v) 6 d u w) G nw pk := by
  intro l hl
  rw [gI_nt (by decide), gI_sJ, gJ_sI, gJ_nt (by decide)]
  exact L l hl
theorem c_roll1 (C0 : okS n B G) (hnw : ∀ x, -20000000000 ≤ nw x ∧ nw x ≤ 20000000000) {d k : Nat} (hdk : d + (k + 1) = last) (hd : (last : Int) ≤ G 3) (rc : ST × Int32 × Int32 → Option (Int64 × ST)) : ∀ (j i : Nat) (σ : ST) (fuel : Nat), cC σ n B G → lvl σ G nw pk → i + j = d + 1 → (∀ u : Nat, u ≤ d + 1 → gJ σ 1 (d + 1) u = zl (VZ nw (G 6) may last k u)) → (∀ u : Nat, u < i → gJ σ 1 d u = zl (VZ nw (G 6) may last (k + 1) u) ∧ gI σ 6 d u = zi (AZ nw pk (G 6) may last (k + 1) u)) → j < fuel → ∃ σ', kX1_rollBack_30 rc fuel (σ, b2i may, zi d, zi i) = rc (σ', b2i may, zi ((d : Int) - 1)) ∧ cC σ' n B G ∧ gW σ' = gW σ ∧ lvl σ' G nw pk ∧ gI σ' 7 = gI σ 7 ∧ (∀ d', d' ≠ d → gJ σ' 1 d' = gJ σ 1 d' ∧ gI σ' 6 d' = gI σ 6 d') ∧ row σ' (VZ nw (G 6) may last (k + 1)) (AZ nw pk (G 6) may last (k + 1)) d
  | 0, i, σ, fuel, C, L, hij, hp, hq, hf => by
    obtain ⟨fu, rfl⟩ : ∃ f, fuel = f + 1 := ⟨fuel - 1, by omega⟩
    have g3 := C.1.1.2.2.2.2.1
    refine ⟨σ, ?_, C, rfl, L, rfl, fun _ _ => ⟨rfl, rfl⟩, fun u hu => hq u (by omega)⟩
    rw [ksX1_rollBack_30]
    unfold bkX1_rollBack_30
    rw [if_pos (by rw [ylt (by omega) (by omega) (by omega) (by omega)]; omega)]
    have e : zi d + (-1 : Int32) = zi ((d : Int) - 1) := by rw [lm1, zi_add]; rfl
    rw [e]
  | j + 1, i, σ, fuel, C, L, hij, hp, hq, hf => by
    obtain ⟨fu, rfl⟩ : ∃ f, fuel = f + 1 := ⟨fuel - 1, by omega⟩
    have g3 := C.1.1.2.2.2.2.1
    have g6 := C.1.1.2.2.2.2.2.2.2.1
    have v1 := VZ_b hnw g6.1 g6.2 (may := may) (last := last) k i
    have v2 := VZ_b hnw g6.1 g6.2 (may := may) (last := last) k ((i : Int) + 1)
    have p1 := hp i (by omega)
    have p2 := hp (i + 1) (by omega)
    have nb := hnw (2 * (i : Int) - d)
    rw [show ((i + 1 : Nat) : Int) = (i : Int) + 1 by omega] at p2
    have ei : zi i + (1 : Int32) = zi (i + 1 : Nat) := by rw [l1, zi_add]; rfl
    have ed : zi d + (1 : Int32) = zi (d + 1 : Nat) := by rw [l1, zi_add]; rfl
    have eV : VZ nw (G 6) may last (k + 1) i = if may = true ∧ WZ nw (G 6) may last k i ≤ nw (2 * (i : Int) - d) then nw (2 * (i : Int) - d) else WZ nw (G 6) may last k i := by
      have : (last : Int) - ((k : Int) + 1) = d := by omega
      unfold VZ WZ; rw [this]
    have eA : AZ nw pk (G 6) may last (k + 1) i = if may = true ∧ WZ nw (G 6) may last k i ≤ nw (2 * (i : Int) - d) then pk (2 * (i : Int) - d) else -2 := by
      have : (last : Int) - ((k : Int) + 1) = d := by omega
      have e0 : AZ nw pk (G 6) may last (k + 1) i = if may = true ∧ WZ nw (G 6) may last k i ≤ nw (2 * (i : Int) - ((last : Int) - ((k : Int) + 1))) then pk (2 * (i : Int) - ((last : Int) - ((k : Int) + 1))) else -2 := rfl
      rw [e0, this]
    have eW : WZ nw (G 6) may last k i = (VZ nw (G 6) may last k i + VZ nw (G 6) may last k ((i : Int) + 1)) / 2 - G 6 := rfl
    obtain ⟨s5, s6, s7, s8, s9⟩ := C.1.2.2.2.2.1
    have kb : (k : Int) ≤ 20 := by omega
    -- the two ends of a step
    have go : ∀ σ1 : ST, σ1 = sI (sJ σ 1 d i (zl (VZ nw (G 6) may last (k + 1) i))) 6 d i (zi (AZ nw pk (G 6) may last (k + 1) i)) → ∃ σ', kX1_rollBack_30 rc fu (σ1, b2i may, zi d, zi (i + 1 : Nat)) = rc (σ', b2i may, zi ((d : Int) - 1)) ∧ cC σ' n B G ∧ gW σ' = gW σ ∧ lvl σ' G nw pk ∧ gI σ' 7 = gI σ 7 ∧ (∀ d', d' ≠ d → gJ σ' 1 d' = gJ σ 1 d' ∧ gI σ' 6 d' = gI σ 6 d') ∧ row σ' (VZ nw (G 6) may last (k + 1)) (AZ nw pk (G 6) may last (k + 1)) d := by
      intro σ1 h1
      have r1 : ∀ d', d' ≠ d → gJ σ1 1 d' = gJ σ 1 d' ∧ gI σ1 6 d' = gI σ 6 d' := fun d' hd' => by
        rw [h1, gJ_sI, gJ_ni hd', gI_ni hd', gI_sJ]; exact ⟨rfl, rfl⟩
      obtain ⟨σ', e, C', w, L', k7, k1, k2⟩ := c_roll1 C0 hnw hdk hd rc j (i + 1) σ1 fu (by rw [h1]; exact cC_sI (cC_sJ C) (by omega)) (by rw [h1]; exact row_up L) (by omega) (fun u hu => by rw [(r1 (d + 1) (by omega)).1]; exact hp u hu) (fun u hu => by
        rw [h1, gJ_sI, gJ_sJ, gI_sI, gI_sJ]
        by_cases c : u = i
        · subst c; rw [if_pos ⟨rfl, rfl, rfl⟩, if_pos ⟨rfl, rfl, rfl⟩]; exact ⟨rfl, rfl⟩
        · rw [if_neg (fun h => c h.2.2), if_neg (fun h => c h.2.2)]; exact hq u (by omega)) (by omega)
      refine ⟨σ', e, C', ?_, L', ?_, fun d' hd' => ?_, k2⟩
      · rw [w, h1]; rfl
      · rw [k7, h1, gI_nt (by decide), gI_sJ]
      · rw [(k1 d' hd').1, (k1 d' hd').2]; exact r1 d' hd'
    rw [ksX1_rollBack_30]
    unfold bkX1_rollBack_30
    rw [if_neg (by rw [ylt (by omega) (by omega) (by omega) (by omega)]; omega), ei, ed]
    simp (disch := omega) only [inb_z, gdt, yN, Int.toNat_natCast, p1, p2, zl_add, c_floor, ob_s, s8, yL, zl_sub, c_level C, b2i0]
    rw [← eW]
    have wb : -30000000000 ≤ WZ nw (G 6) may last k i ∧ WZ nw (G 6) may last k i ≤ 30000000000 := by rw [eW]; omega
    have tail : kX1_rollBack_107 (kX1_rollBack_30 rc fu) (σ, b2i may, zi d, zi i, zl (WZ nw (G 6) may last k i)) = kX1_rollBack_30 rc fu (sI (sJ σ 1 d i (zl (WZ nw (G 6) may last k i))) 6 d i (-2), b2i may, zi d, zi (i + 1 : Nat)) := by
      rw [ksX1_rollBack_107]
      unfold bkX1_rollBack_107
      simp (disch := omega) only [inb_z, gdt, yN, Int.toNat_natCast, sv_z, ei]
    cases hm : may with
    | false =>
      rw [if_pos rfl]
      subst hm
      rw [tail]
      apply go
      rw [eV, eA, if_neg (fun k => by cases k.1), if_neg (fun k => by cases k.1)]; rfl
    | true =>
      rw [if_neg (by decide)]
      subst hm
      obtain ⟨l1', l2'⟩ := L (G 3 + 2 * (i : Int) - d).toNat (by omega)
      rw [show (((G 3 + 2 * (i : Int) - d).toNat : Nat) : Int) - G 3 = 2 * (i : Int) - d by omega] at l1' l2'
      have lt : (lg_cmp (gJ σ 2 0 (G 3 + 2 * (i : Int) - d).toNat) (zl (WZ nw (G 6) true last k i)) < (0 : Int32)) ↔ nw (2 * (i : Int) - d) < WZ nw (G 6) true last k i := by
        rw [lc_lt, l2']; exact wlt (by omega) (by omega) (by omega) (by omega)
      simp only [lt]
      by_cases c : nw (2 * (i : Int) - d) < WZ nw (G 6) true last k i
      · rw [if_pos c, tail]
        apply go
        rw [eV, eA, if_neg (fun k => by omega), if_neg (fun k => by omega)]; rfl
      · rw [if_neg c, c_deliver C L (show i ≤ d by omega) (by omega), ob_s]
        apply go
        rw [eV, eA, if_pos ⟨rfl, by omega⟩, if_pos ⟨rfl, by omega⟩]
theorem c_roll2 (hnw : ∀ x, -20000000000 ≤ nw x ∧ nw x ≤ 20000000000) (hd : (last : Int) ≤ G 3) : ∀ (d : Nat) (σ : ST) (fuel : Nat), cC σ n B G → lvl σ G nw pk → d ≤ last → (∀ d', d ≤ d' → d' ≤ last → row σ (VZ nw (G 6) may last (last - d')) (AZ nw pk (G 6) may last (last - d')) d') → d < fuel → ∃ σ', kX1_rollBack_23 fuel (σ, b2i may, zi ((d : Int) - 1)) = some (zl (VZ nw (G 6) may last last 0), σ') ∧ cC σ' n B G ∧ gW σ' = gW σ ∧ gI σ' 7 = gI σ 7 ∧ ∀ d', d' ≤ last → row σ' (VZ nw (G 6) may last (last - d')) (AZ nw pk (G 6) may last (last - d')) d'
  | 0, σ, fuel, C, L, hdl, hr, hf => by
    obtain ⟨fu, rfl⟩ : ∃ f, fuel = f + 1 := ⟨fuel - 1, by omega⟩
    refine ⟨σ, ?_, C, rfl, rfl, fun d' h => hr d' (by omega) h⟩
    have r0 := (hr 0 (by omega) (by omega) 0 (by omega)).1
    rw [ksX1_rollBack_23]
    unfold bkX1_rollBack_23
    rw [if_pos (by decide)]
    have i0 : inb (0 : Int32) 21 = true := by decide
    rw [i0, gdt, gdt]
    have n0 : Int32.toNatClampNeg 0 = 0 := by decide
    rw [n0, r0]; rfl
  | d + 1, σ, fuel, C, L, hdl, hr, hf => by
    obtain ⟨fu, rfl⟩ : ∃ f, fuel = f + 1 := ⟨fuel - 1, by omega⟩
    have g3 := C.1.1.2.2.2.2.1
    obtain ⟨k, hk⟩ : ∃ k, d + (k + 1) = last := ⟨last - d - 1, by omega⟩
    obtain ⟨σ1, e1, C1, w1, L1, i7, k1, k2⟩ := c_roll1 (pk := pk) (may := may) C.1.1 hnw hk hd (kX1_rollBack_23 fu) (d + 1) 0 σ FU C L (by omega) (fun u hu => by
      have := (hr (d + 1) (by omega) (by omega) u hu).1
      rw [show last - (d + 1) = k by omega] at this; exact this) (fun u hu => by omega) (by unfold FU; omega)
    obtain ⟨σ', e, C', w, i7', r⟩ := c_roll2 hnw hd d σ1 fu C1 L1 (by omega) (fun d' h1 h2 => by
      by_cases c : d' = d
      · subst c; rw [show last - d' = k + 1 by omega]; exact k2
      · intro u hu
        rw [(k1 d' c).1, (k1 d' c).2]
        exact hr d' (by omega) h2 u hu) (by omega)
    refine ⟨σ', ?_, C', w.trans w1, i7'.trans i7, r⟩
    rw [← e, ← e1, ksX1_rollBack_23]
    unfold bkX1_rollBack_23
    rw [show ((d + 1 : Nat) : Int) - 1 = d by omega]
    rw [if_neg (by rw [l0, ylt (by omega) (by omega) (by omega) (by omega)]; omega)]
    rfl
theorem c_roll3 (hnw : ∀ x, -20000000000 ≤ nw x ∧ nw x ≤ 20000000000) (hd : (last : Int) ≤ G 3) : ∀ (j u : Nat) (σ : ST) (fuel : Nat), cC σ n B G → lvl σ G nw pk → u + j = last + 1 → (∀ q : Nat, q < u → gJ σ 1 last q = zl (VZ nw (G 6) may last 0 q) ∧ gI σ 6 last q = zi (AZ nw pk (G 6) may last 0 q)) → j < fuel → ∃ σ', kX1_rollBack_2 fuel (σ, zi last, b2i may, zi u) = some (zl (VZ nw (G 6) may last last 0), σ') ∧ cC σ' n B G ∧ gW σ' = gW σ ∧ gI σ' 7 = gI σ 7 ∧ ∀ d', d' ≤ last → row σ' (VZ nw (G 6) may last (last - d')) (AZ nw pk (G 6) may last (last - d')) d'
  | 0, u, σ, fuel, C, L, hij, hr, hf => by
    obtain ⟨fu, rfl⟩ : ∃ f, fuel = f + 1 := ⟨fuel - 1, by omega⟩
    have g3 := C.1.1.2.2.2.2.1
    rw [ksX1_rollBack_2]
    unfold bkX1_rollBack_2
    rw [if_pos (by rw [ylt (by omega) (by omega) (by omega) (by omega)]; omega), l1, zi_sub]
    refine c_roll2 hnw hd last σ FU C L (Nat.le_refl _) (fun d' h1 h2 => ?_) (by unfold FU; omega)
    have : d' = last := by omega
    subst this
    rw [Nat.sub_self]
    exact fun u hu => hr u (by omega)
  | j + 1, u, σ, fuel, C, L, hij, hr, hf => by
    obtain ⟨fu, rfl⟩ : ∃ f, fuel = f + 1 := ⟨fuel - 1, by omega⟩
    have g3 := C.1.1.2.2.2.2.1
    have dl := c_deliver C L (show u ≤ last by omega) hd
    obtain ⟨σ', e, C', w, i7, r⟩ := c_roll3 hnw hd j (u + 1) (sI (sJ σ 1 last u (zl (nw (2 * (u : Int) - last)))) 6 last u (zi (pk (2 * (u : Int) - last)))) fu (cC_sI (cC_sJ C) (by omega)) (row_up L) (by omega) (fun q hq => by
      rw [gJ_sI, gJ_sJ, gI_sI, gI_sJ]
      by_cases c : q = u
      · subst c; rw [if_pos ⟨rfl, rfl, rfl⟩, if_pos ⟨rfl, rfl, rfl⟩]; exact ⟨rfl, rfl⟩
      · rw [if_neg (fun h => c h.2.2), if_neg (fun h => c h.2.2)]; exact hr q (by omega)) (by omega)
    refine ⟨σ', ?_, C', w, ?_, r⟩
    · rw [← e, ksX1_rollBack_2]
      unfold bkX1_rollBack_2
      have ei : zi u + (1 : Int32) = zi (u + 1 : Nat) := by rw [l1, zi_add]; rfl
      rw [if_neg (by rw [ylt (by omega) (by omega) (by omega) (by omega)]; omega), dl, ob_s, ei]
    · rw [i7, gI_nt (by decide), gI_sJ]
theorem c_roll (C : cC σ n B G) (L : lvl σ G nw pk) (hnw : ∀ x, -20000000000 ≤ nw x ∧ nw x ≤ 20000000000) (hd : (last : Int) ≤ G 3) : ∃ σ', mX1_rollBack σ (zi last) (b2i may) = some (zl (VZ nw (G 6) may last last 0), σ') ∧ cC σ' n B G ∧ gW σ' = gW σ ∧ gI σ' 7 = gI σ 7 ∧ ∀ d', d' ≤ last → row σ' (VZ nw (G 6) may last (last - d')) (AZ nw pk (G 6) may last (last - d')) d' := by
  have g3 := C.1.1.2.2.2.2.1
  exact c_roll3 hnw hd (last + 1) 0 σ FU C L (by omega) (fun q hq => by omega) (by unfold FU; omega)
end P9

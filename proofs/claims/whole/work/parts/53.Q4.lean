/-! FAIR -/
section Q4
variable {σ τ : ST} {n : Nat} {B : Nat → Nat → Int} {G : Nat → Int} {f : Nat → Bool} {x : Int32}
theorem pk_max (ha : anZ n f = true) {m y : Int} {i : Nat} (hi : i < n) (fi : f i = true) : gvZ B G m y i ≤ nwZ f B G m n y := by
  have := chZ_min (f := f) (P := ngZ (gvZ B G m y)) (F := one1) n (fun _ _ _ => show (0 : Int) < 1 by decide) i hi fi
  have this : -gvZ B G m y (chZ f (ngZ (gvZ B G m y)) one1 n).toNat * 1 ≤ -gvZ B G m y i * 1 := this
  show gvZ B G m y i ≤ gvZ B G m y (chZ f (ngZ (gvZ B G m y)) one1 n).toNat
  omega
theorem nw_mono (S : okS n B G) (ha : anZ n f = true) {m m' : Int} (h : m ≤ m') (y : Int) : nwZ f B G m n y ≤ nwZ f B G m' n y := by
  have pa := pkZ_a (B := B) (G := G) (m := m) ha y
  have mx := pk_max (B := B) (G := G) (m := m') (y := y) ha (show (pkZ f B G m n y).toNat < n by omega) pa.2.2
  have st : nwZ f B G m n y ≤ gvZ B G m' y (pkZ f B G m n y).toNat := by
    unfold nwZ gvZ inZ
    have fb := faZ_b (S.2.1 (pkZ f B G m n y).toNat (by omega)) S.2.2.1.1
    have a : m * faZ (B (pkZ f B G m n y).toNat) (G 0) ≤ m' * faZ (B (pkZ f B G m n y).toNat) (G 0) := Int.mul_le_mul_of_nonneg_right h fb.1
    have b := Int.ediv_le_ediv (by omega : (0 : Int) < 10000) a
    omega
  exact Int.le_trans st mx
theorem VZ_mono {nw nw' : Int → Int} (h : ∀ y, nw y ≤ nw' y) {car last : Int} : ∀ (k : Nat) (u : Int), VZ nw car true last k u ≤ VZ nw' car true last k u
  | 0, u => h _
  | k + 1, u => by
    have a := VZ_mono h (car := car) (last := last) k u
    have b := VZ_mono h (car := car) (last := last) k (u + 1)
    have c := h (2 * u - (last - ((k : Int) + 1)))
    unfold VZ
    generalize VZ nw car true last k u = p at *
    generalize VZ nw car true last k (u + 1) = q at *
    generalize VZ nw' car true last k u = p' at *
    generalize VZ nw' car true last k (u + 1) = q' at *
    generalize nw (2 * u - (last - ((k : Int) + 1))) = w at *
    generalize nw' (2 * u - (last - ((k : Int) + 1))) = w' at *
    simp only [true_and]
    split <;> split <;> omega
def tZ (f : Nat → Bool) (B : Nat → Nat → Int) (G : Nat → Int) (n : Nat) (m : Int) : Bool := decide (VZ (nwZ f B G m n) (G 6) true (G 3).toNat (G 3).toNat 0 < 0)
theorem tZ_mono (S : okS n B G) (ha : anZ n f = true) {m m' : Int} (h : m ≤ m') (ht : tZ f B G n m' = true) : tZ f B G n m = true := by
  have a := of_decide_eq_true ht
  have b := VZ_mono (nw_mono (f := f) S ha h) (car := G 6) (last := (G 3).toNat) (G 3).toNat 0
  exact decide_eq_true (by omega)
theorem c_fairL (hx : bs x f n) (ha : anZ n f = true) : ∀ (s : Nat) (d : Int) (σ : ST) (fuel : Nat), cC σ n B G → (∀ (l q : Nat), (l : Int) ≤ 2 * G 3 → q < n → gI σ 7 l q = zi (prZ (B q) (rlZ G ((l : Int) - G 3)))) → s ≤ 30 → -1 ≤ d → d ≤ 999999999 → s < fuel → ∃ σ', kX2_fair_31 fuel (σ, x, zi d, zi (stp s)) = some (zi (if blZ (tZ f B G n) 999999999 s d = 999999999 then -1 else blZ (tZ f B G n) 999999999 s d + 1), σ') ∧ cC σ' n B G ∧ gW σ' = gW σ
  | 0, d, σ, fuel, C, hP, hs, hd, hd2, hf => by
    obtain ⟨fu, rfl⟩ : ∃ f, fuel = f + 1 := ⟨fuel - 1, by omega⟩
    refine ⟨σ, ?_, C, rfl⟩
    rw [ksX2_fair_31]
    unfold bkX2_fair_31 blZ stp
    simp (disch := omega) only [l0, yle, l999999999, yeq, l1, zi_add, zi_neg]
    rw [if_pos (by omega)]
    split <;> rfl
  | s + 1, d, σ, fuel, C, hP, hs, hd, hd2, hf => by
    obtain ⟨fu, rfl⟩ : ∃ f, fuel = f + 1 := ⟨fuel - 1, by omega⟩
    have hn := C.1.1.1
    obtain ⟨g0, g1, g2, g3, g4, g5, g6, g7, g8⟩ := C.1.1.2.2
    have sb : 0 ≤ (2 : Int) ^ s ∧ (2 : Int) ^ s ≤ 1073741824 := stp_b (s := s + 1) (by omega)
    have hh : (2 : Int) ^ s / 2 = stp s := stp_h s
    have pos : (0 : Int) < 2 ^ s := Int.pow_pos (by decide)
    have sb2 := stp_b (s := s) (by omega)
    rw [show stp (s + 1) = 2 ^ s from rfl, ksX2_fair_31]
    unfold bkX2_fair_31
    obtain ⟨S, hS⟩ : ∃ S : Int, 2 ^ s = S := ⟨_, rfl⟩
    have sb3 : S ≤ 1073741824 := by rw [← hS]; exact sb.2
    rw [hS] at sb hh pos ⊢
    simp (disch := omega) only [l0, yle, l999999999, l1, l2, zi_add, zi_neg, ylt, ydv, hh]
    rw [if_neg (by omega)]
    by_cases c : 999999999 < d + S
    · rw [if_pos c, blZ_m hS (fun h => by omega)]
      exact c_fairL hx ha s d σ fu C hP (by omega) hd hd2 (by omega)
    · rw [if_neg c]
      obtain ⟨σ1, e1, C1, w1, i1, k1⟩ := c_layN C hx ha (m := d + S) (by omega) (by omega) hP
      have nb := nwZ_b (n := n) (f := f) (m := d + S) C.1.1 ha (by omega) (by omega)
      obtain ⟨σ2, e2, C2, w2, i2, r2⟩ := c_roll (may := true) (last := (G 3).toNat) C1 k1 nb (by omega)
      rw [show ((G 3).toNat : Int) = G 3 by omega] at e2
      have e2 : mX1_rollBack σ1 (zi (G 3)) (zi 1) = some (zl (VZ (nwZ f B G (d + S) n) (G 6) true (G 3) (G 3).toNat 0), σ2) := e2
      have vb := VZ_b nb g5.1 g5.2 (may := true) (last := G 3) (G 3).toNat 0
      have eT : tZ f B G n (d + S) = decide (VZ (nwZ f B G (d + S) n) (G 6) true (G 3) (G 3).toNat 0 < 0) := by
        unfold tZ; rw [show ((G 3).toNat : Int) = G 3 by omega]
      rw [e1, ob_s, C1.1.2.2.2.2.1.1, e2, ob_s]
      have P2 : ∀ (l q : Nat), (l : Int) ≤ 2 * G 3 → q < n → gI σ2 7 l q = zi (prZ (B q) (rlZ G ((l : Int) - G 3))) := by
        intro l q hl hq; rw [i2, i1]; exact hP l q hl hq
      generalize VZ (nwZ f B G (d + S) n) (G 6) true (G 3) (G 3).toNat 0 = v at *
      have le : (zi 0 ≤ lg_cmp (zl v) (0 : Int64)) ↔ 0 ≤ v := by
        rw [lz_ge, L0]; exact wle (by omega) (by omega) (by omega) (by omega)
      simp only [le]
      by_cases t : v < 0
      · rw [if_neg (by omega), blZ_p hS (by omega) (eT.trans (decide_eq_true t))]
        obtain ⟨σ', e, C', w⟩ := c_fairL hx ha s (d + S) σ2 fu C2 P2 (by omega) (by omega) (by omega) (by omega)
        exact ⟨σ', e, C', w.trans (w2.trans w1)⟩
      · rw [if_pos (by omega), blZ_m hS (fun _ => eT.trans (decide_eq_false t))]
        obtain ⟨σ', e, C', w⟩ := c_fairL hx ha s d σ2 fu C2 P2 (by omega) hd hd2 (by omega)
        exact ⟨σ', e, C', w.trans (w2.trans w1)⟩
theorem m_isFair (M : mM τ n B G) (ha : anZ n (elZ B G) = true) {m : Int} (h0 : 0 ≤ m) (h1 : m ≤ 999999999) : ∃ τ', mX3_isFair τ (zi m) = some (b2i (!tZ (elZ B G) B G n m), τ') ∧ mM τ' n B G := by
  obtain ⟨g0, g1, g2, g3, g4, g5, g6, g7, g8⟩ := M.1.2.2
  have ok' : okS n B (upG G 7 m) := ⟨M.1.1, M.1.2.1, g0, g1, g2, g3, g4, g5, ⟨h0, h1⟩, g7, g8⟩
  have M1 : mM (sI τ 0 0 9 (zi m)) n B (upG G 7 m) := mM_set M (by omega) (by omega) ok'
  have fe : elZ B (upG G 7 m) = elZ B G := rfl
  obtain ⟨τ1, f1, M2, t0, ti, r⟩ := m_treeN M1 (by rw [fe]; exact ha)
  have v0 := (r 0 (by omega) 0 (by omega)).1
  have cg : nwZ (elZ B (upG G 7 m)) B (upG G 7 m) m n = nwZ (elZ B G) B G m n := nwZ_cg (fun _ _ => rfl) rfl rfl rfl m
  have v0 : gJ τ1 1 0 0 = zl (VZ (nwZ (elZ B G) B G m n) (G 6) true (G 3).toNat (G 3).toNat 0) := by rw [← cg]; exact v0
  have M3 : mM (sI τ1 0 0 9 (zi (G 7))) n B G := by
    have := mM_set M2 (s := 9) (t := 7) (v := G 7) (by omega) (by omega) (by rw [upG_b]; exact M.1)
    rw [upG_b] at this; exact this
  have nb := nwZ_b (n := n) (f := elZ B G) (m := m) M.1 ha h0 h1
  have vb := VZ_b nb g5.1 g5.2 (may := true) (last := (G 3).toNat) (G 3).toNat 0
  have n0 : Int32.toNatClampNeg 0 = 0 := by decide
  have i0 : inb (0 : Int32) 441 = true := by decide
  refine ⟨_, ?_, M3⟩
  unfold mX3_isFair tZ
  have j0 : gJ (sI τ1 0 0 9 (zi (G 7))) 1 0 0 = gJ τ1 1 0 0 := rfl
  rw [sv_z, f1, ob_s, sv_z, M.2.2.1.2.2.2.2.2.2.2.1, i0, gdt, n0, j0, v0]
  generalize VZ (nwZ (elZ B G) B G m n) (G 6) true (G 3).toNat (G 3).toNat 0 = v at *
  have lt : (lg_cmp (zl v) (0 : Int64) < (0 : Int32)) ↔ v < 0 := by
    rw [lc_lt, L0]; exact wlt (by omega) (by omega) (by omega) (by omega)
  simp only [lt]
  by_cases c : v < 0
  · rw [if_pos c, decide_eq_true c]; rfl
  · rw [if_neg c, decide_eq_false c]; rfl
theorem m_fairL (ha : anZ n (elZ B G) = true) : ∀ (k : Nat) (lo hi : Int) (τ : ST) (fuel : Nat), mM τ n B G → 0 ≤ lo → lo ≤ hi → hi ≤ 999999999 → hi - lo < 2 ^ k → (∀ y, 0 ≤ y → y < lo → tZ (elZ B G) B G n y = true) → tZ (elZ B G) B G n hi = false → k < fuel → ∃ r τ', kX3_fair_28 fuel (τ, zi lo, zi hi) = some (zi r, τ') ∧ mM τ' n B G ∧ 0 ≤ r ∧ r ≤ 999999999 ∧ (∀ y, 0 ≤ y → y < r → tZ (elZ B G) B G n y = true) ∧ tZ (elZ B G) B G n r = false
  | 0, lo, hi, τ, fuel, M, h0, h1, h2, hk, hl, hh, hf => by
    obtain ⟨fu, rfl⟩ : ∃ f, fuel = f + 1 := ⟨fuel - 1, by omega⟩
    have hk : hi - lo < 1 := hk
    have : hi = lo := by omega
    subst this
    refine ⟨hi, τ, ?_, M, h0, h2, hl, hh⟩
    rw [ksX3_fair_28]
    unfold bkX3_fair_28
    rw [if_pos (by rw [yle (by omega) (by omega) (by omega) (by omega)]; omega)]
  | k + 1, lo, hi, τ, fuel, M, h0, h1, h2, hk, hl, hh, hf => by
    obtain ⟨fu, rfl⟩ : ∃ f, fuel = f + 1 := ⟨fuel - 1, by omega⟩
    have hd : (2 : Int) ^ (k + 1) = 2 ^ k + 2 ^ k := by rw [Int.pow_succ]; omega
    rw [hd] at hk
    by_cases c : hi ≤ lo
    · have : hi = lo := by omega
      subst this
      refine ⟨hi, τ, ?_, M, h0, h2, hl, hh⟩
      rw [ksX3_fair_28]
      unfold bkX3_fair_28
      rw [if_pos (by rw [yle (by omega) (by omega) (by omega) (by omega)]; omega)]
    · obtain ⟨τ1, e1, M1⟩ := m_isFair M ha (m := (lo + hi) / 2) (by omega) (by omega)
      rw [ksX3_fair_28]
      unfold bkX3_fair_28
      rw [if_neg (by rw [yle (by omega) (by omega) (by omega) (by omega)]; omega), l2, l1, zi_add, ydv (by omega) (by omega) (by omega) (by omega), e1, ob_s, zi_add]
      simp only [b2i0]
      cases t : tZ (elZ B G) B G n ((lo + hi) / 2) with
      | true =>
        rw [if_pos (show (!true) = false from rfl)]
        exact m_fairL ha k _ _ τ1 fu M1 (by omega) (by omega) h2 (by omega) (fun y y1 y2 => tZ_mono M.1 ha (show y ≤ (lo + hi) / 2 by omega) t) hh (by omega)
      | false =>
        rw [if_neg (show ¬ (!false) = false by decide)]
        exact m_fairL ha k _ _ τ1 fu M1 h0 (by omega) (by omega) (by omega) hl t (by omega)
theorem p_fair (h : RR σ τ) : ∃ q r, mX2_fair σ = some q ∧ mX3_fair τ = some r ∧ q.1 = r.1 ∧ RR q.2 r.2 ∧ cntF q.2 ≤ cntF σ := by
  obtain ⟨n, B, G, C, M⟩ := h
  have M' : mM (sI τ 0 0 10 0) n B G := mM_10 M
  have hn := M.1.1
  unfold mX2_fair mX3_fair
  rw [sv_z]
  generalize sI τ 0 0 10 0 = τ' at M' ⊢
  have RN : RR σ τ' := ⟨n, B, G, C, M'⟩
  obtain ⟨x, ex, hx⟩ := c_bits C
  simp only [ex, m_isAny M', ob_s, b2i0, bs_0 hx]
  cases a : anZ n (elZ B G) with
  | false => exact ⟨_, _, rfl, rfl, rfl, RN, Nat.le_refl _⟩
  | true =>
    have tf : (true = false) = False := by simp
    simp only [tf, if_false]
    obtain ⟨σ1, e1, C1, w1, p1⟩ := c_layP C
    obtain ⟨σ2, e2, C2, w2⟩ := c_fairL (B := B) (G := G) hx a 30 (-1) σ1 FU C1 p1 (by omega) (by omega) (by omega) (by unfold FU; omega)
    have e2 : kX2_fair_31 FU (σ1, x, -1, 536870912) = _ := e2
    obtain ⟨τ1, f1, M1⟩ := m_isFair M' a (m := 999999999) (by omega) (by omega)
    have f1 : mX3_isFair τ' 999999999 = some (b2i (!tZ (elZ B G) B G n 999999999), τ1) := f1
    have bi := blZ_i (t := tZ (elZ B G) B G n) (M := 999999999) (fun y z _ hyz _ ht => tZ_mono C.1.1 a hyz ht) 30 (-1) ⟨by omega, by omega, fun y h1 h2 => by omega, Or.inl (by decide)⟩
    generalize blZ (tZ (elZ B G) B G n) 999999999 30 (-1) = d at *
    obtain ⟨b1, b2, b3, b4⟩ := bi
    have b4 : 999999999 < d + 1 ∨ tZ (elZ B G) B G n (d + 1) = false := b4
    rw [e1, ob_s, e2, f1, ob_s]
    simp only [b2i0]
    cases t : tZ (elZ B G) B G n 999999999 with
    | true =>
      have hd : d = 999999999 := by
        rcases b4 with b4 | b4
        · omega
        · by_cases k : d = 999999999
          · exact k
          · have := tZ_mono C.1.1 a (show d + 1 ≤ 999999999 by omega) t
            rw [this] at b4; cases b4
      rw [if_pos hd]
      exact ⟨_, _, rfl, rfl, rfl, ⟨n, B, G, C2, M1⟩, cnt_e (w2.trans w1)⟩
    | false =>
      have hd : d ≠ 999999999 := fun k => by
        rw [b3 999999999 (by omega) (by omega)] at t; cases t
      obtain ⟨r, τ2, f2, M2, r0, r1, r2, r3⟩ := m_fairL (B := B) (G := G) a 30 0 999999999 τ1 FU M1 (by omega) (by omega) (by omega) (by decide) (fun y y1 y2 => by omega) t (by unfold FU; omega)
      have f2 : kX3_fair_28 FU (τ1, 0, 999999999) = some (zi r, τ2) := f2
      rw [if_neg hd, if_neg (show ¬ (!false) = false by decide), f2]
      refine ⟨_, _, rfl, rfl, ?_, ⟨n, B, G, C2, M2⟩, cnt_e (w2.trans w1)⟩
      suffices hh : d + 1 = r by
        show zi (d + 1) = zi r
        rw [hh]
      rcases b4 with b4 | b4
      · omega
      · by_cases k : d + 1 < r
        · rw [r2 (d + 1) (by omega) k] at b4; cases b4
        · by_cases k2 : r ≤ d
          · rw [b3 r r0 k2] at r3; cases r3
          · omega
end Q4

/-! WITHOUT, PATH -/
section Q2
variable {σ τ : ST} {n : Nat} {B : Nat → Nat → Int} {G : Nat → Int} {f : Nat → Bool} {x : Int32}
theorem mM_set (M : mM τ n B G) {s : Nat} (hs : s = 9 ∨ s = 11 ∨ s = 12) {t : Nat} (ht : (s = 9 ∧ t = 7) ∨ (s = 11 ∧ t = 8) ∨ (s = 12 ∧ t = 9)) {v : Int} (ok : okS n B (upG G t v)) : mM (sI τ 0 0 s (zi v)) n B (upG G t v) := by
  obtain ⟨m1, m2, ⟨t2, t3, t4, t5, t6, t7, t8, t9, t11, t12⟩, m4⟩ := M
  refine ⟨ok, ?_, ?_, fun i j hi hj => ?_⟩
  · rw [gI_sI, if_neg (by omega)]; exact m2
  · rcases ht with ⟨rfl, rfl⟩ | ⟨rfl, rfl⟩ | ⟨rfl, rfl⟩
    · exact ⟨t2, t3, t4, t5, t6, t7, t8, rfl, t11, t12⟩
    · exact ⟨t2, t3, t4, t5, t6, t7, t8, t9, rfl, t12⟩
    · exact ⟨t2, t3, t4, t5, t6, t7, t8, t9, t11, rfl⟩
  · rw [gI_nt (by decide)]; exact m4 i j hi hj
theorem upG_b {t : Nat} {v : Int} : upG (upG G t v) t (G t) = G := by
  funext s
  unfold upG
  by_cases c : s = t
  · rw [if_pos c, c]
  · rw [if_neg c, if_neg c]
theorem p_without {a1 : Int32} (h : RR σ τ) : ∃ q r, mX2_without σ a1 = some q ∧ mX3_without τ a1 = some r ∧ gI r.2 0 0 10 = rL_without q ∧ (∀ v, q.1 = some v → v = r.1) ∧ RR q.2 r.2 ∧ cntF q.2 ≤ cntF σ := by
  obtain ⟨n, B, G, C, M⟩ := h
  have M' : mM (sI τ 0 0 10 0) n B G := mM_10 M
  have th0 : gI (sI τ 0 0 10 0) 0 0 10 = 0 := t10
  have hn := M.1.1
  obtain ⟨g0, g1, g2, g3, g4, g5, g6, g7, g8⟩ := C.1.1.2.2
  have no : ∀ v : Int64, (none : Option Int64) = some v → v = Int32.toInt64 0 := fun v h => by cases h
  obtain ⟨z1, h1, rfl⟩ := zi_ex a1
  obtain ⟨x, ex, hx⟩ := c_bits C
  unfold mX2_without mX3_without
  rw [sv_z]
  generalize sI τ 0 0 10 0 = τ' at M' th0 ⊢
  simp only [c_has C h1, m_isBond M' h1, m_refuse, ob_s, b2i0, ex]
  by_cases c : 0 ≤ z1 ∧ z1 < n
  case neg =>
    simp only [decide_eq_false c]
    exact ⟨_, _, rfl, rfl, t10, no, ⟨n, B, G, C, mM_10 M'⟩, Nat.le_refl _⟩
  obtain ⟨b, hb, rfl⟩ := in_b h1 hn c
  simp only [decide_eq_true c, c_elig C hb, m_elig M' hb, ob_s, b2i0]
  cases e : elZ B G b with
  | false =>
    exact ⟨_, _, rfl, rfl, th0, fun v hv => by cases hv; rfl, ⟨n, B, G, C, M'⟩, Nat.le_refl _⟩
  | true =>
    have hx2 := bs_rm hx (show b < 8 by omega)
    have a1 : anZ n (elZ B G) = true := decide_eq_true ⟨b, hb, e⟩
    have ok' : okS n B (upG G 9 b) := ⟨hn, C.1.1.2.1, g0, g1, g2, g3, g4, g5, g6, g7, ⟨by show (-1 : Int) ≤ (b : Int); omega, by show (b : Int) < 8; omega⟩⟩
    have fe : ∀ i, i < n → rmF (elZ B G) b i = elZ B (upG G 9 b) i := fun i hi => by
      unfold rmF elZ
      have q8 : upG G 9 b 8 = G 8 := rfl
      have q9 : upG G 9 b 9 = (b : Int) := rfl
      have q1 : upG G 9 b 1 = G 1 := rfl
      have q2 : upG G 9 b 2 = G 2 := rfl
      have q0 : upG G 9 b 0 = G 0 := rfl
      rw [q8, q9, q1, q2, q0, C.1.2.1.2]
      have q' : ¬ (i : Int) = -1 := by omega
      by_cases q : i = b
      · have q2' : (i : Int) = (b : Int) := by omega
        simp [q]
      · have q2' : ¬ (i : Int) = (b : Int) := by omega
        simp only [q, q', q2', decide_false, Bool.not_false, Bool.true_and, Bool.and_true]
    have an : anZ n (rmF (elZ B G) b) = anZ n (elZ B (upG G 9 b)) := by
      unfold anZ
      apply decide_eq_decide.mpr
      constructor
      · rintro ⟨k, hk, hf⟩; exact ⟨k, hk, by rw [← fe k hk]; exact hf⟩
      · rintro ⟨k, hk, hf⟩; exact ⟨k, hk, by rw [fe k hk]; exact hf⟩
    obtain ⟨σ1, e1, C1, w1, _⟩ := c_valueBy C hx a1
    obtain ⟨τ1, f1, M1, t0, ti, r2⟩ := m_treeN M' a1
    have n0 : Int32.toNatClampNeg 0 = 0 := by decide
    have i0 : inb (0 : Int32) 441 = true := by decide
    have v0 := (r2 0 (by omega) 0 (by omega)).1
    have v0 : gJ τ1 1 0 0 = zl (VZ (nwZ (elZ B G) B G (G 7) n) (G 6) true (G 3).toNat (G 3).toNat 0) := v0
    have M2 : mM (sI τ1 0 0 12 (zi b)) n B (upG G 9 b) := mM_set M1 (by omega) (by omega) ok'
    have back : ∀ t, mM t n B (upG G 9 b) → mM (sI t 0 0 12 (-1)) n B G := fun t Mt => by
      have := mM_set Mt (s := 12) (t := 9) (v := G 9) (by omega) (by omega) (by rw [upG_b]; exact C.1.1)
      rw [upG_b, C.1.2.1.2] at this
      exact this
    have jn : gJ (sI τ1 0 0 12 (zi b)) = gJ τ1 := rfl
    simp only [f1, ob_s, sv_z, n0, i0, gdt, v0, m_isAny M2, b2i0, bs_0 hx2]
    rw [an]
    have tf : (true = false) = False := by simp
    cases a2 : anZ n (elZ B (upG G 9 b)) with
    | false =>
      simp only [tf, if_false, if_true]
      rw [ksX3_without_62]
      unfold bkX3_without_62
      rw [sv_z, if_pos (show b2i false = (0 : Int32) from rfl), m_refuse, ob_s]
      exact ⟨_, _, rfl, rfl, t10, no, ⟨n, B, G, C, mM_10 (back _ M2)⟩, Nat.le_refl _⟩
    | true =>
      have a3 := an.trans a2
      obtain ⟨σ2, e2, C2, w2, _⟩ := c_valueBy C1 hx2 a3
      obtain ⟨τ2, f2, M3, y0, yi, r3⟩ := m_treeN M2 a2
      have v2 := (r3 0 (by omega) 0 (by omega)).1
      have cg := nwZ_cg (B := B) (G := G) (n := n) (f := rmF (elZ B G) b) (f' := elZ B (upG G 9 b)) (G' := upG G 9 b) fe rfl rfl rfl (G 7)
      have v2 : gJ τ2 1 0 0 = zl (VZ (nwZ (rmF (elZ B G) b) B G (G 7) n) (G 6) true (G 3).toNat (G 3).toNat 0) := by
        rw [← cg]; exact v2
      simp only [tf, if_false]
      rw [e1, ob_s, e2, ob_s, f2, ob_s, ksX3_without_62]
      unfold bkX3_without_62
      rw [sv_z, if_neg (show ¬ b2i true = (0 : Int32) by decide), n0, i0, gdt]
      have th : gI (sI τ2 0 0 12 (-1)) 0 0 10 = 0 := by
        rw [gI_sI, if_neg (by decide), y0, gI_sI, if_neg (by decide), t0]; exact th0
      refine ⟨_, _, rfl, rfl, th, fun v hv => ?_, ⟨n, B, G, C2, back _ M3⟩, cnt_e (w2.trans w1)⟩
      cases hv
      show _ = zl _ - gJ τ2 1 0 0
      rw [v2]
def ptZ (dl : Nat → Nat → Bool) (pk : Int → Int) (ups bo : Int32) (last : Nat) : Nat → Nat → Int
  | 0, u => if bo = (0 : Int32) then (last : Int) else pk (2 * (u : Int) - last)
  | k + 1, u => if dl (last - (k + 1)) u = true then (if bo = (0 : Int32) then ((last - (k + 1) : Nat) : Int) else pk (2 * (u : Int) - (last - (k + 1) : Nat))) else ptZ dl pk ups bo last k (u + (if gb ups (last - (k + 1)) then 1 else 0))
theorem c_pathL (C : cC σ n B G) {nw pk : Int → Int} (hpk : ∀ y, 0 ≤ pk y ∧ pk y < 8) {ups bo : Int32} (R : ∀ d', d' ≤ (G 3).toNat → row σ (VZ nw (G 6) true (G 3).toNat ((G 3).toNat - d')) (AZ nw pk (G 6) true (G 3).toNat ((G 3).toNat - d')) d') : ∀ (k d u : Nat) (fuel : Nat), d + k = (G 3).toNat → u ≤ d → k < fuel → kX2_path_42 fuel (σ, ups, bo, zi u, zi d) = some (zi (ptZ (dlZ nw (G 6) true (G 3).toNat) pk ups bo (G 3).toNat k u), σ)
  | 0, d, u, fuel, hdk, hu, hf => by
    obtain ⟨fu, rfl⟩ : ∃ f, fuel = f + 1 := ⟨fuel - 1, by omega⟩
    have g3 := C.1.1.2.2.2.2.1
    have av := (R d (by omega) u hu).2
    have pb := hpk (2 * (u : Int) - d)
    rw [AZ_dl (by omega), if_pos (by unfold dlZ; simp [show d = (G 3).toNat by omega])] at av
    rw [ksX2_path_42]
    unfold bkX2_path_42
    rw [C.1.2.2.2.2.1.1, if_neg (by rw [ylt (by omega) (by omega) (by omega) (by omega)]; omega)]
    simp (disch := omega) only [inb_z, gdt, yN, Int.toNat_natCast, av]
    rw [if_neg (by rw [show (-2 : Int32) = zi (-2) from rfl, yeq (by omega) (by omega) (by omega) (by omega)]; omega)]
    unfold ptZ
    have : d = (G 3).toNat := by omega
    by_cases c : bo = 0
    · simp only [if_pos c, this]
    · simp only [if_neg c, this]
  | k + 1, d, u, fuel, hdk, hu, hf => by
    obtain ⟨fu, rfl⟩ : ∃ f, fuel = f + 1 := ⟨fuel - 1, by omega⟩
    have g3 := C.1.1.2.2.2.2.1
    have av := (R d (by omega) u hu).2
    have pb := hpk (2 * (u : Int) - d)
    have ih := c_pathL C hpk (ups := ups) (bo := bo) R k (d + 1) (u + (if gb ups d then 1 else 0)) fu (by omega) (by split <;> omega) (by omega)
    rw [AZ_dl (by omega)] at av
    have ed : zi d + (1 : Int32) = zi (d + 1 : Nat) := by rw [l1, zi_add]; rfl
    have eu : zi u + ((ups >>> (zi d &&& 31)) &&& (1 : Int32)) = zi (u + (if gb ups d then 1 else 0) : Nat) := by
      rw [bit_v ups (show d < 32 by omega), zi_add]
      cases gb ups d <;> rfl
    rw [ksX2_path_42]
    unfold bkX2_path_42
    rw [C.1.2.2.2.2.1.1, if_neg (by rw [ylt (by omega) (by omega) (by omega) (by omega)]; omega), ed, eu]
    simp (disch := omega) only [inb_z, gdt, yN, Int.toNat_natCast, av]
    have e0 : ptZ (dlZ nw (G 6) true (G 3).toNat) pk ups bo (G 3).toNat (k + 1) u = if dlZ nw (G 6) true (G 3).toNat ((G 3).toNat - (k + 1)) u = true then (if bo = (0 : Int32) then (((G 3).toNat - (k + 1) : Nat) : Int) else pk (2 * (u : Int) - ((G 3).toNat - (k + 1) : Nat))) else ptZ (dlZ nw (G 6) true (G 3).toNat) pk ups bo (G 3).toNat k (u + (if gb ups ((G 3).toNat - (k + 1)) then 1 else 0)) := rfl
    rw [e0, show (G 3).toNat - (k + 1) = d by omega]
    cases c : dlZ nw (G 6) true (G 3).toNat d u with
    | true =>
      rw [if_pos rfl, if_neg (by rw [show (-2 : Int32) = zi (-2) from rfl, yeq (by omega) (by omega) (by omega) (by omega)]; omega), if_pos rfl]
      by_cases c : bo = 0
      · simp only [if_pos c]
      · simp only [if_neg c]
    | false =>
      have ft : (false = true) = False := by simp
      simp only [ft, if_false]
      rw [if_pos (show zi (-2) = (-2 : Int32) from rfl)]
      exact ih
theorem m_pathL (M : mM τ n B G) {nw pk : Int → Int} (hnw : ∀ x, -20000000000 ≤ nw x ∧ nw x ≤ 20000000000) (hW : ∀ (d : Nat) (u : Int), -40000000000 ≤ Wd nw (G 6) true (G 3).toNat d u ∧ Wd nw (G 6) true (G 3).toNat d u ≤ 40000000000) {ups bo : Int32} (R : ∀ d', d' ≤ (G 3).toNat → mrow τ nw pk (VZ nw (G 6) true (G 3).toNat ((G 3).toNat - d')) (Wd nw (G 6) true (G 3).toNat d') d' (d' = (G 3).toNat)) : ∀ (k d u : Nat) (fuel : Nat), d + k = (G 3).toNat → u ≤ d → k < fuel → kX3_path_42 fuel (τ, ups, bo, zi d, zi u) = some (zi (ptZ (dlZ nw (G 6) true (G 3).toNat) pk ups bo (G 3).toNat k u), τ)
  | 0, d, u, fuel, hdk, hu, hf => by
    obtain ⟨fu, rfl⟩ : ∃ f, fuel = f + 1 := ⟨fuel - 1, by omega⟩
    have g3 := M.1.2.2.2.2.1
    have dv := m_deliv M (car := G 6) (show d ≤ (G 3).toNat by omega) hu (fun _ => rfl) (hnw _) (hW d u) (R d (by omega))
    have ea : (21 : Int32) * zi d + zi u = zi (21 * d + u : Nat) := by rw [l21, zi_mul, zi_add]; rfl
    have dt : dlZ nw (G 6) true (G 3).toNat d u = true := by unfold dlZ; simp [show d = (G 3).toNat by omega]
    rw [ksX3_path_42]
    unfold bkX3_path_42
    rw [dv, ob_s, dt, ea]
    simp (disch := omega) only [inb_z, gdt, yN, Int.toNat_natCast, (R d (by omega) u hu).2.2.1]
    rw [if_neg (by decide)]
    unfold ptZ
    have : d = (G 3).toNat := by omega
    by_cases c : bo = 0
    · simp only [if_pos c, this]
    · simp only [if_neg c, this]
  | k + 1, d, u, fuel, hdk, hu, hf => by
    obtain ⟨fu, rfl⟩ : ∃ f, fuel = f + 1 := ⟨fuel - 1, by omega⟩
    have g3 := M.1.2.2.2.2.1
    have dv := m_deliv M (car := G 6) (show d ≤ (G 3).toNat by omega) hu (fun _ => rfl) (hnw _) (hW d u) (R d (by omega))
    have ea : (21 : Int32) * zi d + zi u = zi (21 * d + u : Nat) := by rw [l21, zi_mul, zi_add]; rfl
    have ih := m_pathL M hnw hW (ups := ups) (bo := bo) R k (d + 1) (u + (if gb ups d then 1 else 0)) fu (by omega) (by split <;> omega) (by omega)
    have ed : zi d + (1 : Int32) = zi (d + 1 : Nat) := by rw [l1, zi_add]; rfl
    have eu : zi u + ((ups >>> (zi d &&& 31)) &&& (1 : Int32)) = zi (u + (if gb ups d then 1 else 0) : Nat) := by
      rw [bit_v ups (show d < 32 by omega), zi_add]
      cases gb ups d <;> rfl
    rw [ksX3_path_42]
    unfold bkX3_path_42
    rw [dv, ob_s, ea, ed, eu]
    simp (disch := omega) only [inb_z, gdt, yN, Int.toNat_natCast, (R d (by omega) u hu).2.2.1, b2i0]
    have e0 : ptZ (dlZ nw (G 6) true (G 3).toNat) pk ups bo (G 3).toNat (k + 1) u = if dlZ nw (G 6) true (G 3).toNat ((G 3).toNat - (k + 1)) u = true then (if bo = (0 : Int32) then (((G 3).toNat - (k + 1) : Nat) : Int) else pk (2 * (u : Int) - ((G 3).toNat - (k + 1) : Nat))) else ptZ (dlZ nw (G 6) true (G 3).toNat) pk ups bo (G 3).toNat k (u + (if gb ups ((G 3).toNat - (k + 1)) then 1 else 0)) := rfl
    rw [e0, show (G 3).toNat - (k + 1) = d by omega]
    cases c : dlZ nw (G 6) true (G 3).toNat d u with
    | true =>
      rw [if_neg (by decide), if_pos rfl]
      by_cases c : bo = 0
      · simp only [if_pos c]
      · simp only [if_neg c]
    | false =>
      have ft : (false = true) = False := by simp
      simp only [ft, if_false, if_true]
      exact ih
theorem p_path {a1 a2 : Int32} (h : RR σ τ) : ∃ q r, mX2_path σ a1 a2 = some q ∧ mX3_path τ a1 a2 = some r ∧ q.1 = r.1 ∧ RR q.2 r.2 ∧ cntF q.2 ≤ cntF σ := by
  obtain ⟨n, B, G, C, M⟩ := h
  have M' : mM (sI τ 0 0 10 0) n B G := mM_10 M
  have hn := M.1.1
  obtain ⟨g0, g1, g2, g3, g4, g5, g6, g7, g8⟩ := C.1.1.2.2
  unfold mX2_path mX3_path
  rw [sv_z]
  generalize sI τ 0 0 10 0 = τ' at M' ⊢
  have RN : RR σ τ' := ⟨n, B, G, C, M'⟩
  obtain ⟨x, ex, hx⟩ := c_bits C
  rw [C.1.2.2.2.2.1.1, M'.2.2.1.2.2.2.1]
  generalize hE : ((1 : Int32) <<< (zi (G 3) &&& 31)) - (1 : Int32) = E
  obtain ⟨e, he, rfl⟩ := zi_ex E
  obtain ⟨z1, h1, rfl⟩ := zi_ex a1
  have w1 : mX2_within (zi z1) 0 (zi e) = some (b2i (decide (0 ≤ z1 ∧ z1 ≤ e))) := c_within (b := 0) h1 ⟨by omega, by omega⟩ he
  have w2 : mX3_isIn (zi z1).toInt64 0 (zi e).toInt64 = some (b2i (decide (0 ≤ z1 ∧ z1 ≤ e))) := by
    have i1 := h1.1
    have i2 := h1.2
    have i3 := he.1
    have i4 := he.2
    rw [yL h1.1 h1.2, yL he.1 he.2, L0, m_isIn (by omega) (by omega) (by omega) (by omega) (by omega) (by omega)]
  simp only [ex, w1, w2, m_isAny M', ob_s, b2i0, bs_0 hx]
  by_cases c : 0 ≤ z1 ∧ z1 ≤ e
  · cases a : anZ n (elZ B G) with
    | true =>
      obtain ⟨σ1, e1, C1, ww, r1⟩ := c_valueBy C hx a
      obtain ⟨τ1, f1, M1, t0, _, r2⟩ := m_treeN M' a
      have p1 : kX2_path_42 FU (σ1, zi z1, a2, 0, 0) = _ := c_pathL C1 (fun y => by
        have := pkZ_a (B := B) (G := G) (m := G 7) a y
        exact ⟨this.1, by omega⟩) r1 (G 3).toNat 0 0 FU (by omega) (by omega) (by unfold FU; omega)
      have p2 : kX3_path_42 FU (τ1, zi z1, a2, 0, 0) = _ := m_pathL M1 (nwZ_b C.1.1 a g6.1 g6.2) (fun d u => Wd_b C.1.1 a (by omega) u) r2 (G 3).toNat 0 0 FU (by omega) (by omega) (by unfold FU; omega)
      simp only [decide_eq_true c, e1, f1, ob_s, p1, p2]
      exact ⟨_, _, rfl, rfl, rfl, ⟨n, B, G, C1, M1⟩, cnt_e ww⟩
    | false =>
      simp only [decide_eq_true c]
      exact ⟨_, _, rfl, rfl, rfl, RN, Nat.le_refl _⟩
  · simp only [decide_eq_false c]
    exact ⟨_, _, rfl, rfl, rfl, RN, Nat.le_refl _⟩
end Q2

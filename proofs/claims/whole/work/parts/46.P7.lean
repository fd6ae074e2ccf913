/-! MEET, COST -/
section P7
variable {σ τ : ST} {n : Nat} {B : Nat → Nat → Int} {G : Nat → Int} {K T : Nat → Int}
theorem c_canAsk {a b c : Int} (ha : r32 a) (hb : r32 b) (hc : r32 c) : mX2_canAsk (zi a) (zi b) (zi c) = some (b2i (decide ((0 ≤ a ∧ a ≤ 200) ∧ (0 ≤ b ∧ b ≤ 3000) ∧ (0 ≤ c ∧ c ≤ 999999999)))) := by
  unfold mX2_canAsk
  rw [c_isRate hb]
  obtain ⟨a1, a2⟩ := ha
  obtain ⟨c1, c2⟩ := hc
  simp (disch := omega) only [l0, l200, l999999999, c_wi, ob_s, b2id0z]
  by_cases x : 0 ≤ a ∧ a ≤ 200
  · rw [if_neg (not_not_intro x)]
    by_cases y : 0 ≤ b ∧ b ≤ 3000
    · rw [if_neg (not_not_intro y)]
      by_cases z : 0 ≤ c ∧ c ≤ 999999999
      · rw [if_neg (not_not_intro z), decide_eq_true ⟨x, y, z⟩]; rfl
      · rw [if_pos z, decide_eq_false (fun k => z k.2.2)]; rfl
    · rw [if_pos y, decide_eq_false (fun k => y k.2.1)]; rfl
  · rw [if_pos x, decide_eq_false (fun k => x k.1)]; rfl
theorem m_isMeeting {a b c : Int} (ha : r32 a) (hb : r32 b) (hc : r32 c) : mX3_isMeeting (zi a) (zi b) (zi c) = some (b2i (decide ((0 ≤ a ∧ a ≤ 200) ∧ (0 ≤ b ∧ b ≤ 3000) ∧ (0 ≤ c ∧ c ≤ 999999999)))) := by
  unfold mX3_isMeeting
  rw [m_isRate hb]
  obtain ⟨a1, a2⟩ := ha
  obtain ⟨c1, c2⟩ := hc
  simp (disch := omega) only [yL, L0, L200, L999999999, m_isIn, ob_s, b2id0]
  by_cases x : 0 ≤ a ∧ a ≤ 200
  · rw [if_neg (not_not_intro x)]
    by_cases y : 0 ≤ b ∧ b ≤ 3000
    · rw [if_neg (not_not_intro y)]
      by_cases z : 0 ≤ c ∧ c ≤ 999999999
      · rw [if_neg (not_not_intro z), decide_eq_true ⟨x, y, z⟩]; rfl
      · rw [if_pos z, decide_eq_false (fun k => z k.2.2)]; rfl
    · rw [if_pos y, decide_eq_false (fun k => y k.2.1)]; rfl
  · rw [if_pos x, decide_eq_false (fun k => x k.1)]; rfl
theorem p_meet {a1 a2 a3 a4 : Int32} (h : RR σ τ) : ∃ q r, mX2_meet σ a1 a2 a3 a4 = some q ∧ mX3_meet τ a1 a2 a3 a4 = some r ∧ q.1 = r.1 ∧ RR q.2 r.2 ∧ cntF q.2 ≤ cntF σ := by
  obtain ⟨n, B, G, C, M⟩ := h
  have M' : mM (sI τ 0 0 10 0) n B G := mM_10 M
  have hn := M.1.1
  unfold mX2_meet mX3_meet
  rw [sv_z]
  generalize sI τ 0 0 10 0 = τ' at M' ⊢
  have RN : RR σ τ' := ⟨n, B, G, C, M'⟩
  obtain ⟨z1, h1, rfl⟩ := zi_ex a1
  obtain ⟨z2, h2, rfl⟩ := zi_ex a2
  obtain ⟨z3, h3, rfl⟩ := zi_ex a3
  obtain ⟨z4, h4, rfl⟩ := zi_ex a4
  have y1 := h4.1
  have y2 := h4.2
  have q4 : (zi z4 = (-1 : Int32)) ↔ z4 = -1 := by rw [lm1]; exact yeq (by omega) (by omega) (by omega) (by omega)
  simp only [c_canAsk h1 h2 h3, m_isMeeting h1 h2 h3, ob_s, b2id0, q4, c_has C h4, m_isBond M' h4]
  by_cases c : (0 ≤ z1 ∧ z1 ≤ 200) ∧ (0 ≤ z2 ∧ z2 ≤ 3000) ∧ (0 ≤ z3 ∧ z3 ≤ 999999999)
  case neg =>
    simp only [if_pos c]; exact ⟨_, _, rfl, rfl, rfl, RN, Nat.le_refl _⟩
  simp only [if_neg (not_not_intro c)]
  obtain ⟨c1, c2, c3⟩ := c
  obtain ⟨σ1, e1, C1, w1, _, tk⟩ := c_take C c2.1 c2.2 c3.1 c3.2 c1.1 c1.2
  obtain ⟨τ1, f1, M1, _, _, mk⟩ := m_meets M' c2.1 c2.2 c3.1 c3.2 c1.1 c1.2
  have R1 : RR σ1 τ1 := ⟨n, B, G, C1, M1⟩
  have go : (z4 = -1 ∨ (0 ≤ z4 ∧ z4 < n)) → ∃ q r, kX2_meet_26 (σ, zi z1, zi z2, zi z3, zi z4) = some q ∧ kX3_meet_31 (τ', zi z1, zi z2, zi z3, zi z4) = some r ∧ q.1 = r.1 ∧ RR q.2 r.2 ∧ cntF q.2 ≤ cntF σ := by
    intro hz
    rw [ksX2_meet_26, ksX3_meet_31]
    unfold bkX2_meet_26 bkX3_meet_31
    simp only [e1, f1, ob_s, q4, b2id0]
    by_cases d : (grZ (kpK B G z2 z3) (fun i => B i 5) n n (elZ B G) z1 (fun _ => 0)).1 = 0
    · simp only [if_neg (not_not_intro d)]
      by_cases e : z4 = -1
      · simp only [if_pos e]
        exact ⟨_, _, rfl, rfl, rfl, R1, cnt_e w1⟩
      · simp only [if_neg e]
        rcases hz with hz | hz
        · exact absurd hz e
        · obtain ⟨i, hi, rfl⟩ := in_b h4 hn hz
          simp (disch := omega) only [inb_z, gdt, yN, Int.toNat_natCast, tk i hi, mk d i hi]
          exact ⟨_, _, rfl, rfl, rfl, R1, cnt_e w1⟩
    · simp only [if_pos d]
      by_cases e : z4 = -1
      · simp only [if_pos e]
        exact ⟨_, _, rfl, rfl, rfl, R1, cnt_e w1⟩
      · simp only [if_neg e]
        exact ⟨_, _, rfl, rfl, rfl, R1, cnt_e w1⟩
  by_cases e : z4 = -1
  · simp only [if_pos e]; exact go (Or.inl e)
  · simp only [if_neg e]
    by_cases d : 0 ≤ z4 ∧ z4 < n
    · simp only [if_neg (not_not_intro d)]; exact go (Or.inr d)
    · simp only [if_pos d]; exact ⟨_, _, rfl, rfl, rfl, RN, Nat.le_refl _⟩
def csZ (K T : Nat → Int) : Nat → Int
  | 0 => 0
  | k + 1 => csZ K T k + T k * K k
theorem c_sumL (C : cC σ n B G) (hT : ∀ i, i < n → gI σ 5 0 i = zi (T i)) (hK : ∀ i, i < n → gJ σ 0 0 i = zl (K i)) (hb : ∀ i, 0 ≤ T i ∧ T i ≤ 200) : ∀ (j i : Nat) (fuel : Nat), i + j = n → j < fuel → kX2_cost_35 fuel (σ, zl (csZ K T i), zi i) = some (some (zl (csZ K T n)), σ)
  | 0, i, fuel, hij, hf => by
    obtain ⟨fu, rfl⟩ : ∃ f, fuel = f + 1 := ⟨fuel - 1, by omega⟩
    have hn := C.1.1.1
    have : i = n := by omega
    subst this
    rw [ksX2_cost_35]
    unfold bkX2_cost_35
    rw [C.1.2.2.1, if_pos (by rw [yle (by omega) (by omega) (by omega) (by omega)]; omega)]
  | j + 1, i, fuel, hij, hf => by
    obtain ⟨fu, rfl⟩ : ∃ f, fuel = f + 1 := ⟨fuel - 1, by omega⟩
    have hn := C.1.1.1
    have hi : i < n := by omega
    have tb := hb i
    rw [← c_sumL C hT hK hb j (i + 1) fu (by omega) (by omega), ksX2_cost_35]
    unfold bkX2_cost_35
    have ei : zi i + (1 : Int32) = zi (i + 1 : Nat) := by rw [l1, zi_add]; rfl
    simp (disch := omega) only [C.1.2.2.1, inb_z, gdt, yN, Int.toNat_natCast, hT i hi, hK i hi, ei, yL, zl_mul, zl_add]
    rw [if_neg (by rw [yle (by omega) (by omega) (by omega) (by omega)]; omega)]
    simp (disch := omega) only [l0, yle]
    have e1 : csZ K T (i + 1) = csZ K T i + T i * K i := rfl
    rw [e1]
    by_cases c : T i ≤ 0
    · rw [if_pos c, show T i = 0 by omega, Int.zero_mul, Int.add_zero]
    · rw [if_neg c]
theorem m_sumL (M : mM τ n B G) (hT : ∀ i, i < n → gI τ 2 0 i = zi (T i)) (hK : ∀ i, i < n → gJ τ 0 0 i = zl (K i)) (hb : ∀ i, 0 ≤ T i ∧ T i ≤ 200) : ∀ (j i : Nat) (fuel : Nat), i + j = n → j < fuel → kX3_cost_36 fuel (τ, zl (csZ K T i), zi i) = some (zl (csZ K T n), τ)
  | 0, i, fuel, hij, hf => by
    obtain ⟨fu, rfl⟩ : ∃ f, fuel = f + 1 := ⟨fuel - 1, by omega⟩
    have hn := M.1.1
    have : i = n := by omega
    subst this
    rw [ksX3_cost_36]
    unfold bkX3_cost_36
    rw [M.2.1, if_pos (by rw [yle (by omega) (by omega) (by omega) (by omega)]; omega)]
  | j + 1, i, fuel, hij, hf => by
    obtain ⟨fu, rfl⟩ : ∃ f, fuel = f + 1 := ⟨fuel - 1, by omega⟩
    have hn := M.1.1
    have hi : i < n := by omega
    have tb := hb i
    rw [← m_sumL M hT hK hb j (i + 1) fu (by omega) (by omega), ksX3_cost_36]
    unfold bkX3_cost_36
    have ei : zi i + (1 : Int32) = zi (i + 1 : Nat) := by rw [l1, zi_add]; rfl
    simp (disch := omega) only [M.2.1, inb_z, gdt, yN, Int.toNat_natCast, hT i hi, hK i hi, ei, yL, zl_mul, zl_add]
    rw [if_neg (by rw [yle (by omega) (by omega) (by omega) (by omega)]; omega)]
    rfl
theorem p_cost {a1 a2 a3 : Int32} (h : RR σ τ) : ∃ q r, mX2_cost σ a1 a2 a3 = some q ∧ mX3_cost τ a1 a2 a3 = some r ∧ gI r.2 0 0 10 = rL_cost q ∧ (∀ v, q.1 = some v → v = r.1) ∧ RR q.2 r.2 ∧ cntF q.2 ≤ cntF σ := by
  obtain ⟨n, B, G, C, M⟩ := h
  have M' : mM (sI τ 0 0 10 0) n B G := mM_10 M
  have hn := M.1.1
  have no : ∀ v : Int64, (none : Option Int64) = some v → v = Int32.toInt64 0 := fun v h => by cases h
  obtain ⟨z1, h1, rfl⟩ := zi_ex a1
  obtain ⟨z2, h2, rfl⟩ := zi_ex a2
  obtain ⟨z3, h3, rfl⟩ := zi_ex a3
  unfold mX2_cost mX3_cost
  rw [sv_z]
  simp only [c_canAsk h1 h2 h3, m_isMeeting h1 h2 h3, ob_s, b2id0, m_refuse]
  by_cases c : (0 ≤ z1 ∧ z1 ≤ 200) ∧ (0 ≤ z2 ∧ z2 ≤ 3000) ∧ (0 ≤ z3 ∧ z3 ≤ 999999999)
  case neg =>
    simp only [if_pos c]; exact ⟨_, _, rfl, rfl, t10, no, ⟨n, B, G, C, mM_10 M'⟩, Nat.le_refl _⟩
  simp only [if_neg (not_not_intro c)]
  obtain ⟨c1, c2, c3⟩ := c
  obtain ⟨σ1, e1, C1, w1, ck, tk⟩ := c_take C c2.1 c2.2 c3.1 c3.2 c1.1 c1.2
  obtain ⟨τ1, f1, M1, th, mk0, mk⟩ := m_meets M' c2.1 c2.2 c3.1 c3.2 c1.1 c1.2
  simp only [e1, f1, ob_s, b2id0]
  have tb := (grzb (K := kpK B G z2 z3) (S := fun i => B i 5) (n := n) (fun i hi => (M.1.2.1 i hi).2.2.2.2.2.1.1) n (elZ B G) z1 (fun _ => 0) c1.1 c1.2 (fun _ => ⟨by omega, by omega⟩)).2
  by_cases d : (grZ (kpK B G z2 z3) (fun i => B i 5) n n (elZ B G) z1 (fun _ => 0)).1 = 0
  · simp only [if_neg (not_not_intro d)]
    have s1 := c_sumL C1 tk ck tb n 0 FU (by omega) (by unfold FU; omega)
    have s2 := m_sumL M1 (mk d) mk0 tb n 0 FU (by omega) (by unfold FU; omega)
    have t0 : gI τ1 0 0 10 = 0 := by rw [th]; exact t10
    exact ⟨_, _, s1, s2, t0, fun v hv => by cases hv; rfl, ⟨n, B, G, C1, M1⟩, cnt_e w1⟩
  · simp only [if_pos d]
    exact ⟨_, _, rfl, rfl, t10, no, ⟨n, B, G, C1, mM_10 M1⟩, cnt_e w1⟩
end P7

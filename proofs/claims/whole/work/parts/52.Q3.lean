/-! OFTEN -/
def mkP (dl : Nat → Nat → Bool) (P : Nat → Int32) (d u : Nat) : Int32 := if u ≤ d ∧ dl d u = false then P u else 0
def Pz (dl : Nat → Nat → Bool) : Nat → Nat → Int32
  | 0, u => if u = 0 then 1 else 0
  | d + 1, u => mkP dl (Pz dl d) d u + (if 1 ≤ u then mkP dl (Pz dl d) d (u - 1) else 0)
def enZ (dl : Nat → Nat → Bool) (P : Nat → Int32) (day : Nat) : Nat → Int32
  | 0 => 0
  | k + 1 => enZ dl P day k + (if dl day k = true then P k else 0)
theorem sv_y {α : Type} (x : ST) (f : ST → Option α) : sv x f = f x := by
  have h : f x = f x := rfl
  unfold sv; exact h
theorem gdy {α : Type} {x : Option α} : gd true x = x := by
  unfold gd; simp
theorem i32_a0 (x : Int32) : x + 0 = x := Int32.add_zero x
section Q3
variable {σ τ : ST} {n : Nat} {B : Nat → Nat → Int} {G : Nat → Int} {dl : Nat → Nat → Bool} {last : Nat}
def actR (σ : ST) (dl : Nat → Nat → Bool) (last : Nat) : Prop := ∀ d u : Nat, d ≤ last → u ≤ d → (gI σ 6 d u = (-2 : Int32) ↔ dl d u = false)
theorem actR_9 (A : actR σ dl last) {u : Nat} {v : Int32} : actR (sI σ 9 0 u v) dl last := by
  intro d u' hd hu
  rw [gI_nt (by decide)]; exact A d u' hd hu
theorem c_endL (C : cC σ n B G) (hl : last ≤ 20) (A : actR σ dl last) {day : Nat} (hd : day ≤ last) (hG : (last : Int) = G 3) {P : Nat → Int32} (hP : ∀ q, q ≤ day → gI σ 9 0 q = P q) : ∀ (j u : Nat) (fuel : Nat), u + j = day + 1 → j < fuel → kX1_pathsThatEndOn_81 fuel (σ, zi day, enZ dl P day u, zi u) = some ((enZ dl P day (day + 1)) <<< ((zi (G 3) - zi day) &&& 31), σ)
  | 0, u, fuel, hij, hf => by
    obtain ⟨fu, rfl⟩ : ∃ f, fuel = f + 1 := ⟨fuel - 1, by omega⟩
    have : u = day + 1 := by omega
    subst this
    rw [ksX1_pathsThatEndOn_81]
    unfold bkX1_pathsThatEndOn_81
    rw [if_pos (by rw [ylt (by omega) (by omega) (by omega) (by omega)]; omega), C.1.2.2.2.2.1.1]
  | j + 1, u, fuel, hij, hf => by
    obtain ⟨fu, rfl⟩ : ∃ f, fuel = f + 1 := ⟨fuel - 1, by omega⟩
    have ih := c_endL C hl A hd hG hP j (u + 1) fu (by omega) (by omega)
    have ei : zi u + (1 : Int32) = zi (u + 1 : Nat) := by rw [l1, zi_add]; rfl
    rw [← ih, ksX1_pathsThatEndOn_81]
    unfold bkX1_pathsThatEndOn_81
    rw [if_neg (by rw [ylt (by omega) (by omega) (by omega) (by omega)]; omega), ei]
    simp (disch := omega) only [inb_z, gdt, yN, Int.toNat_natCast, A day u hd (by omega), hP u (by omega)]
    have e0 : enZ dl P day (u + 1) = enZ dl P day u + (if dl day u = true then P u else 0) := rfl
    rw [e0]
    cases dl day u with
    | false => simp [i32_a0]
    | true => simp
theorem c_rowL (hl : last ≤ 20) {day d : Nat} (hd : d < last) (hdd : d < day) (hdl : day ≤ last) (P : Nat → Int32) (rc : ST × Int32 × Int32 → Option (Int32 × ST)) : ∀ (u : Nat) (σ : ST) (fuel : Nat), cC σ n B G → actR σ dl last → u ≤ d + 1 → (∀ q, q ≤ 21 → gI σ 9 0 q = if q < u then P q else if q = u then mkP dl P d u else if q ≤ d + 1 then mkP dl P d q + mkP dl P d (q - 1) else 0) → u < fuel → ∃ σ', kX1_pathsThatEndOn_24 rc fuel (σ, zi day, zi d, zi ((u : Int) - 1)) = rc (σ', zi day, zi (d + 1 : Nat)) ∧ cC σ' n B G ∧ gW σ' = gW σ ∧ actR σ' dl last ∧ (∀ q, q ≤ 21 → gI σ' 9 0 q = if q = 0 then mkP dl P d 0 else if q ≤ d + 1 then mkP dl P d q + mkP dl P d (q - 1) else 0)
  | 0, σ, fuel, C, A, hu, hq, hf => by
    obtain ⟨fu, rfl⟩ : ∃ f, fuel = f + 1 := ⟨fuel - 1, by omega⟩
    refine ⟨σ, ?_, C, rfl, A, fun q hq' => ?_⟩
    · rw [ksX1_pathsThatEndOn_24]
      unfold bkX1_pathsThatEndOn_24
      rw [if_pos (by decide)]
      have ei : zi d + (1 : Int32) = zi (d + 1 : Nat) := by rw [l1, zi_add]; rfl
      rw [ei]
    · rw [hq q hq', if_neg (by omega)]
  | u + 1, σ, fuel, C, A, hu, hq, hf => by
    obtain ⟨fu, rfl⟩ : ∃ f, fuel = f + 1 := ⟨fuel - 1, by omega⟩
    have e1 : ((u + 1 : Nat) : Int) - 1 = u := by omega
    have ei : zi u + (1 : Int32) = zi (u + 1 : Nat) := by rw [l1, zi_add]; rfl
    have em : zi u + (-1 : Int32) = zi ((u : Int) - 1) := by rw [lm1, zi_add]; rfl
    have w1 := hq (u + 1) (by omega)
    rw [if_neg (by omega), if_pos rfl] at w1
    have w0 := hq u (by omega)
    rw [if_pos (by omega)] at w0
    -- after the masking
    have go : ∀ σ1 : ST, cC σ1 n B G → gW σ1 = gW σ → actR σ1 dl last → (∀ q, q ≤ 21 → gI σ1 9 0 q = if q = u then mkP dl P d u else gI σ 9 0 q) → ∃ σ', kX1_pathsThatEndOn_48 (kX1_pathsThatEndOn_24 rc fu) (σ1, zi day, zi d, zi u) = rc (σ', zi day, zi (d + 1 : Nat)) ∧ cC σ' n B G ∧ gW σ' = gW σ ∧ actR σ' dl last ∧ (∀ q, q ≤ 21 → gI σ' 9 0 q = if q = 0 then mkP dl P d 0 else if q ≤ d + 1 then mkP dl P d q + mkP dl P d (q - 1) else 0) := by
      intro σ1 C1 W1 A1 h1
      have x1 : gI σ1 9 0 (u + 1) = mkP dl P d (u + 1) := by rw [h1 _ (by omega), if_neg (by omega)]; exact w1
      have x0 : gI σ1 9 0 u = mkP dl P d u := by rw [h1 _ (by omega), if_pos rfl]
      obtain ⟨σ', e, C', w, A', r⟩ := c_rowL hl hd hdd hdl P rc u (sI σ1 9 0 (u + 1) (mkP dl P d (u + 1) + mkP dl P d u)) fu (cC_sI C1 (by omega)) (actR_9 A1) (by omega) (fun q hq' => by
        rw [gI_sI]
        by_cases c : q = u + 1
        · subst c
          rw [if_pos ⟨rfl, rfl, rfl⟩, if_neg (by omega), if_neg (by omega), if_pos (by omega), Nat.add_sub_cancel]
        · rw [if_neg (fun h => c h.2.2), h1 q hq']
          by_cases c2 : q = u
          · rw [if_pos c2, if_neg (by omega), if_pos c2]
          · rw [if_neg c2, hq q hq']
            by_cases c3 : q < u
            · rw [if_pos (by omega), if_pos c3]
            · rw [if_neg (by omega), if_neg c, if_neg c3, if_neg c2]) (by omega)
      refine ⟨σ', ?_, C', w.trans W1, A', r⟩
      rw [← e, ksX1_pathsThatEndOn_48]
      unfold bkX1_pathsThatEndOn_48
      rw [ei, em]
      simp (disch := omega) only [inb_z, gdy, yN, Int.toNat_natCast, sv_y, x1, x0]
    rw [ksX1_pathsThatEndOn_24]
    unfold bkX1_pathsThatEndOn_24
    rw [e1, if_neg (by rw [l0, ylt (by omega) (by omega) (by omega) (by omega)]; omega)]
    simp (disch := omega) only [inb_z, gdy, yN, Int.toNat_natCast, sv_y]
    have ad := A d u (by omega) (by omega)
    cases c : dl d u with
    | false =>
      rw [if_pos (ad.mpr c)]
      refine go σ C rfl A (fun q hq' => ?_)
      by_cases k : q = u
      · rw [if_pos k, k, w0]
        unfold mkP
        rw [if_pos ⟨by omega, c⟩]
      · rw [if_neg k]
    | true =>
      rw [if_neg (fun k => by rw [ad.mp k] at c; cases c)]
      refine go _ (cC_sI C (by omega)) rfl (actR_9 A) (fun q hq' => ?_)
      rw [gI_sI]
      by_cases k : q = u
      · rw [if_pos ⟨rfl, rfl, k⟩, if_pos k]
        unfold mkP
        rw [if_neg (fun h => by rw [c] at h; cases h.2)]
      · rw [if_neg (fun h => k h.2.2), if_neg k]
theorem c_daysL (hl : last ≤ 20) (hG : (last : Int) = G 3) {day : Nat} (hdl : day ≤ last) : ∀ (j d : Nat) (σ : ST) (fuel : Nat), cC σ n B G → actR σ dl last → d + j = day → (∀ q, q ≤ 21 → gI σ 9 0 q = if q ≤ d then Pz dl d q else 0) → j < fuel → ∃ σ', kX1_pathsThatEndOn_17 fuel (σ, zi day, zi d) = some ((enZ dl (Pz dl day) day (day + 1)) <<< ((zi (G 3) - zi day) &&& 31), σ') ∧ cC σ' n B G ∧ gW σ' = gW σ
  | 0, d, σ, fuel, C, A, hij, hq, hf => by
    obtain ⟨fu, rfl⟩ : ∃ f, fuel = f + 1 := ⟨fuel - 1, by omega⟩
    have : d = day := by omega
    subst this
    refine ⟨σ, ?_, C, rfl⟩
    rw [ksX1_pathsThatEndOn_17]
    unfold bkX1_pathsThatEndOn_17
    rw [if_pos (by rw [yle (by omega) (by omega) (by omega) (by omega)]; omega)]
    exact c_endL C hl A hdl hG (fun q hq' => by rw [hq q (by omega), if_pos hq']) (d + 1) 0 FU (by omega) (by unfold FU; omega)
  | j + 1, d, σ, fuel, C, A, hij, hq, hf => by
    obtain ⟨fu, rfl⟩ : ∃ f, fuel = f + 1 := ⟨fuel - 1, by omega⟩
    obtain ⟨σ1, e1, C1, w1, A1, r1⟩ := c_rowL (n := n) (B := B) (G := G) (dl := dl) hl (show d < last by omega) (show d < day by omega) hdl (Pz dl d) (kX1_pathsThatEndOn_17 fu) (d + 1) σ FU C A (by omega) (fun q hq' => by
      rw [hq q hq']
      by_cases c : q ≤ d
      · rw [if_pos c, if_pos (by omega)]
      · rw [if_neg c, if_neg (by omega)]
        by_cases c2 : q = d + 1
        · rw [if_pos c2]; unfold mkP; rw [if_neg (by omega)]
        · rw [if_neg c2, if_neg (by omega)]) (by unfold FU; omega)
    obtain ⟨σ', e, C', w⟩ := c_daysL hl hG hdl j (d + 1) σ1 fu C1 A1 (by omega) (fun q hq' => by
      rw [r1 q hq']
      have e0 : Pz dl (d + 1) q = mkP dl (Pz dl d) d q + (if 1 ≤ q then mkP dl (Pz dl d) d (q - 1) else 0) := rfl
      by_cases c : q = 0
      · rw [if_pos c, if_pos (by omega), e0, if_neg (by omega), i32_a0, c]
      · rw [if_neg c, e0, if_pos (show 1 ≤ q by omega)]) (by omega)
    refine ⟨σ', ?_, C', w.trans w1⟩
    rw [← e, ← e1, ksX1_pathsThatEndOn_17]
    unfold bkX1_pathsThatEndOn_17
    rw [if_neg (by rw [yle (by omega) (by omega) (by omega) (by omega)]; omega), show ((d + 1 : Nat) : Int) - 1 = d by omega]
theorem c_often (C : cC σ n B G) (hl : last ≤ 20) (hG : (last : Int) = G 3) (A : actR σ dl last) {day : Nat} (hdl : day ≤ last) : ∃ σ', mX1_pathsThatEndOn σ (zi day) = some ((enZ dl (Pz dl day) day (day + 1)) <<< ((zi (G 3) - zi day) &&& 31), σ') ∧ cC σ' n B G ∧ gW σ' = gW σ := by
  unfold mX1_pathsThatEndOn
  have n0 : Int32.toNatClampNeg 0 = 0 := by decide
  have i0 : inb (0 : Int32) 22 = true := by decide
  rw [sv_z, i0, gdt, sv_z, n0]
  refine c_daysL hl hG hdl day 0 _ FU (cC_sI (cC_sR C (by omega)) (by omega)) (actR_9 ?_) (by omega) (fun q hq => ?_) (by unfold FU; omega)
  · intro d u hd hu
    rw [gI_Rnt (by decide)]; exact A d u hd hu
  · rw [gI_sI]
    by_cases c : q = 0
    · rw [if_pos ⟨rfl, rfl, c⟩, if_pos (by omega)]
      unfold Pz; rw [if_pos c]
    · rw [if_neg (fun h => c h.2.2), if_neg (by omega), gI_Rat]
/-! the reference -/
def dlvR (τ : ST) (dl : Nat → Nat → Bool) (last : Nat) : Prop := ∀ d u : Nat, d ≤ last → u ≤ d → mX3_delivers τ (zi d) (zi u) = some (b2i (dl d u))
theorem dlvR_4 (A : dlvR τ dl last) {q : Nat} {v : Int32} : dlvR (sI τ 4 0 q v) dl last := by
  intro d u hd hu
  rw [← A d u hd hu]
  unfold mX3_delivers
  rw [gI_nt (by decide), gJ_sI]
theorem m_oftL (hl : last ≤ 20) {day d : Nat} (hd : d ≤ day) (hdl : day ≤ last) (rc : ST × Int32 × Int32 × Int32 → Option (Int32 × ST)) : ∀ (j u : Nat) (τ : ST) (fuel : Nat), mM τ n B G → dlvR τ dl last → u + j = d + 1 → (∀ d' u', d' < d → u' ≤ d' → gI τ 4 0 (21 * d' + u') = Pz dl d' u') → (∀ u', u' < u → gI τ 4 0 (21 * d + u') = Pz dl d u') → j < fuel → ∃ τ', kX3_often_45 rc fuel (τ, zi day, (if d = day then enZ dl (Pz dl day) day u else 0), zi d, zi u) = rc (τ', zi day, (if d = day then enZ dl (Pz dl day) day (day + 1) else 0), zi (d + 1 : Nat)) ∧ mM τ' n B G ∧ dlvR τ' dl last ∧ (∀ d' u', d' ≤ d → u' ≤ d' → gI τ' 4 0 (21 * d' + u') = Pz dl d' u')
  | 0, u, τ, fuel, M, A, hij, hup, hrow, hf => by
    obtain ⟨fu, rfl⟩ : ∃ f, fuel = f + 1 := ⟨fuel - 1, by omega⟩
    refine ⟨τ, ?_, M, A, fun d' u' h1 h2 => ?_⟩
    · rw [ksX3_often_45]
      unfold bkX3_often_45
      rw [if_pos (by rw [ylt (by omega) (by omega) (by omega) (by omega)]; omega)]
      have ei : zi d + (1 : Int32) = zi (d + 1 : Nat) := by rw [l1, zi_add]; rfl
      rw [ei]
      by_cases c : d = day
      · rw [if_pos c, if_pos c, show u = day + 1 by omega]
      · rw [if_neg c, if_neg c]
    · by_cases c : d' = d
      · subst c; exact hrow u' (by omega)
      · exact hup d' u' (by omega) h2
  | j + 1, u, τ, fuel, M, A, hij, hup, hrow, hf => by
    obtain ⟨fu, rfl⟩ : ∃ f, fuel = f + 1 := ⟨fuel - 1, by omega⟩
    have hu : u ≤ d := by omega
    have ei : zi u + (1 : Int32) = zi (u + 1 : Nat) := by rw [l1, zi_add]; rfl
    have ea : (21 : Int32) * zi d + zi u = zi (21 * d + u : Nat) := by rw [l21, zi_mul, zi_add]; rfl
    -- the node's ways are right: on
    have go : ∀ τ1 : ST, mM τ1 n B G → dlvR τ1 dl last → (∀ q, q ≠ 21 * d + u → gI τ1 4 0 q = gI τ 4 0 q) → gI τ1 4 0 (21 * d + u) = Pz dl d u → ∃ τ', kX3_often_161 (kX3_often_45 rc fu) (τ1, zi day, (if d = day then enZ dl (Pz dl day) day u else 0), zi d, zi u, zi (21 * d + u : Nat)) = rc (τ', zi day, (if d = day then enZ dl (Pz dl day) day (day + 1) else 0), zi (d + 1 : Nat)) ∧ mM τ' n B G ∧ dlvR τ' dl last ∧ (∀ d' u', d' ≤ d → u' ≤ d' → gI τ' 4 0 (21 * d' + u') = Pz dl d' u') := by
      intro τ1 M1 A1 h1 h2
      obtain ⟨τ', e, r⟩ := m_oftL hl hd hdl rc j (u + 1) τ1 fu M1 A1 (by omega) (fun d' u' k1 k2 => by
        rw [h1 _ (by omega)]; exact hup d' u' k1 k2) (fun u' k => by
        by_cases c : u' = u
        · rw [c]; exact h2
        · rw [h1 _ (by omega)]; exact hrow u' (by omega)) (by omega)
      refine ⟨τ', ?_, r⟩
      rw [← e, ksX3_often_161]
      unfold bkX3_often_161
      have q1 : (zi (d : Int) = zi (day : Int)) ↔ d = day := by
        rw [yeq (by omega) (by omega) (by omega) (by omega)]; omega
      simp (disch := omega) only [q1, ei, A1 d u (by omega) hu, ob_s, b2i0, inb_z, gdy, yN, Int.toNat_natCast, h2, i32_a0]
      by_cases c : d = day
      · rw [if_pos c, if_pos c, if_pos c]
        have e0 : enZ dl (Pz dl day) day (u + 1) = enZ dl (Pz dl day) day u + (if dl day u = true then Pz dl day u else 0) := rfl
        rw [e0, c]
        cases dl day u with
        | false => simp [i32_a0]
        | true => simp
      · rw [if_neg c, if_neg c, if_neg c]
    rw [ksX3_often_45]
    unfold bkX3_often_45
    rw [if_neg (by rw [ylt (by omega) (by omega) (by omega) (by omega)]; omega), ea]
    have MF : ∀ t : ST, mM t n B G → ∀ (q : Nat) (v : Int32), mM (sI t 4 0 q v) n B G := fun t Mt q v => mM_fr Mt (gI_nt (by decide)) (gI_nt (by decide))
    cases d with
    | zero =>
      have : u = 0 := by omega
      subst this
      rw [if_pos (by rfl), ksX3_often_75]
      unfold bkX3_often_75
      simp (disch := omega) only [inb_z, gdy, yN, Int.toNat_natCast, sv_y]
      rw [if_pos (show zi ((0 : Nat) : Int) ≤ (0 : Int32) by decide), ksX3_often_119]
      unfold bkX3_often_119
      rw [if_pos (show zi ((0 : Nat) : Int) ≤ (0 : Int32) by decide)]
      exact go (sI τ 4 0 (21 * 0 + 0) 1) (MF τ M _ _) (dlvR_4 A) (fun q hq => by rw [gI_sI, if_neg (fun h => hq h.2.2)]) (by rw [gI_sI, if_pos ⟨rfl, rfl, rfl⟩]; rfl)
    | succ e =>
      have z0 : ¬ zi ((e + 1 : Nat) : Int) = (0 : Int32) := by rw [l0, yeq (by omega) (by omega) (by omega) (by omega)]; omega
      have z1 : ¬ zi ((e + 1 : Nat) : Int) ≤ (0 : Int32) := by rw [l0, yle (by omega) (by omega) (by omega) (by omega)]; omega
      have z2 : zi ((e + 1 : Nat) : Int) - (1 : Int32) = zi e := by rw [l1, zi_sub]; congr 1; omega
      have P0 : Pz dl (e + 1) u = mkP dl (Pz dl e) e u + (if 1 ≤ u then mkP dl (Pz dl e) e (u - 1) else 0) := rfl
      -- the second part
      have go2 : ∀ (τ1 : ST) (v : Int32), mM τ1 n B G → dlvR τ1 dl last → (∀ q, q ≠ 21 * (e + 1) + u → gI τ1 4 0 q = gI τ 4 0 q) → gI τ1 4 0 (21 * (e + 1) + u) = (if 1 ≤ u then mkP dl (Pz dl e) e (u - 1) else 0) → ∃ τ', kX3_often_119 (kX3_often_45 rc fu) (τ1, zi day, (if e + 1 = day then enZ dl (Pz dl day) day u else 0), zi (e + 1 : Nat), zi u, zi (21 * (e + 1) + u : Nat)) = rc (τ', zi day, (if e + 1 = day then enZ dl (Pz dl day) day (day + 1) else 0), zi (e + 1 + 1 : Nat)) ∧ mM τ' n B G ∧ dlvR τ' dl last ∧ (∀ d' u', d' ≤ e + 1 → u' ≤ d' → gI τ' 4 0 (21 * d' + u') = Pz dl d' u') := by
        intro τ1 v M1 A1 h1 h2
        rw [ksX3_often_119]
        unfold bkX3_often_119
        rw [if_neg z1]
        by_cases c : e + 1 ≤ u
        · rw [if_pos (by rw [yle (by omega) (by omega) (by omega) (by omega)]; omega)]
          refine go τ1 M1 A1 h1 ?_
          rw [h2, P0]
          have : mkP dl (Pz dl e) e u = 0 := by unfold mkP; rw [if_neg (by omega)]
          rw [this, Int32.zero_add]
        · rw [if_neg (by rw [yle (by omega) (by omega) (by omega) (by omega)]; omega), z2, A1 e u (by omega) (by omega), ob_s]
          have a1 : zi (21 * (e + 1) + u : Nat) - (21 : Int32) = zi (21 * e + u : Nat) := by rw [l21, zi_sub]; congr 1; omega
          rw [a1]
          simp (disch := omega) only [b2i0, inb_z, gdy, yN, Int.toNat_natCast, sv_y]
          have pv : gI τ1 4 0 (21 * e + u) = Pz dl e u := by rw [h1 _ (by omega)]; exact hup e u (by omega) (by omega)
          cases k : dl e u with
          | true =>
            rw [if_neg (by decide)]
            refine go τ1 M1 A1 h1 ?_
            rw [h2, P0]
            have : mkP dl (Pz dl e) e u = 0 := by unfold mkP; rw [if_neg (fun h => by rw [k] at h; cases h.2)]
            rw [this, Int32.zero_add]
          | false =>
            rw [if_pos rfl]
            refine go _ (MF τ1 M1 _ _) (dlvR_4 A1) (fun q hq => by rw [gI_sI, if_neg (fun h => hq h.2.2)]; exact h1 q hq) ?_
            rw [gI_sI, if_pos ⟨rfl, rfl, rfl⟩, h2, pv, P0]
            have : mkP dl (Pz dl e) e u = Pz dl e u := by unfold mkP; rw [if_pos ⟨by omega, k⟩]
            rw [this, Int32.add_comm]
      rw [if_neg z0, ksX3_often_75]
      unfold bkX3_often_75
      simp (disch := omega) only [inb_z, gdy, yN, Int.toNat_natCast, sv_y]
      rw [if_neg z1]
      have s1 : ∀ q, q ≠ 21 * (e + 1) + u → gI (sI τ 4 0 (21 * (e + 1) + u) 0) 4 0 q = gI τ 4 0 q := fun q hq => by rw [gI_sI, if_neg (fun h => hq h.2.2)]
      have s2 : gI (sI τ 4 0 (21 * (e + 1) + u) 0) 4 0 (21 * (e + 1) + u) = 0 := by rw [gI_sI, if_pos ⟨rfl, rfl, rfl⟩]
      by_cases c : u = 0
      · rw [if_pos (by rw [c]; decide)]
        exact go2 _ 0 (MF τ M _ _) (dlvR_4 A) s1 (by rw [s2, if_neg (by omega)])
      · have z3 : zi (u : Int) - (1 : Int32) = zi (u - 1 : Nat) := by rw [l1, zi_sub]; congr 1; omega
        have a1 : zi (21 * (e + 1) + u : Nat) - (22 : Int32) = zi (21 * e + (u - 1) : Nat) := by rw [l22, zi_sub]; congr 1; omega
        rw [if_neg (by rw [l0, yle (by omega) (by omega) (by omega) (by omega)]; omega), z2, z3, dlvR_4 A e (u - 1) (by omega) (by omega), ob_s, a1]
        simp (disch := omega) only [b2i0, inb_z, gdy, yN, Int.toNat_natCast]
        have pv : gI (sI τ 4 0 (21 * (e + 1) + u) 0) 4 0 (21 * e + (u - 1)) = Pz dl e (u - 1) := by rw [s1 _ (by omega)]; exact hup e (u - 1) (by omega) (by omega)
        cases k : dl e (u - 1) with
        | true =>
          rw [if_neg (by decide)]
          refine go2 _ 0 (MF τ M _ _) (dlvR_4 A) s1 ?_
          rw [s2, if_pos (by omega)]
          unfold mkP; rw [if_neg (fun h => by rw [k] at h; cases h.2)]
        | false =>
          rw [if_pos rfl]
          refine go2 _ 0 (MF _ (MF τ M _ _) _ _) (dlvR_4 (dlvR_4 A)) (fun q hq => by rw [gI_sI, if_neg (fun h => hq h.2.2)]; exact s1 q hq) ?_
          rw [gI_sI, if_pos ⟨rfl, rfl, rfl⟩, s2, pv, if_pos (by omega)]
          have : mkP dl (Pz dl e) e (u - 1) = Pz dl e (u - 1) := by unfold mkP; rw [if_pos ⟨by omega, k⟩]
          rw [this, Int32.zero_add]
theorem m_oftD (hl : last ≤ 20) (hG : (last : Int) = G 3) {day : Nat} (hdl : day ≤ last) : ∀ (j d : Nat) (τ : ST) (fuel : Nat), mM τ n B G → dlvR τ dl last → d + j = day + 1 → (∀ d' u', d' < d → u' ≤ d' → gI τ 4 0 (21 * d' + u') = Pz dl d' u') → j < fuel → ∃ τ', kX3_often_37 fuel (τ, zi day, (if d = day + 1 then enZ dl (Pz dl day) day (day + 1) else 0), zi d) = some ((enZ dl (Pz dl day) day (day + 1)) <<< ((zi (G 3) - zi day) &&& 31), τ') ∧ mM τ' n B G
  | 0, d, τ, fuel, M, A, hij, hup, hf => by
    obtain ⟨fu, rfl⟩ : ∃ f, fuel = f + 1 := ⟨fuel - 1, by omega⟩
    refine ⟨τ, ?_, M⟩
    rw [ksX3_often_37]
    unfold bkX3_often_37
    rw [if_pos (by rw [ylt (by omega) (by omega) (by omega) (by omega)]; omega), if_pos (by omega), M.2.2.1.2.2.2.1]
  | j + 1, d, τ, fuel, M, A, hij, hup, hf => by
    obtain ⟨fu, rfl⟩ : ∃ f, fuel = f + 1 := ⟨fuel - 1, by omega⟩
    obtain ⟨τ1, e1, M1, A1, r1⟩ := m_oftL (n := n) (B := B) (G := G) (dl := dl) hl (show d ≤ day by omega) hdl (kX3_often_37 fu) (d + 1) 0 τ FU M A (by omega) hup (fun u' h => by omega) (by unfold FU; omega)
    obtain ⟨τ', e, M'⟩ := m_oftD hl hG hdl j (d + 1) τ1 fu M1 A1 (by omega) (fun d' u' h1 h2 => r1 d' u' (by omega) h2) (by omega)
    refine ⟨τ', ?_, M'⟩
    have x0 : (if d = day then enZ dl (Pz dl day) day 0 else 0) = (0 : Int32) := by split <;> rfl
    have x1 : (if d + 1 = day + 1 then enZ dl (Pz dl day) day (day + 1) else 0) = (if d = day then enZ dl (Pz dl day) day (day + 1) else 0) := by
      by_cases c : d = day
      · rw [if_pos c, if_pos (by omega)]
      · rw [if_neg c, if_neg (by omega)]
    rw [x0] at e1
    rw [x1] at e
    rw [← e, ← e1, ksX3_often_37]
    unfold bkX3_often_37
    rw [if_neg (by rw [ylt (by omega) (by omega) (by omega) (by omega)]; omega), if_neg (by omega)]
    rfl
theorem p_often {a1 : Int32} (h : RR σ τ) : ∃ q r, mX2_often σ a1 = some q ∧ mX3_often τ a1 = some r ∧ q.1 = r.1 ∧ RR q.2 r.2 ∧ cntF q.2 ≤ cntF σ := by
  obtain ⟨n, B, G, C, M⟩ := h
  have M' : mM (sI τ 0 0 10 0) n B G := mM_10 M
  have hn := M.1.1
  obtain ⟨g0, g1, g2, g3, g4, g5, g6, g7, g8⟩ := C.1.1.2.2
  unfold mX2_often mX3_often
  rw [sv_z]
  generalize sI τ 0 0 10 0 = τ' at M' ⊢
  have RN : RR σ τ' := ⟨n, B, G, C, M'⟩
  obtain ⟨z1, h1, rfl⟩ := zi_ex a1
  obtain ⟨x, ex, hx⟩ := c_bits C
  simp only [ex, c_hasDay C h1, m_dayIn M' h1, m_isAny M', ob_s, b2i0, bs_0 hx]
  by_cases c : 0 ≤ z1 ∧ z1 ≤ G 3
  · cases a : anZ n (elZ B G) with
    | true =>
      obtain ⟨d, rfl⟩ : ∃ d : Nat, z1 = d := ⟨z1.toNat, by omega⟩
      obtain ⟨σ1, e1, C1, w1, r1⟩ := c_valueBy C hx a
      obtain ⟨τ1, f1, M1, t0, _, r2⟩ := m_treeN M' a
      have A1 : actR σ1 (dlZ (nwZ (elZ B G) B G (G 7) n) (G 6) true (G 3).toNat) (G 3).toNat := by
        intro d u hd hu
        have pa := pkZ_a (B := B) (G := G) (m := G 7) a (2 * (u : Int) - d)
        rw [(r1 d hd u hu).2, AZ_dl hd]
        cases dlZ (nwZ (elZ B G) B G (G 7) n) (G 6) true (G 3).toNat d u with
        | true =>
          rw [if_pos rfl, show (-2 : Int32) = zi (-2) from rfl, yeq (by omega) (by omega) (by omega) (by omega)]
          constructor
          · intro k; omega
          · intro k; cases k
        | false => exact ⟨fun _ => rfl, fun _ => rfl⟩
      have A2 : dlvR τ1 (dlZ (nwZ (elZ B G) B G (G 7) n) (G 6) true (G 3).toNat) (G 3).toNat := by
        intro d u hd hu
        exact m_deliv M1 (car := G 6) hd hu (fun _ => rfl) (nwZ_b C.1.1 a g6.1 g6.2 _) (Wd_b C.1.1 a (by omega) _) (r2 d hd)
      obtain ⟨σ2, e2, C2, w2⟩ := c_often C1 (by omega) (by omega) A1 (day := d) (by omega)
      obtain ⟨τ2, f2, M2⟩ := m_oftD (n := n) (B := B) (G := G) (show (G 3).toNat ≤ 20 by omega) (by omega) (show d ≤ (G 3).toNat by omega) (d + 1) 0 τ1 FU M1 A2 (by omega) (fun d' u' h => by omega) (by unfold FU; omega)
      rw [if_neg (by omega)] at f2
      have f2 : kX3_often_37 FU (τ1, zi d, 0, 0) = _ := f2
      simp only [decide_eq_true c, e1, f1, ob_s, e2, f2]
      exact ⟨_, _, rfl, rfl, rfl, ⟨n, B, G, C2, M2⟩, cnt_e (w2.trans w1)⟩
    | false =>
      simp only [decide_eq_true c]
      exact ⟨_, _, rfl, rfl, rfl, RN, Nat.le_refl _⟩
  · simp only [decide_eq_false c]
    exact ⟨_, _, rfl, rfl, rfl, RN, Nat.le_refl _⟩
end Q3

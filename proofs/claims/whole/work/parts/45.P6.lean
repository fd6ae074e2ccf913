/-! CONTRACTS MET FROM STOCKS -/
abbrev one1 : Nat → Int := fun _ => 1
def rmF (f : Nat → Bool) (q : Nat) : Nat → Bool := fun i => f i && !decide (i = q)
def upT (T : Nat → Int) (q : Nat) (v : Int) : Nat → Int := fun i => if i = q then v else T i
def mnZ (s l : Int) : Int := if s < l then s else l
def grZ (K S : Nat → Int) (n : Nat) : Nat → (Nat → Bool) → Int → (Nat → Int) → Int × (Nat → Int)
  | 0, _, L, T => (L, T)
  | j + 1, f, L, T => if chZ f K one1 n = -1 then (L, T) else grZ K S n j (rmF f (chZ f K one1 n).toNat) (L - mnZ (S (chZ f K one1 n).toNat) L) (upT T (chZ f K one1 n).toNat (mnZ (S (chZ f K one1 n).toNat) L))
def cO (f : Nat → Bool) : Nat → Nat
  | 0 => 0
  | k + 1 => cO f k + (if f k then 1 else 0)
theorem cO_le (f : Nat → Bool) : ∀ k, cO f k ≤ k
  | 0 => by unfold cO; omega
  | k + 1 => by have := cO_le f k; unfold cO; split <;> omega
theorem cO_hi {f : Nat → Bool} {q : Nat} : ∀ k, k ≤ q → cO (rmF f q) k = cO f k
  | 0, _ => rfl
  | k + 1, h => by
    unfold cO
    rw [cO_hi k (by omega)]
    have : rmF f q k = f k := by unfold rmF; simp [show ¬ k = q by omega]
    rw [this]
theorem cO_rm {f : Nat → Bool} {q : Nat} (hq : f q = true) : ∀ k, q < k → cO (rmF f q) k + 1 = cO f k
  | 0, h => by omega
  | k + 1, h => by
    unfold cO
    by_cases c : q = k
    · subst c
      rw [cO_hi q (Nat.le_refl _)]
      have : rmF f q q = false := by unfold rmF; simp
      rw [this, hq]; simp
    · have : rmF f q k = f k := by unfold rmF; simp [show ¬ k = q by omega]
      rw [this]
      have := cO_rm hq k (by omega)
      omega
theorem cO_0 {f : Nat → Bool} : ∀ k, cO f k = 0 → ∀ i, i < k → f i = false
  | 0, _, i, hi => by omega
  | k + 1, h, i, hi => by
    unfold cO at h
    by_cases c : i = k
    · subst c
      cases e : f i with
      | false => rfl
      | true => rw [e] at h; simp at h
    · exact cO_0 k (by omega) i (by omega)
theorem chZ_no {f : Nat → Bool} {P F : Nat → Int} : ∀ k, (∀ i, i < k → f i = false) → chZ f P F k = -1
  | 0, _ => rfl
  | k + 1, h => by
    unfold chZ
    rw [if_neg (fun q => by rw [h k (by omega)] at q; cases q.1)]
    exact chZ_no k (fun i hi => h i (by omega))
theorem mnZ_b {s l : Int} (hs : 0 ≤ s) (hl : 0 ≤ l) : 0 ≤ mnZ s l ∧ mnZ s l ≤ l := by
  unfold mnZ; split <;> omega
section P6
variable {K S : Nat → Int} {n : Nat}
theorem grz0 (hS : ∀ i, i < n → 0 ≤ S i) : ∀ (j : Nat) (f : Nat → Bool) (T : Nat → Int), (∀ i, i < n → f i = true → T i = 0) → (grZ K S n j f 0 T).1 = 0 ∧ ∀ i, (grZ K S n j f 0 T).2 i = T i
  | 0, f, T, _ => ⟨rfl, fun _ => rfl⟩
  | j + 1, f, T, hT => by
    unfold grZ
    by_cases c : chZ f K one1 n = -1
    · rw [if_pos c]; exact ⟨rfl, fun _ => rfl⟩
    · rw [if_neg c]
      have b := chZ_b f K one1 n
      have cf := chZ_f f K one1 n c
      generalize hq : (chZ f K one1 n).toNat = q at *
      have hqn : q < n := by omega
      have m0 : mnZ (S q) 0 = 0 := by unfold mnZ; have := hS q hqn; rw [if_neg (by omega)]
      rw [m0]
      have tq : upT T q 0 = T := by
        funext i
        unfold upT
        by_cases e : i = q
        · rw [if_pos e, e, hT q hqn cf]
        · rw [if_neg e]
      rw [tq]
      exact grz0 hS j (rmF f q) T (fun i hi hf => hT i hi (by unfold rmF at hf; simp at hf; exact hf.1))
theorem grzb (hS : ∀ i, i < n → 0 ≤ S i) : ∀ (j : Nat) (f : Nat → Bool) (L : Int) (T : Nat → Int), 0 ≤ L → L ≤ 200 → (∀ i, 0 ≤ T i ∧ T i ≤ 200) → (0 ≤ (grZ K S n j f L T).1 ∧ (grZ K S n j f L T).1 ≤ 200) ∧ ∀ i, 0 ≤ (grZ K S n j f L T).2 i ∧ (grZ K S n j f L T).2 i ≤ 200
  | 0, f, L, T, h1, h2, hT => ⟨⟨h1, h2⟩, hT⟩
  | j + 1, f, L, T, h1, h2, hT => by
    unfold grZ
    by_cases c : chZ f K one1 n = -1
    · rw [if_pos c]; exact ⟨⟨h1, h2⟩, hT⟩
    · rw [if_neg c]
      have b := chZ_b f K one1 n
      generalize hq : (chZ f K one1 n).toNat = q at *
      have mb := mnZ_b (hS q (by omega)) h1
      refine grzb hS j _ _ _ (by omega) (by omega) (fun i => ?_)
      unfold upT
      split
      · omega
      · exact hT i
end P6
section P6
variable {σ τ : ST} {n : Nat} {B : Nat → Nat → Int} {G : Nat → Int} {f : Nat → Bool} {x : Int32} {K : Nat → Int}
def kpK (B : Nat → Nat → Int) (G : Nat → Int) (r m : Int) (i : Nat) : Int := prZ (B i) r - m * faZ (B i) (G 0) / 10000
theorem iv_b {b : Nat → Int} (g : gdB b) {nt : Int} (hn : 0 ≤ nt) {m : Int} (h0 : 0 ≤ m) (h1 : m ≤ 999999999) : 0 ≤ m * faZ b nt ∧ m * faZ b nt ≤ 167999999832000 := by
  have fb := faZ_b g hn
  refine ⟨Int.mul_nonneg h0 fb.1, ?_⟩
  have := Int.mul_le_mul h1 fb.2 fb.1 (by omega : (0 : Int) ≤ 999999999)
  omega
theorem kpK_b (Sk : okS n B G) {i : Nat} (hi : i < n) {r m : Int} (h0 : 0 ≤ m) (h1 : m ≤ 999999999) : -20000000000 ≤ kpK B G r m i ∧ kpK B G r m i ≤ 20000000000 := by
  have p := prZ_b (Sk.2.1 i hi) r
  have v := iv_b (Sk.2.1 i hi) Sk.2.2.1.1 h0 h1
  unfold kpK
  omega
theorem c_leastL (C : cC σ n B G) (hx : bs x f n) (hK : ∀ i, i < n → gJ σ 0 0 i = zl (K i)) (hb : ∀ i, i < n → -20000000000 ≤ K i ∧ K i ≤ 20000000000) : ∀ (j i : Nat) (fuel : Nat), i + j = n → j < fuel → kX2_leastCost_4 σ fuel (x, zi (chZ f K one1 i), zi i) = some (zi (chZ f K one1 n))
  | 0, i, fuel, hij, hf => by
    obtain ⟨fu, rfl⟩ : ∃ f, fuel = f + 1 := ⟨fuel - 1, by omega⟩
    have hn := C.1.1.1
    have : i = n := by omega
    subst this
    rw [ksX2_leastCost_4]
    unfold bkX2_leastCost_4
    rw [C.1.2.2.1, if_pos (by rw [yle (by omega) (by omega) (by omega) (by omega)]; omega)]
  | j + 1, i, fuel, hij, hf => by
    obtain ⟨fu, rfl⟩ : ∃ f, fuel = f + 1 := ⟨fuel - 1, by omega⟩
    have hn := C.1.1.1
    have hi : i < n := by omega
    have gi : gb x i = f i := by rw [hx i]; simp [hi]
    have ih := c_leastL C hx hK hb j (i + 1) fu (by omega) (by omega)
    have cb := chZ_b f K one1 i
    have k1 := hb i hi
    rw [← ih, ksX2_leastCost_4]
    unfold bkX2_leastCost_4
    simp only [C.1.2.2.1, c_isIn x (show i < 8 by omega), gi, ob_s]
    rw [if_neg (by rw [yle (by omega) (by omega) (by omega) (by omega)]; omega)]
    have e1 : chZ f K one1 (i + 1) = if f i = true ∧ (chZ f K one1 i = -1 ∨ K i * 1 < K (chZ f K one1 i).toNat * 1) then (i : Int) else chZ f K one1 i := rfl
    rw [e1]
    generalize chZ f K one1 i = q at *
    simp (disch := omega) only [l1, zi_add, zi_neg, yeq]
    cases c : f i with
    | false => simp
    | true =>
      rw [if_pos rfl, if_neg (by decide)]
      by_cases d : q = -1
      · simp [d]
      · simp only [d, if_false]
        obtain ⟨m, rfl⟩ : ∃ m : Nat, q = m := ⟨q.toNat, by omega⟩
        have k2 := hb m (by omega)
        simp (disch := omega) only [inb_z, gdt, yN, Int.toNat_natCast, hK i hi, hK m (by omega), lc_ge, wle]
        by_cases e : K i < K m
        · rw [if_neg (by omega), if_pos (by simp [e])]; rfl
        · rw [if_pos (by omega), if_neg (by simp [e])]; rfl
theorem bs_rm (hx : bs x f n) {q : Nat} (hq : q < 8) : bs (x &&& (((1 : Int32) <<< (zi q &&& 31)) ^^^ (-1 : Int32))) (rmF f q) n := by
  intro k
  rw [gb_an1 x hq, hx k]
  unfold rmF
  cases decide (k < n) <;> cases f k <;> simp
theorem c_takeL (hb : ∀ i, i < n → -20000000000 ≤ K i ∧ K i ≤ 20000000000) : ∀ (j i : Nat) (σ : ST) (x : Int32) (f : Nat → Bool) (L : Int) (T : Nat → Int) (fuel : Nat), cC σ n B G → i + j = n → bs x f n → (∀ q, q < n → gJ σ 0 0 q = zl (K q)) → (∀ q, q < n → gI σ 5 0 q = zi (T q)) → 0 ≤ L → L ≤ 200 → j < fuel → ∃ σ', kX2_takeCheapest_70 fuel (σ, x, zi L, zi i) = some (b2i (decide ((grZ K (fun i => B i 5) n j f L T).1 = 0)), σ') ∧ cC σ' n B G ∧ gW σ' = gW σ ∧ (∀ q, q < n → gJ σ' 0 0 q = zl (K q)) ∧ ∀ q, q < n → gI σ' 5 0 q = zi ((grZ K (fun i => B i 5) n j f L T).2 q)
  | 0, i, σ, x, f, L, T, fuel, C, hij, hx, hK, hT, h0, h1, hf => by
    obtain ⟨fu, rfl⟩ : ∃ f, fuel = f + 1 := ⟨fuel - 1, by omega⟩
    have hn := C.1.1.1
    refine ⟨σ, ?_, C, rfl, hK, hT⟩
    rw [ksX2_takeCheapest_70]
    unfold bkX2_takeCheapest_70 grZ
    rw [C.1.2.2.1, if_pos (by rw [yle (by omega) (by omega) (by omega) (by omega)]; omega)]
    simp (disch := omega) only [l0, yeq]
    by_cases c : L = 0
    · rw [if_pos c, decide_eq_true c]; rfl
    · rw [if_neg c, decide_eq_false c]; rfl
  | j + 1, i, σ, x, f, L, T, fuel, C, hij, hx, hK, hT, h0, h1, hf => by
    obtain ⟨fu, rfl⟩ : ∃ f, fuel = f + 1 := ⟨fuel - 1, by omega⟩
    have hn := C.1.1.1
    have lc : mX2_leastCost σ x = some (zi (chZ f K one1 n)) := c_leastL C hx hK hb n 0 FU (by omega) (by unfold FU; omega)
    have cb := chZ_b f K one1 n
    rw [ksX2_takeCheapest_70]
    unfold bkX2_takeCheapest_70
    rw [C.1.2.2.1, if_neg (by rw [yle (by omega) (by omega) (by omega) (by omega)]; omega)]
    have e1 : grZ K (fun i => B i 5) n (j + 1) f L T = if chZ f K one1 n = -1 then (L, T) else grZ K (fun i => B i 5) n j (rmF f (chZ f K one1 n).toNat) (L - mnZ (B (chZ f K one1 n).toNat 5) L) (upT T (chZ f K one1 n).toNat (mnZ (B (chZ f K one1 n).toNat 5) L)) := rfl
    by_cases c : chZ f K one1 n = -1
    · have x0 : x = 0 := (bs_0 hx).mpr (decide_eq_false (fun ⟨k, hk, hfk⟩ => by rw [chZ_n f K one1 n c k hk] at hfk; cases hfk))
      rw [if_pos x0, e1, if_pos c]
      refine ⟨σ, ?_, C, rfl, hK, hT⟩
      simp (disch := omega) only [l0, yeq]
      by_cases c : L = 0
      · rw [if_pos c, decide_eq_true c]; rfl
      · rw [if_neg c, decide_eq_false c]; rfl
    · have cf := chZ_f f K one1 n c
      have x0 : ¬ x = 0 := fun h => by
        have := of_decide_eq_false ((bs_0 hx).mp h)
        exact this ⟨_, by omega, cf⟩
      rw [if_neg x0, lc, ob_s, e1, if_neg c]
      generalize chZ f K one1 n = q at *
      obtain ⟨m, rfl⟩ : ∃ m : Nat, q = m := ⟨q.toNat, by omega⟩
      rw [Int.toNat_natCast] at *
      have hm : m < n := by omega
      have D := C.1.2.2.2.2.2.2 m hm
      obtain ⟨_, _, _, _, _, ⟨s1, s2⟩, _⟩ := D.1
      have mb := mnZ_b s1 h0
      have mv : (if gI σ 2 (gP σ m) 5 < zi L then gI σ 2 (gP σ m) 5 else zi L) = zi (mnZ (B m 5) L) := by
        rw [D.2.1 5 (by omega)]
        unfold mnZ
        simp (disch := omega) only [ylt]
        split <;> rfl
      have C2 : cC (sI σ 5 0 m (zi (mnZ (B m 5) L))) n B G := cC_sI C (by omega)
      obtain ⟨σ', e, C', w, k1, k2⟩ := c_takeL hb j (i + 1) (sI σ 5 0 m (zi (mnZ (B m 5) L))) _ (rmF f m) (L - mnZ (B m 5) L) (upT T m (mnZ (B m 5) L)) fu C2 (by omega) (bs_rm hx (show m < 8 by omega)) hK (fun q hq => by
        rw [gI_sI]
        unfold upT
        by_cases k : q = m
        · rw [if_pos ⟨rfl, rfl, k⟩, if_pos k]
        · rw [if_neg (fun h => k h.2.2), if_neg k]; exact hT q hq) (by omega) (by omega) (by omega)
      refine ⟨σ', ?_, C', w, k1, k2⟩
      rw [← e]
      have g5 : gI (sI σ 5 0 m (zi (mnZ (B m 5) L))) 5 0 m = zi (mnZ (B m 5) L) := by rw [gI_sI, if_pos ⟨rfl, rfl, rfl⟩]
      have ne : ¬ zi (m : Int) = (-1 : Int32) := by
        rw [lm1, yeq (by omega) (by omega) (by omega) (by omega)]; omega
      rw [if_neg ne]
      simp (disch := omega) only [inb_z, gdt, yN, Int.toNat_natCast, c_pl C.1 hm, decide_true, mv, sv_z, g5, zi_sub]
      have ei : zi i + (1 : Int32) = zi (i + 1 : Nat) := by rw [l1, zi_add]; rfl
      rw [ei]
theorem c_costL {r m : Int} (hr : 0 ≤ r) (hr2 : r ≤ 3000) (hm : 0 ≤ m) (hm2 : m ≤ 999999999) {L : Int} (h0 : 0 ≤ L) (h1 : L ≤ 200) (hx : bs x f n) : ∀ (j i : Nat) (σ : ST) (fuel : Nat), cC σ n B G → i + j = n → (∀ q, q < i → gJ σ 0 0 q = zl (kpK B G r m q)) → (∀ q, q < n → gI σ 5 0 q = zi 0) → j < fuel → ∃ σ', kX2_takeCheapest_17 fuel (σ, zi L, zi r, zi m, x, zi i) = some (b2i (decide ((grZ (kpK B G r m) (fun i => B i 5) n n f L (fun _ => 0)).1 = 0)), σ') ∧ cC σ' n B G ∧ gW σ' = gW σ ∧ (∀ q, q < n → gJ σ' 0 0 q = zl (kpK B G r m q)) ∧ ∀ q, q < n → gI σ' 5 0 q = zi ((grZ (kpK B G r m) (fun i => B i 5) n n f L (fun _ => 0)).2 q)
  | 0, i, σ, fuel, C, hij, hK, hT, hf => by
    obtain ⟨fu, rfl⟩ : ∃ f, fuel = f + 1 := ⟨fuel - 1, by omega⟩
    have hn := C.1.1.1
    rw [ksX2_takeCheapest_17]
    unfold bkX2_takeCheapest_17
    rw [C.1.2.2.1, if_pos (by rw [yle (by omega) (by omega) (by omega) (by omega)]; omega)]
    have : i = n := by omega
    subst this
    exact c_takeL (fun q hq => kpK_b C.1.1 hq hm hm2) i 0 σ x f L (fun _ => 0) FU C (by omega) hx hK hT h0 h1 (by unfold FU; omega)
  | j + 1, i, σ, fuel, C, hij, hK, hT, hf => by
    obtain ⟨fu, rfl⟩ : ∃ f, fuel = f + 1 := ⟨fuel - 1, by omega⟩
    have hn := C.1.1.1
    have hi : i < n := by omega
    obtain ⟨σ1, e1, E1, C1⟩ := c_price C hi hr hr2
    have pb := prZ_b (C.1.1.2.1 i hi) r
    have vb := iv_b (C.1.1.2.1 i hi) C.1.1.2.2.1.1 hm hm2
    have fb := faZ_b (C.1.1.2.1 i hi) C.1.1.2.2.1.1
    obtain ⟨σ', e, C', w, k1, k2⟩ := c_costL hr hr2 hm hm2 h0 h1 hx j (i + 1) (sJ σ1 0 0 i (zl (kpK B G r m i))) fu (cC_sJ C1) (by omega) (fun q hq => by
      rw [gJ_sJ]
      by_cases k : q = i
      · rw [if_pos ⟨rfl, rfl, k⟩, k]
      · rw [if_neg (fun h => k h.2.2), E1.2.1]; exact hK q (by omega)) (fun q hq => by
      rw [gI_sJ, E1.1 5 (by omega)]; exact hT q hq) (by omega)
    refine ⟨σ', ?_, C', w.trans E1.2.2.2, k1, k2⟩
    rw [← e, ksX2_takeCheapest_17]
    unfold bkX2_takeCheapest_17
    simp (disch := omega) only [C.1.2.2.1, inb_z, gdt, yN, Int.toNat_natCast, c_pl C.1 hi, c_pl C1.1 hi, decide_true, e1, ob_s, mX0_invoiceBy, C1.2 i hi, yL, zl_mul, L10000, wdv, zl_sub, sv_z]
    rw [if_neg (by rw [yle (by omega) (by omega) (by omega) (by omega)]; omega)]
    have ei : zi i + (1 : Int32) = zi (i + 1 : Nat) := by rw [l1, zi_add]; rfl
    rw [ei]
    rfl
theorem c_take (C : cC σ n B G) {r m : Int} (hr : 0 ≤ r) (hr2 : r ≤ 3000) (hm : 0 ≤ m) (hm2 : m ≤ 999999999) {L : Int} (h0 : 0 ≤ L) (h1 : L ≤ 200) : ∃ σ', mX2_takeCheapest σ (zi L) (zi r) (zi m) = some (b2i (decide ((grZ (kpK B G r m) (fun i => B i 5) n n (elZ B G) L (fun _ => 0)).1 = 0)), σ') ∧ cC σ' n B G ∧ gW σ' = gW σ ∧ (∀ q, q < n → gJ σ' 0 0 q = zl (kpK B G r m q)) ∧ ∀ q, q < n → gI σ' 5 0 q = zi ((grZ (kpK B G r m) (fun i => B i 5) n n (elZ B G) L (fun _ => 0)).2 q) := by
  obtain ⟨x, ex, hx⟩ := c_bits C
  have hn := C.1.1.1
  unfold mX2_takeCheapest
  rw [ex, ob_s, sv_z]
  exact c_costL hr hr2 hm hm2 h0 h1 hx n 0 _ FU (cC_sR C (by omega)) (by omega) (fun q hq => by omega) (fun q hq => by rw [gI_Rat]; rfl) (by unfold FU; omega)
/-! the reference -/
theorem m_meet1 (hb : ∀ i, i < n → -20000000000 ≤ K i ∧ K i ≤ 20000000000) (M : mM τ n B G) {L : Int} (h0 : 0 < L) (h1 : L ≤ 200) (hf : ∀ i, i < n → f i = (elZ B G i && !gb x i)) (hK : ∀ i, i < n → gJ τ 0 0 i = zl (K i)) (rc : ST × Int32 × Int32 → Option (Int32 × ST)) : ∀ (j i : Nat) (fuel : Nat), i + j = n → j < fuel → kX3_meets_66 rc fuel (τ, zi L, x, zi (chZ f K one1 i), zi i) = if chZ f K one1 n = -1 then some (0, τ) else rc (sI τ 2 0 (chZ f K one1 n).toNat (zi (mnZ (B (chZ f K one1 n).toNat 5) L)), zi (L - mnZ (B (chZ f K one1 n).toNat 5) L), x ||| ((1 : Int32) <<< (zi (chZ f K one1 n) &&& 31)))
  | 0, i, fuel, hij, hfu => by
    obtain ⟨fu, rfl⟩ : ∃ f, fuel = f + 1 := ⟨fuel - 1, by omega⟩
    have hn := M.1.1
    have : i = n := by omega
    subst this
    have cb := chZ_b f K one1 i
    rw [ksX3_meets_66]
    unfold bkX3_meets_66
    rw [M.2.1, if_pos (by rw [yle (by omega) (by omega) (by omega) (by omega)]; omega)]
    have ne : (zi (chZ f K one1 i) = (-1 : Int32)) ↔ chZ f K one1 i = -1 := by
      rw [lm1]; exact yeq (by omega) (by omega) (by omega) (by omega)
    simp only [ne]
    by_cases c : chZ f K one1 i = -1
    · rw [if_pos c, if_pos c]
    · rw [if_neg c, if_neg c]
      generalize chZ f K one1 i = q at *
      obtain ⟨m, rfl⟩ : ∃ m : Nat, q = m := ⟨q.toNat, by omega⟩
      rw [Int.toNat_natCast]
      have hm : m < i := by omega
      obtain ⟨_, _, _, _, _, ⟨s1, s2⟩, _⟩ := M.1.2.1 m hm
      have g5 : ∀ v, gI (sI τ 2 0 m v) 2 0 m = v := fun v => by rw [gI_sI, if_pos ⟨rfl, rfl, rfl⟩]
      simp (disch := omega) only [m_of1_5 M hm, ob_s, yle, inb_z, gdt, yN, Int.toNat_natCast, sv_z, g5, zi_sub]
      unfold mnZ
      by_cases d : L ≤ B m 5
      · rw [if_pos d, if_neg (by omega)]
      · rw [if_neg d, if_pos (by omega)]
  | j + 1, i, fuel, hij, hfu => by
    obtain ⟨fu, rfl⟩ : ∃ f, fuel = f + 1 := ⟨fuel - 1, by omega⟩
    have hn := M.1.1
    have hi : i < n := by omega
    have ih := m_meet1 hb M h0 h1 hf hK rc j (i + 1) fu (by omega) (by omega)
    have cb := chZ_b f K one1 i
    have k1 := hb i hi
    have fi := hf i hi
    rw [← ih, ksX3_meets_66]
    unfold bkX3_meets_66
    rw [M.2.1, if_neg (by rw [yle (by omega) (by omega) (by omega) (by omega)]; omega), m_elig M hi, ob_s]
    have e1 : chZ f K one1 (i + 1) = if f i = true ∧ (chZ f K one1 i = -1 ∨ K i * 1 < K (chZ f K one1 i).toNat * 1) then (i : Int) else chZ f K one1 i := rfl
    rw [e1]
    generalize chZ f K one1 i = q at *
    have ei : zi i + (1 : Int32) = zi (i + 1 : Nat) := by rw [l1, zi_add]; rfl
    have ne : (zi q = (-1 : Int32)) ↔ q = -1 := by
      rw [lm1]; exact yeq (by omega) (by omega) (by omega) (by omega)
    simp only [ei, ne, b2i0, bit_0 x (show i < 32 by omega)]
    cases c : elZ B G i with
    | false =>
      rw [c] at fi
      simp at fi
      simp [fi]
    | true =>
      rw [c] at fi
      rw [if_neg (by decide)]
      cases d : gb x i with
      | true =>
        rw [d] at fi
        simp at fi
        simp [fi]
      | false =>
        rw [d] at fi
        simp at fi
        rw [if_pos rfl, fi]
        by_cases d : q = -1
        · simp [d]
        · simp only [d, if_false]
          obtain ⟨m, rfl⟩ : ∃ m : Nat, q = m := ⟨q.toNat, by omega⟩
          have k2 := hb m (by omega)
          simp (disch := omega) only [inb_z, gdt, yN, Int.toNat_natCast, hK i hi, hK m (by omega), lc_ge, wle]
          by_cases e : K i < K m
          · rw [if_neg (by omega), if_pos (by simp [e])]
          · rw [if_pos (by omega), if_neg (by simp [e])]
theorem m_meetL (hb : ∀ i, i < n → -20000000000 ≤ K i ∧ K i ≤ 20000000000) : ∀ (j : Nat) (τ : ST) (x : Int32) (f : Nat → Bool) (L : Int) (T : Nat → Int) (fuel : Nat), mM τ n B G → cO f n ≤ j → (∀ i, i < n → f i = (elZ B G i && !gb x i)) → (∀ i, i < n → gJ τ 0 0 i = zl (K i)) → (∀ i, i < n → gI τ 2 0 i = zi (T i)) → (∀ i, i < n → f i = true → T i = 0) → 0 ≤ L → L ≤ 200 → j < fuel → ∃ τ', kX3_meets_55 fuel (τ, zi L, x) = some (b2i (decide ((grZ K (fun i => B i 5) n j f L T).1 = 0)), τ') ∧ mM τ' n B G ∧ gI τ' 0 = gI τ 0 ∧ (∀ i, i < n → gJ τ' 0 0 i = zl (K i)) ∧ ((grZ K (fun i => B i 5) n j f L T).1 = 0 → ∀ q, q < n → gI τ' 2 0 q = zi ((grZ K (fun i => B i 5) n j f L T).2 q)) := by
  intro j
  induction j with
  | zero =>
    intro τ x f L T fuel M hc hf hK hT hT0 h0 h1 hfu
    obtain ⟨fu, rfl⟩ : ∃ f, fuel = f + 1 := ⟨fuel - 1, by omega⟩
    have hn := M.1.1
    rw [ksX3_meets_55]
    unfold bkX3_meets_55
    have q0 : (zi L ≤ (0 : Int32)) ↔ L ≤ 0 := by rw [l0]; exact yle (by omega) (by omega) (by omega) (by omega)
    have e0 : grZ K (fun i => B i 5) n 0 f L T = (L, T) := rfl
    rw [e0]
    by_cases c : L ≤ 0
    · rw [if_pos (q0.mpr c), decide_eq_true (show L = 0 by omega)]
      exact ⟨τ, rfl, M, rfl, hK, fun _ => hT⟩
    · rw [if_neg (fun k => c (q0.mp k)), decide_eq_false (show ¬ L = 0 by omega)]
      have := m_meet1 hb M (show 0 < L by omega) h1 hf hK (kX3_meets_55 fu) n 0 FU (by omega) (by unfold FU; omega)
      have nn : chZ f K one1 n = -1 := chZ_no n (cO_0 n (by omega))
      rw [if_pos nn] at this
      exact ⟨τ, this, M, rfl, hK, fun k => by simp at k; omega⟩
  | succ j ih =>
    intro τ x f L T fuel M hc hf hK hT hT0 h0 h1 hfu
    obtain ⟨fu, rfl⟩ : ∃ f, fuel = f + 1 := ⟨fuel - 1, by omega⟩
    have hn := M.1.1
    rw [ksX3_meets_55]
    unfold bkX3_meets_55
    have q0 : (zi L ≤ (0 : Int32)) ↔ L ≤ 0 := by rw [l0]; exact yle (by omega) (by omega) (by omega) (by omega)
    have hS : ∀ i, i < n → 0 ≤ (fun i => B i 5) i := fun i hi => (M.1.2.1 i hi).2.2.2.2.2.1.1
    by_cases c : L ≤ 0
    · obtain rfl : L = 0 := by omega
      obtain ⟨r1, r2⟩ := grz0 (K := K) hS (j + 1) f T hT0
      rw [if_pos (q0.mpr c), r1]
      exact ⟨τ, rfl, M, rfl, hK, fun _ q hq => by rw [r2]; exact hT q hq⟩
    · rw [if_neg (fun k => c (q0.mp k))]
      have mt := m_meet1 hb M (show 0 < L by omega) h1 hf hK (kX3_meets_55 fu) n 0 FU (by omega) (by unfold FU; omega)
      have mt : kX3_meets_66 (kX3_meets_55 fu) FU (τ, zi L, x, -1, 0) = _ := mt
      rw [mt]
      have e1 : grZ K (fun i => B i 5) n (j + 1) f L T = if chZ f K one1 n = -1 then (L, T) else grZ K (fun i => B i 5) n j (rmF f (chZ f K one1 n).toNat) (L - mnZ (B (chZ f K one1 n).toNat 5) L) (upT T (chZ f K one1 n).toNat (mnZ (B (chZ f K one1 n).toNat 5) L)) := rfl
      rw [e1]
      have cb := chZ_b f K one1 n
      by_cases d : chZ f K one1 n = -1
      · rw [if_pos d, if_pos d, decide_eq_false (show ¬ L = 0 by omega)]
        exact ⟨τ, rfl, M, rfl, hK, fun k => by simp at k; omega⟩
      · rw [if_neg d, if_neg d]
        have cf := chZ_f f K one1 n d
        generalize chZ f K one1 n = q at *
        obtain ⟨m, rfl⟩ : ∃ m : Nat, q = m := ⟨q.toNat, by omega⟩
        rw [Int.toNat_natCast] at *
        have hm : m < n := by omega
        obtain ⟨_, _, _, _, _, ⟨s1, s2⟩, _⟩ := M.1.2.1 m hm
        have mb := mnZ_b s1 h0
        have cr := cO_rm cf n hm
        obtain ⟨τ2, y1, y2, y3, y4⟩ := ih (sI τ 2 0 m (zi (mnZ (B m 5) L))) _ (rmF f m) (L - mnZ (B m 5) L) (upT T m (mnZ (B m 5) L)) fu (mM_fr M (gI_nt (by decide)) (gI_nt (by decide))) (by omega) (fun i hi => by
          rw [gb_or1 x (show m < 8 by omega)]
          unfold rmF
          rw [hf i hi]
          cases elZ B G i <;> cases gb x i <;> simp) hK (fun i hi => by
          rw [gI_sI]
          unfold upT
          by_cases k : i = m
          · rw [if_pos ⟨rfl, rfl, k⟩, if_pos k]
          · rw [if_neg (fun h => k h.2.2), if_neg k]; exact hT i hi) (fun i hi hfi => by
          unfold rmF at hfi
          simp at hfi
          unfold upT
          rw [if_neg hfi.2]
          exact hT0 i hi hfi.1) (by omega) (by omega) (by omega)
        exact ⟨τ2, y1, y2, y3.trans (gI_nt (by decide)), y4⟩
theorem m_costL {r m : Int} (hr : 0 ≤ r) (hr2 : r ≤ 3000) (hm : 0 ≤ m) (hm2 : m ≤ 999999999) {L : Int} (h0 : 0 ≤ L) (h1 : L ≤ 200) : ∀ (j i : Nat) (τ : ST) (fuel : Nat), mM τ n B G → i + j = n → (∀ q, q < i → gJ τ 0 0 q = zl (kpK B G r m q)) → (∀ q, q < i → gI τ 2 0 q = zi 0) → j < fuel → ∃ τ', kX3_meets_9 fuel (τ, zi r, zi m, zi L, 0, zi i) = some (b2i (decide ((grZ (kpK B G r m) (fun i => B i 5) n n (elZ B G) L (fun _ => 0)).1 = 0)), τ') ∧ mM τ' n B G ∧ gI τ' 0 = gI τ 0 ∧ (∀ q, q < n → gJ τ' 0 0 q = zl (kpK B G r m q)) ∧ ((grZ (kpK B G r m) (fun i => B i 5) n n (elZ B G) L (fun _ => 0)).1 = 0 → ∀ q, q < n → gI τ' 2 0 q = zi ((grZ (kpK B G r m) (fun i => B i 5) n n (elZ B G) L (fun _ => 0)).2 q))
  | 0, i, τ, fuel, M, hij, hK, hT, hf => by
    obtain ⟨fu, rfl⟩ : ∃ f, fuel = f + 1 := ⟨fuel - 1, by omega⟩
    have hn := M.1.1
    rw [ksX3_meets_9]
    unfold bkX3_meets_9
    rw [M.2.1, if_pos (by rw [yle (by omega) (by omega) (by omega) (by omega)]; omega)]
    have : i = n := by omega
    subst this
    exact m_meetL (fun q hq => kpK_b M.1 hq hm hm2) i τ 0 (elZ B G) L (fun _ => 0) FU M (cO_le _ _) (fun q hq => by rw [gb_0]; simp) hK hT (fun _ _ _ => rfl) h0 h1 (by unfold FU; omega)
  | j + 1, i, τ, fuel, M, hij, hK, hT, hf => by
    obtain ⟨fu, rfl⟩ : ∃ f, fuel = f + 1 := ⟨fuel - 1, by omega⟩
    have hn := M.1.1
    have hi : i < n := by omega
    have M1 : mM (sI τ 2 0 i 0) n B G := mM_fr M (gI_nt (by decide)) (gI_nt (by decide))
    have pb := prZ_b (M.1.2.1 i hi) r
    have iv := m_invoice M1 hi hm (show m ≤ 16800000000000 by omega)
    obtain ⟨τ', e, M', k0, k1, k2⟩ := m_costL hr hr2 hm hm2 h0 h1 j (i + 1) (sJ (sI τ 2 0 i 0) 0 0 i (zl (kpK B G r m i))) fu M1 (by omega) (fun q hq => by
      rw [gJ_sJ]
      by_cases k : q = i
      · rw [if_pos ⟨rfl, rfl, k⟩, k]
      · rw [if_neg (fun h => k h.2.2)]; exact hK q (by omega)) (fun q hq => by
      rw [gI_sJ, gI_sI]
      by_cases k : q = i
      · rw [if_pos ⟨rfl, rfl, k⟩]; rfl
      · rw [if_neg (fun h => k h.2.2)]; exact hT q (by omega)) (by omega)
    refine ⟨τ', ?_, M', k0.trans (gI_nt (σ := τ) (t := 2) (i := 0) (j := i) (v := 0) (a := 0) (by decide)), k1, k2⟩
    rw [← e, ksX3_meets_9]
    unfold bkX3_meets_9
    simp (disch := omega) only [M.2.1, inb_z, gdt, yN, Int.toNat_natCast, sv_z, m_price1 M1 hi hr hr2, yL, iv, ob_s, zl_sub]
    rw [if_neg (by rw [yle (by omega) (by omega) (by omega) (by omega)]; omega)]
    have ei : zi i + (1 : Int32) = zi (i + 1 : Nat) := by rw [l1, zi_add]; rfl
    rw [ei]
    rfl
theorem m_meets (M : mM τ n B G) {r m : Int} (hr : 0 ≤ r) (hr2 : r ≤ 3000) (hm : 0 ≤ m) (hm2 : m ≤ 999999999) {L : Int} (h0 : 0 ≤ L) (h1 : L ≤ 200) : ∃ τ', mX3_meets τ (zi L) (zi r) (zi m) = some (b2i (decide ((grZ (kpK B G r m) (fun i => B i 5) n n (elZ B G) L (fun _ => 0)).1 = 0)), τ') ∧ mM τ' n B G ∧ gI τ' 0 = gI τ 0 ∧ (∀ q, q < n → gJ τ' 0 0 q = zl (kpK B G r m q)) ∧ ((grZ (kpK B G r m) (fun i => B i 5) n n (elZ B G) L (fun _ => 0)).1 = 0 → ∀ q, q < n → gI τ' 2 0 q = zi ((grZ (kpK B G r m) (fun i => B i 5) n n (elZ B G) L (fun _ => 0)).2 q)) := by
  have hn := M.1.1
  exact m_costL hr hr2 hm hm2 h0 h1 n 0 τ FU M (by omega) (fun q hq => by omega) (fun q hq => by omega) (by unfold FU; omega)
end P6

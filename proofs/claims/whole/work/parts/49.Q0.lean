/-! THE TREE LAID: the reference -/
section Q0
variable {τ : ST} {n : Nat} {B : Nat → Nat → Int} {G : Nat → Int} {may : Bool} {last : Nat}
/-- what laying one node leaves as it was -/
def fr1 (τ τ' : ST) (a : Nat) : Prop := (∀ t, t ≠ 3 → gI τ' t = gI τ t) ∧ (∀ q, q ≠ a → gI τ' 3 0 q = gI τ 3 0 q) ∧ (∀ t, t ≠ 2 → gJ τ' t = gJ τ t) ∧ ∀ q, q ≠ a → gJ τ' 2 0 q = gJ τ 2 0 q
theorem m_nowL {d u : Nat} (hu : u ≤ d) (hd : d ≤ 20) {a : Nat} (hA : a = 21 * d + u) : ∀ (j b : Nat) (τ : ST) (fuel : Nat), mM τ n B G → b + j = n → gI τ 3 0 a = zi (chZ (elZ B G) (ngZ (gvZ B G (G 7) (2 * (u : Int) - d))) one1 b) → (chZ (elZ B G) (ngZ (gvZ B G (G 7) (2 * (u : Int) - d))) one1 b ≠ -1 → gJ τ 2 0 a = zl (gvZ B G (G 7) (2 * (u : Int) - d) (chZ (elZ B G) (ngZ (gvZ B G (G 7) (2 * (u : Int) - d))) one1 b).toNat)) → j < fuel → ∃ τ', kX3_laysNow_17 fuel (τ, zi d, zi u, zi a, zi b) = some τ' ∧ mM τ' n B G ∧ fr1 τ τ' a ∧ gI τ' 3 0 a = zi (chZ (elZ B G) (ngZ (gvZ B G (G 7) (2 * (u : Int) - d))) one1 n) ∧ (chZ (elZ B G) (ngZ (gvZ B G (G 7) (2 * (u : Int) - d))) one1 n ≠ -1 → gJ τ' 2 0 a = zl (gvZ B G (G 7) (2 * (u : Int) - d) (chZ (elZ B G) (ngZ (gvZ B G (G 7) (2 * (u : Int) - d))) one1 n).toNat))
  | 0, b, τ, fuel, M, hij, hp, hv, hf => by
    obtain ⟨fu, rfl⟩ : ∃ f, fuel = f + 1 := ⟨fuel - 1, by omega⟩
    have hn := M.1.1
    have : b = n := by omega
    subst this
    refine ⟨τ, ?_, M, ⟨fun _ _ => rfl, fun _ _ => rfl, fun _ _ => rfl, fun _ _ => rfl⟩, hp, hv⟩
    rw [ksX3_laysNow_17]
    unfold bkX3_laysNow_17
    rw [M.2.1, if_pos (by rw [yle (by omega) (by omega) (by omega) (by omega)]; omega)]
  | j + 1, b, τ, fuel, M, hij, hp, hv, hf => by
    obtain ⟨fu, rfl⟩ : ∃ f, fuel = f + 1 := ⟨fuel - 1, by omega⟩
    have hn := M.1.1
    have hb : b < n := by omega
    obtain ⟨g0, g1, g2, g3, g4, g5, g6, g7, g8⟩ := M.1.2.2
    have ei : zi b + (1 : Int32) = zi (b + 1 : Nat) := by rw [l1, zi_add]; rfl
    have rb := rlZ_b G (2 * (u : Int) - d)
    have pb := prZ_b (M.1.2.1 b hb) (rlZ G (2 * (u : Int) - d))
    have gb' := gvZ_b M.1 hb g6.1 g6.2 (2 * (u : Int) - d)
    have r1 : mX3_rate1 τ (zi d) (zi u) = some (zi (rlZ G (2 * (u : Int) - d))) := m_rate1 M (by omega) (by omega) (by omega)
    have iv := m_invoice M hb g6.1 (show G 7 ≤ 16800000000000 by omega)
    have gv : zl (G 7 * faZ (B b) (G 0) / 10000) - zl (prZ (B b) (rlZ G (2 * (u : Int) - d))) = zl (gvZ B G (G 7) (2 * (u : Int) - d) b) := by rw [zl_sub]; rfl
    have cb := chZ_b (elZ B G) (ngZ (gvZ B G (G 7) (2 * (u : Int) - d))) one1 b
    have e1 : chZ (elZ B G) (ngZ (gvZ B G (G 7) (2 * (u : Int) - d))) one1 (b + 1) = if elZ B G b = true ∧ (chZ (elZ B G) (ngZ (gvZ B G (G 7) (2 * (u : Int) - d))) one1 b = -1 ∨ ngZ (gvZ B G (G 7) (2 * (u : Int) - d)) b * 1 < ngZ (gvZ B G (G 7) (2 * (u : Int) - d)) (chZ (elZ B G) (ngZ (gvZ B G (G 7) (2 * (u : Int) - d))) one1 b).toNat * 1) then (b : Int) else chZ (elZ B G) (ngZ (gvZ B G (G 7) (2 * (u : Int) - d))) one1 b := rfl
    have ih := m_nowL hu hd hA j (b + 1)
    rw [e1] at ih
    -- keeping
    have keep : (¬ (elZ B G b = true ∧ (chZ (elZ B G) (ngZ (gvZ B G (G 7) (2 * (u : Int) - d))) one1 b = -1 ∨ ngZ (gvZ B G (G 7) (2 * (u : Int) - d)) b * 1 < ngZ (gvZ B G (G 7) (2 * (u : Int) - d)) (chZ (elZ B G) (ngZ (gvZ B G (G 7) (2 * (u : Int) - d))) one1 b).toNat * 1))) → ∃ τ', kX3_laysNow_17 fu (τ, zi d, zi u, zi a, zi (b + 1 : Nat)) = some τ' ∧ mM τ' n B G ∧ fr1 τ τ' a ∧ gI τ' 3 0 a = zi (chZ (elZ B G) (ngZ (gvZ B G (G 7) (2 * (u : Int) - d))) one1 n) ∧ (chZ (elZ B G) (ngZ (gvZ B G (G 7) (2 * (u : Int) - d))) one1 n ≠ -1 → gJ τ' 2 0 a = zl (gvZ B G (G 7) (2 * (u : Int) - d) (chZ (elZ B G) (ngZ (gvZ B G (G 7) (2 * (u : Int) - d))) one1 n).toNat)) := by
      intro h
      rw [if_neg h] at ih
      exact ih τ fu M (by omega) hp hv (by omega)
    have take : (elZ B G b = true ∧ (chZ (elZ B G) (ngZ (gvZ B G (G 7) (2 * (u : Int) - d))) one1 b = -1 ∨ ngZ (gvZ B G (G 7) (2 * (u : Int) - d)) b * 1 < ngZ (gvZ B G (G 7) (2 * (u : Int) - d)) (chZ (elZ B G) (ngZ (gvZ B G (G 7) (2 * (u : Int) - d))) one1 b).toNat * 1)) → ∃ τ', kX3_laysNow_89 (kX3_laysNow_17 fu) (τ, zi d, zi u, zi a, zi b, zl (gvZ B G (G 7) (2 * (u : Int) - d) b)) = some τ' ∧ mM τ' n B G ∧ fr1 τ τ' a ∧ gI τ' 3 0 a = zi (chZ (elZ B G) (ngZ (gvZ B G (G 7) (2 * (u : Int) - d))) one1 n) ∧ (chZ (elZ B G) (ngZ (gvZ B G (G 7) (2 * (u : Int) - d))) one1 n ≠ -1 → gJ τ' 2 0 a = zl (gvZ B G (G 7) (2 * (u : Int) - d) (chZ (elZ B G) (ngZ (gvZ B G (G 7) (2 * (u : Int) - d))) one1 n).toNat)) := by
      intro h
      rw [if_pos h] at ih
      obtain ⟨τ', e, M', F, k1, k2⟩ := ih (sJ (sI τ 3 0 a (zi b)) 2 0 a (zl (gvZ B G (G 7) (2 * (u : Int) - d) b))) fu (mM_fr M (gI_nt (σ := τ) (t := 3) (i := 0) (j := a) (v := zi b) (a := 0) (by decide)) (gI_nt (σ := τ) (t := 3) (i := 0) (j := a) (v := zi b) (a := 1) (by decide))) (by omega) (by rw [gI_sJ, gI_sI, if_pos ⟨rfl, rfl, rfl⟩]) (fun _ => by rw [gJ_sJ, if_pos ⟨rfl, rfl, rfl⟩, Int.toNat_natCast]) (by omega)
      refine ⟨τ', ?_, M', ⟨fun t ht => ?_, fun q hq => ?_, fun t ht => ?_, fun q hq => ?_⟩, k1, k2⟩
      · rw [← e, ksX3_laysNow_89]
        unfold bkX3_laysNow_89
        simp (disch := omega) only [inb_z, gdt, yN, Int.toNat_natCast, sv_z, ei]
      · rw [F.1 t ht, gI_sJ, gI_nt ht]
      · rw [F.2.1 q hq, gI_sJ, gI_sI, if_neg (fun h => hq h.2.2)]
      · rw [F.2.2.1 t ht, gJ_nt ht, gJ_sI]
      · rw [F.2.2.2 q hq, gJ_sJ, if_neg (fun h => hq h.2.2), gJ_sI]
    rw [ksX3_laysNow_17]
    unfold bkX3_laysNow_17
    rw [M.2.1, if_neg (by rw [yle (by omega) (by omega) (by omega) (by omega)]; omega), m_elig M hb, ob_s, M.2.2.1.2.2.2.2.2.2.2.1, ei]
    simp (disch := omega) only [yL, iv, ob_s, r1, m_price1 M hb rb.1 rb.2, gv, inb_z, gdt, yN, Int.toNat_natCast, hp]
    generalize chZ (elZ B G) (ngZ (gvZ B G (G 7) (2 * (u : Int) - d))) one1 b = q at *
    have ne : (zi q = (-1 : Int32)) ↔ q = -1 := by
      rw [lm1]; exact yeq (by omega) (by omega) (by omega) (by omega)
    simp only [ne, b2i0]
    cases c : elZ B G b with
    | false =>
      rw [if_pos rfl]
      exact keep (fun k => by rw [c] at k; cases k.1)
    | true =>
      rw [if_neg (by decide)]
      by_cases e : q = -1
      · rw [if_pos e]; exact take ⟨c, Or.inl e⟩
      · rw [if_neg e, hv e]
        have gq := gvZ_b M.1 (show q.toNat < n by omega) g6.1 g6.2 (2 * (u : Int) - d)
        have gt : ((0 : Int32) < lg_cmp (zl (gvZ B G (G 7) (2 * (u : Int) - d) b)) (zl (gvZ B G (G 7) (2 * (u : Int) - d) q.toNat))) ↔ gvZ B G (G 7) (2 * (u : Int) - d) q.toNat < gvZ B G (G 7) (2 * (u : Int) - d) b := by
          rw [lc_gt]; exact wlt (by omega) (by omega) (by omega) (by omega)
        simp only [gt]
        by_cases g : gvZ B G (G 7) (2 * (u : Int) - d) q.toNat < gvZ B G (G 7) (2 * (u : Int) - d) b
        · rw [if_pos g]; exact take ⟨c, Or.inr (by unfold ngZ; omega)⟩
        · rw [if_neg g]
          exact keep (fun k => by
            rcases k.2 with k | k
            · exact e k
            · unfold ngZ at k; omega)
theorem m_now (M : mM τ n B G) (ha : anZ n (elZ B G) = true) {d u : Nat} (hu : u ≤ d) (hd : d ≤ 20) : ∃ τ', mX3_laysNow τ (zi d) (zi u) = some τ' ∧ mM τ' n B G ∧ fr1 τ τ' (21 * d + u) ∧ gI τ' 3 0 (21 * d + u) = zi (pkZ (elZ B G) B G (G 7) n (2 * (u : Int) - d)) ∧ gJ τ' 2 0 (21 * d + u) = zl (nwZ (elZ B G) B G (G 7) n (2 * (u : Int) - d)) := by
  have hn := M.1.1
  have pa := pkZ_a (B := B) (G := G) (m := G 7) ha (2 * (u : Int) - d)
  obtain ⟨τ', e, M', F, k1, k2⟩ := m_nowL hu hd rfl n 0 (sI τ 3 0 (21 * d + u) (-1)) FU (mM_fr M (gI_nt (by decide)) (gI_nt (by decide))) (by omega) (by rw [gI_sI, if_pos ⟨rfl, rfl, rfl⟩]; rfl) (fun k => absurd rfl k) (by unfold FU; omega)
  refine ⟨τ', ?_, M', ⟨fun t ht => ?_, fun q hq => ?_, fun t ht => ?_, fun q hq => ?_⟩, k1, k2 (by unfold pkZ at pa; omega)⟩
  · rw [← e]
    unfold mX3_laysNow
    have ea : (21 : Int32) * zi d + zi u = zi (21 * d + u : Nat) := by rw [l21, zi_mul, zi_add]; rfl
    rw [ea]
    simp (disch := omega) only [inb_z, gdt, yN, Int.toNat_natCast, sv_z]
    rfl
  · rw [F.1 t ht, gI_nt ht]
  · rw [F.2.1 q hq, gI_sI, if_neg (fun h => hq h.2.2)]
  · rw [F.2.2.1 t ht, gJ_sI]
  · rw [F.2.2.2 q hq, gJ_sI]
def mrow (τ : ST) (nw pk : Int → Int) (V W : Int → Int) (d : Nat) (lst : Prop) : Prop := ∀ u : Nat, u ≤ d → gJ τ 1 0 (21 * d + u) = zl (V u) ∧ gJ τ 2 0 (21 * d + u) = zl (nw (2 * (u : Int) - d)) ∧ gI τ 3 0 (21 * d + u) = zi (pk (2 * (u : Int) - d)) ∧ (¬ lst → gJ τ 3 0 (21 * d + u) = zl (W u))
/-- the values and the waits that belong to a day -/
def Wd (nw : Int → Int) (car : Int) (may : Bool) (last : Nat) (d : Nat) (u : Int) : Int := WZ nw car may last (last - d - 1) u
theorem m_tree1 (ha : anZ n (elZ B G) = true) {x1 : Int32} (hx1 : (may = true ∧ x1 = zi (-1) ∧ (last : Int) = G 3) ∨ (may = false ∧ x1 = zi last)) (hl : (last : Int) ≤ G 3) {d : Nat} (hd : d ≤ last) (rc : ST × Int32 × Int32 → Option ST) : ∀ (j i : Nat) (τ : ST) (fuel : Nat), mM τ n B G → i + j = d + 1 → (∀ d', d < d' → d' ≤ last → mrow τ (nwZ (elZ B G) B G (G 7) n) (pkZ (elZ B G) B G (G 7) n) (VZ (nwZ (elZ B G) B G (G 7) n) (G 6) may last (last - d')) (Wd (nwZ (elZ B G) B G (G 7) n) (G 6) may last d') d' (d' = last)) → (∀ u : Nat, u < i → gJ τ 1 0 (21 * d + u) = zl (VZ (nwZ (elZ B G) B G (G 7) n) (G 6) may last (last - d) u) ∧ gJ τ 2 0 (21 * d + u) = zl (nwZ (elZ B G) B G (G 7) n (2 * (u : Int) - d)) ∧ gI τ 3 0 (21 * d + u) = zi (pkZ (elZ B G) B G (G 7) n (2 * (u : Int) - d)) ∧ (¬ d = last → gJ τ 3 0 (21 * d + u) = zl (Wd (nwZ (elZ B G) B G (G 7) n) (G 6) may last d u))) → j < fuel → ∃ τ', kX3_laysTree_20 rc fuel (τ, x1, zi d, zi i) = rc (τ', x1, zi ((d : Int) - 1)) ∧ mM τ' n B G ∧ gI τ' 0 = gI τ 0 ∧ gI τ' 1 = gI τ 1 ∧ (∀ d', d ≤ d' → d' ≤ last → mrow τ' (nwZ (elZ B G) B G (G 7) n) (pkZ (elZ B G) B G (G 7) n) (VZ (nwZ (elZ B G) B G (G 7) n) (G 6) may last (last - d')) (Wd (nwZ (elZ B G) B G (G 7) n) (G 6) may last d') d' (d' = last))
  | 0, i, τ, fuel, M, hij, hup, hrow, hf => by
    obtain ⟨fu, rfl⟩ : ∃ f, fuel = f + 1 := ⟨fuel - 1, by omega⟩
    have g3 := M.1.2.2.2.2.1
    refine ⟨τ, ?_, M, rfl, rfl, fun d' h1 h2 => ?_⟩
    · rw [ksX3_laysTree_20]
      unfold bkX3_laysTree_20
      rw [if_pos (by rw [ylt (by omega) (by omega) (by omega) (by omega)]; omega)]
      have e : zi d + (-1 : Int32) = zi ((d : Int) - 1) := by rw [lm1, zi_add]; rfl
      rw [e]
    · by_cases c : d' = d
      · subst c; exact fun u hu => hrow u (by omega)
      · exact hup d' (by omega) h2
  | j + 1, i, τ, fuel, M, hij, hup, hrow, hf => by
    obtain ⟨fu, rfl⟩ : ∃ f, fuel = f + 1 := ⟨fuel - 1, by omega⟩
    obtain ⟨g0, g1, g2, g3, g4, g5, g6, g7, g8⟩ := M.1.2.2
    have hi : i ≤ d := by omega
    have hd20 : d ≤ 20 := by omega
    obtain ⟨τ1, e1, M1, F1, p1, v1⟩ := m_now M ha hi hd20
    have ei : zi i + (1 : Int32) = zi (i + 1 : Nat) := by rw [l1, zi_add]; rfl
    have ea : (21 : Int32) * zi d + zi i = zi (21 * d + i : Nat) := by rw [l21, zi_mul, zi_add]; rfl
    have hnw := nwZ_b (n := n) (f := elZ B G) (m := G 7) M.1 ha g6.1 g6.2
    have t5 : gI τ1 0 0 5 = zi (G 3) := M1.2.2.1.2.2.2.1
    have t8 : gI τ1 0 0 8 = zi (G 6) := M1.2.2.1.2.2.2.2.2.2.1
    generalize hA : 21 * d + i = a at *
    have ha441 : a < 441 := by omega
    -- one node done: the rest
    have go : ∀ (w : Int64) (τ2 : ST), (¬ d = last → w = zl (Wd (nwZ (elZ B G) B G (G 7) n) (G 6) may last d i)) → τ2 = sJ (sJ τ1 3 0 a w) 1 0 a (zl (VZ (nwZ (elZ B G) B G (G 7) n) (G 6) may last (last - d) i)) → ∃ τ', kX3_laysTree_20 rc fu (τ2, x1, zi d, zi (i + 1 : Nat)) = rc (τ', x1, zi ((d : Int) - 1)) ∧ mM τ' n B G ∧ gI τ' 0 = gI τ 0 ∧ gI τ' 1 = gI τ 1 ∧ (∀ d', d ≤ d' → d' ≤ last → mrow τ' (nwZ (elZ B G) B G (G 7) n) (pkZ (elZ B G) B G (G 7) n) (VZ (nwZ (elZ B G) B G (G 7) n) (G 6) may last (last - d')) (Wd (nwZ (elZ B G) B G (G 7) n) (G 6) may last d') d' (d' = last)) := by
      intro w τ2 hw h2
      have J1 : ∀ q, gJ τ2 1 0 q = if q = a then zl (VZ (nwZ (elZ B G) B G (G 7) n) (G 6) may last (last - d) i) else gJ τ 1 0 q := fun q => by
        rw [h2, gJ_sJ]
        by_cases c : q = a
        · rw [if_pos ⟨rfl, rfl, c⟩, if_pos c]
        · rw [if_neg (fun h => c h.2.2), if_neg c, gJ_nt (by decide), F1.2.2.1 1 (by decide)]
      have J2 : ∀ q, gJ τ2 2 0 q = if q = a then zl (nwZ (elZ B G) B G (G 7) n (2 * (i : Int) - d)) else gJ τ 2 0 q := fun q => by
        rw [h2, gJ_nt (by decide), gJ_nt (by decide)]
        by_cases c : q = a
        · rw [if_pos c, c]; exact v1
        · rw [if_neg c]; exact F1.2.2.2 q c
      have J3 : ∀ q, gJ τ2 3 0 q = if q = a then w else gJ τ 3 0 q := fun q => by
        rw [h2, gJ_nt (by decide), gJ_sJ]
        by_cases c : q = a
        · rw [if_pos ⟨rfl, rfl, c⟩, if_pos c]
        · rw [if_neg (fun h => c h.2.2), if_neg c, F1.2.2.1 3 (by decide)]
      have I3 : ∀ q, gI τ2 3 0 q = if q = a then zi (pkZ (elZ B G) B G (G 7) n (2 * (i : Int) - d)) else gI τ 3 0 q := fun q => by
        rw [h2, gI_sJ, gI_sJ]
        by_cases c : q = a
        · rw [if_pos c, c]; exact p1
        · rw [if_neg c]; exact F1.2.1 q c
      have It : ∀ t, t ≠ 3 → gI τ2 t = gI τ t := fun t ht => by
        rw [h2, gI_sJ, gI_sJ]; exact F1.1 t ht
      obtain ⟨τ', e, M', z0, z1, r⟩ := m_tree1 ha hx1 hl hd rc j (i + 1) τ2 fu (mM_fr M (It 0 (by decide)) (It 1 (by decide))) (by omega) (fun d' h1 h2' u hu => by
        have ne : 21 * d' + u ≠ a := by omega
        rw [J1, J2, J3, I3, if_neg ne, if_neg ne, if_neg ne, if_neg ne]
        exact hup d' h1 h2' u hu) (fun u hu => by
        rw [J1, J2, J3, I3]
        by_cases c : u = i
        · subst c
          rw [if_pos hA, if_pos hA, if_pos hA, if_pos hA]
          exact ⟨rfl, rfl, rfl, hw⟩
        · have ne : 21 * d + u ≠ a := by omega
          rw [if_neg ne, if_neg ne, if_neg ne, if_neg ne]
          exact hrow u (by omega)) (by omega)
      exact ⟨τ', e, M', z0.trans (It 0 (by decide)), z1.trans (It 1 (by decide)), r⟩
    rw [ksX3_laysTree_20]
    unfold bkX3_laysTree_20
    rw [if_neg (by rw [ylt (by omega) (by omega) (by omega) (by omega)]; omega), e1, ob_s, ea, t5]
    -- the last day
    have lastGo : d = last → ∃ τ', kX3_laysTree_61 (kX3_laysTree_20 rc fu) (τ1, x1, zi d, zi i, zi a, 1) = rc (τ', x1, zi ((d : Int) - 1)) ∧ mM τ' n B G ∧ gI τ' 0 = gI τ 0 ∧ gI τ' 1 = gI τ 1 ∧ (∀ d', d ≤ d' → d' ≤ last → mrow τ' (nwZ (elZ B G) B G (G 7) n) (pkZ (elZ B G) B G (G 7) n) (VZ (nwZ (elZ B G) B G (G 7) n) (G 6) may last (last - d')) (Wd (nwZ (elZ B G) B G (G 7) n) (G 6) may last d') d' (d' = last)) := by
      intro hdl
      rw [ksX3_laysTree_61]
      unfold bkX3_laysTree_61
      rw [if_neg (by decide), ksX3_laysTree_111]
      unfold bkX3_laysTree_111
      have j2 : gJ (sJ τ1 3 0 a (0 : Int64)) 2 0 a = zl (nwZ (elZ B G) B G (G 7) n (2 * (i : Int) - d)) := by rw [gJ_nt (by decide)]; exact v1
      simp (disch := omega) only [inb_z, gdt, yN, Int.toNat_natCast, sv_z, ei, j2]
      rw [if_neg (by decide)]
      refine go 0 _ (fun k => absurd hdl k) ?_
      rw [hdl, Nat.sub_self]; rfl
    have nlGo : ¬ d = last → ∃ τ', kX3_laysTree_61 (kX3_laysTree_20 rc fu) (τ1, x1, zi d, zi i, zi a, 0) = rc (τ', x1, zi ((d : Int) - 1)) ∧ mM τ' n B G ∧ gI τ' 0 = gI τ 0 ∧ gI τ' 1 = gI τ 1 ∧ (∀ d', d ≤ d' → d' ≤ last → mrow τ' (nwZ (elZ B G) B G (G 7) n) (pkZ (elZ B G) B G (G 7) n) (VZ (nwZ (elZ B G) B G (G 7) n) (G 6) may last (last - d')) (Wd (nwZ (elZ B G) B G (G 7) n) (G 6) may last d') d' (d' = last)) := by
      intro hdl
      obtain ⟨k, hk⟩ : ∃ k, d + (k + 1) = last := ⟨last - d - 1, by omega⟩
      have up := hup (d + 1) (by omega) (by omega)
      have u1 := (up i (by omega)).1
      have u2 := (up (i + 1) (by omega)).1
      rw [show last - (d + 1) = k by omega] at u1 u2
      rw [show ((i + 1 : Nat) : Int) = (i : Int) + 1 by omega] at u2
      have b1 := VZ_b hnw g5.1 g5.2 (may := may) (last := last) k i
      have b2 := VZ_b hnw g5.1 g5.2 (may := may) (last := last) k ((i : Int) + 1)
      have eW : Wd (nwZ (elZ B G) B G (G 7) n) (G 6) may last d i = (VZ (nwZ (elZ B G) B G (G 7) n) (G 6) may last k i + VZ (nwZ (elZ B G) B G (G 7) n) (G 6) may last k ((i : Int) + 1)) / 2 - G 6 := by
        unfold Wd; rw [show last - d - 1 = k by omega]; rfl
      have eV : VZ (nwZ (elZ B G) B G (G 7) n) (G 6) may last (last - d) i = if may = true ∧ Wd (nwZ (elZ B G) B G (G 7) n) (G 6) may last d i ≤ nwZ (elZ B G) B G (G 7) n (2 * (i : Int) - d) then nwZ (elZ B G) B G (G 7) n (2 * (i : Int) - d) else Wd (nwZ (elZ B G) B G (G 7) n) (G 6) may last d i := by
        have q : (last : Int) - ((k : Int) + 1) = d := by omega
        rw [eW, show last - d = k + 1 by omega]
        have e0 : VZ (nwZ (elZ B G) B G (G 7) n) (G 6) may last (k + 1) i = if may = true ∧ (VZ (nwZ (elZ B G) B G (G 7) n) (G 6) may last k i + VZ (nwZ (elZ B G) B G (G 7) n) (G 6) may last k ((i : Int) + 1)) / 2 - G 6 ≤ nwZ (elZ B G) B G (G 7) n (2 * (i : Int) - ((last : Int) - ((k : Int) + 1))) then nwZ (elZ B G) B G (G 7) n (2 * (i : Int) - ((last : Int) - ((k : Int) + 1))) else (VZ (nwZ (elZ B G) B G (G 7) n) (G 6) may last k i + VZ (nwZ (elZ B G) B G (G 7) n) (G 6) may last k ((i : Int) + 1)) / 2 - G 6 := rfl
        rw [e0, q]
      have a1 : zi a + (21 : Int32) = zi (21 * (d + 1) + i : Nat) := by
        rw [l21, zi_add]; congr 1; omega
      have a2 : zi a + (22 : Int32) = zi (21 * (d + 1) + (i + 1) : Nat) := by
        rw [l22, zi_add]; congr 1; omega
      have nb := hnw (2 * (i : Int) - d)
      have kb : (k : Int) ≤ 20 := by omega
      have wb : -30000000000 ≤ Wd (nwZ (elZ B G) B G (G 7) n) (G 6) may last d i ∧ Wd (nwZ (elZ B G) B G (G 7) n) (G 6) may last d i ≤ 30000000000 := by rw [eW]; omega
      have q1 : gJ τ1 1 0 (21 * (d + 1) + i) = zl (VZ (nwZ (elZ B G) B G (G 7) n) (G 6) may last k i) := by
        rw [F1.2.2.1 1 (by decide)]; exact u1
      have q2 : gJ τ1 1 0 (21 * (d + 1) + (i + 1)) = zl (VZ (nwZ (elZ B G) B G (G 7) n) (G 6) may last k ((i : Int) + 1)) := by
        rw [F1.2.2.1 1 (by decide)]; exact u2
      rw [ksX3_laysTree_61]
      unfold bkX3_laysTree_61
      rw [if_pos rfl, a1, a2]
      simp (disch := omega) only [inb_z, gdt, yN, Int.toNat_natCast, q1, q2, zl_add, m_down, ob_s, t8, yL, zl_sub]
      rw [← eW, ksX3_laysTree_111]
      unfold bkX3_laysTree_111
      have j2 : gJ (sJ τ1 3 0 a (zl (Wd (nwZ (elZ B G) B G (G 7) n) (G 6) may last d i))) 2 0 a = zl (nwZ (elZ B G) B G (G 7) n (2 * (i : Int) - d)) := by rw [gJ_nt (by decide)]; exact v1
      have j3 : gJ (sJ τ1 3 0 a (zl (Wd (nwZ (elZ B G) B G (G 7) n) (G 6) may last d i))) 3 0 a = zl (Wd (nwZ (elZ B G) B G (G 7) n) (G 6) may last d i) := by rw [gJ_sJ, if_pos ⟨rfl, rfl, rfl⟩]
      simp (disch := omega) only [inb_z, gdt, yN, Int.toNat_natCast, sv_z, ei, j2, j3]
      rw [if_pos trivial]
      rcases hx1 with ⟨hm, hx, hG⟩ | ⟨hm, hx⟩
      · have le : (lg_cmp (zl (nwZ (elZ B G) B G (G 7) n (2 * (i : Int) - d))) (zl (Wd (nwZ (elZ B G) B G (G 7) n) (G 6) may last d i)) ≤ (0 : Int32)) ↔ nwZ (elZ B G) B G (G 7) n (2 * (i : Int) - d) ≤ Wd (nwZ (elZ B G) B G (G 7) n) (G 6) may last d i := by
          rw [lc_le]; exact wle (by omega) (by omega) (by omega) (by omega)
        rw [if_pos (by rw [hx]; rfl)]
        simp only [le]
        by_cases c : nwZ (elZ B G) B G (G 7) n (2 * (i : Int) - d) ≤ Wd (nwZ (elZ B G) B G (G 7) n) (G 6) may last d i
        · rw [if_pos c]
          refine go _ _ (fun _ => rfl) ?_
          congr 2
          rw [eV]
          by_cases c2 : Wd (nwZ (elZ B G) B G (G 7) n) (G 6) may last d i ≤ nwZ (elZ B G) B G (G 7) n (2 * (i : Int) - d)
          · rw [if_pos ⟨hm, c2⟩]; omega
          · rw [if_neg (fun k => c2 k.2)]
        · rw [if_neg c]
          refine go _ _ (fun _ => rfl) ?_
          congr 2
          rw [eV, if_pos ⟨hm, by omega⟩]
      · rw [if_neg (by rw [hx, lm1, yeq (by omega) (by omega) (by omega) (by omega)]; omega)]
        refine go _ _ (fun _ => rfl) ?_
        congr 2
        rw [eV, if_neg (fun k => by rw [hm] at k; cases k.1)]
    by_cases dl : d = last
    · have := lastGo dl
      rcases hx1 with ⟨hm, hx, hG⟩ | ⟨hm, hx⟩
      · rw [if_pos (by rw [hx]; rfl), if_pos (by rw [show (d : Int) = G 3 by omega])]; exact this
      · rw [if_neg (by rw [hx, lm1, yeq (by omega) (by omega) (by omega) (by omega)]; omega), if_pos (by rw [hx, dl])]; exact this
    · have := nlGo dl
      rcases hx1 with ⟨hm, hx, hG⟩ | ⟨hm, hx⟩
      · rw [if_pos (by rw [hx]; rfl), if_neg (by rw [yeq (by omega) (by omega) (by omega) (by omega)]; omega)]; exact this
      · rw [if_neg (by rw [hx, lm1, yeq (by omega) (by omega) (by omega) (by omega)]; omega), if_neg (by rw [hx, yeq (by omega) (by omega) (by omega) (by omega)]; omega)]; exact this
theorem m_tree2 (ha : anZ n (elZ B G) = true) {x1 : Int32} (hx1 : (may = true ∧ x1 = zi (-1) ∧ (last : Int) = G 3) ∨ (may = false ∧ x1 = zi last)) (hl : (last : Int) ≤ G 3) : ∀ (d : Nat) (τ : ST) (fuel : Nat), mM τ n B G → d ≤ last + 1 → (∀ d', d ≤ d' → d' ≤ last → mrow τ (nwZ (elZ B G) B G (G 7) n) (pkZ (elZ B G) B G (G 7) n) (VZ (nwZ (elZ B G) B G (G 7) n) (G 6) may last (last - d')) (Wd (nwZ (elZ B G) B G (G 7) n) (G 6) may last d') d' (d' = last)) → d < fuel → ∃ τ', kX3_laysTree_14 fuel (τ, x1, zi ((d : Int) - 1)) = some τ' ∧ mM τ' n B G ∧ gI τ' 0 = gI τ 0 ∧ gI τ' 1 = gI τ 1 ∧ (∀ d', d' ≤ last → mrow τ' (nwZ (elZ B G) B G (G 7) n) (pkZ (elZ B G) B G (G 7) n) (VZ (nwZ (elZ B G) B G (G 7) n) (G 6) may last (last - d')) (Wd (nwZ (elZ B G) B G (G 7) n) (G 6) may last d') d' (d' = last))
  | 0, τ, fuel, M, hdl, hr, hf => by
    obtain ⟨fu, rfl⟩ : ∃ f, fuel = f + 1 := ⟨fuel - 1, by omega⟩
    refine ⟨τ, ?_, M, rfl, rfl, fun d' h => hr d' (by omega) h⟩
    rw [ksX3_laysTree_14]
    unfold bkX3_laysTree_14
    rw [if_pos (by decide)]
  | d + 1, τ, fuel, M, hdl, hr, hf => by
    obtain ⟨fu, rfl⟩ : ∃ f, fuel = f + 1 := ⟨fuel - 1, by omega⟩
    have g3 := M.1.2.2.2.2.1
    obtain ⟨τ1, e1, M1, z0, z1, r1⟩ := m_tree1 ha hx1 hl (d := d) (by omega) (kX3_laysTree_14 fu) (d + 1) 0 τ FU M (by omega) (fun d' h1 h2 => hr d' (by omega) h2) (fun u hu => by omega) (by unfold FU; omega)
    obtain ⟨τ', e, M', y0, y1, r⟩ := m_tree2 ha hx1 hl d τ1 fu M1 (by omega) r1 (by omega)
    refine ⟨τ', ?_, M', y0.trans z0, y1.trans z1, r⟩
    rw [← e, ← e1, ksX3_laysTree_14]
    unfold bkX3_laysTree_14
    rw [show ((d + 1 : Nat) : Int) - 1 = d by omega]
    rw [if_neg (by rw [l0, ylt (by omega) (by omega) (by omega) (by omega)]; omega)]
    rfl
theorem m_tree (M : mM τ n B G) (ha : anZ n (elZ B G) = true) {x1 : Int32} (hx1 : (may = true ∧ x1 = zi (-1) ∧ (last : Int) = G 3) ∨ (may = false ∧ x1 = zi last)) (hl : (last : Int) ≤ G 3) : ∃ τ', mX3_laysTree τ x1 = some τ' ∧ mM τ' n B G ∧ gI τ' 0 = gI τ 0 ∧ gI τ' 1 = gI τ 1 ∧ (∀ d', d' ≤ last → mrow τ' (nwZ (elZ B G) B G (G 7) n) (pkZ (elZ B G) B G (G 7) n) (VZ (nwZ (elZ B G) B G (G 7) n) (G 6) may last (last - d')) (Wd (nwZ (elZ B G) B G (G 7) n) (G 6) may last d') d' (d' = last)) := by
  have g3 := M.1.2.2.2.2.1
  obtain ⟨τ', e, r⟩ := m_tree2 ha hx1 hl (last + 1) τ FU M (Nat.le_refl _) (fun d' h1 h2 => by omega) (by unfold FU; omega)
  refine ⟨τ', ?_, r⟩
  rw [← e]
  unfold mX3_laysTree
  rw [show ((last + 1 : Nat) : Int) - 1 = last by omega]
  rcases hx1 with ⟨hm, hx, hG⟩ | ⟨hm, hx⟩
  · rw [if_pos (by rw [hx]; rfl), M.2.2.1.2.2.2.1, hG]
  · rw [if_neg (by rw [hx, lm1, yeq (by omega) (by omega) (by omega) (by omega)]; omega), hx]
end Q0

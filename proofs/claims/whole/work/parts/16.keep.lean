/-! ROWS OF WORTHS THAT COME: keepWorths -/
/-- worlds that are the same cells in another order -/
theorem vaD_iff {A : Nat → Prop} {ws : va_W} : va_D A ws ↔ (ws.map Prod.fst).Nodup ∧ ∀ q ∈ ws, A q.1 := by
  constructor
  · intro h
    refine ⟨?_, fun q hq => ?_⟩
    · rw [List.nodup_iff_pairwise_ne, List.pairwise_iff_getElem]
      intro i j hi hj hij e
      rw [List.length_map] at hi hj
      rw [List.getElem_map, List.getElem_map] at e
      have := h.1 i j ws[i] ws[j] (List.getElem?_eq_getElem hi) (List.getElem?_eq_getElem hj) e
      omega
    · obtain ⟨k, hk⟩ := List.getElem?_of_mem hq
      exact h.2 k q hk
  · intro h
    refine ⟨fun i j x y hx hy e => ?_, fun k q hk => h.2 q (List.mem_of_getElem? hk)⟩
    obtain ⟨hi, ex⟩ := List.getElem?_eq_some_iff.mp hx
    obtain ⟨hj, ey⟩ := List.getElem?_eq_some_iff.mp hy
    have hp := (List.pairwise_iff_getElem.mp (List.nodup_iff_pairwise_ne.mp h.1))
    rcases Nat.lt_trichotomy i j with c | c | c
    · exact absurd (by rw [List.getElem_map, List.getElem_map, ex, ey]; exact e) (hp i j (by rw [List.length_map]; exact hi) (by rw [List.length_map]; exact hj) c)
    · exact c
    · exact absurd (by rw [List.getElem_map, List.getElem_map, ex, ey]; exact e.symm) (hp j i (by rw [List.length_map]; exact hj) (by rw [List.length_map]; exact hi) c)
theorem vaD_perm {A : Nat → Prop} {a b : va_W} (h : a.Perm b) (hD : va_D A a) : va_D A b := by
  rw [vaD_iff] at hD ⊢
  exact ⟨(h.map Prod.fst).nodup_iff.mp hD.1, fun q hq => hD.2 q (h.mem_iff.mpr hq)⟩
theorem vaP_perm {D : va_G} {cl : List vw_C} {H : Heap} {a b : va_W} (h : a.Perm b) (hP : va_P D cl a H) : va_P D cl b H := fun k q hk => by
  obtain ⟨i, hi⟩ := List.getElem?_of_mem (h.mem_iff.mpr (List.mem_of_getElem? hk))
  exact hP i q hi
/-- the addresses, but the row of worths of bond k at q -/
def adW (ad : Nat → Nat → Nat) (k q : Nat) : Nat → Nat → Nat := fun t i => if t = 18 ∧ i = k then q else ad t i
theorem adW_ne {ad : Nat → Nat → Nat} {k q t i : Nat} (h : t ≠ 18) : adW ad k q t i = ad t i := if_neg (fun z => h z.1)
abbrev nWc (cy : Nat → ClassId) (q : Nat) : Nat × va_E := (q, .inl (cy 0, 3201, .inl (fun _ => 0)))
def keepσ (σ : ST) (k : Nat) : ST := sW (sR σ 10 k (fun _ => 0)) k true
theorem cw_keep {cy : Nat → ClassId} {ad : Nat → Nat → Nat} {σ : ST} {k q : Nat} (h : k < 8) (hw : ¬ gW σ k = true) : (((cw cy ad σ) ++ [nWc cy q]).set (13 + k) (ad 13 k, .inr (0, [.int (gI σ 2 k 0), .int (gI σ 2 k 1), .int (gI σ 2 k 2), .int (gI σ 2 k 3), .int (gI σ 2 k 4), .int (gI σ 2 k 5), .int (gI σ 2 k 6), .int (gI σ 2 k 7), .ref (ad 14 k), .ref q]))).Perm (cw cy (adW ad k q) (keepσ σ k)) := by
  have gI' : ∀ a, a ≠ 10 → gI (keepσ σ k) a = gI σ a := fun a ha => by
    show gI (sR σ 10 k (fun _ => 0)) a = gI σ a
    exact gI_Rnt ha
  have gW' : ∀ j, gW (keepσ σ k) j = if j = k then true else gW σ j := fun j => gW_sW _ _ _ _
  have e0 : cX cy (adW ad k q) (keepσ σ k) = cX cy ad σ := by
    simp only [cX, c0, c2, gI' 0 (by decide), gI' 1 (by decide), gI' 4 (by decide), gI' 5 (by decide), gI' 8 (by decide), gI' 9 (by decide), adW_ne (show (0 : Nat) ≠ 18 by decide), adW_ne (show (1 : Nat) ≠ 18 by decide), adW_ne (show (2 : Nat) ≠ 18 by decide), adW_ne (show (3 : Nat) ≠ 18 by decide), adW_ne (show (4 : Nat) ≠ 18 by decide), adW_ne (show (5 : Nat) ≠ 18 by decide), adW_ne (show (6 : Nat) ≠ 18 by decide), adW_ne (show (7 : Nat) ≠ 18 by decide), adW_ne (show (8 : Nat) ≠ 18 by decide), adW_ne (show (9 : Nat) ≠ 18 by decide), adW_ne (show (10 : Nat) ≠ 18 by decide), adW_ne (show (11 : Nat) ≠ 18 by decide), adW_ne (show (12 : Nat) ≠ 18 by decide), adW_ne (show (13 : Nat) ≠ 18 by decide), adW_ne (show (15 : Nat) ≠ 18 by decide), adW_ne (show (16 : Nat) ≠ 18 by decide), adW_ne (show (17 : Nat) ≠ 18 by decide)]
    rfl
  have e2 : eF cy (adW ad k q) (keepσ σ k) = eF cy ad σ := by funext j; simp only [eF, gI' 3 (by decide), adW_ne (show (14 : Nat) ≠ 18 by decide)]
  have e3 : eV cy (adW ad k q) (keepσ σ k) = eV cy ad σ := by funext j; simp only [eV, adW_ne (show (15 : Nat) ≠ 18 by decide)]; rfl
  have e4 : eA cy (adW ad k q) (keepσ σ k) = eA cy ad σ := by funext j; simp only [eA, gI' 6 (by decide), adW_ne (show (16 : Nat) ≠ 18 by decide)]
  have e5 : eL cy (adW ad k q) (keepσ σ k) = eL cy ad σ := by funext j; simp only [eL, gI' 7 (by decide), adW_ne (show (17 : Nat) ≠ 18 by decide)]
  have e1 : ∀ j, j ≠ k → eB (adW ad k q) (keepσ σ k) j = eB ad σ j := fun j hj => by
    have w : wv (adW ad k q) (keepσ σ k) j = wv ad σ j := by
      unfold wv
      rw [gW' j, if_neg hj, show adW ad k q 18 j = ad 18 j from if_neg (fun z => hj z.2)]
    simp only [eB, gI' 2 (by decide), adW_ne (show (13 : Nat) ≠ 18 by decide), adW_ne (show (14 : Nat) ≠ 18 by decide), w]
  have e1k : eB (adW ad k q) (keepσ σ k) k = (ad 13 k, .inr (0, [.int (gI σ 2 k 0), .int (gI σ 2 k 1), .int (gI σ 2 k 2), .int (gI σ 2 k 3), .int (gI σ 2 k 4), .int (gI σ 2 k 5), .int (gI σ 2 k 6), .int (gI σ 2 k 7), .ref (ad 14 k), .ref q])) := by
    have w : wv (adW ad k q) (keepσ σ k) k = .ref q := by
      unfold wv
      rw [gW' k, if_pos rfl, if_pos rfl, show adW ad k q 18 k = q from if_pos ⟨rfl, rfl⟩]
    simp only [eB, gI' 2 (by decide), adW_ne (show (13 : Nat) ≠ 18 by decide), adW_ne (show (14 : Nat) ≠ 18 by decide), w]
  have eW1 : ∀ j, j ≠ k → eW cy (adW ad k q) (keepσ σ k) j = eW cy ad σ j := fun j hj => by
    unfold eW
    rw [gW' j, if_neg hj, show adW ad k q 18 j = ad 18 j from if_neg (fun z => hj z.2), show gI (keepσ σ k) 10 j = gI σ 10 j from gI_Rni hj]
  have eWk : eW cy (adW ad k q) (keepσ σ k) k = [nWc cy q] := by
    unfold eW
    rw [gW' k, if_pos rfl, if_pos rfl, show adW ad k q 18 k = q from if_pos ⟨rfl, rfl⟩, show gI (keepσ σ k) 10 k = (fun _ => 0) from gI_Rat]
  have eW0 : eW cy ad σ k = [] := if_neg hw
  have hW : ((List.range 8).flatMap (eW cy ad σ) ++ [nWc cy q]).Perm ((List.range 8).flatMap (eW cy (adW ad k q) (keepσ σ k))) := by
    obtain ⟨a, b, hl⟩ := List.append_of_mem (List.mem_range.mpr h)
    have hnd : (a ++ k :: b).Nodup := by rw [← hl]; exact List.nodup_range
    have ha : ∀ j ∈ a, j ≠ k := fun j hj e => by
      subst e
      exact (List.nodup_append.mp hnd).2.2 j hj j List.mem_cons_self rfl
    have hb : ∀ j ∈ b, j ≠ k := fun j hj e => by
      subst e
      exact (List.nodup_cons.mp (List.nodup_append.mp hnd).2.1).1 hj
    have key : ∀ l : List Nat, (∀ j ∈ l, j ≠ k) → l.flatMap (eW cy (adW ad k q) (keepσ σ k)) = l.flatMap (eW cy ad σ) := by
      intro l
      induction l with
      | nil => intro _; rfl
      | cons z l ih => intro h; rw [List.flatMap_cons, List.flatMap_cons, ih (fun j hj => h j (List.mem_cons_of_mem _ hj)), eW1 z (h z List.mem_cons_self)]
    rw [hl, List.flatMap_append, List.flatMap_append, List.flatMap_cons, List.flatMap_cons, key a ha, key b hb, eWk, eW0, List.append_assoc]
    apply List.Perm.append_left
    show (([] ++ b.flatMap (eW cy ad σ)) ++ [_]).Perm _
    rw [List.nil_append]
    exact List.perm_append_comm
  unfold cw
  rw [e0, e2, e3, e4, e5, List.append_assoc, zz_setA cX_len, List.append_assoc, zz_setM (g := eB (adW ad k q) (keepσ σ k)) h e1k e1]
  apply List.Perm.append_left
  apply List.Perm.append_left
  rw [List.append_assoc, List.append_assoc, List.append_assoc, List.append_assoc]
  apply List.Perm.append_left
  apply List.Perm.append_left
  apply List.Perm.append_left
  apply List.Perm.append_left
  exact hW
/-! contracts of methods that may make rows of worths: the addresses of those rows are another matter -/
def sameAd (u ad : Nat → Nat → Nat) : Prop := ∀ t i, t ≠ 18 → u t i = ad t i
theorem sameAd.rf {ad : Nat → Nat → Nat} : sameAd ad ad := fun _ _ _ => rfl
theorem sameAd.tr {a b c : Nat → Nat → Nat} (h1 : sameAd a b) (h2 : sameAd b c) : sameAd a c := fun t i h => (h1 t i h).trans (h2 t i h)
def aQv (D : va_G) (cy : Nat → ClassId) (ad : Nat → Nat → Nat) (σ : ST) (A : Nat → Prop) : Array Value → State → Outcome → State → Prop := va_Qv (fun u => sameAd u ad) (fun u t => va_P D vwCl (cw cy u σ) t.heap ∧ va_D A (cw cy u σ)) A
def aQi (D : va_G) (cy : Nat → ClassId) (ad : Nat → Nat → Nat) (σ : ST) (A : Nat → Prop) (r : Int32) : Array Value → State → Outcome → State → Prop := va_Qi (fun r' u => r' = r ∧ sameAd u ad) (fun u t => va_P D vwCl (cw cy u σ) t.heap ∧ va_D A (cw cy u σ)) A
/-- how many bonds have no row of worths -/
def cntF (σ : ST) : Nat := (List.range 8).countP (fun k => !gW σ k)
theorem cntF_keep {σ : ST} {k : Nat} (h : k < 8) (hw : ¬ gW σ k = true) : cntF (keepσ σ k) + 1 = cntF σ := by
  have gW' : ∀ j, gW (keepσ σ k) j = if j = k then true else gW σ j := fun j => gW_sW _ _ _ _
  have hw' : gW σ k = false := by cases hh : gW σ k <;> simp_all
  obtain ⟨a, b, hl⟩ := List.append_of_mem (List.mem_range.mpr h)
  have hnd : (a ++ k :: b).Nodup := by rw [← hl]; exact List.nodup_range
  have ha : ∀ j ∈ a, j ≠ k := fun j hj e => by
    subst e
    exact (List.nodup_append.mp hnd).2.2 j hj j List.mem_cons_self rfl
  have hb : ∀ j ∈ b, j ≠ k := fun j hj e => by
    subst e
    exact (List.nodup_cons.mp (List.nodup_append.mp hnd).2.1).1 hj
  have key : ∀ l : List Nat, (∀ j ∈ l, j ≠ k) → l.countP (fun k_1 => !gW (keepσ σ k) k_1) = l.countP (fun k => !gW σ k) := by
    intro l hl
    apply List.countP_congr
    intro x hx
    rw [gW' x, if_neg (hl x hx)]
  unfold cntF
  rw [hl, List.countP_append, List.countP_append, List.countP_cons, List.countP_cons, key a ha, key b hb, gW' k, if_pos rfl, hw']
  simp
  omega
def mX0_keepWorths (σ : ST) (k0 : Nat) : ST := if gW σ k0 = true then σ else keepσ σ k0
abbrev rmX0_keepWorths (n : Nat) : Room := { frames := 0, cells := n, slots := 3201 * n, locals := 0 }
theorem iwX0_keepWorths : ∀ w ∈ wsX00, w ∈ wsX0_keepWorths := fun _ h => List.mem_cons_of_mem _ (List.mem_append_right _ h)
theorem lkX0_keepWorths_40 : Cond.fieldLink RX0 40 "DeliveryBasket$Bond" "worths" "[I" ∈ wsX0_keepWorths := by decide +kernel
theorem lkX0_keepWorths_ac : Cond.arrayClass .int ∈ wsX0_keepWorths := by decide +kernel
set_option maxHeartbeats 4000000 in
set_option maxRecDepth 100000 in
theorem ctX0_keepWorths (l : Launch) (D : va_G) (cy : Nat → ClassId) (ad : Nat → Nat → Nat) (σ : ST) {k0 : Nat} (hk0 : k0 < 8) (n : Nat) (hn : cntF (mX0_keepWorths σ k0) + n = cntF σ) (sz : Nat) : Met l yX0_keepWorths wsX0_keepWorths (rmX0_keepWorths n) (va_Pc [.ref (ad 13 k0)] (zPre D cy (cw cy ad σ) sz)) (aQv D cy ad (mX0_keepWorths σ k0) (va_A (cw cy ad σ) sz)) n (3201 * n) (va_A (cw cy ad σ) sz) := by
  refine Met.ofW (cc := cX0_keepWorths) (maxL := 1) (ret := none) (by decide) rfl ?_
  intro p e s m args below meth c s₁ B hml hv
  obtain ⟨rfl, hsz, hP, hK, hD0⟩ := hv
  have hx := B.exec
  have hb := B.bytes
  have hr := B.returns
  have hts := atoms_spec (ws := wsX0_keepWorths) B.pre
  have hown : s.vm.findClass RX0 = some m.cls := findClass_of_methodNamed B.named
  have hlocks := B.notSynchronized
  subst hsz
  have hD := hD0.self (sz := s.heap.size)
  generalize hAe : va_A (cw cy ad σ) s.heap.size = A at hD ⊢
  have hA : ∀ q : Nat, s.heap.size ≤ q → A q := fun q h => by rw [← hAe]; exact Or.inr h
  have hS : va_S A s.heap s.heap [] := va_S.rf
  have hl := lv_entry ([.ref (ad 13 k0)]) (n := 1) (Nat.le_of_ble_eq_true rfl)
  rw [lg_entry_eq]
  generalize (lg_sl ([.ref (ad 13 k0)]) ++ List.replicate (1 - (lg_sl ([.ref (ad 13 k0)])).length) Slot.unset).toArray = ls at hl ⊢
  have hl : lv_has ls 1 [(0, .ref (ad 13 k0))] := hl
  refine lv_aload_n hx hb dX0_keepWorths_0 rfl (lv_at hl 0 rfl) ?_
  refine va_get (D := D) (ci := 0) (v := wv ad σ k0) (C := RX0) (T := TX0) (N := 10) hx hb hts iwX0_keepWorths hown hK.1 hP (13 + k0) (cw_13 hk0) rfl 9 (by decide) (hts _ lkX0_keepWorths_40) (fun _ h9 => h9) rfl dX0_keepWorths_1 ?_
  by_cases hw : gW σ k0 = true
  · have em : mX0_keepWorths σ k0 = σ := if_pos hw
    rw [em] at hn ⊢
    have en : n = 0 := by omega
    subst en
    rw [wv_t hw]
    refine lv_ifnonnull (tgt := 16) hx hb dX0_keepWorths_4 (by decide) ?_
    exact W.vret hx hb hr (fun t ht hW => ⟨⟨ad, rfl, sameAd.rf, by rw [ht]; exact hP, hD⟩, hS.F ht⟩) hS.2.2 dX0_keepWorths_16
  · have em : mX0_keepWorths σ k0 = keepσ σ k0 := if_neg hw
    rw [em] at hn ⊢
    have en : n = 1 := by have := cntF_keep hk0 hw; omega
    subst en
    rw [wv_f hw]
    refine lv_ifnonnullN hx hb dX0_keepWorths_4 ?_
    refine lv_aload_n hx hb dX0_keepWorths_7 rfl (lv_at hl 0 rfl) ?_
    refine lv_sipush (v := 3201) hx hb dX0_keepWorths_8 (by decide) ?_
    refine va_newa (atype := .int) (ty := .int) (N' := 3201) (a0 := (3201, .inl (fun _ => 0))) hx hb (hts _ lkX0_keepWorths_ac) rfl hK.1 hP hD hS hA (fun cA => rfl) (by decide) (by decide) (Nat.le_of_ble_eq_true rfl) (Nat.le_of_ble_eq_true rfl) (Nat.le_of_ble_eq_true rfl) dX0_keepWorths_11 (fun q cA H hK2 hP hD hS => ?_)
    have ecA : cA = cy 0 := by
      have h1 : va_RA s cA .int := (hK2.2 5 (cA, .int) rfl).2
      have h2 : va_RA s (cy 0) .int := (hK.1.2 0 (cy 0, .int) rfl).2
      exact Option.some.inj (h1.symm.trans h2)
    subst ecA
    have hl13 : 13 + k0 < (cw cy ad σ).length := (List.getElem?_eq_some_iff.mp (cw_13 (cy := cy) (ad := ad) (σ := σ) hk0)).1
    have he : (cw cy ad σ ++ [nWc cy q])[13 + k0]? = some (ad 13 k0, .inr (0, [.int (gI σ 2 k0 0), .int (gI σ 2 k0 1), .int (gI σ 2 k0 2), .int (gI σ 2 k0 3), .int (gI σ 2 k0 4), .int (gI σ 2 k0 5), .int (gI σ 2 k0 6), .int (gI σ 2 k0 7), .ref (ad 14 k0), wv ad σ k0])) := by
      rw [List.getElem?_append_left hl13]
      exact cw_13 hk0
    refine va_put (D := D) (ci := 0) (v := .ref q) (ty := .array .int) (C := RX0) (T := TX0) (N := 10) hx hb hts iwX0_keepWorths tyX0 tyX0_ok nmX0 hown hK.1 hP hD hS (13 + k0) he rfl 9 (by decide) (hts _ lkX0_keepWorths_40) (fun _ h9 => h9) rfl (by decide +kernel) rfl rfl (Nat.le_of_ble_eq_true rfl) dX0_keepWorths_13 (fun H locs hP hD hS => ?_)
    have hP := vaP_perm (cw_keep (q := q) hk0 hw) hP
    have hD := vaD_perm (cw_keep (q := q) hk0 hw) hD
    refine W.widen (k := 1) (n := 3201 * 1) (Nat.le_of_ble_eq_true rfl) (Nat.le_of_ble_eq_true rfl) ?_
    exact W.vret hx hb hr (fun t ht hW => ⟨⟨adW ad k0 q, rfl, fun t i h => adW_ne h, by rw [ht]; exact hP, hD⟩, hS.F ht⟩) hS.2.2 dX0_keepWorths_16
section ZCA
variable {p : Program} {l : Launch} {e : Env} {R : Room} {s : State} {m : MethodId} {args : Array Value} {below : List Frame} {meth : Method} {c : Code} {H : Heap} {locs : List Loc} {cells slots : Nat} {Q : State → Prop}
variable {pc : Nat} {ls : Array Slot} {rest st0 : List Value} {a : Array Value} {A : Nat → Prop} {H0 : Heap} {D : va_G} {cy : Nat → ClassId} {w : va_W} {mc ms : Nat} {ad : Nat → Nat → Nat} {σ' : ST}
theorem zc_va (hr : va_Run p l e R s m args below meth c H locs cells slots mc ms (F0 m pc ls st0) rest (aQv D cy ad σ' (va_A w H.size) a) (va_A w H.size)) (hD : va_D A w) (hS : va_S A H0 H locs) (hA : ∀ q, H0.size ≤ q → A q)
    (kk : ∀ (u : Nat → Nat → Nat) (H1 : Heap) (locs1 : List Loc), sameAd u ad → va_P D vwCl (cw cy u σ') H1 → va_D A (cw cy u σ') → va_S A H0 H1 locs1 → W p l e R s m args below meth c H1 locs1 (cells + mc) (slots + ms) Q (F0 m (pc + 3) ls rest)) : W p l e R s m args below meth c H locs cells slots Q (F0 m pc ls st0) := by
  have hF := z_fr hD hS hA
  refine va_callv hr hS (fun q _ h => hF q h) hF (fun u t H1 locs1 ht hvm hw hB hz hk hS1 => ?_)
  obtain ⟨hP1, hD1⟩ := hB
  rw [ht] at hP1
  exact kk u H1 locs1 hw hP1 (hD1.weaken (fun k q _ h => hF q.1 h)) hS1
end ZCA

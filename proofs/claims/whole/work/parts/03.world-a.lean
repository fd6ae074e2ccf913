/-! THE WORLDS of the class (cw) and of the reference (mw), and what the tables say (zK) -/
abbrev xr (f : Nat → Option Nat) : (Nat → Int32) ⊕ (Nat → Int64) ⊕ (Nat → UInt32) ⊕ (Nat → UInt64) ⊕ (Nat → Option Nat) := .inr (.inr (.inr (.inr f)))
abbrev xl (f : Nat → Int64) : (Nat → Int32) ⊕ (Nat → Int64) ⊕ (Nat → UInt32) ⊕ (Nat → UInt64) ⊕ (Nat → Option Nat) := .inr (.inl f)
def wv (ad : Nat → Nat → Nat) (σ : ST) (k : Nat) : Value := if gW σ k = true then .ref (ad 18 k) else .null
abbrev c0 (ad : Nat → Nat → Nat) (σ : ST) : Nat × va_E := (ad 0 0, .inr (2, [.ref (ad 1 0), .int (gI σ 0 0 1), .int (gI σ 0 0 2), .int (gI σ 0 0 3), .int (gI σ 0 0 4), .ref (ad 2 0), .ref (ad 3 0), .ref (ad 4 0), .ref (ad 5 0)]))
abbrev c2 (ad : Nat → Nat → Nat) (σ : ST) : Nat × va_E := (ad 2 0, .inr (1, [.int (gI σ 1 0 0), .int (gI σ 1 0 1), .int (gI σ 1 0 2), .int (gI σ 1 0 3), .int (gI σ 1 0 4), .ref (ad 6 0), .ref (ad 7 0), .ref (ad 8 0), .ref (ad 9 0), .ref (ad 10 0), .ref (ad 11 0), .ref (ad 12 0)]))
def cX (cy : Nat → ClassId) (ad : Nat → Nat → Nat) (σ : ST) : va_W := [c0 ad σ, (ad 1 0, .inl (cy 2, 8, xr (fun i => some (ad 13 (gP σ i))))), c2 ad σ,
  (ad 3 0, .inl (cy 0, 8, .inl (gI σ 4 0))), (ad 4 0, .inl (cy 1, 8, xl (gJ σ 0 0))), (ad 5 0, .inl (cy 0, 8, .inl (gI σ 5 0))),
  (ad 6 0, .inl (cy 4, 21, xr (fun d => some (ad 15 d)))), (ad 7 0, .inl (cy 3, 21, xr (fun d => some (ad 16 d)))), (ad 8 0, .inl (cy 3, 41, xr (fun d => some (ad 17 d)))),
  (ad 9 0, .inl (cy 1, 41, xl (gJ σ 2 0))), (ad 10 0, .inl (cy 0, 41, .inl (gI σ 8 0))), (ad 11 0, .inl (cy 1, 8, xl (gJ σ 3 0))), (ad 12 0, .inl (cy 0, 22, .inl (gI σ 9 0)))]
abbrev eB (ad : Nat → Nat → Nat) (σ : ST) (k : Nat) : Nat × va_E := (ad 13 k, .inr (0, [.int (gI σ 2 k 0), .int (gI σ 2 k 1), .int (gI σ 2 k 2), .int (gI σ 2 k 3), .int (gI σ 2 k 4), .int (gI σ 2 k 5), .int (gI σ 2 k 6), .int (gI σ 2 k 7), .ref (ad 14 k), wv ad σ k]))
abbrev eF (cy : Nat → ClassId) (ad : Nat → Nat → Nat) (σ : ST) (k : Nat) : Nat × va_E := (ad 14 k, .inl (cy 0, 41, .inl (gI σ 3 k)))
abbrev eV (cy : Nat → ClassId) (ad : Nat → Nat → Nat) (σ : ST) (d : Nat) : Nat × va_E := (ad 15 d, .inl (cy 1, 21, xl (gJ σ 1 d)))
abbrev eA (cy : Nat → ClassId) (ad : Nat → Nat → Nat) (σ : ST) (d : Nat) : Nat × va_E := (ad 16 d, .inl (cy 0, 21, .inl (gI σ 6 d)))
abbrev eL (cy : Nat → ClassId) (ad : Nat → Nat → Nat) (σ : ST) (d : Nat) : Nat × va_E := (ad 17 d, .inl (cy 0, 8, .inl (gI σ 7 d)))
def eW (cy : Nat → ClassId) (ad : Nat → Nat → Nat) (σ : ST) (k : Nat) : va_W := if gW σ k = true then [(ad 18 k, .inl (cy 0, 3201, .inl (gI σ 10 k)))] else []
def cw (cy : Nat → ClassId) (ad : Nat → Nat → Nat) (σ : ST) : va_W :=
  cX cy ad σ ++ ((List.range 8).map (eB ad σ) ++ ((List.range 8).map (eF cy ad σ) ++ ((List.range 21).map (eV cy ad σ) ++ ((List.range 21).map (eA cy ad σ) ++ ((List.range 41).map (eL cy ad σ) ++ (List.range 8).flatMap (eW cy ad σ))))))
section CW
variable {cy : Nat → ClassId} {ad : Nat → Nat → Nat} {σ : ST} {k : Nat}
theorem cX_len : (cX cy ad σ).length = 13 := rfl
theorem cw_0 : (cw cy ad σ)[0]? = some (c0 ad σ) := rfl
theorem cw_1 : (cw cy ad σ)[1]? = some (ad 1 0, .inl (cy 2, 8, xr (fun i => some (ad 13 (gP σ i))))) := rfl
theorem cw_2 : (cw cy ad σ)[2]? = some (c2 ad σ) := rfl
theorem cw_3 : (cw cy ad σ)[3]? = some (ad 3 0, .inl (cy 0, 8, .inl (gI σ 4 0))) := rfl
theorem cw_4 : (cw cy ad σ)[4]? = some (ad 4 0, .inl (cy 1, 8, xl (gJ σ 0 0))) := rfl
theorem cw_5 : (cw cy ad σ)[5]? = some (ad 5 0, .inl (cy 0, 8, .inl (gI σ 5 0))) := rfl
theorem cw_6 : (cw cy ad σ)[6]? = some (ad 6 0, .inl (cy 4, 21, xr (fun d => some (ad 15 d)))) := rfl
theorem cw_7 : (cw cy ad σ)[7]? = some (ad 7 0, .inl (cy 3, 21, xr (fun d => some (ad 16 d)))) := rfl
theorem cw_8 : (cw cy ad σ)[8]? = some (ad 8 0, .inl (cy 3, 41, xr (fun d => some (ad 17 d)))) := rfl
theorem cw_9 : (cw cy ad σ)[9]? = some (ad 9 0, .inl (cy 1, 41, xl (gJ σ 2 0))) := rfl
theorem cw_10 : (cw cy ad σ)[10]? = some (ad 10 0, .inl (cy 0, 41, .inl (gI σ 8 0))) := rfl
theorem cw_11 : (cw cy ad σ)[11]? = some (ad 11 0, .inl (cy 1, 8, xl (gJ σ 3 0))) := rfl
theorem cw_12 : (cw cy ad σ)[12]? = some (ad 12 0, .inl (cy 0, 22, .inl (gI σ 9 0))) := rfl
theorem cw_13 (h : k < 8) : (cw cy ad σ)[13 + k]? = some (eB ad σ k) := by
  unfold cw
  rw [zz_app cX_len, zz_map h]
theorem cw_14 (h : k < 8) : (cw cy ad σ)[13 + (8 + k)]? = some (eF cy ad σ k) := by
  unfold cw
  rw [zz_app cX_len, zz_mapS, zz_map h]
theorem cw_15 (h : k < 21) : (cw cy ad σ)[13 + (8 + (8 + k))]? = some (eV cy ad σ k) := by
  unfold cw
  rw [zz_app cX_len, zz_mapS, zz_mapS, zz_map h]
theorem cw_16 (h : k < 21) : (cw cy ad σ)[13 + (8 + (8 + (21 + k)))]? = some (eA cy ad σ k) := by
  unfold cw
  rw [zz_app cX_len, zz_mapS, zz_mapS, zz_mapS, zz_map h]
theorem cw_17 (h : k < 41) : (cw cy ad σ)[13 + (8 + (8 + (21 + (21 + k))))]? = some (eL cy ad σ k) := by
  unfold cw
  rw [zz_app cX_len, zz_mapS, zz_mapS, zz_mapS, zz_mapS, zz_map h]
/-- all but the explicit cells, when nothing but the tags of those has changed -/
theorem cw_same {τ : ST} (h2 : gI τ 2 = gI σ 2) (h3 : gI τ 3 = gI σ 3) (h6 : gI τ 6 = gI σ 6) (h7 : gI τ 7 = gI σ 7) (h10 : gI τ 10 = gI σ 10) (j1 : gJ τ 1 = gJ σ 1) (w : gW τ = gW σ) : cw cy ad τ = cX cy ad τ ++ ((List.range 8).map (eB ad σ) ++ ((List.range 8).map (eF cy ad σ) ++ ((List.range 21).map (eV cy ad σ) ++ ((List.range 21).map (eA cy ad σ) ++ ((List.range 41).map (eL cy ad σ) ++ (List.range 8).flatMap (eW cy ad σ)))))) := by
  have e1 : eB ad τ = eB ad σ := by funext k; simp only [eB, wv, h2, w]
  have e2 : eF cy ad τ = eF cy ad σ := by funext k; simp only [eF, h3]
  have e3 : eV cy ad τ = eV cy ad σ := by funext k; simp only [eV, j1]
  have e4 : eA cy ad τ = eA cy ad σ := by funext k; simp only [eA, h6]
  have e5 : eL cy ad τ = eL cy ad σ := by funext k; simp only [eL, h7]
  have e6 : eW cy ad τ = eW cy ad σ := by funext k; simp only [eW, h10, w]
  unfold cw
  rw [e1, e2, e3, e4, e5, e6]
theorem cw_setX {τ : ST} {n : Nat} {x : Nat × va_E} (hn : n < 13) (hx : (cX cy ad σ).set n x = cX cy ad τ) (h2 : gI τ 2 = gI σ 2) (h3 : gI τ 3 = gI σ 3) (h6 : gI τ 6 = gI σ 6) (h7 : gI τ 7 = gI σ 7) (h10 : gI τ 10 = gI σ 10) (j1 : gJ τ 1 = gJ σ 1) (w : gW τ = gW σ) : (cw cy ad σ).set n x = cw cy ad τ := by
  rw [cw_same h2 h3 h6 h7 h10 j1 w, ← hx]
  unfold cw
  rw [List.set_append_left _ _ hn]
theorem cw_s0 {j : Nat} {v : Int32} {fs : List Value} (hx : [Value.ref (ad 1 0), .int (gI (sI σ 0 0 j v) 0 0 1), .int (gI (sI σ 0 0 j v) 0 0 2), .int (gI (sI σ 0 0 j v) 0 0 3), .int (gI (sI σ 0 0 j v) 0 0 4), .ref (ad 2 0), .ref (ad 3 0), .ref (ad 4 0), .ref (ad 5 0)] = fs) : (cw cy ad σ).set 0 (ad 0 0, .inr (2, fs)) = cw cy ad (sI σ 0 0 j v) := by
  refine cw_setX (by decide) ?_ (gI_nt (by decide)) (gI_nt (by decide)) (gI_nt (by decide)) (gI_nt (by decide)) (gI_nt (by decide)) rfl rfl
  subst hx
  simp only [cX, c0, c2, gI_nt (show (4 : Nat) ≠ 0 by decide), gI_nt (show (5 : Nat) ≠ 0 by decide), gI_nt (show (1 : Nat) ≠ 0 by decide), gI_nt (show (8 : Nat) ≠ 0 by decide), gI_nt (show (9 : Nat) ≠ 0 by decide), gP_sI, gJ_sI, List.set_cons_zero]
theorem cw_s2 {j : Nat} {v : Int32} {fs : List Value} (hx : [Value.int (gI (sI σ 1 0 j v) 1 0 0), .int (gI (sI σ 1 0 j v) 1 0 1), .int (gI (sI σ 1 0 j v) 1 0 2), .int (gI (sI σ 1 0 j v) 1 0 3), .int (gI (sI σ 1 0 j v) 1 0 4), .ref (ad 6 0), .ref (ad 7 0), .ref (ad 8 0), .ref (ad 9 0), .ref (ad 10 0), .ref (ad 11 0), .ref (ad 12 0)] = fs) : (cw cy ad σ).set 2 (ad 2 0, .inr (1, fs)) = cw cy ad (sI σ 1 0 j v) := by
  refine cw_setX (by decide) ?_ (gI_nt (by decide)) (gI_nt (by decide)) (gI_nt (by decide)) (gI_nt (by decide)) (gI_nt (by decide)) rfl rfl
  subst hx
  simp only [cX, c0, c2, gI_nt (show (4 : Nat) ≠ 1 by decide), gI_nt (show (5 : Nat) ≠ 1 by decide), gI_nt (show (0 : Nat) ≠ 1 by decide), gI_nt (show (8 : Nat) ≠ 1 by decide), gI_nt (show (9 : Nat) ≠ 1 by decide), gP_sI, gJ_sI, List.set_cons_zero, List.set_cons_succ]
theorem cw_s1 {i : Nat} : (cw cy ad σ).set 1 (ad 1 0, .inl (cy 2, 8, xr (va_up (fun i => some (ad 13 (gP σ i))) i (some (ad 13 k))))) = cw cy ad (sP σ i k) := by
  refine cw_setX (by decide) ?_ rfl rfl rfl rfl rfl rfl rfl
  have e : (va_up (fun i => some (ad 13 (gP σ i))) i (some (ad 13 k))) = (fun a => some (ad 13 (gP (sP σ i k) a))) := by
    funext a
    by_cases h : a = i
    · subst h; simp [va_up, gP_sP]
    · simp [va_up, gP_sP, h]
  rw [e]
  rfl
theorem cw_s3 {i : Nat} {v : Int32} : (cw cy ad σ).set 3 (ad 3 0, .inl (cy 0, 8, .inl (upd (gI σ 4 0) i v))) = cw cy ad (sI σ 4 0 i v) := by
  refine cw_setX (by decide) ?_ (gI_nt (by decide)) (gI_nt (by decide)) (gI_nt (by decide)) (gI_nt (by decide)) (gI_nt (by decide)) rfl rfl
  rw [← gI_at]
  simp only [cX, c0, c2, gI_nt (show (0 : Nat) ≠ 4 by decide), gI_nt (show (1 : Nat) ≠ 4 by decide), gI_nt (show (5 : Nat) ≠ 4 by decide), gI_nt (show (8 : Nat) ≠ 4 by decide), gI_nt (show (9 : Nat) ≠ 4 by decide), gP_sI, gJ_sI, List.set_cons_zero, List.set_cons_succ]
theorem cw_s5 {i : Nat} {v : Int32} : (cw cy ad σ).set 5 (ad 5 0, .inl (cy 0, 8, .inl (upd (gI σ 5 0) i v))) = cw cy ad (sI σ 5 0 i v) := by
  refine cw_setX (by decide) ?_ (gI_nt (by decide)) (gI_nt (by decide)) (gI_nt (by decide)) (gI_nt (by decide)) (gI_nt (by decide)) rfl rfl
  rw [← gI_at]
  simp only [cX, c0, c2, gI_nt (show (0 : Nat) ≠ 5 by decide), gI_nt (show (1 : Nat) ≠ 5 by decide), gI_nt (show (4 : Nat) ≠ 5 by decide), gI_nt (show (8 : Nat) ≠ 5 by decide), gI_nt (show (9 : Nat) ≠ 5 by decide), gP_sI, gJ_sI, List.set_cons_zero, List.set_cons_succ]
theorem cw_r5 {r : Nat → Int32} : (cw cy ad σ).set 5 (ad 5 0, .inl (cy 0, 8, .inl r)) = cw cy ad (sR σ 5 0 r) := by
  refine cw_setX (by decide) ?_ (gI_Rnt (by decide)) (gI_Rnt (by decide)) (gI_Rnt (by decide)) (gI_Rnt (by decide)) (gI_Rnt (by decide)) rfl rfl
  rw [← gI_Rat (σ := σ) (t := 5) (i := 0) (r := r)]
  simp only [gI_Rat, cX, c0, c2, gI_Rnt (show (0 : Nat) ≠ 5 by decide), gI_Rnt (show (1 : Nat) ≠ 5 by decide), gI_Rnt (show (4 : Nat) ≠ 5 by decide), gI_Rnt (show (8 : Nat) ≠ 5 by decide), gI_Rnt (show (9 : Nat) ≠ 5 by decide), gP_sR, gJ_sR, List.set_cons_zero, List.set_cons_succ]
theorem cw_s10 {i : Nat} {v : Int32} : (cw cy ad σ).set 10 (ad 10 0, .inl (cy 0, 41, .inl (upd (gI σ 8 0) i v))) = cw cy ad (sI σ 8 0 i v) := by
  refine cw_setX (by decide) ?_ (gI_nt (by decide)) (gI_nt (by decide)) (gI_nt (by decide)) (gI_nt (by decide)) (gI_nt (by decide)) rfl rfl
  rw [← gI_at]
  simp only [cX, c0, c2, gI_nt (show (0 : Nat) ≠ 8 by decide), gI_nt (show (1 : Nat) ≠ 8 by decide), gI_nt (show (4 : Nat) ≠ 8 by decide), gI_nt (show (5 : Nat) ≠ 8 by decide), gI_nt (show (9 : Nat) ≠ 8 by decide), gP_sI, gJ_sI, List.set_cons_zero, List.set_cons_succ]
theorem cw_s12 {i : Nat} {v : Int32} : (cw cy ad σ).set 12 (ad 12 0, .inl (cy 0, 22, .inl (upd (gI σ 9 0) i v))) = cw cy ad (sI σ 9 0 i v) := by
  refine cw_setX (by decide) ?_ (gI_nt (by decide)) (gI_nt (by decide)) (gI_nt (by decide)) (gI_nt (by decide)) (gI_nt (by decide)) rfl rfl
  rw [← gI_at]
  simp only [cX, c0, c2, gI_nt (show (0 : Nat) ≠ 9 by decide), gI_nt (show (1 : Nat) ≠ 9 by decide), gI_nt (show (4 : Nat) ≠ 9 by decide), gI_nt (show (5 : Nat) ≠ 9 by decide), gI_nt (show (8 : Nat) ≠ 9 by decide), gP_sI, gJ_sI, List.set_cons_zero, List.set_cons_succ]
theorem cw_r12 {r : Nat → Int32} : (cw cy ad σ).set 12 (ad 12 0, .inl (cy 0, 22, .inl r)) = cw cy ad (sR σ 9 0 r) := by
  refine cw_setX (by decide) ?_ (gI_Rnt (by decide)) (gI_Rnt (by decide)) (gI_Rnt (by decide)) (gI_Rnt (by decide)) (gI_Rnt (by decide)) rfl rfl
  rw [← gI_Rat (σ := σ) (t := 9) (i := 0) (r := r)]
  simp only [gI_Rat, cX, c0, c2, gI_Rnt (show (0 : Nat) ≠ 9 by decide), gI_Rnt (show (1 : Nat) ≠ 9 by decide), gI_Rnt (show (4 : Nat) ≠ 9 by decide), gI_Rnt (show (8 : Nat) ≠ 9 by decide), gI_Rnt (show (5 : Nat) ≠ 9 by decide), gP_sR, gJ_sR, List.set_cons_zero, List.set_cons_succ]
theorem cw_s4 {i : Nat} {v : Int64} : (cw cy ad σ).set 4 (ad 4 0, .inl (cy 1, 8, xl (vp_updL (gJ σ 0 0) i v))) = cw cy ad (sJ σ 0 0 i v) := by
  refine cw_setX (by decide) ?_ rfl rfl rfl rfl rfl (gJ_nt (by decide)) rfl
  rw [← gJ_at]
  simp only [cX, c0, c2, gJ_nt (show (2 : Nat) ≠ 0 by decide), gJ_nt (show (3 : Nat) ≠ 0 by decide), gP_sJ, gI_sJ, List.set_cons_zero, List.set_cons_succ]
theorem cw_s9 {i : Nat} {v : Int64} : (cw cy ad σ).set 9 (ad 9 0, .inl (cy 1, 41, xl (vp_updL (gJ σ 2 0) i v))) = cw cy ad (sJ σ 2 0 i v) := by
  refine cw_setX (by decide) ?_ rfl rfl rfl rfl rfl (gJ_nt (by decide)) rfl
  rw [← gJ_at]
  simp only [cX, c0, c2, gJ_nt (show (0 : Nat) ≠ 2 by decide), gJ_nt (show (3 : Nat) ≠ 2 by decide), gP_sJ, gI_sJ, List.set_cons_zero, List.set_cons_succ]
theorem cw_s11 {i : Nat} {v : Int64} : (cw cy ad σ).set 11 (ad 11 0, .inl (cy 1, 8, xl (vp_updL (gJ σ 3 0) i v))) = cw cy ad (sJ σ 3 0 i v) := by
  refine cw_setX (by decide) ?_ rfl rfl rfl rfl rfl (gJ_nt (by decide)) rfl
  rw [← gJ_at]
  simp only [cX, c0, c2, gJ_nt (show (0 : Nat) ≠ 3 by decide), gJ_nt (show (2 : Nat) ≠ 3 by decide), gP_sJ, gI_sJ, List.set_cons_zero, List.set_cons_succ]
end CW

section CW2
variable {cy : Nat → ClassId} {ad : Nat → Nat → Nat} {σ : ST} {k : Nat}
theorem cw_s13 {j : Nat} {v : Int32} {fs : List Value} (hx : [Value.int (gI (sI σ 2 k j v) 2 k 0), .int (gI (sI σ 2 k j v) 2 k 1), .int (gI (sI σ 2 k j v) 2 k 2), .int (gI (sI σ 2 k j v) 2 k 3), .int (gI (sI σ 2 k j v) 2 k 4), .int (gI (sI σ 2 k j v) 2 k 5), .int (gI (sI σ 2 k j v) 2 k 6), .int (gI (sI σ 2 k j v) 2 k 7), .ref (ad 14 k), wv ad σ k] = fs) (h : k < 8) : (cw cy ad σ).set (13 + k) (ad 13 k, .inr (0, fs)) = cw cy ad (sI σ 2 k j v) := by
  have e0 : cX cy ad (sI σ 2 k j v) = cX cy ad σ := by simp only [cX, c0, c2, gJ_sI, gP_sI, gW_sI, gI_nt (show (0 : Nat) ≠ 2 by decide), gI_nt (show (1 : Nat) ≠ 2 by decide), gI_nt (show (3 : Nat) ≠ 2 by decide), gI_nt (show (4 : Nat) ≠ 2 by decide), gI_nt (show (5 : Nat) ≠ 2 by decide), gI_nt (show (6 : Nat) ≠ 2 by decide), gI_nt (show (7 : Nat) ≠ 2 by decide), gI_nt (show (8 : Nat) ≠ 2 by decide), gI_nt (show (9 : Nat) ≠ 2 by decide), gI_nt (show (10 : Nat) ≠ 2 by decide)]
  have eF : eF cy ad (sI σ 2 k j v) = eF cy ad σ := by funext q; simp only [eF, wv, gJ_sI, gP_sI, gW_sI, gI_nt (show (0 : Nat) ≠ 2 by decide), gI_nt (show (1 : Nat) ≠ 2 by decide), gI_nt (show (3 : Nat) ≠ 2 by decide), gI_nt (show (4 : Nat) ≠ 2 by decide), gI_nt (show (5 : Nat) ≠ 2 by decide), gI_nt (show (6 : Nat) ≠ 2 by decide), gI_nt (show (7 : Nat) ≠ 2 by decide), gI_nt (show (8 : Nat) ≠ 2 by decide), gI_nt (show (9 : Nat) ≠ 2 by decide), gI_nt (show (10 : Nat) ≠ 2 by decide)] <;> rfl
  have eV : eV cy ad (sI σ 2 k j v) = eV cy ad σ := by funext q; simp only [eV, wv, gJ_sI, gP_sI, gW_sI, gI_nt (show (0 : Nat) ≠ 2 by decide), gI_nt (show (1 : Nat) ≠ 2 by decide), gI_nt (show (3 : Nat) ≠ 2 by decide), gI_nt (show (4 : Nat) ≠ 2 by decide), gI_nt (show (5 : Nat) ≠ 2 by decide), gI_nt (show (6 : Nat) ≠ 2 by decide), gI_nt (show (7 : Nat) ≠ 2 by decide), gI_nt (show (8 : Nat) ≠ 2 by decide), gI_nt (show (9 : Nat) ≠ 2 by decide), gI_nt (show (10 : Nat) ≠ 2 by decide)] <;> rfl
  have eA : eA cy ad (sI σ 2 k j v) = eA cy ad σ := by funext q; simp only [eA, wv, gJ_sI, gP_sI, gW_sI, gI_nt (show (0 : Nat) ≠ 2 by decide), gI_nt (show (1 : Nat) ≠ 2 by decide), gI_nt (show (3 : Nat) ≠ 2 by decide), gI_nt (show (4 : Nat) ≠ 2 by decide), gI_nt (show (5 : Nat) ≠ 2 by decide), gI_nt (show (6 : Nat) ≠ 2 by decide), gI_nt (show (7 : Nat) ≠ 2 by decide), gI_nt (show (8 : Nat) ≠ 2 by decide), gI_nt (show (9 : Nat) ≠ 2 by decide), gI_nt (show (10 : Nat) ≠ 2 by decide)] <;> rfl
  have eL : eL cy ad (sI σ 2 k j v) = eL cy ad σ := by funext q; simp only [eL, wv, gJ_sI, gP_sI, gW_sI, gI_nt (show (0 : Nat) ≠ 2 by decide), gI_nt (show (1 : Nat) ≠ 2 by decide), gI_nt (show (3 : Nat) ≠ 2 by decide), gI_nt (show (4 : Nat) ≠ 2 by decide), gI_nt (show (5 : Nat) ≠ 2 by decide), gI_nt (show (6 : Nat) ≠ 2 by decide), gI_nt (show (7 : Nat) ≠ 2 by decide), gI_nt (show (8 : Nat) ≠ 2 by decide), gI_nt (show (9 : Nat) ≠ 2 by decide), gI_nt (show (10 : Nat) ≠ 2 by decide)] <;> rfl
  have eWW : eW cy ad (sI σ 2 k j v) = eW cy ad σ := by funext q; simp only [eW, gJ_sI, gP_sI, gW_sI, gI_nt (show (0 : Nat) ≠ 2 by decide), gI_nt (show (1 : Nat) ≠ 2 by decide), gI_nt (show (3 : Nat) ≠ 2 by decide), gI_nt (show (4 : Nat) ≠ 2 by decide), gI_nt (show (5 : Nat) ≠ 2 by decide), gI_nt (show (6 : Nat) ≠ 2 by decide), gI_nt (show (7 : Nat) ≠ 2 by decide), gI_nt (show (8 : Nat) ≠ 2 by decide), gI_nt (show (9 : Nat) ≠ 2 by decide), gI_nt (show (10 : Nat) ≠ 2 by decide)] <;> rfl
  unfold cw
  rw [zz_setA cX_len, zz_setM (g := eB ad (sI σ 2 k j v)) h (by subst hx; rfl) (fun q hq => by simp only [eB, wv, gI_ni hq, gW_sI] <;> rfl), e0, eF, eV, eA, eL, eWW]
theorem cw_s14 {i : Nat} {v : Int32} (h : k < 8) : (cw cy ad σ).set (13 + (8 + k)) (ad 14 k, .inl (cy 0, 41, .inl (upd (gI σ 3 k) i v))) = cw cy ad (sI σ 3 k i v) := by
  have e0 : cX cy ad (sI σ 3 k i v) = cX cy ad σ := by simp only [cX, c0, c2, gJ_sI, gP_sI, gW_sI, gI_nt (show (0 : Nat) ≠ 3 by decide), gI_nt (show (1 : Nat) ≠ 3 by decide), gI_nt (show (2 : Nat) ≠ 3 by decide), gI_nt (show (4 : Nat) ≠ 3 by decide), gI_nt (show (5 : Nat) ≠ 3 by decide), gI_nt (show (6 : Nat) ≠ 3 by decide), gI_nt (show (7 : Nat) ≠ 3 by decide), gI_nt (show (8 : Nat) ≠ 3 by decide), gI_nt (show (9 : Nat) ≠ 3 by decide), gI_nt (show (10 : Nat) ≠ 3 by decide)]
  have eB : eB ad (sI σ 3 k i v) = eB ad σ := by funext q; simp only [eB, wv, gJ_sI, gP_sI, gW_sI, gI_nt (show (0 : Nat) ≠ 3 by decide), gI_nt (show (1 : Nat) ≠ 3 by decide), gI_nt (show (2 : Nat) ≠ 3 by decide), gI_nt (show (4 : Nat) ≠ 3 by decide), gI_nt (show (5 : Nat) ≠ 3 by decide), gI_nt (show (6 : Nat) ≠ 3 by decide), gI_nt (show (7 : Nat) ≠ 3 by decide), gI_nt (show (8 : Nat) ≠ 3 by decide), gI_nt (show (9 : Nat) ≠ 3 by decide), gI_nt (show (10 : Nat) ≠ 3 by decide)] <;> rfl
  have eV : eV cy ad (sI σ 3 k i v) = eV cy ad σ := by funext q; simp only [eV, wv, gJ_sI, gP_sI, gW_sI, gI_nt (show (0 : Nat) ≠ 3 by decide), gI_nt (show (1 : Nat) ≠ 3 by decide), gI_nt (show (2 : Nat) ≠ 3 by decide), gI_nt (show (4 : Nat) ≠ 3 by decide), gI_nt (show (5 : Nat) ≠ 3 by decide), gI_nt (show (6 : Nat) ≠ 3 by decide), gI_nt (show (7 : Nat) ≠ 3 by decide), gI_nt (show (8 : Nat) ≠ 3 by decide), gI_nt (show (9 : Nat) ≠ 3 by decide), gI_nt (show (10 : Nat) ≠ 3 by decide)] <;> rfl
  have eA : eA cy ad (sI σ 3 k i v) = eA cy ad σ := by funext q; simp only [eA, wv, gJ_sI, gP_sI, gW_sI, gI_nt (show (0 : Nat) ≠ 3 by decide), gI_nt (show (1 : Nat) ≠ 3 by decide), gI_nt (show (2 : Nat) ≠ 3 by decide), gI_nt (show (4 : Nat) ≠ 3 by decide), gI_nt (show (5 : Nat) ≠ 3 by decide), gI_nt (show (6 : Nat) ≠ 3 by decide), gI_nt (show (7 : Nat) ≠ 3 by decide), gI_nt (show (8 : Nat) ≠ 3 by decide), gI_nt (show (9 : Nat) ≠ 3 by decide), gI_nt (show (10 : Nat) ≠ 3 by decide)] <;> rfl
  have eL : eL cy ad (sI σ 3 k i v) = eL cy ad σ := by funext q; simp only [eL, wv, gJ_sI, gP_sI, gW_sI, gI_nt (show (0 : Nat) ≠ 3 by decide), gI_nt (show (1 : Nat) ≠ 3 by decide), gI_nt (show (2 : Nat) ≠ 3 by decide), gI_nt (show (4 : Nat) ≠ 3 by decide), gI_nt (show (5 : Nat) ≠ 3 by decide), gI_nt (show (6 : Nat) ≠ 3 by decide), gI_nt (show (7 : Nat) ≠ 3 by decide), gI_nt (show (8 : Nat) ≠ 3 by decide), gI_nt (show (9 : Nat) ≠ 3 by decide), gI_nt (show (10 : Nat) ≠ 3 by decide)] <;> rfl
  have eWW : eW cy ad (sI σ 3 k i v) = eW cy ad σ := by funext q; simp only [eW, gJ_sI, gP_sI, gW_sI, gI_nt (show (0 : Nat) ≠ 3 by decide), gI_nt (show (1 : Nat) ≠ 3 by decide), gI_nt (show (2 : Nat) ≠ 3 by decide), gI_nt (show (4 : Nat) ≠ 3 by decide), gI_nt (show (5 : Nat) ≠ 3 by decide), gI_nt (show (6 : Nat) ≠ 3 by decide), gI_nt (show (7 : Nat) ≠ 3 by decide), gI_nt (show (8 : Nat) ≠ 3 by decide), gI_nt (show (9 : Nat) ≠ 3 by decide), gI_nt (show (10 : Nat) ≠ 3 by decide)] <;> rfl
  unfold cw
  rw [zz_setA cX_len, zz_setS, zz_setM (g := eF cy ad (sI σ 3 k i v)) h (by simp only [eF, gI_at]) (fun q hq => by simp only [eF, gI_ni hq]), e0, eB, eV, eA, eL, eWW]
theorem cw_s15 {i : Nat} {v : Int64} (h : k < 21) : (cw cy ad σ).set (13 + (8 + (8 + k))) (ad 15 k, .inl (cy 1, 21, xl (vp_updL (gJ σ 1 k) i v))) = cw cy ad (sJ σ 1 k i v) := by
  have e0 : cX cy ad (sJ σ 1 k i v) = cX cy ad σ := by simp only [cX, c0, c2, gI_sJ, gP_sJ, gW_sJ, gJ_nt (show (0 : Nat) ≠ 1 by decide), gJ_nt (show (2 : Nat) ≠ 1 by decide), gJ_nt (show (3 : Nat) ≠ 1 by decide)]
  have eB : eB ad (sJ σ 1 k i v) = eB ad σ := by funext q; simp only [eB, wv, gI_sJ, gP_sJ, gW_sJ, gJ_nt (show (0 : Nat) ≠ 1 by decide), gJ_nt (show (2 : Nat) ≠ 1 by decide), gJ_nt (show (3 : Nat) ≠ 1 by decide)] <;> rfl
  have eF : eF cy ad (sJ σ 1 k i v) = eF cy ad σ := by funext q; simp only [eF, wv, gI_sJ, gP_sJ, gW_sJ, gJ_nt (show (0 : Nat) ≠ 1 by decide), gJ_nt (show (2 : Nat) ≠ 1 by decide), gJ_nt (show (3 : Nat) ≠ 1 by decide)] <;> rfl
  have eA : eA cy ad (sJ σ 1 k i v) = eA cy ad σ := by funext q; simp only [eA, wv, gI_sJ, gP_sJ, gW_sJ, gJ_nt (show (0 : Nat) ≠ 1 by decide), gJ_nt (show (2 : Nat) ≠ 1 by decide), gJ_nt (show (3 : Nat) ≠ 1 by decide)] <;> rfl
  have eL : eL cy ad (sJ σ 1 k i v) = eL cy ad σ := by funext q; simp only [eL, wv, gI_sJ, gP_sJ, gW_sJ, gJ_nt (show (0 : Nat) ≠ 1 by decide), gJ_nt (show (2 : Nat) ≠ 1 by decide), gJ_nt (show (3 : Nat) ≠ 1 by decide)] <;> rfl
  have eWW : eW cy ad (sJ σ 1 k i v) = eW cy ad σ := by funext q; simp only [eW, gI_sJ, gP_sJ, gW_sJ, gJ_nt (show (0 : Nat) ≠ 1 by decide), gJ_nt (show (2 : Nat) ≠ 1 by decide), gJ_nt (show (3 : Nat) ≠ 1 by decide)] <;> rfl
  unfold cw
  rw [zz_setA cX_len, zz_setS, zz_setS, zz_setM (g := eV cy ad (sJ σ 1 k i v)) h (by simp only [eV, gJ_at]) (fun q hq => by simp only [eV, gJ_ni hq]), e0, eB, eF, eA, eL, eWW]
theorem cw_s16 {i : Nat} {v : Int32} (h : k < 21) : (cw cy ad σ).set (13 + (8 + (8 + (21 + k)))) (ad 16 k, .inl (cy 0, 21, .inl (upd (gI σ 6 k) i v))) = cw cy ad (sI σ 6 k i v) := by
  have e0 : cX cy ad (sI σ 6 k i v) = cX cy ad σ := by simp only [cX, c0, c2, gJ_sI, gP_sI, gW_sI, gI_nt (show (0 : Nat) ≠ 6 by decide), gI_nt (show (1 : Nat) ≠ 6 by decide), gI_nt (show (2 : Nat) ≠ 6 by decide), gI_nt (show (3 : Nat) ≠ 6 by decide), gI_nt (show (4 : Nat) ≠ 6 by decide), gI_nt (show (5 : Nat) ≠ 6 by decide), gI_nt (show (7 : Nat) ≠ 6 by decide), gI_nt (show (8 : Nat) ≠ 6 by decide), gI_nt (show (9 : Nat) ≠ 6 by decide), gI_nt (show (10 : Nat) ≠ 6 by decide)]
  have eB : eB ad (sI σ 6 k i v) = eB ad σ := by funext q; simp only [eB, wv, gJ_sI, gP_sI, gW_sI, gI_nt (show (0 : Nat) ≠ 6 by decide), gI_nt (show (1 : Nat) ≠ 6 by decide), gI_nt (show (2 : Nat) ≠ 6 by decide), gI_nt (show (3 : Nat) ≠ 6 by decide), gI_nt (show (4 : Nat) ≠ 6 by decide), gI_nt (show (5 : Nat) ≠ 6 by decide), gI_nt (show (7 : Nat) ≠ 6 by decide), gI_nt (show (8 : Nat) ≠ 6 by decide), gI_nt (show (9 : Nat) ≠ 6 by decide), gI_nt (show (10 : Nat) ≠ 6 by decide)] <;> rfl
  have eF : eF cy ad (sI σ 6 k i v) = eF cy ad σ := by funext q; simp only [eF, wv, gJ_sI, gP_sI, gW_sI, gI_nt (show (0 : Nat) ≠ 6 by decide), gI_nt (show (1 : Nat) ≠ 6 by decide), gI_nt (show (2 : Nat) ≠ 6 by decide), gI_nt (show (3 : Nat) ≠ 6 by decide), gI_nt (show (4 : Nat) ≠ 6 by decide), gI_nt (show (5 : Nat) ≠ 6 by decide), gI_nt (show (7 : Nat) ≠ 6 by decide), gI_nt (show (8 : Nat) ≠ 6 by decide), gI_nt (show (9 : Nat) ≠ 6 by decide), gI_nt (show (10 : Nat) ≠ 6 by decide)] <;> rfl
  have eV : eV cy ad (sI σ 6 k i v) = eV cy ad σ := by funext q; simp only [eV, wv, gJ_sI, gP_sI, gW_sI, gI_nt (show (0 : Nat) ≠ 6 by decide), gI_nt (show (1 : Nat) ≠ 6 by decide), gI_nt (show (2 : Nat) ≠ 6 by decide), gI_nt (show (3 : Nat) ≠ 6 by decide), gI_nt (show (4 : Nat) ≠ 6 by decide), gI_nt (show (5 : Nat) ≠ 6 by decide), gI_nt (show (7 : Nat) ≠ 6 by decide), gI_nt (show (8 : Nat) ≠ 6 by decide), gI_nt (show (9 : Nat) ≠ 6 by decide), gI_nt (show (10 : Nat) ≠ 6 by decide)] <;> rfl
  have eL : eL cy ad (sI σ 6 k i v) = eL cy ad σ := by funext q; simp only [eL, wv, gJ_sI, gP_sI, gW_sI, gI_nt (show (0 : Nat) ≠ 6 by decide), gI_nt (show (1 : Nat) ≠ 6 by decide), gI_nt (show (2 : Nat) ≠ 6 by decide), gI_nt (show (3 : Nat) ≠ 6 by decide), gI_nt (show (4 : Nat) ≠ 6 by decide), gI_nt (show (5 : Nat) ≠ 6 by decide), gI_nt (show (7 : Nat) ≠ 6 by decide), gI_nt (show (8 : Nat) ≠ 6 by decide), gI_nt (show (9 : Nat) ≠ 6 by decide), gI_nt (show (10 : Nat) ≠ 6 by decide)] <;> rfl
  have eWW : eW cy ad (sI σ 6 k i v) = eW cy ad σ := by funext q; simp only [eW, gJ_sI, gP_sI, gW_sI, gI_nt (show (0 : Nat) ≠ 6 by decide), gI_nt (show (1 : Nat) ≠ 6 by decide), gI_nt (show (2 : Nat) ≠ 6 by decide), gI_nt (show (3 : Nat) ≠ 6 by decide), gI_nt (show (4 : Nat) ≠ 6 by decide), gI_nt (show (5 : Nat) ≠ 6 by decide), gI_nt (show (7 : Nat) ≠ 6 by decide), gI_nt (show (8 : Nat) ≠ 6 by decide), gI_nt (show (9 : Nat) ≠ 6 by decide), gI_nt (show (10 : Nat) ≠ 6 by decide)] <;> rfl
  unfold cw
  rw [zz_setA cX_len, zz_setS, zz_setS, zz_setS, zz_setM (g := eA cy ad (sI σ 6 k i v)) h (by simp only [eA, gI_at]) (fun q hq => by simp only [eA, gI_ni hq]), e0, eB, eF, eV, eL, eWW]
theorem cw_s17 {i : Nat} {v : Int32} (h : k < 41) : (cw cy ad σ).set (13 + (8 + (8 + (21 + (21 + k))))) (ad 17 k, .inl (cy 0, 8, .inl (upd (gI σ 7 k) i v))) = cw cy ad (sI σ 7 k i v) := by
  have e0 : cX cy ad (sI σ 7 k i v) = cX cy ad σ := by simp only [cX, c0, c2, gJ_sI, gP_sI, gW_sI, gI_nt (show (0 : Nat) ≠ 7 by decide), gI_nt (show (1 : Nat) ≠ 7 by decide), gI_nt (show (2 : Nat) ≠ 7 by decide), gI_nt (show (3 : Nat) ≠ 7 by decide), gI_nt (show (4 : Nat) ≠ 7 by decide), gI_nt (show (5 : Nat) ≠ 7 by decide), gI_nt (show (6 : Nat) ≠ 7 by decide), gI_nt (show (8 : Nat) ≠ 7 by decide), gI_nt (show (9 : Nat) ≠ 7 by decide), gI_nt (show (10 : Nat) ≠ 7 by decide)]
  have eB : eB ad (sI σ 7 k i v) = eB ad σ := by funext q; simp only [eB, wv, gJ_sI, gP_sI, gW_sI, gI_nt (show (0 : Nat) ≠ 7 by decide), gI_nt (show (1 : Nat) ≠ 7 by decide), gI_nt (show (2 : Nat) ≠ 7 by decide), gI_nt (show (3 : Nat) ≠ 7 by decide), gI_nt (show (4 : Nat) ≠ 7 by decide), gI_nt (show (5 : Nat) ≠ 7 by decide), gI_nt (show (6 : Nat) ≠ 7 by decide), gI_nt (show (8 : Nat) ≠ 7 by decide), gI_nt (show (9 : Nat) ≠ 7 by decide), gI_nt (show (10 : Nat) ≠ 7 by decide)] <;> rfl
  have eF : eF cy ad (sI σ 7 k i v) = eF cy ad σ := by funext q; simp only [eF, wv, gJ_sI, gP_sI, gW_sI, gI_nt (show (0 : Nat) ≠ 7 by decide), gI_nt (show (1 : Nat) ≠ 7 by decide), gI_nt (show (2 : Nat) ≠ 7 by decide), gI_nt (show (3 : Nat) ≠ 7 by decide), gI_nt (show (4 : Nat) ≠ 7 by decide), gI_nt (show (5 : Nat) ≠ 7 by decide), gI_nt (show (6 : Nat) ≠ 7 by decide), gI_nt (show (8 : Nat) ≠ 7 by decide), gI_nt (show (9 : Nat) ≠ 7 by decide), gI_nt (show (10 : Nat) ≠ 7 by decide)] <;> rfl
  have eV : eV cy ad (sI σ 7 k i v) = eV cy ad σ := by funext q; simp only [eV, wv, gJ_sI, gP_sI, gW_sI, gI_nt (show (0 : Nat) ≠ 7 by decide), gI_nt (show (1 : Nat) ≠ 7 by decide), gI_nt (show (2 : Nat) ≠ 7 by decide), gI_nt (show (3 : Nat) ≠ 7 by decide), gI_nt (show (4 : Nat) ≠ 7 by decide), gI_nt (show (5 : Nat) ≠ 7 by decide), gI_nt (show (6 : Nat) ≠ 7 by decide), gI_nt (show (8 : Nat) ≠ 7 by decide), gI_nt (show (9 : Nat) ≠ 7 by decide), gI_nt (show (10 : Nat) ≠ 7 by decide)] <;> rfl
  have eA : eA cy ad (sI σ 7 k i v) = eA cy ad σ := by funext q; simp only [eA, wv, gJ_sI, gP_sI, gW_sI, gI_nt (show (0 : Nat) ≠ 7 by decide), gI_nt (show (1 : Nat) ≠ 7 by decide), gI_nt (show (2 : Nat) ≠ 7 by decide), gI_nt (show (3 : Nat) ≠ 7 by decide), gI_nt (show (4 : Nat) ≠ 7 by decide), gI_nt (show (5 : Nat) ≠ 7 by decide), gI_nt (show (6 : Nat) ≠ 7 by decide), gI_nt (show (8 : Nat) ≠ 7 by decide), gI_nt (show (9 : Nat) ≠ 7 by decide), gI_nt (show (10 : Nat) ≠ 7 by decide)] <;> rfl
  have eWW : eW cy ad (sI σ 7 k i v) = eW cy ad σ := by funext q; simp only [eW, gJ_sI, gP_sI, gW_sI, gI_nt (show (0 : Nat) ≠ 7 by decide), gI_nt (show (1 : Nat) ≠ 7 by decide), gI_nt (show (2 : Nat) ≠ 7 by decide), gI_nt (show (3 : Nat) ≠ 7 by decide), gI_nt (show (4 : Nat) ≠ 7 by decide), gI_nt (show (5 : Nat) ≠ 7 by decide), gI_nt (show (6 : Nat) ≠ 7 by decide), gI_nt (show (8 : Nat) ≠ 7 by decide), gI_nt (show (9 : Nat) ≠ 7 by decide), gI_nt (show (10 : Nat) ≠ 7 by decide)] <;> rfl
  unfold cw
  rw [zz_setA cX_len, zz_setS, zz_setS, zz_setS, zz_setS, zz_setM (g := eL cy ad (sI σ 7 k i v)) h (by simp only [eL, gI_at]) (fun q hq => by simp only [eL, gI_ni hq]), e0, eB, eF, eV, eA, eWW]
theorem zz_fm {α : Type} {f g : Nat → List α} {x y : α} {n k : Nat} (hk : k < n) (hf : f k = [x]) (hg : g k = [y]) (ho : ∀ j, j ≠ k → g j = f j) : ∃ q, ((List.range n).flatMap f)[q]? = some x ∧ ((List.range n).flatMap f).set q y = (List.range n).flatMap g := by
  obtain ⟨a, b, hl⟩ := List.append_of_mem (List.mem_range.mpr hk)
  have hnd : (a ++ k :: b).Nodup := by rw [← hl]; exact List.nodup_range
  have ha : ∀ j ∈ a, j ≠ k := fun j hj e => by
    subst e
    exact (List.nodup_append.mp hnd).2.2 j hj j List.mem_cons_self rfl
  have hb : ∀ j ∈ b, j ≠ k := fun j hj e => by
    subst e
    exact (List.nodup_cons.mp (List.nodup_append.mp hnd).2.1).1 hj
  have ea : a.flatMap g = a.flatMap f := by
    have : ∀ l : List Nat, (∀ j ∈ l, j ≠ k) → l.flatMap g = l.flatMap f := by
      intro l
      induction l with
      | nil => intro _; rfl
      | cons z l ih => intro h; rw [List.flatMap_cons, List.flatMap_cons, ih (fun j hj => h j (List.mem_cons_of_mem _ hj)), ho z (h z List.mem_cons_self)]
    exact this a ha
  have eb : b.flatMap g = b.flatMap f := by
    have : ∀ l : List Nat, (∀ j ∈ l, j ≠ k) → l.flatMap g = l.flatMap f := by
      intro l
      induction l with
      | nil => intro _; rfl
      | cons z l ih => intro h; rw [List.flatMap_cons, List.flatMap_cons, ih (fun j hj => h j (List.mem_cons_of_mem _ hj)), ho z (h z List.mem_cons_self)]
    exact this b hb
  have hF : (List.range n).flatMap f = a.flatMap f ++ ([x] ++ b.flatMap f) := by rw [hl, List.flatMap_append, List.flatMap_cons, hf]
  have hG : (List.range n).flatMap g = a.flatMap f ++ ([y] ++ b.flatMap f) := by rw [hl, List.flatMap_append, List.flatMap_cons, hg, ea, eb]
  refine ⟨(a.flatMap f).length + 0, ?_, ?_⟩
  · rw [hF, zz_app rfl]; rfl
  · rw [hF, hG, zz_setA rfl]; rfl
/-- the row of worths of a bond that has one -/
theorem cw_18 {τ : ST} (h : k < 8) (hw : gW σ k = true) (n2 : ∀ a, a ≠ 10 → gI τ a = gI σ a) (n3 : ∀ b, b ≠ k → gI τ 10 b = gI σ 10 b) (nJ : gJ τ = gJ σ) (nP : gP τ = gP σ) (nW : gW τ = gW σ) : ∃ q, (cw cy ad σ)[q]? = some (ad 18 k, .inl (cy 0, 3201, .inl (gI σ 10 k))) ∧ (cw cy ad σ).set q (ad 18 k, .inl (cy 0, 3201, .inl (gI τ 10 k))) = cw cy ad τ := by
  obtain ⟨q, h1, h2⟩ := zz_fm (f := eW cy ad σ) (g := eW cy ad τ) (x := (ad 18 k, .inl (cy 0, 3201, .inl (gI σ 10 k)))) (y := (ad 18 k, .inl (cy 0, 3201, .inl (gI τ 10 k)))) h (by simp [eW, hw]) (by simp [eW, nW, hw]) (fun j hj => by simp only [eW, nW, n3 j hj])
  have e0 : cX cy ad τ = cX cy ad σ := by simp only [cX, c0, c2, n2 0 (by decide), n2 1 (by decide), n2 4 (by decide), n2 5 (by decide), n2 8 (by decide), n2 9 (by decide), nJ, nP]
  have e1 : eB ad τ = eB ad σ := by funext k; simp only [eB, wv, n2 2 (by decide), nW]
  have e2 : eF cy ad τ = eF cy ad σ := by funext k; simp only [eF, n2 3 (by decide)]
  have e3 : eV cy ad τ = eV cy ad σ := by funext k; simp only [eV, nJ]
  have e4 : eA cy ad τ = eA cy ad σ := by funext k; simp only [eA, n2 6 (by decide)]
  have e5 : eL cy ad τ = eL cy ad σ := by funext k; simp only [eL, n2 7 (by decide)]
  refine ⟨13 + (8 + (8 + (21 + (21 + (41 + q))))), ?_, ?_⟩
  · unfold cw
    rw [zz_app cX_len, zz_mapS, zz_mapS, zz_mapS, zz_mapS, zz_mapS, h1]
  · unfold cw
    rw [zz_setA cX_len, zz_setS, zz_setS, zz_setS, zz_setS, zz_setS, h2, e0, e1, e2, e3, e4, e5]
end CW2
/-- the world of the reference -/
abbrev m0 (am : Nat → Nat → Nat) (σ : ST) : Nat × va_E := (am 0 0, .inr (3, [.ref (am 1 0), .int (gI σ 0 0 1), .int (gI σ 0 0 2), .int (gI σ 0 0 3), .int (gI σ 0 0 4), .int (gI σ 0 0 5), .int (gI σ 0 0 6), .int (gI σ 0 0 7), .int (gI σ 0 0 8), .int (gI σ 0 0 9), .int (gI σ 0 0 10), .int (gI σ 0 0 11), .int (gI σ 0 0 12), .ref (am 2 0), .ref (am 3 0), .ref (am 4 0), .ref (am 5 0), .ref (am 6 0), .ref (am 7 0), .ref (am 8 0)]))
def mw (cy : Nat → ClassId) (am : Nat → Nat → Nat) (σ : ST) : va_W := [m0 am σ, (am 1 0, .inl (cy 0, 56, .inl (gI σ 1 0))), (am 2 0, .inl (cy 0, 8, .inl (gI σ 2 0))), (am 3 0, .inl (cy 1, 8, xl (gJ σ 0 0))), (am 4 0, .inl (cy 1, 441, xl (gJ σ 1 0))), (am 5 0, .inl (cy 1, 441, xl (gJ σ 2 0))), (am 6 0, .inl (cy 1, 441, xl (gJ σ 3 0))), (am 7 0, .inl (cy 0, 441, .inl (gI σ 3 0))), (am 8 0, .inl (cy 0, 441, .inl (gI σ 4 0)))]
section MW
variable {cy : Nat → ClassId} {am : Nat → Nat → Nat} {σ : ST}
theorem mw_0 : (mw cy am σ)[0]? = some (m0 am σ) := rfl
theorem mw_1 : (mw cy am σ)[1]? = some (am 1 0, .inl (cy 0, 56, .inl (gI σ 1 0))) := rfl
theorem mw_2 : (mw cy am σ)[2]? = some (am 2 0, .inl (cy 0, 8, .inl (gI σ 2 0))) := rfl
theorem mw_3 : (mw cy am σ)[3]? = some (am 3 0, .inl (cy 1, 8, xl (gJ σ 0 0))) := rfl
theorem mw_4 : (mw cy am σ)[4]? = some (am 4 0, .inl (cy 1, 441, xl (gJ σ 1 0))) := rfl
theorem mw_5 : (mw cy am σ)[5]? = some (am 5 0, .inl (cy 1, 441, xl (gJ σ 2 0))) := rfl
theorem mw_6 : (mw cy am σ)[6]? = some (am 6 0, .inl (cy 1, 441, xl (gJ σ 3 0))) := rfl
theorem mw_7 : (mw cy am σ)[7]? = some (am 7 0, .inl (cy 0, 441, .inl (gI σ 3 0))) := rfl
theorem mw_8 : (mw cy am σ)[8]? = some (am 8 0, .inl (cy 0, 441, .inl (gI σ 4 0))) := rfl
theorem mw_s0 {j : Nat} {v : Int32} {fs : List Value} (hx : [Value.ref (am 1 0), .int (gI (sI σ 0 0 j v) 0 0 1), .int (gI (sI σ 0 0 j v) 0 0 2), .int (gI (sI σ 0 0 j v) 0 0 3), .int (gI (sI σ 0 0 j v) 0 0 4), .int (gI (sI σ 0 0 j v) 0 0 5), .int (gI (sI σ 0 0 j v) 0 0 6), .int (gI (sI σ 0 0 j v) 0 0 7), .int (gI (sI σ 0 0 j v) 0 0 8), .int (gI (sI σ 0 0 j v) 0 0 9), .int (gI (sI σ 0 0 j v) 0 0 10), .int (gI (sI σ 0 0 j v) 0 0 11), .int (gI (sI σ 0 0 j v) 0 0 12), .ref (am 2 0), .ref (am 3 0), .ref (am 4 0), .ref (am 5 0), .ref (am 6 0), .ref (am 7 0), .ref (am 8 0)] = fs) : (mw cy am σ).set 0 (am 0 0, .inr (3, fs)) = mw cy am (sI σ 0 0 j v) := by
  subst hx
  simp only [mw, m0, gI_nt (show (1 : Nat) ≠ 0 by decide), gI_nt (show (2 : Nat) ≠ 0 by decide), gI_nt (show (3 : Nat) ≠ 0 by decide), gI_nt (show (4 : Nat) ≠ 0 by decide), gJ_sI, List.set_cons_zero]
theorem mw_s1 {i : Nat} {v : Int32} : (mw cy am σ).set 1 (am 1 0, .inl (cy 0, 56, .inl (upd (gI σ 1 0) i v))) = mw cy am (sI σ 1 0 i v) := by
  rw [← gI_at]
  simp only [mw, m0, gI_nt (show (0 : Nat) ≠ 1 by decide), gI_nt (show (2 : Nat) ≠ 1 by decide), gI_nt (show (3 : Nat) ≠ 1 by decide), gI_nt (show (4 : Nat) ≠ 1 by decide), gJ_sI, List.set_cons_zero, List.set_cons_succ]
theorem mw_s2 {i : Nat} {v : Int32} : (mw cy am σ).set 2 (am 2 0, .inl (cy 0, 8, .inl (upd (gI σ 2 0) i v))) = mw cy am (sI σ 2 0 i v) := by
  rw [← gI_at]
  simp only [mw, m0, gI_nt (show (0 : Nat) ≠ 2 by decide), gI_nt (show (1 : Nat) ≠ 2 by decide), gI_nt (show (3 : Nat) ≠ 2 by decide), gI_nt (show (4 : Nat) ≠ 2 by decide), gJ_sI, List.set_cons_zero, List.set_cons_succ]
theorem mw_s3 {i : Nat} {v : Int64} : (mw cy am σ).set 3 (am 3 0, .inl (cy 1, 8, xl (vp_updL (gJ σ 0 0) i v))) = mw cy am (sJ σ 0 0 i v) := by
  rw [← gJ_at]
  simp only [mw, m0, gJ_nt (show (1 : Nat) ≠ 0 by decide), gJ_nt (show (2 : Nat) ≠ 0 by decide), gJ_nt (show (3 : Nat) ≠ 0 by decide), gI_sJ, List.set_cons_zero, List.set_cons_succ]
theorem mw_s4 {i : Nat} {v : Int64} : (mw cy am σ).set 4 (am 4 0, .inl (cy 1, 441, xl (vp_updL (gJ σ 1 0) i v))) = mw cy am (sJ σ 1 0 i v) := by
  rw [← gJ_at]
  simp only [mw, m0, gJ_nt (show (0 : Nat) ≠ 1 by decide), gJ_nt (show (2 : Nat) ≠ 1 by decide), gJ_nt (show (3 : Nat) ≠ 1 by decide), gI_sJ, List.set_cons_zero, List.set_cons_succ]
theorem mw_s5 {i : Nat} {v : Int64} : (mw cy am σ).set 5 (am 5 0, .inl (cy 1, 441, xl (vp_updL (gJ σ 2 0) i v))) = mw cy am (sJ σ 2 0 i v) := by
  rw [← gJ_at]
  simp only [mw, m0, gJ_nt (show (0 : Nat) ≠ 2 by decide), gJ_nt (show (1 : Nat) ≠ 2 by decide), gJ_nt (show (3 : Nat) ≠ 2 by decide), gI_sJ, List.set_cons_zero, List.set_cons_succ]
theorem mw_s6 {i : Nat} {v : Int64} : (mw cy am σ).set 6 (am 6 0, .inl (cy 1, 441, xl (vp_updL (gJ σ 3 0) i v))) = mw cy am (sJ σ 3 0 i v) := by
  rw [← gJ_at]
  simp only [mw, m0, gJ_nt (show (0 : Nat) ≠ 3 by decide), gJ_nt (show (1 : Nat) ≠ 3 by decide), gJ_nt (show (2 : Nat) ≠ 3 by decide), gI_sJ, List.set_cons_zero, List.set_cons_succ]
theorem mw_s7 {i : Nat} {v : Int32} : (mw cy am σ).set 7 (am 7 0, .inl (cy 0, 441, .inl (upd (gI σ 3 0) i v))) = mw cy am (sI σ 3 0 i v) := by
  rw [← gI_at]
  simp only [mw, m0, gI_nt (show (0 : Nat) ≠ 3 by decide), gI_nt (show (1 : Nat) ≠ 3 by decide), gI_nt (show (2 : Nat) ≠ 3 by decide), gI_nt (show (4 : Nat) ≠ 3 by decide), gJ_sI, List.set_cons_zero, List.set_cons_succ]
theorem mw_s8 {i : Nat} {v : Int32} : (mw cy am σ).set 8 (am 8 0, .inl (cy 0, 441, .inl (upd (gI σ 4 0) i v))) = mw cy am (sI σ 4 0 i v) := by
  rw [← gI_at]
  simp only [mw, m0, gI_nt (show (0 : Nat) ≠ 4 by decide), gI_nt (show (1 : Nat) ≠ 4 by decide), gI_nt (show (2 : Nat) ≠ 4 by decide), gI_nt (show (3 : Nat) ≠ 4 by decide), gJ_sI, List.set_cons_zero, List.set_cons_succ]
end MW

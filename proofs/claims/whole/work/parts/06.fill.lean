/-! Arrays.fill(int[], int), over any world that holds the row -/
theorem arrV_ext {cA : ClassId} {n : Nat} {f g : Nat → Value} (h : ∀ j, j < n → f j = g j) : arrV cA n f = arrV cA n g := by
  unfold arrV
  have e : (fun j : Fin n => f j.val) = (fun j : Fin n => g j.val) := funext fun j => h j.val j.isLt
  rw [e]
theorem vaP_ext {D : va_G} {cl : List vw_C} {w : va_W} {q0 a n : Nat} {cA : ClassId} {g g' : Nat → Int32} {H : Heap} (hP : va_P D cl (w.set q0 (a, .inl (cA, n, .inl g))) H) (hl : q0 < w.length) (hg : ∀ j, j < n → g j = g' j) : va_P D cl (w.set q0 (a, .inl (cA, n, .inl g'))) H := by
  intro k q hk
  by_cases h : k = q0
  · subst h
    have h1 := hP k (a, .inl (cA, n, .inl g)) (List.getElem?_set_self hl)
    rw [List.getElem?_set_self hl] at hk
    cases hk
    show H[a]? = some (vp_cell cA (n, .inl g'))
    have h2 : H[a]? = some (vp_cell cA (n, .inl g)) := h1
    rw [h2, vp_cell_i, vp_cell_i, arrV_ext (fun j hj => by rw [hg j hj])]
  · rw [List.getElem?_set_ne (Ne.symm h)] at hk
    exact hP k q (by rw [List.getElem?_set_ne (Ne.symm h)]; exact hk)
theorem vaD_ext {A : Nat → Prop} {w : va_W} {q0 a : Nat} {e e' : va_E} (hl : q0 < w.length) (hD : va_D A (w.set q0 (a, e))) : va_D A (w.set q0 (a, e')) := by
  have h := hD.set (p := q0) (a := a) (e0 := e) (e := e') (List.getElem?_set_self hl)
  rw [List.set_set] at h
  exact h
abbrev rmJ7_fill_53178 : Room := { frames := 0, cells := 0, slots := 0, locals := 0 }
def fl_g (f : Nat → Int32) (v : Int32) (i : Nat) : Nat → Int32 := fun j => if j < i then v else f j
set_option maxHeartbeats 4000000 in
set_option maxRecDepth 100000 in
theorem kJ7_fill_5 {p : Program} {l : Launch} {e : Env} {s : State} {m : MethodId} {args : Array Value} {below : List Frame} {meth : Method} {c : Code} {D : va_G} {cy : Nat → ClassId} {A : Nat → Prop} (C : Cx p s m args meth c cJ7_fill_53178 4 none RJ7 wsJ7_fill_53178 D cy A) {w : va_W} {q0 a n : Nat} {v : Int32} {f : Nat → Int32} (hn : n < 2 ^ 31) (hq : q0 < w.length) :
    ∀ (k i : Nat), i + k = n → ∀ (H : Heap) (locs : List Loc), va_P D vwCl (w.set q0 (a, .inl (cy 0, n, .inl (fl_g f v i)))) H → va_D A (w.set q0 (a, .inl (cy 0, n, .inl (fl_g f v i)))) → va_S A s.heap H locs → ∀ ls : Array Slot, lv_has ls 4 [(0, .ref a), (1, .int v), (2, .int (nI i)), (3, .int (nI n))] → W p l e rmJ7_fill_53178 s m args below meth c H locs 0 0 (MQ below (zQv D (w.set q0 (a, .inl (cy 0, n, .inl (fun _ => v)))) A) args s 0 0 A) (F0 m 5 ls []) := by
  obtain ⟨hx, hb, hml, hown, hts, hr, hlocks, hK, hA⟩ := id C
  intro k
  induction k with
  | zero =>
    intro i hi H locs hP hD hS ls hl
    have e : i = n := by omega
    subst e
    refine lv_iload_n hx hb dJ7_fill_53178_5 rfl (lv_at hl 2 rfl) ?_
    refine lv_iload_n hx hb dJ7_fill_53178_6 rfl (lv_at hl 3 rfl) ?_
    refine lv_icmp_ge (tgt := 20) hx hb dJ7_fill_53178_7 (by decide) (fun _ => ?_) (fun c_1 => absurd (nI_le (Nat.le_refl i) hn) c_1)
    exact W.vret hx hb hr (fun t ht hW => ⟨⟨(), rfl, trivial, by rw [ht]; exact vaP_ext hP hq (fun j hj => by simp [fl_g, hj]), vaD_ext hq hD⟩, hS.F ht⟩) hS.2.2 dJ7_fill_53178_20
  | succ k ih =>
    intro i hi H locs hP hD hS ls hl
    have hlt : i < n := by omega
    have h1 : vp_in (nI i) n := vp_in_nI hlt hn
    refine lv_iload_n hx hb dJ7_fill_53178_5 rfl (lv_at hl 2 rfl) ?_
    refine lv_iload_n hx hb dJ7_fill_53178_6 rfl (lv_at hl 3 rfl) ?_
    refine lv_icmp_ge (tgt := 20) hx hb dJ7_fill_53178_7 (by decide) (fun c_1 => absurd c_1 (nI_ge hlt hn)) (fun _ => ?_)
    refine lv_aload_n hx hb dJ7_fill_53178_10 rfl (lv_at hl 0 rfl) ?_
    refine lv_iload_n hx hb dJ7_fill_53178_11 rfl (lv_at hl 2 rfl) ?_
    refine lv_iload_n hx hb dJ7_fill_53178_12 rfl (lv_at hl 1 rfl) ?_
    refine va_iast hx hb hK.1 hP hD hS q0 0 (List.getElem?_set_self hq) rfl h1 dJ7_fill_53178_13 (fun H locs hP hD hS => ?_)
    rw [List.set_set, nI_clamp (by omega)] at hP hD
    have hP := vaP_ext (g' := fl_g f v (i + 1)) hP hq (fun j hj => by
      by_cases h : j = i
      · subst h; simp [upd, fl_g]
      · have e : (j < i + 1) = (j < i) := by apply propext; omega
        simp [upd, fl_g, h, e])
    have hD := vaD_ext (e' := .inl (cy 0, n, .inl (fl_g f v (i + 1)))) hq hD
    refine lv_iinc (v := nI (i + 1)) (lv' := [(2, .int (nI (i + 1))), (0, .ref a), (1, .int v), (3, .int (nI n))]) hx hb dJ7_fill_53178_14 hl (k := 2) rfl (nI_1 i) (by decide) rfl (fun ls hl => ?_)
    refine lv_goto (tgt := 5) hx hb dJ7_fill_53178_17 (by decide) ?_
    exact ih (i + 1) (by omega) _ _ hP hD hS _ (lv_sub hl [1, 2, 0, 3] rfl)
set_option maxHeartbeats 4000000 in
set_option maxRecDepth 100000 in
theorem ctJ7_fill (l : Launch) (D : va_G) (cy : Nat → ClassId) (w : va_W) (q0 a : Nat) (v : Int32) {n : Nat} {f : Nat → Int32} (hn : n < 2 ^ 31) (he : w[q0]? = some (a, .inl (cy 0, n, .inl f))) : zMv l yJ7_fill_53178 wsJ7_fill_53178 rmJ7_fill_53178 D cy [.ref a, .int v] w (w.set q0 (a, .inl (cy 0, n, .inl (fun _ => v)))) := by
  intro sz
  refine Met.ofW (cc := cJ7_fill_53178) (maxL := 4) (ret := none) (by decide) rfl ?_
  intro p e s m args below meth c s₁ B hml hv
  obtain ⟨rfl, hsz, hP, hK, hD0⟩ := hv
  have hx := B.exec
  have hb := B.bytes
  have hr := B.returns
  have hts := atoms_spec (ws := wsJ7_fill_53178) B.pre
  have hown : s.vm.findClass RJ7 = some m.cls := findClass_of_methodNamed B.named
  have hlocks := B.notSynchronized
  subst hsz
  have hD := hD0.self (sz := s.heap.size)
  generalize hAe : va_A w s.heap.size = A at hD ⊢
  have hA : ∀ q : Nat, s.heap.size ≤ q → A q := fun q h => by rw [← hAe]; exact Or.inr h
  have hS : va_S A s.heap s.heap [] := va_S.rf
  have C : Cx p s m _ meth c cJ7_fill_53178 4 none RJ7 wsJ7_fill_53178 D cy A := ⟨hx, hb, hml, hown, hts, hr, hlocks, hK, hA⟩
  have hl := lv_entry ([.ref a, .int v]) (n := 4) (Nat.le_of_ble_eq_true rfl)
  rw [lg_entry_eq]
  generalize (lg_sl ([.ref a, .int v]) ++ List.replicate (4 - (lg_sl ([.ref a, .int v])).length) Slot.unset).toArray = ls at hl ⊢
  have hl : lv_has ls 4 [(0, .ref a), (1, .int v)] := hl
  have hq : q0 < w.length := (List.getElem?_eq_some_iff.mp he).1
  refine lv_iconst (v := 0) hx hb dJ7_fill_53178_0 (by decide) ?_
  refine lv_istore_n (lv' := [(2, .int 0), (0, .ref a), (1, .int v)]) hx hb dJ7_fill_53178_1 rfl hl (by decide) rfl (fun ls hl => ?_)
  refine lv_aload_n hx hb dJ7_fill_53178_2 rfl (lv_at hl 1 rfl) ?_
  refine va_alen (v := nI n) hx hb hK.1 hP q0 0 he rfl rfl dJ7_fill_53178_3 ?_
  refine lv_istore_n (lv' := [(3, .int (nI n)), (2, .int 0), (0, .ref a), (1, .int v)]) hx hb dJ7_fill_53178_4 rfl hl (by decide) rfl (fun ls hl => ?_)
  have e0 : w.set q0 (a, .inl (cy 0, n, .inl (fl_g f v 0))) = w := by
    have e1 : fl_g f v 0 = f := by funext j; simp [fl_g]
    rw [e1]
    apply List.ext_getElem?
    intro j
    by_cases h : j = q0
    · subst h; rw [List.getElem?_set_self hq, he]
    · rw [List.getElem?_set_ne (Ne.symm h)]
  rw [← nI_0] at hl
  exact kJ7_fill_5 C hn hq n 0 (by omega) _ _ (by rw [e0]; exact hP) (by rw [e0]; exact hD) hS _ (lv_sub hl [2, 3, 1, 0] rfl)

/-! A CALL ON A PART OF THE WORLD: what stands ahead and behind stays -/
theorem vaP_iff {D : va_G} {cl : List vw_C} {ws : va_W} {H : Heap} : va_P D cl ws H ↔ ∀ q ∈ ws, va_at D cl q H := by
  constructor
  · intro h q hq
    obtain ⟨k, hk⟩ := List.getElem?_of_mem hq
    exact h k q hk
  · intro h k q hk
    exact h q (List.mem_of_getElem? hk)
theorem vaD_addr {A : Nat → Prop} {a b : va_W} (h : (a.map Prod.fst).Perm (b.map Prod.fst)) (hD : va_D A a) : va_D A b := by
  rw [vaD_iff] at hD ⊢
  refine ⟨h.nodup_iff.mp hD.1, fun q hq => ?_⟩
  have h1 : q.1 ∈ a.map Prod.fst := h.mem_iff.mpr (List.mem_map.mpr ⟨q, hq, rfl⟩)
  obtain ⟨q2, h2, e⟩ := List.mem_map.mp h1
  rw [← e]
  exact hD.2 q2 h2
theorem z_join {A0 : Nat → Prop} {D : va_G} {cl : List vw_C} (pre suf : va_W) {w w' : va_W} {H H1 : Heap} (hP : va_P D cl (pre ++ (w ++ suf)) H) (hD : va_D A0 (pre ++ (w ++ suf))) (hk : ∀ q : Nat, q < H.size → ¬ va_A w H.size q → H1[q]? = H[q]?) (hF : ∀ q, va_A w H.size q → A0 q) (hP1 : va_P D cl w' H1) (hD1 : va_D (va_A w H.size) w') : va_P D cl (pre ++ (w' ++ suf)) H1 ∧ va_D A0 (pre ++ (w' ++ suf)) := by
  rw [vaP_iff] at hP hP1
  rw [vaD_iff] at hD hD1
  have hn := hD.1
  rw [List.map_append, List.map_append] at hn
  obtain ⟨n1, n2, n3⟩ := List.nodup_append.mp hn
  obtain ⟨n4, n5, n6⟩ := List.nodup_append.mp n2
  have aw : ∀ x : Nat, va_A w H.size x → x < H.size → ∃ q ∈ w, q.1 = x := fun x h hl => by
    rcases h with ⟨k, e, h⟩ | h
    · exact ⟨(x, e), List.mem_of_getElem? h, rfl⟩
    · omega
  have hpre : ∀ q ∈ pre, q.1 < H.size ∧ ¬ va_A w H.size q.1 := fun q hq => by
    have hl := (hP q (List.mem_append_left _ hq)).lt
    refine ⟨hl, fun h => ?_⟩
    obtain ⟨q2, h2, e⟩ := aw q.1 h hl
    exact n3 q.1 (List.mem_map.mpr ⟨q, hq, rfl⟩) q2.1 (List.mem_append_left _ (List.mem_map.mpr ⟨q2, h2, rfl⟩)) e.symm
  have hsuf : ∀ q ∈ suf, q.1 < H.size ∧ ¬ va_A w H.size q.1 := fun q hq => by
    have hl := (hP q (List.mem_append_right _ (List.mem_append_right _ hq))).lt
    refine ⟨hl, fun h => ?_⟩
    obtain ⟨q2, h2, e⟩ := aw q.1 h hl
    exact n6 q2.1 (List.mem_map.mpr ⟨q2, h2, rfl⟩) q.1 (List.mem_map.mpr ⟨q, hq, rfl⟩) e
  constructor
  · rw [vaP_iff]
    intro q hq
    rcases List.mem_append.mp hq with h | h
    · exact (hP q (List.mem_append_left _ h)).kept (hk q.1 (hpre q h).1 (hpre q h).2)
    · rcases List.mem_append.mp h with h | h
      · exact hP1 q h
      · exact (hP q (List.mem_append_right _ (List.mem_append_right _ h))).kept (hk q.1 (hsuf q h).1 (hsuf q h).2)
  · rw [vaD_iff, List.map_append, List.map_append]
    refine ⟨List.nodup_append.mpr ⟨n1, List.nodup_append.mpr ⟨hD1.1, n5, fun x hx y hy e => ?_⟩, fun x hx y hy e => ?_⟩, fun q hq => ?_⟩
    · obtain ⟨q1, h1, e1⟩ := List.mem_map.mp hx
      obtain ⟨q2, h2, e2⟩ := List.mem_map.mp hy
      exact (hsuf q2 h2).2 (by rw [e2, ← e, ← e1]; exact hD1.2 q1 h1)
    · obtain ⟨q1, h1, e1⟩ := List.mem_map.mp hx
      rcases List.mem_append.mp hy with hy | hy
      · obtain ⟨q2, h2, e2⟩ := List.mem_map.mp hy
        exact (hpre q1 h1).2 (by rw [e1, e, ← e2]; exact hD1.2 q2 h2)
      · exact n3 x hx y (List.mem_append_right _ hy) e
    · rcases List.mem_append.mp hq with h | h
      · exact hD.2 q (List.mem_append_left _ h)
      · rcases List.mem_append.mp h with h | h
        · exact hF q.1 (hD1.2 q h)
        · exact hD.2 q (List.mem_append_right _ (List.mem_append_right _ h))
/-- the part of a world -/
theorem z_partP {D : va_G} {cl : List vw_C} {pre w suf : va_W} {H : Heap} (h : va_P D cl (pre ++ (w ++ suf)) H) : va_P D cl w H := by
  rw [vaP_iff] at h ⊢
  exact fun q hq => h q (List.mem_append_right _ (List.mem_append_left _ hq))
theorem z_partD {A : Nat → Prop} {pre w suf : va_W} (h : va_D A (pre ++ (w ++ suf))) : va_D A w := by
  rw [vaD_iff] at h ⊢
  obtain ⟨h1, h2⟩ := h
  rw [List.map_append, List.map_append] at h1
  exact ⟨(List.nodup_append.mp (List.nodup_append.mp h1).2.1).1, fun q hq => h2 q (List.mem_append_right _ (List.mem_append_left _ hq))⟩
section ZF
variable {p : Program} {l : Launch} {e : Env} {R : Room} {s : State} {m : MethodId} {args : Array Value} {below : List Frame} {meth : Method} {c : Code} {H : Heap} {locs : List Loc} {cells slots : Nat} {Q : State → Prop}
variable {pc : Nat} {ls : Array Slot} {rest st0 : List Value} {a : Array Value} {A : Nat → Prop} {H0 : Heap} {D : va_G} {cy : Nat → ClassId} {w w' : va_W}
theorem zf_i {r : Int32} (pre suf : va_W) (hr : va_Run p l e R s m args below meth c H locs cells slots 0 0 (F0 m pc ls st0) rest (zQi D w' (va_A w H.size) r a) (va_A w H.size)) (hP : va_P D vwCl (pre ++ (w ++ suf)) H) (hD : va_D A (pre ++ (w ++ suf))) (hS : va_S A H0 H locs) (hA : ∀ q, H0.size ≤ q → A q)
    (kk : ∀ (H1 : Heap) (locs1 : List Loc), va_P D vwCl (pre ++ (w' ++ suf)) H1 → va_D A (pre ++ (w' ++ suf)) → va_S A H0 H1 locs1 → W p l e R s m args below meth c H1 locs1 cells slots Q (F0 m (pc + 3) ls (.int r :: rest))) : W p l e R s m args below meth c H locs cells slots Q (F0 m pc ls st0) := by
  have hF := z_fr (z_partD hD) hS hA
  refine va_calli hr hS (fun q _ h => hF q h) hF (fun r' u t H1 locs1 ht hvm hw hB hz hk hS1 => ?_)
  obtain rfl : r' = r := hw
  obtain ⟨hP1, hD1⟩ := hB
  rw [ht] at hP1
  obtain ⟨h1, h2⟩ := z_join pre suf hP hD hk hF hP1 hD1
  exact kk H1 locs1 h1 h2 hS1
theorem zf_l {r : Int64} (pre suf : va_W) (hr : va_Run p l e R s m args below meth c H locs cells slots 0 0 (F0 m pc ls st0) rest (zQl D w' (va_A w H.size) r a) (va_A w H.size)) (hP : va_P D vwCl (pre ++ (w ++ suf)) H) (hD : va_D A (pre ++ (w ++ suf))) (hS : va_S A H0 H locs) (hA : ∀ q, H0.size ≤ q → A q)
    (kk : ∀ (H1 : Heap) (locs1 : List Loc), va_P D vwCl (pre ++ (w' ++ suf)) H1 → va_D A (pre ++ (w' ++ suf)) → va_S A H0 H1 locs1 → W p l e R s m args below meth c H1 locs1 cells slots Q (F0 m (pc + 3) ls (.long r :: rest))) : W p l e R s m args below meth c H locs cells slots Q (F0 m pc ls st0) := by
  have hF := z_fr (z_partD hD) hS hA
  refine va_calll hr hS (fun q _ h => hF q h) hF (fun r' u t H1 locs1 ht hvm hw hB hz hk hS1 => ?_)
  obtain rfl : r' = r := hw
  obtain ⟨hP1, hD1⟩ := hB
  rw [ht] at hP1
  obtain ⟨h1, h2⟩ := z_join pre suf hP hD hk hF hP1 hD1
  exact kk H1 locs1 h1 h2 hS1
/-- switches: rows of worths may come -/
theorem zf_a {r : Int32} {ad : Nat → Nat → Nat} {σ' : ST} {mc ms : Nat} (pre suf : va_W) (hr : va_Run p l e R s m args below meth c H locs cells slots mc ms (F0 m pc ls st0) rest (aQi D cy ad σ' (va_A w H.size) r a) (va_A w H.size)) (hP : va_P D vwCl (pre ++ (w ++ suf)) H) (hD : va_D A (pre ++ (w ++ suf))) (hS : va_S A H0 H locs) (hA : ∀ q, H0.size ≤ q → A q)
    (kk : ∀ (u : Nat → Nat → Nat) (H1 : Heap) (locs1 : List Loc), sameAd u ad → va_P D vwCl (pre ++ (cw cy u σ' ++ suf)) H1 → va_D A (pre ++ (cw cy u σ' ++ suf)) → va_S A H0 H1 locs1 → W p l e R s m args below meth c H1 locs1 (cells + mc) (slots + ms) Q (F0 m (pc + 3) ls (.int r :: rest))) : W p l e R s m args below meth c H locs cells slots Q (F0 m pc ls st0) := by
  have hF := z_fr (z_partD hD) hS hA
  refine va_calli hr hS (fun q _ h => hF q h) hF (fun r' u t H1 locs1 ht hvm hw hB hz hk hS1 => ?_)
  obtain ⟨rfl, hu⟩ : r' = r ∧ sameAd u ad := hw
  obtain ⟨hP1, hD1⟩ := hB
  rw [ht] at hP1
  obtain ⟨h1, h2⟩ := z_join pre suf hP hD hk hF hP1 hD1
  exact kk u H1 locs1 hu h1 h2 hS1
end ZF

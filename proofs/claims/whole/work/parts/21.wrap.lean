/-! THE LAW'S OWN METHODS: a call that may throw, caught -/
abbrev outc (cy : Nat → ClassId) (ao : Nat) (o : Nat → Int64) : Nat × va_E := (ao, .inl (cy 1, 1, xl o))
section YF
variable {p : Program} {l : Launch} {e : Env} {R : Room} {s : State} {m : MethodId} {args : Array Value} {below : List Frame} {meth : Method} {c : Code} {H : Heap} {locs : List Loc} {cells slots : Nat} {Q : State → Prop}
variable {pc : Nat} {ls : Array Slot} {rest st0 : List Value} {a : Array Value} {A : Nat → Prop} {H0 : Heap} {D : va_G} {cy : Nat → ClassId} {w w' : va_W} {base : Nat}
theorem yf_i {o : Option Int32} (pre suf : va_W) (hr : vx_Run p l e R s m args below meth c H locs cells slots 1 6 (F0 m pc ls st0) rest (yQi D w' (va_A w H.size) o a) (yX D w' (va_A w H.size) o) (va_A w H.size)) (hP : va_P D vwCl (pre ++ (w ++ suf)) H) (hD : va_D A (pre ++ (w ++ suf))) (hS : va_S A H0 H locs) (hA : ∀ q, H0.size ≤ q → A q)
    (kx : ∀ (q9 : Addr) (ce : Cell) (H1 : Heap) (locs1 : List Loc), o = none → va_P D vwCl (pre ++ (w' ++ suf)) H1 → va_D A (pre ++ (w' ++ suf)) → va_S A H0 H1 locs1 → H1[q9]? = some ce → ce.vm = .none → s.vm.findClass nse = some ce.cls → vx_W p l e R s m args below meth c H1 locs1 (cells + 1) (slots + 6) Q (F0 m pc ls rest) q9)
    (kk : ∀ (r : Int32) (H1 : Heap) (locs1 : List Loc), o = some r → va_P D vwCl (pre ++ (w' ++ suf)) H1 → va_D A (pre ++ (w' ++ suf)) → va_S A H0 H1 locs1 → W p l e R s m args below meth c H1 locs1 (cells + 1) (slots + 6) Q (F0 m (pc + 3) ls (.int r :: rest))) : W p l e R s m args below meth c H locs cells slots Q (F0 m pc ls st0) := by
  have hF := z_fr (z_partD hD) hS hA
  refine vx_calli hr hS (fun q _ h => hF q h) hF (fun q _ h => hF q h) (fun E ce q9 u t H1 locs1 ht hvm hw hB hz hk hS1 h1 h2 h3 => ?_) (fun r' u t H1 locs1 ht hvm hw hB hz hk hS1 => ?_)
  · obtain ⟨rfl, hP1, hD1⟩ := hB
    rw [ht] at hP1
    obtain ⟨g1, g2⟩ := z_join pre suf hP hD hk hF hP1 hD1
    exact kx q9 ce H1 locs1 hw g1 g2 hS1 h1 h2 h3
  · obtain ⟨hP1, hD1⟩ := hB
    rw [ht] at hP1
    obtain ⟨g1, g2⟩ := z_join pre suf hP hD hk hF hP1 hD1
    exact kk r' H1 locs1 hw g1 g2 hS1
theorem yf_l {o : Option Int64} (pre suf : va_W) (hr : vx_Run p l e R s m args below meth c H locs cells slots 1 6 (F0 m pc ls st0) rest (yQl D w' (va_A w H.size) o a) (yX D w' (va_A w H.size) o) (va_A w H.size)) (hP : va_P D vwCl (pre ++ (w ++ suf)) H) (hD : va_D A (pre ++ (w ++ suf))) (hS : va_S A H0 H locs) (hA : ∀ q, H0.size ≤ q → A q)
    (kx : ∀ (q9 : Addr) (ce : Cell) (H1 : Heap) (locs1 : List Loc), o = none → va_P D vwCl (pre ++ (w' ++ suf)) H1 → va_D A (pre ++ (w' ++ suf)) → va_S A H0 H1 locs1 → H1[q9]? = some ce → ce.vm = .none → s.vm.findClass nse = some ce.cls → vx_W p l e R s m args below meth c H1 locs1 (cells + 1) (slots + 6) Q (F0 m pc ls rest) q9)
    (kk : ∀ (r : Int64) (H1 : Heap) (locs1 : List Loc), o = some r → va_P D vwCl (pre ++ (w' ++ suf)) H1 → va_D A (pre ++ (w' ++ suf)) → va_S A H0 H1 locs1 → W p l e R s m args below meth c H1 locs1 (cells + 1) (slots + 6) Q (F0 m (pc + 3) ls (.long r :: rest))) : W p l e R s m args below meth c H locs cells slots Q (F0 m pc ls st0) := by
  have hF := z_fr (z_partD hD) hS hA
  refine vx_calll hr hS (fun q _ h => hF q h) hF (fun q _ h => hF q h) (fun E ce q9 u t H1 locs1 ht hvm hw hB hz hk hS1 h1 h2 h3 => ?_) (fun r' u t H1 locs1 ht hvm hw hB hz hk hS1 => ?_)
  · obtain ⟨rfl, hP1, hD1⟩ := hB
    rw [ht] at hP1
    obtain ⟨g1, g2⟩ := z_join pre suf hP hD hk hF hP1 hD1
    exact kx q9 ce H1 locs1 hw g1 g2 hS1 h1 h2 h3
  · obtain ⟨hP1, hD1⟩ := hB
    rw [ht] at hP1
    obtain ⟨g1, g2⟩ := z_join pre suf hP hD hk hF hP1 hD1
    exact kk r' H1 locs1 hw g1 g2 hS1
variable {y : MethodName} {bytes cc : ByteArray} {maxL nL n index : Nat} {ret : Option FieldType} {ws : List Cond} {rm : Room} {Qc : Array Value → State → Outcome → State → Prop} {XC : String → State → State → Prop} {mc ms : Nat} {free : Addr → Prop} {Ts : List Cond} {own C : String} {b : Addr}
theorem y_sub {pre suf : va_W} (hD : va_D A (pre ++ (w ++ suf))) (hAb : ∀ q, A q → base ≤ q) : ∀ (k : Nat) (q : Nat × va_E), w[k]? = some q → base ≤ q.1 := fun k q hk => hAb _ ((vaD_iff.mp (z_partD hD)).2 q (List.mem_of_getElem? hk))
theorem yr_V (pre suf : va_W) (As : List Value) (rest : List Value) (S : CallFix p m c cc nL s args Ts own) (hM : vx_Met l y ws rm (va_Pc (.ref b :: As) (yPre base D cy w H.size)) Qc XC mc ms free) (cwx : CallW R s args own C index y bytes maxL ret ws rm mc ms n) (hK : zK D cy s) (hX : zX base s) (hAb : ∀ q, A q → base ≤ q) (hbs : base ≤ s.heap.size) (hP : va_P D vwCl (pre ++ (w ++ suf)) H) (hD : va_D A (pre ++ (w ++ suf))) (hS : va_S A s.heap H locs) (q0 : Nat) {ci : Nat} {fs : List Value} {r : vw_C} (he : w[q0]? = some (b, .inr (ci, fs))) (hc : vwCl[ci]? = some r) (hC : r.1 = C) (hn : As.length = n) (hsize : ls.size = nL) (hstack : st0 = As.reverse ++ .ref b :: rest) (hW : (rest.map fun v => v.category).sum ≤ 8) (hdg : decode cc pc = .ok (.invokevirtual index, 3)) (hf : cells + mc ≤ R.cells ∧ slots + ms ≤ R.slots) :
    vx_Run p l e R s m args below meth c H locs cells slots mc ms (F0 m pc ls st0) rest (Qc (Value.ref b :: As).toArray) XC free := by
  subst hC
  have hPw := z_partP hP
  exact vx_runV S hM cwx ⟨yBlind, va_recv hK.1 hPw hc he, fun U hU hW => ⟨rfl, ⟨by rw [hU], by rw [hU]; exact hPw, hK.warm hW, (z_partD hD).weaken (fun _ _ _ _ => trivial)⟩, ⟨Nat.le_trans hbs hS.1, y_sub hD hAb⟩, hX.warm hW (fun a h1 h2 => by rw [hU]; exact hS.2.1 a h1 (fun z => h2 (hAb a z)))⟩⟩ rfl hn hsize hstack (lv_room hW) hdg hf
end YF

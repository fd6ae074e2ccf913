/-! METHODS THAT MAY THROW NoSuchElementException -/
abbrev nse : String := "java/util/NoSuchElementException"
abbrev nsn : List String := ["java/lang/RuntimeException", "java/lang/Exception"]
def zStr : List (Nat × String) := [(78, "no such bond"), (110, "no such what"), (165, "no such eligible bond or rate"), (180, "these contracts can't be met"), (198, "no such node, or none is eligible"), (218, "no such day, or none is eligible"), (231, "it is not eligible"), (233, "no other one is eligible")]
def zX (base : Nat) (U : State) : Prop := vx_Zq Bundle.tN "UNASSIGNED_STACK" Bundle.steD (fun q => base ≤ q) U U.heap ∧ vx_Zq Bundle.tN "SUPPRESSED_SENTINEL" Bundle.listD (fun q => base ≤ q) U U.heap ∧
  va_Nw (.castable nse nse) U ∧ va_Nw (.declares (Bundle.initS "java/lang/RuntimeException")) U ∧ va_Nw (.declares (Bundle.initS "java/lang/Exception")) U ∧ va_Nw (.declares (Bundle.initS Bundle.tN)) U ∧ ∀ x ∈ zStr, ∃ a, vk_R RX2 x.1 x.2 a U
theorem zX.calling {base : Nat} {U : State} {g : JFrame} {mk : MethodId} {a : Array Value} (h : zX base U) : zX base (U.calling g mk a) :=
  ⟨vx_Zq.moved (u := U) (U := U.calling g mk a) (Vm.Alike.refl U.vm) h.1, vx_Zq.moved (u := U) (U := U.calling g mk a) (Vm.Alike.refl U.vm) h.2.1, va_Nw.same rfl (rfl : U.vm = (U.calling g mk a).vm) h.2.2.1, va_Nw.same rfl (rfl : U.vm = (U.calling g mk a).vm) h.2.2.2.1, va_Nw.same rfl (rfl : U.vm = (U.calling g mk a).vm) h.2.2.2.2.1, va_Nw.same rfl (rfl : U.vm = (U.calling g mk a).vm) h.2.2.2.2.2.1, fun x hx => by
    obtain ⟨b, hb⟩ := h.2.2.2.2.2.2 x hx
    exact ⟨b, vk_R.same rfl hb⟩⟩
theorem zX.warm {base : Nat} {s U : State} (hW : s.WarmedH U.vm) (hq : ∀ a : Nat, a < s.heap.size → ¬ base ≤ a → U.heap[a]? = s.heap[a]?) (h : zX base s) : zX base U :=
  ⟨vx_Zq.moved hW.alike (vx_Zq.kept h.1 hq), vx_Zq.moved hW.alike (vx_Zq.kept h.2.1 hq), va_Nw.warmC hW h.2.2.1, va_Nw.warmD hW h.2.2.2.1, va_Nw.warmD hW h.2.2.2.2.1, va_Nw.warmD hW h.2.2.2.2.2.1, fun x hx => by
    obtain ⟨b, hb⟩ := h.2.2.2.2.2.2 x hx
    exact ⟨b, vk_R.warm hW hb⟩⟩
def yPre (base : Nat) (D : va_G) (cy : Nat → ClassId) (w : va_W) (sz : Nat) : State → Prop := fun U => zPre D cy w sz U ∧ (base ≤ sz ∧ ∀ (k : Nat) (q : Nat × va_E), w[k]? = some q → base ≤ q.1) ∧ zX base U
theorem yBlind {base : Nat} {D : va_G} {cy : Nat → ClassId} {w : va_W} {sz : Nat} {av : List Value} : FrameBlind (va_Pc av (yPre base D cy w sz)) := fun _ _ _ _ q => ⟨q.1, ⟨q.2.1.1, q.2.1.2.1, q.2.1.2.2.1.calling, q.2.1.2.2.2⟩, q.2.2.1, q.2.2.2.calling⟩
def yQi (D : va_G) (w : va_W) (A : Nat → Prop) (o : Option Int32) : Array Value → State → Outcome → State → Prop := va_Qi (fun r' (_ : Unit) => o = some r') (fun _ t => va_P D vwCl w t.heap ∧ va_D A w) A
def yQl (D : va_G) (w : va_W) (A : Nat → Prop) (o : Option Int64) : Array Value → State → Outcome → State → Prop := va_Ql (fun r' (_ : Unit) => o = some r') (fun _ t => va_P D vwCl w t.heap ∧ va_D A w) A
def yX {α : Type} (D : va_G) (w : va_W) (A : Nat → Prop) (o : Option α) : String → State → State → Prop := vx_X (fun _ : Unit => o = none) (fun E _ t => E = nse ∧ va_P D vwCl w t.heap ∧ va_D A w) A
def yMi (l : Launch) (y : MethodName) (ws : List Cond) (rm : Room) (base : Nat) (D : va_G) (cy : Nat → ClassId) (av : List Value) (w : va_W) (o : Option Int32) (w' : va_W) : Prop := ∀ sz : Nat, vx_Met l y ws rm (va_Pc av (yPre base D cy w sz)) (yQi D w' (va_A w sz) o) (yX D w' (va_A w sz) o) 1 6 (va_A w sz)
def yMl (l : Launch) (y : MethodName) (ws : List Cond) (rm : Room) (base : Nat) (D : va_G) (cy : Nat → ClassId) (av : List Value) (w : va_W) (o : Option Int64) (w' : va_W) : Prop := ∀ sz : Nat, vx_Met l y ws rm (va_Pc av (yPre base D cy w sz)) (yQl D w' (va_A w sz) o) (yX D w' (va_A w sz) o) 1 6 (va_A w sz)
/-- what a walk that may throw has beside Cx -/
def Xx (l : Launch) (s : State) (c : Code) (base : Nat) (A : Nat → Prop) : Prop := l.stackTraces = false ∧ zX base s ∧ (∀ q, A q → base ≤ q) ∧ ∀ x ∈ c.exceptionTable.toList, False
def zXb : List Cond := [.castable nse nse, .declares (Bundle.initS "java/lang/RuntimeException"), .declares (Bundle.initS "java/lang/Exception"), .declares (Bundle.initS Bundle.tN)]
theorem zX_ng : ∀ w ∈ (nx_atS RX2 80 nse nsn).filter (fun w => !goodWord w), w ∈ zXb := by decide +kernel
theorem zX_ot : ∀ w ∈ Cond.classLink RX2 76 nse :: Cond.initialized nse :: nx_atS RX2 80 nse nsn, vx_ot w = true := by decide +kernel
theorem zX_b {base : Nat} {s : State} {args : Array Value} (h : zX base s) : ∀ w ∈ zXb, w.before args s = true := vx_c (va_Nw.use rfl h.2.2.1) (vx_c (va_Nw.use rfl h.2.2.2.1) (vx_c (va_Nw.use rfl h.2.2.2.2.1) (vx_c (va_Nw.use rfl h.2.2.2.2.2.1) vx_n)))
section YR
variable {p : Program} {l : Launch} {e : Env} {R : Room} {s : State} {m : MethodId} {args : Array Value} {below : List Frame} {meth : Method} {c : Code} {H : Heap} {locs : List Loc} {cells slots : Nat} {Q : State → Prop}
variable {pc : Nat} {ls : Array Slot} {rest st0 : List Value} {a : Array Value} {A : Nat → Prop} {H0 : Heap} {D : va_G} {cy : Nat → ClassId} {w w' : va_W} {base : Nat} {cc : ByteArray}
theorem y_thr {α : Type} {Qc : Array Value → State → Outcome → State → Prop} {fw : ST → va_W} {σ : ST} {q : Option α × ST} {text : String} {is : Nat} (hx : p.tables.exec = Jvm.exec) (hb : c.code = cc) (X : Xx l s c base A) (hown : s.vm.findClass RX2 = some m.cls) (hk : (Cond.classLink RX2 76 nse).before args s = true) (hini : (Cond.initialized nse).before args s = true) (hst : (is, text) ∈ zStr) (hat : ∀ w ∈ (nx_atS RX2 80 nse nsn).filter goodWord, w.before args s = true)
    (hq : some (none, σ) = some q) (hP : va_P D vwCl (fw σ) H) (hD : va_D A (fw σ)) (hS : va_S A s.heap H locs) (hsize : ls.size = c.maxLocals) (d0 : decode cc pc = .ok (.new 76, 3)) (d3 : decode cc (pc + 3) = .ok (.dup, 1)) (d4 : decode cc (pc + 4) = .ok (.ldc is, 2)) (d6 : decode cc (pc + 6) = .ok (.invokespecial 80, 3)) (d9 : decode cc (pc + 9) = .ok (.athrow, 1))
    (hRf : 5 < R.frames) (hRl : (rest.map fun v => v.category).sum + 82 ≤ R.locals) (hRc : 1 ≤ R.cells) (hRs : 6 ≤ R.slots) (hlocks : meth.locks = false) : W p l e R s m args below meth c H locs 0 0 (vx_MQ below Qc (yX D (fw q.2) A q.1) args s 1 6 A) (F0 m pc ls rest) := by
  obtain ⟨hl, hX, hAb, hT⟩ := X
  cases hq
  obtain ⟨sa, hsa⟩ := hX.2.2.2.2.2.2 _ hst
  refine nx_throwS (text := text) (names := nsn) hx hb hl hown (by decide +kernel) (by decide +kernel) hk hini hsa (vx_hat hat zX_ng (zX_b hX)) zX_ot (hX.1.narrow hAb) (hX.2.1.narrow hAb) hS hsize d0 d3 d4 d6 d9 (fun x hx => absurd (hT x hx) id) hRf hRl (by omega) (by omega) hlocks (fun t hv h1 h2 => ?_) hS.2.2 (Nat.le_refl 1) (Nat.le_refl 6)
  exact ⟨(), rfl, ⟨rfl, hP.kept (fun k q hk => h2 q.1 ((hP k q hk).lt)), hD⟩, Nat.le_trans hS.1 h1, fun q h3 h4 => (h2 q (Nat.lt_of_lt_of_le h3 hS.1)).trans (hS.2.1 q h3 h4)⟩
theorem y_i {XC : String → State → State → Prop} {fw : ST → va_W} {σ : ST} {v : Int32} {q : Option Int32 × ST} (hx : p.tables.exec = Jvm.exec) (hb : c.code = cc) (hr : meth.sig.returnType = some .int) (hlocks : meth.locks = false) (hq : some (some v, σ) = some q) (hP : va_P D vwCl (fw σ) H) (hD : va_D A (fw σ)) (hS : va_S A s.heap H locs) (hdg : decode cc pc = .ok (.ireturn, 1)) : W p l e R s m args below meth c H locs 0 0 (vx_MQ below (yQi D (fw q.2) A q.1) XC args s 1 6 A) (F0 m pc ls [.int v]) := by
  cases hq
  refine vx_ret (W.widen (k := 1) (n := 6) (Nat.zero_le _) (Nat.zero_le _) ?_)
  exact W.iret hx hb hr (fun t ht hW => ⟨⟨v, (), rfl, rfl, by rw [ht]; exact hP, hD⟩, hS.F ht⟩) hS.2.2 hdg hlocks
theorem y_l {XC : String → State → State → Prop} {fw : ST → va_W} {σ : ST} {v : Int64} {q : Option Int64 × ST} (hx : p.tables.exec = Jvm.exec) (hb : c.code = cc) (hr : meth.sig.returnType = some .long) (hlocks : meth.locks = false) (hq : some (some v, σ) = some q) (hP : va_P D vwCl (fw σ) H) (hD : va_D A (fw σ)) (hS : va_S A s.heap H locs) (hdg : decode cc pc = .ok (.lreturn, 1)) : W p l e R s m args below meth c H locs 0 0 (vx_MQ below (yQl D (fw q.2) A q.1) XC args s 1 6 A) (F0 m pc ls [.long v]) := by
  cases hq
  refine vx_ret (W.widen (k := 1) (n := 6) (Nat.zero_le _) (Nat.zero_le _) ?_)
  exact W.lret hx hb hr (fun t ht hW => ⟨⟨v, (), rfl, rfl, by rw [ht]; exact hP, hD⟩, hS.F ht⟩) hS.2.2 hdg hlocks
end YR

/-! NEW T[n][m], by rows of my own: how the machine stands when i of the n inner rows lie, what its heap holds then, and the walk. -/
def nm_row (h i : Nat) : Nat → Value := fun j => if j < i then .ref (h + 1 + j) else .null
theorem nm_row_next (h i : Nat) : updV (nm_row h i) i (.ref (h + 1 + i)) = nm_row h (i + 1) := by
  funext j
  show (if j = i then Value.ref (h + 1 + i) else if j < i then .ref (h + 1 + j) else .null) = if j < i + 1 then .ref (h + 1 + j) else .null
  rcases Nat.lt_trichotomy j i with q | q | q
  · rw [if_neg (Nat.ne_of_lt q), if_pos q, if_pos (Nat.lt_succ_of_lt q)]
  · subst q
    rw [if_pos rfl, if_pos (Nat.lt_succ_self _)]
  · rw [if_neg (Nat.ne_of_gt q), if_neg (by omega), if_neg (by omega)]
def nm_st (cA cy : ClassId) (N K : Nat) (dv : Value) (U : State) : Nat → State
  | 0 => U.pushCell (arrV cA N (nm_row U.heap.size 0))
  | i + 1 => ((nm_st cA cy N K dv U i).pushCell (arrV cy K (fun _ => dv))).setCell U.heap.size (arrV cA N (nm_row U.heap.size (i + 1)))
/-- tables, slots and heap behind i inner rows, in closed form -/
theorem nm_is (cA cy : ClassId) (N K : Nat) (dv : Value) (U : State) (i : Nat) :
    (nm_st cA cy N K dv U i).vm = U.vm ∧ (nm_st cA cy N K dv U i).slotsUsed = U.slotsUsed + N + i * K ∧ (nm_st cA cy N K dv U i).heap.size = U.heap.size + 1 + i ∧
      ∀ x : Nat, (nm_st cA cy N K dv U i).heap[x]? = if x < U.heap.size then U.heap[x]? else if x = U.heap.size then some (arrV cA N (nm_row U.heap.size i)) else if x < U.heap.size + 1 + i then some (arrV cy K (fun _ => dv)) else none := by
  induction i with
  | zero =>
    refine ⟨rfl, ?_, ?_, fun x => ?_⟩
    · show U.slotsUsed + (arrV cA N (nm_row U.heap.size 0)).slots.size = _
      rw [arrV_size, Nat.zero_mul]; rfl
    · show (U.heap.push _).size = _
      rw [Array.size_push]
    · show (U.heap.push _)[x]? = _
      rw [Array.getElem?_push]
      rcases Nat.lt_trichotomy x U.heap.size with q | q | q
      · rw [if_neg (Nat.ne_of_lt q), if_pos q]
      · rw [if_pos q, if_neg (by omega), if_pos q]
      · rw [if_neg (Nat.ne_of_gt q), if_neg (by omega), if_neg (Nat.ne_of_gt q), if_neg (by omega)]
        exact Array.getElem?_eq_none (Nat.le_of_lt q)
  | succ i ih =>
    obtain ⟨h1, h2, h3, h4⟩ := ih
    refine ⟨h1, ?_, ?_, fun x => ?_⟩
    · show (nm_st cA cy N K dv U i).slotsUsed + (arrV cy K (fun _ => dv)).slots.size = _
      rw [h2, arrV_size, Nat.succ_mul]; omega
    · show (((nm_st cA cy N K dv U i).heap.push _).setIfInBounds U.heap.size _).size = _
      rw [Array.size_setIfInBounds, Array.size_push, h3]; omega
    · show (((nm_st cA cy N K dv U i).heap.push _).setIfInBounds U.heap.size _)[x]? = _
      rw [Array.getElem?_setIfInBounds, Array.getElem?_push, Array.size_push, h3, h4 x]
      rcases Nat.lt_trichotomy x U.heap.size with q | q | q
      · rw [if_neg (Nat.ne_of_gt q), if_neg (show ¬ x = U.heap.size + 1 + i by omega), if_pos q, if_pos q]
      · subst q
        rw [if_pos rfl, if_pos (by omega), if_neg (Nat.lt_irrefl _), if_pos rfl]
      · rw [if_neg (Nat.ne_of_lt q)]
        have a1 : ¬ x < U.heap.size := by omega
        have a2 : ¬ x = U.heap.size := by omega
        rw [if_neg a1, if_neg a2, if_neg a1, if_neg a2]
        by_cases f : x = U.heap.size + 1 + i
        · rw [if_pos f, if_pos (by omega)]
        · rw [if_neg f]
          by_cases f2 : x < U.heap.size + 1 + i
          · rw [if_pos f2, if_pos (by omega)]
          · rw [if_neg f2, if_neg (by omega)]
theorem nm_top (cA cy : ClassId) (N K : Nat) (dv : Value) (U : State) (g : JFrame) (i : Nat) : nm_st cA cy N K dv (U.setTop g) i = (nm_st cA cy N K dv U i).setTop g := by
  induction i with
  | zero => rfl
  | succ i ih =>
    show ((nm_st cA cy N K dv (U.setTop g) i).pushCell _).setCell U.heap.size _ = _
    rw [ih]
    rfl
theorem nm_over {args : Array Value} {s : State} {t : FieldType} (h : (Cond.arrayOver (.array t)).before args s = true) :
    ∃ (cy cA : ClassId) (kA : Class), s.vm.findClass (FieldType.array t).toString = some cy ∧ s.vm.findClass ("[" ++ (FieldType.array t).toString) = some cA ∧ s.vm.classes[cA]? = some kA ∧ kA.kind = .array cy (.array t) := by
  have h0 : (Cond.arrayOver (.array t)).holds args s none s [] = true := h
  simp only [Cond.holds, Cond.value, beq_iff_eq] at h0
  obtain ⟨cy, h1, h0⟩ := Option.bind_eq_some_iff.mp h0
  obtain ⟨cA, h2, h0⟩ := Option.bind_eq_some_iff.mp h0
  obtain ⟨kA, h3, h0⟩ := Option.map_eq_some_iff.mp h0
  obtain ⟨hlt, hp, -⟩ := Array.findIdx?_eq_some_iff_getElem.mp h2
  rw [(Array.getElem?_eq_some_iff.mp h3).2] at hp
  refine ⟨cy, cA, kA, h1, ?_, h3, ?_⟩
  all_goals
    cases hk : kA.kind <;> rw [hk] at h0 hp <;> simp at h0 hp
  · exact h0.2
  · rw [hp, h0.1]
section NMW
variable {E : CtlPost} {e : Env} {d : Bool} {acts : List Action} {s : State}
/-- one inner row -/
theorem nm_one {cy cc : ClassId} {kc : Class} {ty : FieldType} {k : Int32} (h1 : s.vm.classes[cy]? = some kc) (h2 : kc.kind = .array cc ty) (h3 : ¬ k < 0) (h4 : ¬ k.toNatClampNeg > e.platform.arrayLengthLimit) (h5 : ¬ k.toNatClampNeg * componentBytes ty > e.platform.maxHeapBytes)
    (h6 : fits ty (defaultValue ty) = true) (h7 : s.heap.size < e.platform.maxCells) (h8 : s.slotsUsed + k.toNatClampNeg ≤ e.platform.maxSlots) {Q : Addr → Pre}
    (hq : ∀ acts', Q s.heap.size d acts' (s.pushCell (arrV cy k.toNatClampNeg (fun _ => defaultValue ty)))) : wp (Op.multianewarray.make cy [k]) Q E e d acts s := by
  rw [← arrV_new] at hq
  rw [Op.multianewarray.make]
  simp only [wp_bind', W.ite, h3, if_false, wp_pure', W.theClass, h1, h2, Option.some.injEq, exists_eq_left']
  exact W.newArray_of h1 h2 h4 h5 h7 h8 h6 hq
/-- rows i, i + 1 .. up to N -/
theorem nm_loop {cA cy : ClassId} {N K : Nat} {dv : Value} {f : Nat → PUnit → Sem (ForInStep PUnit)}
    (hf : ∀ (i : Nat) (d : Bool) (acts : List Action) (Q : ForInStep PUnit → Pre), i < N → (∀ d' acts', Q (.yield PUnit.unit) d' acts' (nm_st cA cy N K dv s (i + 1))) → wp (f i PUnit.unit) Q E e d acts (nm_st cA cy N K dv s i)) (r : Nat) :
    ∀ (i : Nat) (d : Bool) (acts : List Action) (Q : PUnit → Pre), i + r = N → (∀ d' acts', Q PUnit.unit d' acts' (nm_st cA cy N K dv s N)) → wp (forIn (List.range' i r 1) PUnit.unit f) Q E e d acts (nm_st cA cy N K dv s i) := by
  induction r with
  | zero =>
    intro i d acts Q hi hq
    have : i = N := hi
    subst this
    rw [List.range'_zero, List.forIn_nil, wp_pure']
    exact hq _ _
  | succ r ih =>
    intro i d acts Q hi hq
    rw [List.range'_succ, List.forIn_cons, wp_bind']
    exact hf i d acts _ (by omega) (fun d' acts' => ih (i + 1) d' acts' Q (by omega) hq)
/-- all of it -/
theorem nm_make {cA cy cc : ClassId} {kA kc : Class} {ty : FieldType} {n k : Int32} (a1 : s.vm.classes[cA]? = some kA) (a2 : kA.kind = .array cy (.array ty)) (a3 : ¬ n < 0) (a4 : ¬ n.toNatClampNeg > e.platform.arrayLengthLimit) (a5 : ¬ n.toNatClampNeg * componentBytes (.array ty) > e.platform.maxHeapBytes)
    (h1 : s.vm.classes[cy]? = some kc) (h2 : kc.kind = .array cc ty) (h3 : ¬ k < 0) (h4 : ¬ k.toNatClampNeg > e.platform.arrayLengthLimit) (h5 : ¬ k.toNatClampNeg * componentBytes ty > e.platform.maxHeapBytes) (h6 : fits ty (defaultValue ty) = true)
    (h7 : s.heap.size + (1 + n.toNatClampNeg) ≤ e.platform.maxCells) (h8 : s.slotsUsed + (n.toNatClampNeg + n.toNatClampNeg * k.toNatClampNeg) ≤ e.platform.maxSlots) {Q : Addr → Pre}
    (hq : ∀ d' acts', Q s.heap.size d' acts' (nm_st cA cy n.toNatClampNeg k.toNatClampNeg (defaultValue ty) s n.toNatClampNeg)) : wp (Op.multianewarray.make cA [n, k]) Q E e d acts s := by
  have hz : ([k].find? (fun x => decide (x < 0))) = none := by simp [h3]
  rw [Op.multianewarray.make]
  simp only [wp_bind', W.ite, a3, if_false, wp_pure', W.theClass, a1, a2, Option.some.injEq, exists_eq_left']
  refine W.newArray_of a1 a2 a4 a5 (by omega) (by omega) rfl (fun acts' => ?_)
  simp only [hz]
  rw [ite_self, wp_bind', Std.Legacy.Range.forIn_eq_forIn_range']
  rw [show ([:n.toNatClampNeg] : Std.Legacy.Range).size = n.toNatClampNeg by simp [Std.Legacy.Range.size]]
  have e0 : s.pushCell ({ cls := cA, slots := Array.replicate n.toNatClampNeg .null } : Cell) = nm_st cA cy n.toNatClampNeg k.toNatClampNeg (defaultValue ty) s 0 := by
    show s.pushCell ({ cls := cA, slots := Array.replicate n.toNatClampNeg .null, vm := .none } : Cell) = s.pushCell _
    rw [arrV_new]
    rfl
  rw [e0]
  refine nm_loop (fun i d acts Q' hi hq' => ?_) n.toNatClampNeg 0 _ _ _ (Nat.zero_add _) (fun d' acts' => ?_)
  · obtain ⟨f1, f2, f3, f4⟩ := nm_is cA cy n.toNatClampNeg k.toNatClampNeg (defaultValue ty) s i
    have hm : (i + 1) * k.toNatClampNeg ≤ n.toNatClampNeg * k.toNatClampNeg := Nat.mul_le_mul_right _ hi
    rw [Nat.succ_mul] at hm
    simp only [wp_bind']
    refine nm_one (by rw [f1]; exact h1) h2 h3 h4 h5 h6 (by rw [f3]; omega) (by rw [f2]; omega) (fun acts2 => ?_)
    simp only [wp_bind', W.writeLoc, wp_pure']
    refine ⟨arrV cA n.toNatClampNeg (nm_row s.heap.size i), ?_, (fun q => by cases q), by rw [arrV_size]; exact hi, ?_, ?_⟩
    · rw [State.heap_pushCell_of_lt _ _ (show s.heap.size < (nm_st cA cy n.toNatClampNeg k.toNatClampNeg (defaultValue ty) s i).heap.size by rw [f3]; omega), f4, if_neg (Nat.lt_irrefl _), if_pos rfl]
    · show State.fitsSlot _ cA .none i _ = true
      simp [State.fitsSlot, State.slotType?, f1, a1, a2, fits]
    · rw [arrV_store, f3, nm_row_next]
      exact hq' _ _
  · simp only [wp_pure']
    exact hq _ _
end NMW
section NMS
variable {p : Program} {l : Launch} {e : Env} {R : Room} {s : State} {m : MethodId} {args : Array Value} {below : List Frame} {meth : Method} {c : Code} {T : State} {locs : List Loc} {cells slots : Nat}
theorem nm_stand (X : Stand p l e R s m args below meth c T locs cells slots) (cA cy : ClassId) (N K : Nat) (dv : Value) (i : Nat) : Stand p l e R s m args below meth c (nm_st cA cy N K dv T i) locs (cells + 1 + i) (slots + N + i * K) := by
  induction i with
  | zero =>
    have h := X.pushed (arrV cA N (nm_row T.heap.size 0))
    rw [arrV_size] at h
    rw [Nat.zero_mul]
    exact h
  | succ i ih =>
    have Y := ih.pushed (arrV cy K (fun _ => dv))
    rw [arrV_size] at Y
    obtain ⟨-, -, f3, f4⟩ := nm_is cA cy N K dv T i
    have hc : ((nm_st cA cy N K dv T i).pushCell (arrV cy K (fun _ => dv))).heap[T.heap.size]? = some (arrV cA N (nm_row T.heap.size i)) := by
      rw [State.heap_pushCell_of_lt _ _ (show T.heap.size < (nm_st cA cy N K dv T i).heap.size by rw [f3]; omega), f4, if_neg (Nat.lt_irrefl _), if_pos rfl]
    have Z := (Y.stored hc i (.ref (T.heap.size + 1 + i))).dropFresh (fun x hx => by
      rw [List.mem_singleton.mp hx]
      exact X.heapGrown)
    rw [arrV_store, nm_row_next] at Z
    have e1 : slots + N + (i + 1) * K = slots + N + i * K + K := by rw [Nat.succ_mul]; omega
    rw [e1]
    exact Z
/-- the instruction -/
theorem nm_walk (X : Stand p l e R s m args below meth c T locs cells slots) (hexec : p.tables.exec = Jvm.exec) {own : String} {index : Nat} {ty : FieldType} (hown : s.vm.findClass own = some m.cls)
    (hclink : (Cond.classLink own index ("[" ++ (FieldType.array ty).toString)).before args s = true) (hover : (Cond.arrayOver (.array ty)).before args s = true) (harr : (Cond.arrayClass ty).before args s = true)
    {g : JFrame} (hg : g.method = m) (hdg : decode c.code g.pc = .ok (.multianewarray index 2, 4)) {n k : Int32} {rest : List Value} (hst : g.stack = .int k :: .int n :: rest) (hn : ¬ n < 0) (hk : ¬ k < 0)
    (hb1 : n.toNatClampNeg * 4 ≤ 536870912) (hb2 : k.toNatClampNeg * componentBytes ty ≤ 536870912) (hb3 : k.toNatClampNeg ≤ 536870912) (hdf : fits ty (defaultValue ty) = true)
    (hcells : cells + (1 + n.toNatClampNeg) ≤ R.cells) (hslots : slots + (n.toNatClampNeg + n.toNatClampNeg * k.toNatClampNeg) ≤ R.slots) :
    ∃ (vm₁ : Vm) (cA cy : ClassId) (kA : Class), s.vm.findClass ("[" ++ (FieldType.array ty).toString) = some cA ∧ s.vm.findClass (FieldType.array ty).toString = some cy ∧ s.vm.classes[cA]? = some kA ∧ kA.kind = .array cy (.array ty) ∧
      Stand p l e R s m args below meth c (nm_st cA cy n.toNatClampNeg k.toNatClampNeg (defaultValue ty) (T.setVm vm₁) n.toNatClampNeg) locs (cells + 1 + n.toNatClampNeg) (slots + n.toNatClampNeg + n.toNatClampNeg * k.toNatClampNeg) ∧
      ∀ t, Steps p.tables e below ((nm_st cA cy n.toNatClampNeg k.toNatClampNeg (defaultValue ty) (T.setVm vm₁) n.toNatClampNeg).setTop { g with pc := g.pc + 4, stack := .ref T.heap.size :: rest }) t → Steps p.tables e below (T.setTop g) t := by
  subst hg
  have hpl : e.platform.magicAccessors = ({} : Platform).magicAccessors := by rw [X.admits.platform]
  obtain ⟨cy, cA, kA, o1, o2, o3, o4⟩ := nm_over hover
  obtain ⟨cy', kC, cc, i1, i2, i3⟩ := Cond.arrayClass_spec harr
  cases Option.some.inj ((show s.vm.findClass (FieldType.array ty).toString = some cy' from i1).symm.trans o1)
  obtain ⟨cL, l1, l2⟩ := Cond.classLink_spec hown hclink e.platform hpl
  cases Option.some.inj (l1.symm.trans o2)
  obtain ⟨r1, r2, -⟩ := State.classEntry (e := e) X.warmed l2
  generalize T.vm.noted g.method.cls index (.cls cA) = vm₁ at r1 r2
  obtain ⟨kA1, b1, b2⟩ := r2.alike.2.2 _ _ o3
  obtain ⟨kC1, b3, b4⟩ := r2.alike.2.2 _ _ i2
  obtain ⟨m1, m2⟩ := X.roomAbove hcells hslots
  have Y := nm_stand (X.noted r2) cA cy n.toNatClampNeg k.toNatClampNeg (defaultValue ty) n.toNatClampNeg
  refine ⟨vm₁, cA, cy, kA, o2, o1, o3, o4, Y, fun t ht => ?_⟩
  have hP : ∀ (Q : List Value → Pre) (E : CtlPost) (d : Bool) (acts : List Action), wp (Jvm.popN 2) Q E e d acts ((T.setVm vm₁).setTop g) ↔ Q [.int n, .int k] true acts ((T.setVm vm₁).setTop { g with stack := rest }) :=
    fun Q E d acts => popN_top (s := T.setVm vm₁) (f := g) (args := [.int n, .int k]) (rest := rest) X.here.top hst
  jvm_step X.here [hexec, hdg]
  simp only [Op.multianewarray.sem, wp_bind', W.resolveClassAt_links (State.method?_setTop g X.here.top) r1]
  refine (hP _ _ _ _).mpr ?_
  simp only [List.mapM_cons, List.mapM_nil, wp_bind', wp_pure']
  refine nm_make (s := (T.setVm vm₁).setTop { g with stack := rest }) (kA := kA1) (kc := kC1) (cy := cy) (cc := cc) (ty := ty) b1 (by rw [b2]; exact o4) hn ?_ ?_ b3 (by rw [b4]; exact i3) hk ?_ ?_ hdf m1 m2 (fun d' acts' => ?_)
  · rw [Launch.admits_arrayLengthLimit X.admits]; omega
  · rw [Launch.admits_maxHeapBytes X.admits]; show ¬ n.toNatClampNeg * 4 > _; omega
  · rw [Launch.admits_arrayLengthLimit X.admits]; omega
  · rw [Launch.admits_maxHeapBytes X.admits]; omega
  · rw [nm_top]
    simp only [wp_bind', W.mark, W.pushRef, State.topJava?_setTop' _ Y.here.top, Option.some.injEq, exists_eq_left', State.setTop_setTop, State.heap_setTop]
    intro acts2
    simp [jvm, Y.here.top]
    exact ht
end NMS
section ZMN
variable {p : Program} {l : Launch} {e : Env} {R : Room} {s : State} {m : MethodId} {args : Array Value} {below : List Frame} {meth : Method} {c : Code} {H : Heap} {locs : List Loc} {cells slots : Nat} {Q : State → Prop}
variable {cc : ByteArray} {pc : Nat} {ls : Array Slot} {rest : List Value} {D : va_G} {cl : List vw_C} {A : Nat → Prop} {tys : List (ClassId × FieldType)} {H0 : Heap}
theorem z_mna {X : va_W} (hexec : p.tables.exec = Jvm.exec) (hb : c.code = cc) {own : String} {index : Nat} {ty : FieldType} {cy : ClassId} (hown : s.vm.findClass own = some m.cls) (hclink : (Cond.classLink own index ("[" ++ (FieldType.array ty).toString)).before args s = true) (hover : (Cond.arrayOver (.array ty)).before args s = true) (harr : (Cond.arrayClass ty).before args s = true) (hcy : s.vm.findClass (FieldType.array ty).toString = some cy)
    (hK : va_K D cl tys s) (hP : va_P D cl X H) (hD : va_D A X) (hS : va_S A H0 H locs) (hA : ∀ q, H0.size ≤ q → A q) {n k : Int32} {N' K' : Nat} {z : vp_A} (hn : ¬ n < 0) (hk : ¬ k < 0) (hN : n.toNatClampNeg = N') (hM : k.toNatClampNeg = K')
    (hb1 : N' * 4 ≤ 536870912) (hb2 : K' * componentBytes ty ≤ 536870912) (hb3 : K' ≤ 536870912) (hdf : fits ty (defaultValue ty) = true) (hcells : cells + (1 + N') ≤ R.cells) (hslots : slots + (N' + N' * K') ≤ R.slots) (hz : ∀ c : ClassId, arrV c K' (fun _ => defaultValue ty) = vp_cell c z) (hdg : decode cc pc = .ok (.multianewarray index 2, 4))
    (kk : ∀ (q : Nat) (r : Nat → Nat) (cA : ClassId) (H1 : Heap), va_K D cl (tys ++ [(cA, .array ty)]) s → va_P D cl (X ++ ((q, .inl (cA, N', xr (fun i => some (r i)))) :: (List.range N').map (fun i => (r i, .inl (cy, z))))) H1 → va_D A (X ++ ((q, .inl (cA, N', xr (fun i => some (r i)))) :: (List.range N').map (fun i => (r i, .inl (cy, z))))) → va_S A H0 H1 locs →
      W p l e R s m args below meth c H1 locs (cells + 1 + N') (slots + N' + N' * K') Q (F0 m (pc + 4) ls (.ref q :: rest))) : W p l e R s m args below meth c H locs cells slots Q (F0 m pc ls (.int k :: .int n :: rest)) := by
  subst hN
  subst hM
  intro T hT Y
  obtain ⟨vm₁, cA, cy2, kA, fA, fC, k1, k2, Z, step⟩ := nm_walk Y hexec hown hclink hover harr (g := F0 m pc ls (.int k :: .int n :: rest)) rfl (by rw [hb]; exact hdg) rfl hn hk hb1 hb2 hb3 hdf hcells hslots
  cases Option.some.inj (hcy.symm.trans fC)
  obtain ⟨-, -, f3, f4⟩ := nm_is cA cy n.toNatClampNeg k.toNatClampNeg (defaultValue ty) (T.setVm vm₁) n.toNatClampNeg
  generalize nm_st cA cy n.toNatClampNeg k.toNatClampNeg (defaultValue ty) (T.setVm vm₁) n.toNatClampNeg = F at Z step f3 f4
  have hTh : (T.setVm vm₁).heap = H := hT
  rw [hTh] at f3
  simp only [hTh] at f4
  have hold : ∀ x : Nat, x < H.size → F.heap[x]? = H[x]? := fun x hx => by rw [f4 x, if_pos hx]
  have hlt : ∀ x ∈ X, x.1 < H.size := fun x hx => by
    obtain ⟨i, hi⟩ := List.getElem?_of_mem hx
    exact (hP i x hi).lt
  refine Exists.elim (kk H.size (fun i => H.size + 1 + i) cA F.heap ?_ ?_ ?_ ?_ F rfl Z) (fun t ht => ⟨t, step t ?_, ht.2⟩)
  · refine ⟨hK.1, fun i x hx => ?_⟩
    by_cases hl : i < tys.length
    · rw [List.getElem?_append_left hl] at hx
      exact hK.2 i x hx
    · rw [List.getElem?_append_right (by omega)] at hx
      have h0 : i - tys.length < 1 := (List.getElem?_eq_some_iff.mp hx).1
      rw [show i - tys.length = 0 by omega] at hx
      cases hx
      exact ⟨fun N9 z9 => ⟨(fun q hq => by cases hq), kA, k1, cy, k2⟩, fA⟩
  · rw [vaP_iff]
    intro x hx
    rcases List.mem_append.mp hx with h | h
    · have h9 : va_at D cl x H := (vaP_iff.mp hP) x h
      exact h9.kept (hold x.1 (hlt x h))
    · rcases List.mem_cons.mp h with h | h
      · subst h
        show F.heap[H.size]? = some (vp_cell cA (n.toNatClampNeg, xr (fun i => some (H.size + 1 + i))))
        rw [f4, if_neg (Nat.lt_irrefl _), if_pos rfl, vp_cell_q]
        congr 1
        exact arrV_ext (fun j hj => if_pos hj)
      · obtain ⟨i, hi, rfl⟩ := List.mem_map.mp h
        have hi' : i < n.toNatClampNeg := List.mem_range.mp hi
        show F.heap[H.size + 1 + i]? = some (vp_cell cy z)
        rw [f4, if_neg (by omega), if_neg (by omega), if_pos (by omega), hz]
  · rw [vaD_iff]
    obtain ⟨d1, d2⟩ := vaD_iff.mp hD
    constructor
    · rw [List.map_append, List.map_cons, List.map_map]
      refine List.nodup_append.mpr ⟨d1, List.nodup_cons.mpr ⟨?_, ?_⟩, ?_⟩
      · intro h
        obtain ⟨i, -, h⟩ := List.mem_map.mp h
        have h : H.size + 1 + i = H.size := h
        omega
      · refine List.Pairwise.map _ (fun a b hab => ?_) (List.nodup_range (n := n.toNatClampNeg))
        show H.size + 1 + a ≠ H.size + 1 + b
        have hab : a ≠ b := hab
        omega
      · intro a ha b hb2
        obtain ⟨x, hx, rfl⟩ := List.mem_map.mp ha
        have := hlt x hx
        rcases List.mem_cons.mp hb2 with h | h
        · show x.1 ≠ b
          have h : b = H.size := h
          omega
        · obtain ⟨i, -, rfl⟩ := List.mem_map.mp h
          show x.1 ≠ H.size + 1 + i
          omega
    · intro x hx
      have h0 := hS.1
      rcases List.mem_append.mp hx with h | h
      · exact d2 x h
      · rcases List.mem_cons.mp h with h | h
        · subst h
          exact hA _ h0
        · obtain ⟨i, -, rfl⟩ := List.mem_map.mp h
          exact hA _ (show H0.size ≤ H.size + 1 + i by omega)
  · exact ⟨by rw [f3]; have := hS.1; omega, fun x h1 h2 => (hold x (Nat.lt_of_lt_of_le h1 hS.1)).trans (hS.2.1 x h1 h2), hS.2.2⟩
  · rw [hT]
    exact ht.1
end ZMN

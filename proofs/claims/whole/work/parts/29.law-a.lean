/-! THE CLAIM OUT OF ONE WALK OF THE LAW'S BODY. Your part is whole_start (and what it stands on); all else here is the same for every law, but numbers. -/
def R_law : String := "DeliveryBasketLaw"
def lw_P (b : Addr) (xs : List Int32) (args : Array Value) (s : State) : Prop := args = #[.ref b] ∧ s.IntsAt b xs ∧ xs.length ≤ 3072 ∧ (Jvm.Cond.and given_1 narrow_1).before args s = true
def lw_Q (_ : Array Value) (s : State) (o : Outcome) (t : State) : Prop := o = .returned (some (.int 1)) ∧ Framed s o t [] 601024 7293034
def lw_Z (below : List Frame) (a : Array Value) (s : State) : State → Prop := fun t => ∃ o, t.status = .running ∧ Ended t below o ∧ lw_Q a s o t
/-- the law's own end, with 1 on the stack, nothing written that was there before, its room as the claim has it -/
theorem lw_ret {p : Program} {l : Launch} {e : Env} {s : State} {m : MethodId} {below : List Frame} {meth : Method} {c : Code} {b : Nat} (hx : p.tables.exec = Jvm.exec) (hb : c.code = code) (hr : meth.sig.returnType = ret) (hlocks : meth.locks = false) {pc : Nat} {H : Heap} {ls : Array Slot} (hdg : decode code pc = .ok (.ireturn, 1)) : W p l e room_1 s m #[Value.ref b] below meth c H [] 601024 7293034 (lw_Z below #[Value.ref b] s) (F0 m pc ls [.int 1]) := by
  intro T hT X
  obtain ⟨fs, hret, hrun, hended, hW, hframe⟩ := X.leave (v := some (.int 1)) (hlocks := hlocks) (fun h => by rw [hr] at h; cases h)
  have hmeth' : T.vm.method? m = some meth := X.method'
  refine ⟨T.setFrames fs, ?_, .returned (some (.int 1)), hrun, hended, rfl, ⟨_, rfl⟩, hW, hframe⟩
  jvm_step X.here [X.here.top, hx, hb, hdg, hmeth', hr, ret, narrow_b1]
  (try refine ⟨rfl, ?_⟩); (try refine ⟨rfl, ?_⟩)
  first | (intro acts; rw [hret _ acts rfl rfl rfl]) | rw [hret _ _ rfl rfl rfl]
  exact Steps.refl _
/-- what holds at the law's entry: the machine, the code, the tables' words (any of lw_tbl by 'hts w (by decide +kernel)'), the script of L ints xs at the cell b, what the Statement gives of the start (any of its parts by flat_of_before) -/
def lw_At (p : Program) (s : State) (m : MethodId) (meth : Method) (c : Code) (b L : Nat) (xs : Nat → Int32) : Prop :=
  p.tables.exec = Jvm.exec ∧ c.code = code ∧ meth.sig.returnType = ret ∧ c.maxLocals = 8 ∧ s.vm.findClass R_law = some m.cls ∧ (∀ w ∈ lw_tbl, w.before #[Value.ref b] s = true) ∧ va_X b L xs s s.heap ∧ b < s.heap.size ∧ meth.locks = false ∧ (Jvm.Cond.and given_1 narrow_1).before #[Value.ref b] s = true
/-! THE LAW: its loop, over facts on the mirrors that are proved elsewhere (pf_..) -/
abbrev lwW (cy : Nat → ClassId) (ad am : Nat → Nat → Nat) (ao : Nat) (σ τ : ST) (o : Nat → Int64) : va_W := outc cy ao o :: (cw cy ad σ ++ mw cy am τ)
def Bud (it cs ss : Nat) (σ : ST) : Prop := cs + cntF σ ≤ 500 + it ∧ ss + 3201 * cntF σ ≤ 40000 + 6 * it
def pf_bond (R : ST → ST → Prop) : Prop := ∀ (σ τ : ST) (a1 : Int32) (a2 : Int32) (a3 : Int32) (a4 : Int32) (a5 : Int32), R σ τ → ∃ q r, mX2_bond σ a1 a2 a3 a4 a5 = some q ∧ mX3_bond τ a1 a2 a3 a4 a5 = some r ∧ q.1 = r.1 ∧ R q.2 r.2 ∧ cntF q.2 ≤ cntF σ
def pf_drop (R : ST → ST → Prop) : Prop := ∀ (σ τ : ST) (a1 : Int32), R σ τ → ∃ q r, mX2_drop σ a1 = some q ∧ mX3_drop τ a1 = some r ∧ q.1 = r.1 ∧ R q.2 r.2 ∧ cntF q.2 ≤ cntF σ
def pf_alter (R : ST → ST → Prop) : Prop := ∀ (σ τ : ST) (a1 : Int32) (a2 : Int32) (a3 : Int32), R σ τ → ∃ q r, mX2_alter σ a1 a2 a3 = some q ∧ mX3_alter τ a1 a2 a3 = some r ∧ q.1 = r.1 ∧ R q.2 r.2 ∧ cntF q.2 ≤ cntF σ
def pf_of (R : ST → ST → Prop) : Prop := ∀ (σ τ : ST) (a1 : Int32) (a2 : Int32), R σ τ → ∃ q r, mX2_of σ a1 a2 = some q ∧ mX3_of τ a1 a2 = some r ∧ gI r.2 0 0 10 = rL_of q ∧ (∀ v, q.1 = some v → Int32.toInt64 v = Int32.toInt64 r.1) ∧ R q.2 r.2 ∧ cntF q.2 ≤ cntF σ
def pf_flow (R : ST → ST → Prop) : Prop := ∀ (σ τ : ST) (a1 : Int32) (a2 : Int32), R σ τ → ∃ q r, mX2_flow σ a1 a2 = some q ∧ mX3_flow τ a1 a2 = some r ∧ q = r.1 ∧ R σ r.2
def pf_price (R : ST → ST → Prop) : Prop := ∀ (σ τ : ST) (a1 : Int32) (a2 : Int32), R σ τ → ∃ q r, mX2_price σ a1 a2 = some q ∧ mX3_price τ a1 a2 = some r ∧ q.1 = r.1 ∧ R q.2 r.2 ∧ cntF q.2 ≤ cntF σ
def pf_rateOf (R : ST → ST → Prop) : Prop := ∀ (σ τ : ST) (a1 : Int32) (a2 : Int32), R σ τ → ∃ q r, mX2_rateOf σ a1 a2 = some q ∧ mX3_rateOf τ a1 a2 = some r ∧ q.1 = r.1 ∧ R q.2 r.2 ∧ cntF q.2 ≤ cntF σ
def pf_contract (R : ST → ST → Prop) : Prop := ∀ (σ τ : ST) (a1 : Int32) (a2 : Int32) (a3 : Int32), R σ τ → ∃ q r, mX2_contract σ a1 a2 a3 = some q ∧ mX3_contract τ a1 a2 a3 = some r ∧ q.1 = r.1 ∧ R q.2 r.2 ∧ cntF q.2 ≤ cntF σ
def pf_count (R : ST → ST → Prop) : Prop := ∀ (σ τ : ST) (a1 : Int32), R σ τ → ∃ q r, mX2_count σ a1 = some q ∧ mX3_count τ a1 = some r ∧ q = r.1 ∧ R σ r.2
def pf_cheapest (R : ST → ST → Prop) : Prop := ∀ (σ τ : ST) (a1 : Int32), R σ τ → ∃ q r, mX2_cheapest σ a1 = some q ∧ mX3_cheapest τ a1 = some r ∧ q.1 = r.1 ∧ R q.2 r.2 ∧ cntF q.2 ≤ cntF σ
def pf_ranked (R : ST → ST → Prop) : Prop := ∀ (σ τ : ST) (a1 : Int32) (a2 : Int32), R σ τ → ∃ q r, mX2_ranked σ a1 a2 = some q ∧ mX3_ranked τ a1 a2 = some r ∧ q.1 = r.1 ∧ R q.2 r.2 ∧ cntF q.2 ≤ cntF σ
def pf_mark (R : ST → ST → Prop) : Prop := ∀ (σ τ : ST) (a1 : Int32), R σ τ → ∃ q r, mX2_mark σ a1 = some q ∧ mX3_mark τ a1 = some r ∧ q.1 = r.1 ∧ R q.2 r.2 ∧ cntF q.2 ≤ cntF σ
def pf_gap (R : ST → ST → Prop) : Prop := ∀ (σ τ : ST) (a1 : Int32) (a2 : Int32), R σ τ → ∃ q r, mX2_gap σ a1 a2 = some q ∧ mX3_gap τ a1 a2 = some r ∧ gI r.2 0 0 10 = rL_gap q ∧ (∀ v, q.1 = some v → v = r.1) ∧ R q.2 r.2 ∧ cntF q.2 ≤ cntF σ
def pf_switches (R : ST → ST → Prop) : Prop := ∀ (σ τ : ST) (a1 : Int32) (a2 : Int32) (a3 : Int32), R σ τ → ∃ q r n, mX2_switches σ a1 a2 a3 = some q ∧ mX3_switches τ a1 a2 a3 = some r ∧ q.1 = r.1 ∧ R q.2 r.2 ∧ swN σ a1 a2 a3 n ∧ n + cntF q.2 ≤ cntF σ
def pf_implied (R : ST → ST → Prop) : Prop := ∀ (σ τ : ST) (a1 : Int64), R σ τ → ∃ q r, mX2_implied σ a1 = some q ∧ mX3_implied τ a1 = some r ∧ q.1 = r.1 ∧ R q.2 r.2 ∧ cntF q.2 ≤ cntF σ
def pf_meet (R : ST → ST → Prop) : Prop := ∀ (σ τ : ST) (a1 : Int32) (a2 : Int32) (a3 : Int32) (a4 : Int32), R σ τ → ∃ q r, mX2_meet σ a1 a2 a3 a4 = some q ∧ mX3_meet τ a1 a2 a3 a4 = some r ∧ q.1 = r.1 ∧ R q.2 r.2 ∧ cntF q.2 ≤ cntF σ
def pf_cost (R : ST → ST → Prop) : Prop := ∀ (σ τ : ST) (a1 : Int32) (a2 : Int32) (a3 : Int32), R σ τ → ∃ q r, mX2_cost σ a1 a2 a3 = some q ∧ mX3_cost τ a1 a2 a3 = some r ∧ gI r.2 0 0 10 = rL_cost q ∧ (∀ v, q.1 = some v → v = r.1) ∧ R q.2 r.2 ∧ cntF q.2 ≤ cntF σ
def pf_tree (R : ST → ST → Prop) : Prop := ∀ (σ τ : ST) (a1 : Int32) (a2 : Int32) (a3 : Int32) (a4 : Int32) (a5 : Int32), R σ τ → ∃ q r, mX2_tree σ a1 a2 a3 a4 a5 = some q ∧ mX3_tree τ a1 a2 a3 a4 a5 = some r ∧ q.1 = r.1 ∧ R q.2 r.2 ∧ cntF q.2 ≤ cntF σ
def pf_rate (R : ST → ST → Prop) : Prop := ∀ (σ τ : ST) (a1 : Int32) (a2 : Int32), R σ τ → ∃ q r, mX2_rate σ a1 a2 = some q ∧ mX3_rate τ a1 a2 = some r ∧ q = r.1 ∧ R σ r.2
def pf_value (R : ST → ST → Prop) : Prop := ∀ (σ τ : ST) (a1 : Int32) (a2 : Int32), R σ τ → ∃ q r, mX2_value σ a1 a2 = some q ∧ mX3_value τ a1 a2 = some r ∧ gI r.2 0 0 10 = rL_value q ∧ (∀ v, q.1 = some v → v = r.1) ∧ R q.2 r.2 ∧ cntF q.2 ≤ cntF σ
def pf_act (R : ST → ST → Prop) : Prop := ∀ (σ τ : ST) (a1 : Int32) (a2 : Int32), R σ τ → ∃ q r, mX2_act σ a1 a2 = some q ∧ mX3_act τ a1 a2 = some r ∧ q.1 = r.1 ∧ R q.2 r.2 ∧ cntF q.2 ≤ cntF σ
def pf_path (R : ST → ST → Prop) : Prop := ∀ (σ τ : ST) (a1 : Int32) (a2 : Int32), R σ τ → ∃ q r, mX2_path σ a1 a2 = some q ∧ mX3_path τ a1 a2 = some r ∧ q.1 = r.1 ∧ R q.2 r.2 ∧ cntF q.2 ≤ cntF σ
def pf_often (R : ST → ST → Prop) : Prop := ∀ (σ τ : ST) (a1 : Int32), R σ τ → ∃ q r, mX2_often σ a1 = some q ∧ mX3_often τ a1 = some r ∧ q.1 = r.1 ∧ R q.2 r.2 ∧ cntF q.2 ≤ cntF σ
def pf_fixed (R : ST → ST → Prop) : Prop := ∀ (σ τ : ST) (a1 : Int32), R σ τ → ∃ q r, mX2_fixed σ a1 = some q ∧ mX3_fixed τ a1 = some r ∧ gI r.2 0 0 10 = rL_fixed q ∧ (∀ v, q.1 = some v → v = r.1) ∧ R q.2 r.2 ∧ cntF q.2 ≤ cntF σ
def pf_only (R : ST → ST → Prop) : Prop := ∀ (σ τ : ST) (a1 : Int32), R σ τ → ∃ q r, mX2_only σ a1 = some q ∧ mX3_only τ a1 = some r ∧ gI r.2 0 0 10 = rL_only q ∧ (∀ v, q.1 = some v → v = r.1) ∧ R q.2 r.2 ∧ cntF q.2 ≤ cntF σ
def pf_without (R : ST → ST → Prop) : Prop := ∀ (σ τ : ST) (a1 : Int32), R σ τ → ∃ q r, mX2_without σ a1 = some q ∧ mX3_without τ a1 = some r ∧ gI r.2 0 0 10 = rL_without q ∧ (∀ v, q.1 = some v → v = r.1) ∧ R q.2 r.2 ∧ cntF q.2 ≤ cntF σ
def pf_fair (R : ST → ST → Prop) : Prop := ∀ (σ τ : ST) , R σ τ → ∃ q r, mX2_fair σ  = some q ∧ mX3_fair τ  = some r ∧ q.1 = r.1 ∧ R q.2 r.2 ∧ cntF q.2 ≤ cntF σ
def Lx (p : Program) (l : Launch) (s : State) (m : MethodId) (meth : Method) (c : Code) (b L : Nat) (xs : Nat → Int32) (D : va_G) (cy : Nat → ClassId) : Prop :=
  p.tables.exec = Jvm.exec ∧ c.code = cL_law ∧ meth.sig.returnType = ret ∧ c.maxLocals = 8 ∧ s.vm.findClass RL = some m.cls ∧ (∀ w ∈ wsL_law, w.before #[Value.ref b] s = true) ∧ va_X b L xs s s.heap ∧ b < s.heap.size ∧ meth.locks = false ∧ zK D cy s ∧ zX s.heap.size s ∧ l.stackTraces = false
section LWR
variable {p : Program} {l : Launch} {e : Env} {R : Room} {s : State} {m : MethodId} {args : Array Value} {below : List Frame} {meth : Method} {c : Code} {H : Heap} {locs : List Loc} {cells slots : Nat} {Q : State → Prop}
variable {pc : Nat} {ls : Array Slot} {st0 : List Value} {a : Array Value} {A : Nat → Prop} {H0 : Heap} {D : va_G} {cy : Nat → ClassId} {w w' : va_W} {base : Nat} {y : MethodName} {bytes cc : ByteArray} {maxL nL n index : Nat} {ret : Option FieldType} {hh : List (Nat × Nat × Nat × Nat)} {ws : List Cond} {rm : Room} {Qc : Array Value → State → Outcome → State → Prop} {mc ms : Nat} {free : Addr → Prop} {Ts : List Cond} {own : String}
theorem zc_im {rest : List Value} {r : Int32} (hr : va_Run p l e R s m args below meth c H locs cells slots mc ms (F0 m pc ls st0) rest (zQi D w' (va_A w H.size) r a) (va_A w H.size)) (hD : va_D A w) (hS : va_S A H0 H locs) (hA : ∀ q, H0.size ≤ q → A q)
    (kk : ∀ (H1 : Heap) (locs1 : List Loc), va_P D vwCl w' H1 → va_D A w' → va_S A H0 H1 locs1 → W p l e R s m args below meth c H1 locs1 (cells + mc) (slots + ms) Q (F0 m (pc + 3) ls (.int r :: rest))) : W p l e R s m args below meth c H locs cells slots Q (F0 m pc ls st0) := by
  have hF := z_fr hD hS hA
  refine va_calli hr hS (fun q _ h => hF q h) hF (fun r' u t H1 locs1 ht hvm hw hB hz hk hS1 => ?_)
  obtain rfl : r' = r := hw
  obtain ⟨hP1, hD1⟩ := hB
  rw [ht] at hP1
  exact kk H1 locs1 hP1 (hD1.weaken (fun k q _ h => hF q.1 h)) hS1
theorem yr_SW (As : List Value) (rest : List Value) (S : CallFix p m c cc nL s args Ts own) (hM : Met l y ws rm (va_Pc As (yPre base D cy w H.size)) Qc mc ms free) (cwx : vx_CSW R s args own index y bytes maxL ret hh ws rm mc ms n) (hK : zK D cy s) (hX : zX base s) (hAb : ∀ q, A q → base ≤ q) (hbs : base ≤ s.heap.size) (hP : va_P D vwCl w H) (hD : va_D A w) (hS : va_S A s.heap H locs) (hn : As.length = n) (hsize : ls.size = nL) (hstack : st0 = As.reverse ++ rest) (hW : (rest.map fun v => v.category).sum ≤ 8) (hdg : decode cc pc = .ok (.invokestatic index, 3)) (hf : cells + mc ≤ R.cells ∧ slots + ms ≤ R.slots) :
    va_Run p l e R s m args below meth c H locs cells slots mc ms (F0 m pc ls st0) rest (Qc As.toArray) free :=
  vx_runSW S hM cwx ⟨yBlind, fun U hU hW => ⟨rfl, ⟨by rw [hU], by rw [hU]; exact hP, hK.warm hW, hD.weaken (fun _ _ _ _ => trivial)⟩, ⟨Nat.le_trans hbs hS.1, fun k q hk => hAb _ (hD.2 k q hk)⟩, hX.warm hW (fun a h1 h2 => by rw [hU]; exact hS.2.1 a h1 (fun z => h2 (hAb a z)))⟩⟩ rfl hn hsize hstack (lv_room hW) hdg hf
end LWR
set_option maxHeartbeats 4000000 in
set_option maxRecDepth 100000 in
theorem lawc_bond {R : ST → ST → Prop} (pf : pf_bond R) {p : Program} {l : Launch} {e : Env} {s : State} {m : MethodId} {below : List Frame} {meth : Method} {c : Code} {b L : Nat} {xs : Nat → Int32} {D : va_G} {cy : Nat → ClassId} (C : Lx p l s m meth c b L xs D cy) {am : Nat → Nat → Nat} {ao it cs ss : Nat} {x4 : Int32} (hin1 : vp_in (x4 + (1 : Int32)) L) (hin2 : vp_in (x4 + (2 : Int32)) L) (hin3 : vp_in (x4 + (3 : Int32)) L) (hin4 : vp_in (x4 + (4 : Int32)) L) (hin5 : vp_in (x4 + (5 : Int32)) L) (hit : it < 513) (kk : ∀ (ad : Nat → Nat → Nat) (σ τ : ST) (o : Nat → Int64) (cs ss : Nat), R σ τ → Bud (it + 1) cs ss σ → ∀ (H : Heap) (locs : List Loc), va_P D vwCl (lwW cy ad am ao σ τ o) H → va_D (fun q : Nat => s.heap.size ≤ q) (lwW cy ad am ao σ τ o) → va_S (fun q : Nat => s.heap.size ≤ q) s.heap H locs → ∀ ls : Array Slot, lv_has ls 8 [(0, .ref b), (1, .ref (ad 0 0)), (2, .ref (am 0 0)), (3, .ref ao), (4, .int (x4 + (6 : Int32)))] → W p l e room_1 s m #[Value.ref b] below meth c H locs cs ss (lw_Z below #[Value.ref b] s) (F0 m 23 ls [])) {ad : Nat → Nat → Nat} {σ τ : ST} {o : Nat → Int64} (hR : R σ τ) (hbud : Bud it cs ss σ) {H : Heap} {locs : List Loc} (hP : va_P D vwCl (lwW cy ad am ao σ τ o) H) (hD : va_D (fun q : Nat => s.heap.size ≤ q) (lwW cy ad am ao σ τ o)) (hS : va_S (fun q : Nat => s.heap.size ≤ q) s.heap H locs) {ls : Array Slot} (hl : lv_has ls 8 [(0, .ref b), (1, .ref (ad 0 0)), (2, .ref (am 0 0)), (3, .ref ao), (4, .int x4)]) : W p l e room_1 s m #[Value.ref b] below meth c H locs cs ss (lw_Z below #[Value.ref b] s) (F0 m 164 ls []) := by
  obtain ⟨hx, hb, hr, hml, hown, hts, hX, hbl, hlocks, hK, hXX, htr⟩ := id C
  have hA : ∀ q : Nat, s.heap.size ≤ q → (fun q : Nat => s.heap.size ≤ q) q := fun _ h => h
  have hbA : ¬ (fun q : Nat => s.heap.size ≤ q) b := Nat.not_le.mpr hbl
  have hcs : cs + 0 ≤ room_1.cells := by show cs + 0 ≤ 601024; unfold Bud at hbud; omega
  have hss : ss + 0 ≤ room_1.slots := by show ss + 0 ≤ 7293034; unfold Bud at hbud; omega
  refine lv_aload_n hx hb dL_law_164 rfl (lv_at hl 1 rfl) ?_
  refine lv_aload_n hx hb dL_law_165 rfl (lv_at hl 0 rfl) ?_
  refine lv_iload hx hb dL_law_166 (lv_at hl 4 rfl) ?_
  refine lv_iconst (v := 1) hx hb dL_law_168 (by decide) ?_
  refine lv_iadd hx hb dL_law_169 ?_
  refine va_sld hx hb hX hbl hbA hS hin1 dL_law_170 ?_
  refine lv_aload_n hx hb dL_law_171 rfl (lv_at hl 0 rfl) ?_
  refine lv_iload hx hb dL_law_172 (lv_at hl 4 rfl) ?_
  refine lv_iconst (v := 2) hx hb dL_law_174 (by decide) ?_
  refine lv_iadd hx hb dL_law_175 ?_
  refine va_sld hx hb hX hbl hbA hS hin2 dL_law_176 ?_
  refine lv_aload_n hx hb dL_law_177 rfl (lv_at hl 0 rfl) ?_
  refine lv_iload hx hb dL_law_178 (lv_at hl 4 rfl) ?_
  refine lv_iconst (v := 3) hx hb dL_law_180 (by decide) ?_
  refine lv_iadd hx hb dL_law_181 ?_
  refine va_sld hx hb hX hbl hbA hS hin3 dL_law_182 ?_
  refine lv_aload_n hx hb dL_law_183 rfl (lv_at hl 0 rfl) ?_
  refine lv_iload hx hb dL_law_184 (lv_at hl 4 rfl) ?_
  refine lv_iconst (v := 4) hx hb dL_law_186 (by decide) ?_
  refine lv_iadd hx hb dL_law_187 ?_
  refine va_sld hx hb hX hbl hbA hS hin4 dL_law_188 ?_
  refine lv_aload_n hx hb dL_law_189 rfl (lv_at hl 0 rfl) ?_
  refine lv_iload hx hb dL_law_190 (lv_at hl 4 rfl) ?_
  refine lv_iconst (v := 5) hx hb dL_law_192 (by decide) ?_
  refine lv_iadd hx hb dL_law_193 ?_
  refine va_sld hx hb hX hbl hbA hS hin5 dL_law_194 ?_
  obtain ⟨q, r, hq, hr9, heq, hR1, hcn⟩ := pf σ τ (xs (Int32.toNatClampNeg (x4 + (1 : Int32)))) (xs (Int32.toNatClampNeg (x4 + (2 : Int32)))) (xs (Int32.toNatClampNeg (x4 + (3 : Int32)))) (xs (Int32.toNatClampNeg (x4 + (4 : Int32)))) (xs (Int32.toNatClampNeg (x4 + (5 : Int32)))) hR
  have hP : va_P D vwCl ([outc cy ao o] ++ (cw cy ad σ ++ (mw cy am τ))) _ := hP
  have hD : va_D (fun q : Nat => s.heap.size ≤ q) ([outc cy ao o] ++ (cw cy ad σ ++ (mw cy am τ))) := hD
  refine zf_i [outc cy ao o] (mw cy am τ) (zr_V [.int (xs (Int32.toNatClampNeg (x4 + (1 : Int32)))), .int (xs (Int32.toNatClampNeg (x4 + (2 : Int32)))), .int (xs (Int32.toNatClampNeg (x4 + (3 : Int32)))), .int (xs (Int32.toNatClampNeg (x4 + (4 : Int32)))), .int (xs (Int32.toNatClampNeg (x4 + (5 : Int32))))] [] ⟨hx, hb, hml, hown, hts⟩ (ctX2_bond l D cy ad σ (xs (Int32.toNatClampNeg (x4 + (1 : Int32)))) (xs (Int32.toNatClampNeg (x4 + (2 : Int32)))) (xs (Int32.toNatClampNeg (x4 + (3 : Int32)))) (xs (Int32.toNatClampNeg (x4 + (4 : Int32)))) (xs (Int32.toNatClampNeg (x4 + (5 : Int32)))) q hq _) (cwV 5 hts gL_law_X2_bond rfl rfl rfl (by decide +kernel) ⟨Nat.le_of_ble_eq_true rfl, Nat.le_of_ble_eq_true rfl⟩) hK (z_partP hP) (z_partD hD) 0 cw_0 rfl rfl rfl hl.1 rfl (Nat.le_of_ble_eq_true rfl) dL_law_195 ⟨hcs, hss⟩) hP hD hS hA (fun H locs hP hD hS => ?_)
  refine lv_aload_n hx hb dL_law_198 rfl (lv_at hl 2 rfl) ?_
  refine lv_aload_n hx hb dL_law_199 rfl (lv_at hl 0 rfl) ?_
  refine lv_iload hx hb dL_law_200 (lv_at hl 4 rfl) ?_
  refine lv_iconst (v := 1) hx hb dL_law_202 (by decide) ?_
  refine lv_iadd hx hb dL_law_203 ?_
  refine va_sld hx hb hX hbl hbA hS hin1 dL_law_204 ?_
  refine lv_aload_n hx hb dL_law_205 rfl (lv_at hl 0 rfl) ?_
  refine lv_iload hx hb dL_law_206 (lv_at hl 4 rfl) ?_
  refine lv_iconst (v := 2) hx hb dL_law_208 (by decide) ?_
  refine lv_iadd hx hb dL_law_209 ?_
  refine va_sld hx hb hX hbl hbA hS hin2 dL_law_210 ?_
  refine lv_aload_n hx hb dL_law_211 rfl (lv_at hl 0 rfl) ?_
  refine lv_iload hx hb dL_law_212 (lv_at hl 4 rfl) ?_
  refine lv_iconst (v := 3) hx hb dL_law_214 (by decide) ?_
  refine lv_iadd hx hb dL_law_215 ?_
  refine va_sld hx hb hX hbl hbA hS hin3 dL_law_216 ?_
  refine lv_aload_n hx hb dL_law_217 rfl (lv_at hl 0 rfl) ?_
  refine lv_iload hx hb dL_law_218 (lv_at hl 4 rfl) ?_
  refine lv_iconst (v := 4) hx hb dL_law_220 (by decide) ?_
  refine lv_iadd hx hb dL_law_221 ?_
  refine va_sld hx hb hX hbl hbA hS hin4 dL_law_222 ?_
  refine lv_aload_n hx hb dL_law_223 rfl (lv_at hl 0 rfl) ?_
  refine lv_iload hx hb dL_law_224 (lv_at hl 4 rfl) ?_
  refine lv_iconst (v := 5) hx hb dL_law_226 (by decide) ?_
  refine lv_iadd hx hb dL_law_227 ?_
  refine va_sld hx hb hX hbl hbA hS hin5 dL_law_228 ?_
  have hP : va_P D vwCl (([outc cy ao o] ++ cw cy ad q.2) ++ (mw cy am τ ++ [])) _ := hP
  have hD : va_D (fun q : Nat => s.heap.size ≤ q) (([outc cy ao o] ++ cw cy ad q.2) ++ (mw cy am τ ++ [])) := hD
  refine zf_i ([outc cy ao o] ++ cw cy ad q.2) [] (zr_V [.int (xs (Int32.toNatClampNeg (x4 + (1 : Int32)))), .int (xs (Int32.toNatClampNeg (x4 + (2 : Int32)))), .int (xs (Int32.toNatClampNeg (x4 + (3 : Int32)))), .int (xs (Int32.toNatClampNeg (x4 + (4 : Int32)))), .int (xs (Int32.toNatClampNeg (x4 + (5 : Int32))))] [.int q.1] ⟨hx, hb, hml, hown, hts⟩ (ctX3_bond l D cy am τ (xs (Int32.toNatClampNeg (x4 + (1 : Int32)))) (xs (Int32.toNatClampNeg (x4 + (2 : Int32)))) (xs (Int32.toNatClampNeg (x4 + (3 : Int32)))) (xs (Int32.toNatClampNeg (x4 + (4 : Int32)))) (xs (Int32.toNatClampNeg (x4 + (5 : Int32)))) r hr9 _) (cwV 5 hts gL_law_X3_bond rfl rfl rfl (by decide +kernel) ⟨Nat.le_of_ble_eq_true rfl, Nat.le_of_ble_eq_true rfl⟩) hK (z_partP hP) (z_partD hD) 0 mw_0 rfl rfl rfl hl.1 rfl (Nat.le_of_ble_eq_true rfl) dL_law_229 ⟨hcs, hss⟩) hP hD hS hA (fun H locs hP hD hS => ?_)
  have hP : va_P D vwCl (lwW cy ad am ao q.2 r.2 o) H := hP
  have hD : va_D (fun q : Nat => s.heap.size ≤ q) (lwW cy ad am ao q.2 r.2 o) := hD
  refine lv_icmp_eq (tgt := 1435) hx hb dL_law_232 (by decide) (fun c_1 => ?_) (fun c_1 => ?_)
  · refine lv_iinc (v := (x4 + (6 : Int32))) (lv' := [(4, .int (x4 + (6 : Int32))), (0, .ref b), (1, .ref (ad 0 0)), (2, .ref (am 0 0)), (3, .ref ao)]) hx hb dL_law_1435 hl (k := 4) rfl rfl (by decide) rfl (fun ls hl => ?_)
    refine lv_goto (tgt := 23) hx hb dL_law_1438 (by decide) ?_
    exact kk ad q.2 r.2 o _ _ hR1 (by unfold Bud at hbud ⊢; omega) _ _ hP hD hS _ (lv_sub hl [1, 2, 3, 4, 0] rfl)
  · exact absurd heq c_1
set_option maxHeartbeats 4000000 in
set_option maxRecDepth 100000 in
theorem lawc_drop {R : ST → ST → Prop} (pf : pf_drop R) {p : Program} {l : Launch} {e : Env} {s : State} {m : MethodId} {below : List Frame} {meth : Method} {c : Code} {b L : Nat} {xs : Nat → Int32} {D : va_G} {cy : Nat → ClassId} (C : Lx p l s m meth c b L xs D cy) {am : Nat → Nat → Nat} {ao it cs ss : Nat} {x4 : Int32} (hin1 : vp_in (x4 + (1 : Int32)) L) (hin2 : vp_in (x4 + (2 : Int32)) L) (hin3 : vp_in (x4 + (3 : Int32)) L) (hin4 : vp_in (x4 + (4 : Int32)) L) (hin5 : vp_in (x4 + (5 : Int32)) L) (hit : it < 513) (kk : ∀ (ad : Nat → Nat → Nat) (σ τ : ST) (o : Nat → Int64) (cs ss : Nat), R σ τ → Bud (it + 1) cs ss σ → ∀ (H : Heap) (locs : List Loc), va_P D vwCl (lwW cy ad am ao σ τ o) H → va_D (fun q : Nat => s.heap.size ≤ q) (lwW cy ad am ao σ τ o) → va_S (fun q : Nat => s.heap.size ≤ q) s.heap H locs → ∀ ls : Array Slot, lv_has ls 8 [(0, .ref b), (1, .ref (ad 0 0)), (2, .ref (am 0 0)), (3, .ref ao), (4, .int (x4 + (6 : Int32)))] → W p l e room_1 s m #[Value.ref b] below meth c H locs cs ss (lw_Z below #[Value.ref b] s) (F0 m 23 ls [])) {ad : Nat → Nat → Nat} {σ τ : ST} {o : Nat → Int64} (hR : R σ τ) (hbud : Bud it cs ss σ) {H : Heap} {locs : List Loc} (hP : va_P D vwCl (lwW cy ad am ao σ τ o) H) (hD : va_D (fun q : Nat => s.heap.size ≤ q) (lwW cy ad am ao σ τ o)) (hS : va_S (fun q : Nat => s.heap.size ≤ q) s.heap H locs) {ls : Array Slot} (hl : lv_has ls 8 [(0, .ref b), (1, .ref (ad 0 0)), (2, .ref (am 0 0)), (3, .ref ao), (4, .int x4)]) : W p l e room_1 s m #[Value.ref b] below meth c H locs cs ss (lw_Z below #[Value.ref b] s) (F0 m 237 ls []) := by
  obtain ⟨hx, hb, hr, hml, hown, hts, hX, hbl, hlocks, hK, hXX, htr⟩ := id C
  have hA : ∀ q : Nat, s.heap.size ≤ q → (fun q : Nat => s.heap.size ≤ q) q := fun _ h => h
  have hbA : ¬ (fun q : Nat => s.heap.size ≤ q) b := Nat.not_le.mpr hbl
  have hcs : cs + 0 ≤ room_1.cells := by show cs + 0 ≤ 601024; unfold Bud at hbud; omega
  have hss : ss + 0 ≤ room_1.slots := by show ss + 0 ≤ 7293034; unfold Bud at hbud; omega
  refine lv_aload_n hx hb dL_law_237 rfl (lv_at hl 1 rfl) ?_
  refine lv_aload_n hx hb dL_law_238 rfl (lv_at hl 0 rfl) ?_
  refine lv_iload hx hb dL_law_239 (lv_at hl 4 rfl) ?_
  refine lv_iconst (v := 1) hx hb dL_law_241 (by decide) ?_
  refine lv_iadd hx hb dL_law_242 ?_
  refine va_sld hx hb hX hbl hbA hS hin1 dL_law_243 ?_
  obtain ⟨q, r, hq, hr9, heq, hR1, hcn⟩ := pf σ τ (xs (Int32.toNatClampNeg (x4 + (1 : Int32)))) hR
  have hP : va_P D vwCl ([outc cy ao o] ++ (cw cy ad σ ++ (mw cy am τ))) _ := hP
  have hD : va_D (fun q : Nat => s.heap.size ≤ q) ([outc cy ao o] ++ (cw cy ad σ ++ (mw cy am τ))) := hD
  refine zf_i [outc cy ao o] (mw cy am τ) (zr_V [.int (xs (Int32.toNatClampNeg (x4 + (1 : Int32))))] [] ⟨hx, hb, hml, hown, hts⟩ (ctX2_drop l D cy ad σ (xs (Int32.toNatClampNeg (x4 + (1 : Int32)))) q hq _) (cwV 1 hts gL_law_X2_drop rfl rfl rfl (by decide +kernel) ⟨Nat.le_of_ble_eq_true rfl, Nat.le_of_ble_eq_true rfl⟩) hK (z_partP hP) (z_partD hD) 0 cw_0 rfl rfl rfl hl.1 rfl (Nat.le_of_ble_eq_true rfl) dL_law_244 ⟨hcs, hss⟩) hP hD hS hA (fun H locs hP hD hS => ?_)
  refine lv_aload_n hx hb dL_law_247 rfl (lv_at hl 2 rfl) ?_
  refine lv_aload_n hx hb dL_law_248 rfl (lv_at hl 0 rfl) ?_
  refine lv_iload hx hb dL_law_249 (lv_at hl 4 rfl) ?_
  refine lv_iconst (v := 1) hx hb dL_law_251 (by decide) ?_
  refine lv_iadd hx hb dL_law_252 ?_
  refine va_sld hx hb hX hbl hbA hS hin1 dL_law_253 ?_
  have hP : va_P D vwCl (([outc cy ao o] ++ cw cy ad q.2) ++ (mw cy am τ ++ [])) _ := hP
  have hD : va_D (fun q : Nat => s.heap.size ≤ q) (([outc cy ao o] ++ cw cy ad q.2) ++ (mw cy am τ ++ [])) := hD
  refine zf_i ([outc cy ao o] ++ cw cy ad q.2) [] (zr_V [.int (xs (Int32.toNatClampNeg (x4 + (1 : Int32))))] [.int q.1] ⟨hx, hb, hml, hown, hts⟩ (ctX3_drop l D cy am τ (xs (Int32.toNatClampNeg (x4 + (1 : Int32)))) r hr9 _) (cwV 1 hts gL_law_X3_drop rfl rfl rfl (by decide +kernel) ⟨Nat.le_of_ble_eq_true rfl, Nat.le_of_ble_eq_true rfl⟩) hK (z_partP hP) (z_partD hD) 0 mw_0 rfl rfl rfl hl.1 rfl (Nat.le_of_ble_eq_true rfl) dL_law_254 ⟨hcs, hss⟩) hP hD hS hA (fun H locs hP hD hS => ?_)
  have hP : va_P D vwCl (lwW cy ad am ao q.2 r.2 o) H := hP
  have hD : va_D (fun q : Nat => s.heap.size ≤ q) (lwW cy ad am ao q.2 r.2 o) := hD
  refine lv_icmp_eq (tgt := 1435) hx hb dL_law_257 (by decide) (fun c_1 => ?_) (fun c_1 => ?_)
  · refine lv_iinc (v := (x4 + (6 : Int32))) (lv' := [(4, .int (x4 + (6 : Int32))), (0, .ref b), (1, .ref (ad 0 0)), (2, .ref (am 0 0)), (3, .ref ao)]) hx hb dL_law_1435 hl (k := 4) rfl rfl (by decide) rfl (fun ls hl => ?_)
    refine lv_goto (tgt := 23) hx hb dL_law_1438 (by decide) ?_
    exact kk ad q.2 r.2 o _ _ hR1 (by unfold Bud at hbud ⊢; omega) _ _ hP hD hS _ (lv_sub hl [1, 2, 3, 4, 0] rfl)
  · exact absurd heq c_1
set_option maxHeartbeats 4000000 in
set_option maxRecDepth 100000 in
theorem lawc_alter {R : ST → ST → Prop} (pf : pf_alter R) {p : Program} {l : Launch} {e : Env} {s : State} {m : MethodId} {below : List Frame} {meth : Method} {c : Code} {b L : Nat} {xs : Nat → Int32} {D : va_G} {cy : Nat → ClassId} (C : Lx p l s m meth c b L xs D cy) {am : Nat → Nat → Nat} {ao it cs ss : Nat} {x4 : Int32} (hin1 : vp_in (x4 + (1 : Int32)) L) (hin2 : vp_in (x4 + (2 : Int32)) L) (hin3 : vp_in (x4 + (3 : Int32)) L) (hin4 : vp_in (x4 + (4 : Int32)) L) (hin5 : vp_in (x4 + (5 : Int32)) L) (hit : it < 513) (kk : ∀ (ad : Nat → Nat → Nat) (σ τ : ST) (o : Nat → Int64) (cs ss : Nat), R σ τ → Bud (it + 1) cs ss σ → ∀ (H : Heap) (locs : List Loc), va_P D vwCl (lwW cy ad am ao σ τ o) H → va_D (fun q : Nat => s.heap.size ≤ q) (lwW cy ad am ao σ τ o) → va_S (fun q : Nat => s.heap.size ≤ q) s.heap H locs → ∀ ls : Array Slot, lv_has ls 8 [(0, .ref b), (1, .ref (ad 0 0)), (2, .ref (am 0 0)), (3, .ref ao), (4, .int (x4 + (6 : Int32)))] → W p l e room_1 s m #[Value.ref b] below meth c H locs cs ss (lw_Z below #[Value.ref b] s) (F0 m 23 ls [])) {ad : Nat → Nat → Nat} {σ τ : ST} {o : Nat → Int64} (hR : R σ τ) (hbud : Bud it cs ss σ) {H : Heap} {locs : List Loc} (hP : va_P D vwCl (lwW cy ad am ao σ τ o) H) (hD : va_D (fun q : Nat => s.heap.size ≤ q) (lwW cy ad am ao σ τ o)) (hS : va_S (fun q : Nat => s.heap.size ≤ q) s.heap H locs) {ls : Array Slot} (hl : lv_has ls 8 [(0, .ref b), (1, .ref (ad 0 0)), (2, .ref (am 0 0)), (3, .ref ao), (4, .int x4)]) : W p l e room_1 s m #[Value.ref b] below meth c H locs cs ss (lw_Z below #[Value.ref b] s) (F0 m 262 ls []) := by
  obtain ⟨hx, hb, hr, hml, hown, hts, hX, hbl, hlocks, hK, hXX, htr⟩ := id C
  have hA : ∀ q : Nat, s.heap.size ≤ q → (fun q : Nat => s.heap.size ≤ q) q := fun _ h => h
  have hbA : ¬ (fun q : Nat => s.heap.size ≤ q) b := Nat.not_le.mpr hbl
  have hcs : cs + 0 ≤ room_1.cells := by show cs + 0 ≤ 601024; unfold Bud at hbud; omega
  have hss : ss + 0 ≤ room_1.slots := by show ss + 0 ≤ 7293034; unfold Bud at hbud; omega
  refine lv_aload_n hx hb dL_law_262 rfl (lv_at hl 1 rfl) ?_
  refine lv_aload_n hx hb dL_law_263 rfl (lv_at hl 0 rfl) ?_
  refine lv_iload hx hb dL_law_264 (lv_at hl 4 rfl) ?_
  refine lv_iconst (v := 1) hx hb dL_law_266 (by decide) ?_
  refine lv_iadd hx hb dL_law_267 ?_
  refine va_sld hx hb hX hbl hbA hS hin1 dL_law_268 ?_
  refine lv_aload_n hx hb dL_law_269 rfl (lv_at hl 0 rfl) ?_
  refine lv_iload hx hb dL_law_270 (lv_at hl 4 rfl) ?_
  refine lv_iconst (v := 2) hx hb dL_law_272 (by decide) ?_
  refine lv_iadd hx hb dL_law_273 ?_
  refine va_sld hx hb hX hbl hbA hS hin2 dL_law_274 ?_
  refine lv_aload_n hx hb dL_law_275 rfl (lv_at hl 0 rfl) ?_
  refine lv_iload hx hb dL_law_276 (lv_at hl 4 rfl) ?_
  refine lv_iconst (v := 3) hx hb dL_law_278 (by decide) ?_
  refine lv_iadd hx hb dL_law_279 ?_
  refine va_sld hx hb hX hbl hbA hS hin3 dL_law_280 ?_
  obtain ⟨q, r, hq, hr9, heq, hR1, hcn⟩ := pf σ τ (xs (Int32.toNatClampNeg (x4 + (1 : Int32)))) (xs (Int32.toNatClampNeg (x4 + (2 : Int32)))) (xs (Int32.toNatClampNeg (x4 + (3 : Int32)))) hR
  have hP : va_P D vwCl ([outc cy ao o] ++ (cw cy ad σ ++ (mw cy am τ))) _ := hP
  have hD : va_D (fun q : Nat => s.heap.size ≤ q) ([outc cy ao o] ++ (cw cy ad σ ++ (mw cy am τ))) := hD
  refine zf_i [outc cy ao o] (mw cy am τ) (zr_V [.int (xs (Int32.toNatClampNeg (x4 + (1 : Int32)))), .int (xs (Int32.toNatClampNeg (x4 + (2 : Int32)))), .int (xs (Int32.toNatClampNeg (x4 + (3 : Int32))))] [] ⟨hx, hb, hml, hown, hts⟩ (ctX2_alter l D cy ad σ (xs (Int32.toNatClampNeg (x4 + (1 : Int32)))) (xs (Int32.toNatClampNeg (x4 + (2 : Int32)))) (xs (Int32.toNatClampNeg (x4 + (3 : Int32)))) q hq _) (cwV 3 hts gL_law_X2_alter rfl rfl rfl (by decide +kernel) ⟨Nat.le_of_ble_eq_true rfl, Nat.le_of_ble_eq_true rfl⟩) hK (z_partP hP) (z_partD hD) 0 cw_0 rfl rfl rfl hl.1 rfl (Nat.le_of_ble_eq_true rfl) dL_law_281 ⟨hcs, hss⟩) hP hD hS hA (fun H locs hP hD hS => ?_)
  refine lv_aload_n hx hb dL_law_284 rfl (lv_at hl 2 rfl) ?_
  refine lv_aload_n hx hb dL_law_285 rfl (lv_at hl 0 rfl) ?_
  refine lv_iload hx hb dL_law_286 (lv_at hl 4 rfl) ?_
  refine lv_iconst (v := 1) hx hb dL_law_288 (by decide) ?_
  refine lv_iadd hx hb dL_law_289 ?_
  refine va_sld hx hb hX hbl hbA hS hin1 dL_law_290 ?_
  refine lv_aload_n hx hb dL_law_291 rfl (lv_at hl 0 rfl) ?_
  refine lv_iload hx hb dL_law_292 (lv_at hl 4 rfl) ?_
  refine lv_iconst (v := 2) hx hb dL_law_294 (by decide) ?_
  refine lv_iadd hx hb dL_law_295 ?_
  refine va_sld hx hb hX hbl hbA hS hin2 dL_law_296 ?_
  refine lv_aload_n hx hb dL_law_297 rfl (lv_at hl 0 rfl) ?_
  refine lv_iload hx hb dL_law_298 (lv_at hl 4 rfl) ?_
  refine lv_iconst (v := 3) hx hb dL_law_300 (by decide) ?_
  refine lv_iadd hx hb dL_law_301 ?_
  refine va_sld hx hb hX hbl hbA hS hin3 dL_law_302 ?_
  have hP : va_P D vwCl (([outc cy ao o] ++ cw cy ad q.2) ++ (mw cy am τ ++ [])) _ := hP
  have hD : va_D (fun q : Nat => s.heap.size ≤ q) (([outc cy ao o] ++ cw cy ad q.2) ++ (mw cy am τ ++ [])) := hD
  refine zf_i ([outc cy ao o] ++ cw cy ad q.2) [] (zr_V [.int (xs (Int32.toNatClampNeg (x4 + (1 : Int32)))), .int (xs (Int32.toNatClampNeg (x4 + (2 : Int32)))), .int (xs (Int32.toNatClampNeg (x4 + (3 : Int32))))] [.int q.1] ⟨hx, hb, hml, hown, hts⟩ (ctX3_alter l D cy am τ (xs (Int32.toNatClampNeg (x4 + (1 : Int32)))) (xs (Int32.toNatClampNeg (x4 + (2 : Int32)))) (xs (Int32.toNatClampNeg (x4 + (3 : Int32)))) r hr9 _) (cwV 3 hts gL_law_X3_alter rfl rfl rfl (by decide +kernel) ⟨Nat.le_of_ble_eq_true rfl, Nat.le_of_ble_eq_true rfl⟩) hK (z_partP hP) (z_partD hD) 0 mw_0 rfl rfl rfl hl.1 rfl (Nat.le_of_ble_eq_true rfl) dL_law_303 ⟨hcs, hss⟩) hP hD hS hA (fun H locs hP hD hS => ?_)
  have hP : va_P D vwCl (lwW cy ad am ao q.2 r.2 o) H := hP
  have hD : va_D (fun q : Nat => s.heap.size ≤ q) (lwW cy ad am ao q.2 r.2 o) := hD
  refine lv_icmp_eq (tgt := 1435) hx hb dL_law_306 (by decide) (fun c_1 => ?_) (fun c_1 => ?_)
  · refine lv_iinc (v := (x4 + (6 : Int32))) (lv' := [(4, .int (x4 + (6 : Int32))), (0, .ref b), (1, .ref (ad 0 0)), (2, .ref (am 0 0)), (3, .ref ao)]) hx hb dL_law_1435 hl (k := 4) rfl rfl (by decide) rfl (fun ls hl => ?_)
    refine lv_goto (tgt := 23) hx hb dL_law_1438 (by decide) ?_
    exact kk ad q.2 r.2 o _ _ hR1 (by unfold Bud at hbud ⊢; omega) _ _ hP hD hS _ (lv_sub hl [1, 2, 3, 4, 0] rfl)
  · exact absurd heq c_1
theorem otof {q : Option Int32 × ST} {r : Int32 × ST} {o : Nat → Int64} (h : ∀ v, q.1 = some v → Int32.toInt64 v = Int32.toInt64 r.1) (h0 : rL_of q = 0) : (oL_of q o) (Int32.toNatClampNeg (0 : Int32)) = Int32.toInt64 r.1 := by
  unfold rL_of at h0
  unfold oL_of
  cases hq : q.1 with
  | none => rw [hq] at h0; exact absurd h0 (by decide)
  | some v => rw [← h v hq]; simp [vp_updL]
set_option maxHeartbeats 4000000 in
set_option maxRecDepth 100000 in
theorem lawc_of {R : ST → ST → Prop} (pf : pf_of R) {p : Program} {l : Launch} {e : Env} {s : State} {m : MethodId} {below : List Frame} {meth : Method} {c : Code} {b L : Nat} {xs : Nat → Int32} {D : va_G} {cy : Nat → ClassId} (C : Lx p l s m meth c b L xs D cy) {am : Nat → Nat → Nat} {ao it cs ss : Nat} {x4 : Int32} (hin1 : vp_in (x4 + (1 : Int32)) L) (hin2 : vp_in (x4 + (2 : Int32)) L) (hin3 : vp_in (x4 + (3 : Int32)) L) (hin4 : vp_in (x4 + (4 : Int32)) L) (hin5 : vp_in (x4 + (5 : Int32)) L) (hit : it < 513) (kk : ∀ (ad : Nat → Nat → Nat) (σ τ : ST) (o : Nat → Int64) (cs ss : Nat), R σ τ → Bud (it + 1) cs ss σ → ∀ (H : Heap) (locs : List Loc), va_P D vwCl (lwW cy ad am ao σ τ o) H → va_D (fun q : Nat => s.heap.size ≤ q) (lwW cy ad am ao σ τ o) → va_S (fun q : Nat => s.heap.size ≤ q) s.heap H locs → ∀ ls : Array Slot, lv_has ls 8 [(0, .ref b), (1, .ref (ad 0 0)), (2, .ref (am 0 0)), (3, .ref ao), (4, .int (x4 + (6 : Int32)))] → W p l e room_1 s m #[Value.ref b] below meth c H locs cs ss (lw_Z below #[Value.ref b] s) (F0 m 23 ls [])) {ad : Nat → Nat → Nat} {σ τ : ST} {o : Nat → Int64} (hR : R σ τ) (hbud : Bud it cs ss σ) {H : Heap} {locs : List Loc} (hP : va_P D vwCl (lwW cy ad am ao σ τ o) H) (hD : va_D (fun q : Nat => s.heap.size ≤ q) (lwW cy ad am ao σ τ o)) (hS : va_S (fun q : Nat => s.heap.size ≤ q) s.heap H locs) {ls : Array Slot} (hl : lv_has ls 8 [(0, .ref b), (1, .ref (ad 0 0)), (2, .ref (am 0 0)), (3, .ref ao), (4, .int x4)]) : W p l e room_1 s m #[Value.ref b] below meth c H locs cs ss (lw_Z below #[Value.ref b] s) (F0 m 311 ls []) := by
  obtain ⟨hx, hb, hr, hml, hown, hts, hX, hbl, hlocks, hK, hXX, htr⟩ := id C
  have hA : ∀ q : Nat, s.heap.size ≤ q → (fun q : Nat => s.heap.size ≤ q) q := fun _ h => h
  have hbA : ¬ (fun q : Nat => s.heap.size ≤ q) b := Nat.not_le.mpr hbl
  have hcs : cs + 0 ≤ room_1.cells := by show cs + 0 ≤ 601024; unfold Bud at hbud; omega
  have hss : ss + 0 ≤ room_1.slots := by show ss + 0 ≤ 7293034; unfold Bud at hbud; omega
  refine lv_aload_n hx hb dL_law_311 rfl (lv_at hl 1 rfl) ?_
  refine lv_aload_n hx hb dL_law_312 rfl (lv_at hl 0 rfl) ?_
  refine lv_iload hx hb dL_law_313 (lv_at hl 4 rfl) ?_
  refine lv_iconst (v := 1) hx hb dL_law_315 (by decide) ?_
  refine lv_iadd hx hb dL_law_316 ?_
  refine va_sld hx hb hX hbl hbA hS hin1 dL_law_317 ?_
  refine lv_aload_n hx hb dL_law_318 rfl (lv_at hl 0 rfl) ?_
  refine lv_iload hx hb dL_law_319 (lv_at hl 4 rfl) ?_
  refine lv_iconst (v := 2) hx hb dL_law_321 (by decide) ?_
  refine lv_iadd hx hb dL_law_322 ?_
  refine va_sld hx hb hX hbl hbA hS hin2 dL_law_323 ?_
  refine lv_aload_n hx hb dL_law_324 rfl (lv_at hl 3 rfl) ?_
  obtain ⟨q, r, hq, hr9, hth, heq, hR1, hcn⟩ := pf σ τ (xs (Int32.toNatClampNeg (x4 + (1 : Int32)))) (xs (Int32.toNatClampNeg (x4 + (2 : Int32)))) hR
  refine zc_im (yr_SW [.ref (ad 0 0), .int (xs (Int32.toNatClampNeg (x4 + (1 : Int32)))), .int (xs (Int32.toNatClampNeg (x4 + (2 : Int32)))), .ref ao] [] ⟨hx, hb, hml, hown, hts⟩ (ctL_of l htr s.heap.size D cy ad (mw cy am τ) ao o σ (xs (Int32.toNatClampNeg (x4 + (1 : Int32)))) (xs (Int32.toNatClampNeg (x4 + (2 : Int32)))) q hq _) (vx_cwSW 4 hts gL_law_L_of rfl rfl rfl (by decide +kernel) ⟨Nat.le_of_ble_eq_true rfl, Nat.le_of_ble_eq_true rfl⟩) hK hXX (fun _ h => h) (Nat.le_refl _) hP hD hS rfl hl.1 rfl (Nat.le_of_ble_eq_true rfl) dL_law_325 ⟨by show cs + 1 ≤ 601024; unfold Bud at hbud; omega, by show ss + 6 ≤ 7293034; unfold Bud at hbud; omega⟩) hD hS hA (fun H locs hP hD hS => ?_)
  have hcs : cs + 1 + 0 ≤ room_1.cells := by show cs + 1 + 0 ≤ 601024; unfold Bud at hbud; omega
  have hss : ss + 6 + 0 ≤ room_1.slots := by show ss + 6 + 0 ≤ 7293034; unfold Bud at hbud; omega
  refine lv_istore (lv' := [(5, .int (rL_of q)), (0, .ref b), (1, .ref (ad 0 0)), (2, .ref (am 0 0)), (3, .ref ao), (4, .int x4)]) hx hb dL_law_328 hl (by decide) rfl (fun ls hl => ?_)
  refine lv_aload_n hx hb dL_law_330 rfl (lv_at hl 3 rfl) ?_
  refine lv_aload_n hx hb dL_law_331 rfl (lv_at hl 1 rfl) ?_
  refine lv_iload hx hb dL_law_332 (lv_at hl 5 rfl) ?_
  refine lv_iconst (v := 1) hx hb dL_law_334 (by decide) ?_
  refine lv_iadd hx hb dL_law_335 ?_
  refine va_sld hx hb hX hbl hbA hS hin1 dL_law_336 ?_
  refine lv_aload_n hx hb dL_law_337 rfl (lv_at hl 1 rfl) ?_
  refine lv_iload hx hb dL_law_338 (lv_at hl 5 rfl) ?_
  refine lv_iconst (v := 2) hx hb dL_law_340 (by decide) ?_
  refine lv_iadd hx hb dL_law_341 ?_
  refine va_sld hx hb hX hbl hbA hS hin2 dL_law_342 ?_
  have hP : va_P D vwCl (([outc cy ao (oL_of q o)] ++ cw cy ad q.2) ++ (mw cy am τ ++ [])) _ := hP
  have hD : va_D (fun q : Nat => s.heap.size ≤ q) (([outc cy ao (oL_of q o)] ++ cw cy ad q.2) ++ (mw cy am τ ++ [])) := hD
  refine zf_i ([outc cy ao (oL_of q o)] ++ cw cy ad q.2) [] (zr_V [.int (xs (Int32.toNatClampNeg (x4 + (1 : Int32)))), .int (xs (Int32.toNatClampNeg (x4 + (2 : Int32))))] [] ⟨hx, hb, hml, hown, hts⟩ (ctX3_of l D cy am τ (xs (Int32.toNatClampNeg (x4 + (1 : Int32)))) (xs (Int32.toNatClampNeg (x4 + (2 : Int32)))) r hr9 _) (cwV 2 hts gL_law_X3_of rfl rfl rfl (by decide +kernel) ⟨Nat.le_of_ble_eq_true rfl, Nat.le_of_ble_eq_true rfl⟩) hK (z_partP hP) (z_partD hD) 0 mw_0 rfl rfl rfl hl.1 rfl (Nat.le_of_ble_eq_true rfl) dL_law_343 ⟨hcs, hss⟩) hP hD hS hA (fun H locs hP hD hS => ?_)
  have hP : va_P D vwCl (lwW cy ad am ao q.2 r.2 (oL_of q o)) H := hP
  have hD : va_D (fun q : Nat => s.heap.size ≤ q) (lwW cy ad am ao q.2 r.2 (oL_of q o)) := hD
  refine lv_istore (lv' := [(6, .int r.1), (5, .int (rL_of q)), (0, .ref b), (1, .ref (ad 0 0)), (2, .ref (am 0 0)), (3, .ref ao), (4, .int x4)]) hx hb dL_law_346 hl (by decide) rfl (fun ls hl => ?_)
  refine lv_aload_n hx hb dL_law_348 rfl (lv_at hl 4 rfl) ?_
  have hP : va_P D vwCl (([outc cy ao (oL_of q o)] ++ cw cy ad q.2) ++ (mw cy am r.2 ++ [])) _ := hP
  have hD : va_D (fun q : Nat => s.heap.size ≤ q) (([outc cy ao (oL_of q o)] ++ cw cy ad q.2) ++ (mw cy am r.2 ++ [])) := hD
  refine zf_i ([outc cy ao (oL_of q o)] ++ cw cy ad q.2) [] (zr_V [] [] ⟨hx, hb, hml, hown, hts⟩ (ctX3_thrown l D cy am r.2 (gI r.2 0 0 10) rfl _) (cwV 0 hts gL_law_X3_thrown rfl rfl rfl (by decide +kernel) ⟨Nat.le_of_ble_eq_true rfl, Nat.le_of_ble_eq_true rfl⟩) hK (z_partP hP) (z_partD hD) 0 mw_0 rfl rfl rfl hl.1 rfl (Nat.le_of_ble_eq_true rfl) dL_law_349 ⟨hcs, hss⟩) hP hD hS hA (fun H locs hP hD hS => ?_)
  have hP : va_P D vwCl (lwW cy ad am ao q.2 r.2 (oL_of q o)) H := hP
  have hD : va_D (fun q : Nat => s.heap.size ≤ q) (lwW cy ad am ao q.2 r.2 (oL_of q o)) := hD
  refine lv_iload hx hb dL_law_352 (lv_at hl 1 rfl) ?_
  refine lv_icmp_eq (tgt := 359) hx hb dL_law_354 (by decide) (fun c_1 => ?_) (fun c_1 => ?_)
  · refine lv_iload hx hb dL_law_359 (lv_at hl 1 rfl) ?_
    refine lv_if_ne (tgt := 376) hx hb dL_law_361 (by decide) (fun c_2 => ?_) (fun c_2 => ?_)
    · refine lv_goto (tgt := 1435) hx hb dL_law_376 (by decide) ?_
      refine lv_iinc (v := (x4 + (6 : Int32))) (lv' := [(4, .int (x4 + (6 : Int32))), (6, .int r.1), (5, .int (rL_of q)), (0, .ref b), (1, .ref (ad 0 0)), (2, .ref (am 0 0)), (3, .ref ao)]) hx hb dL_law_1435 hl (k := 6) rfl rfl (by decide) rfl (fun ls hl => ?_)
      refine lv_goto (tgt := 23) hx hb dL_law_1438 (by decide) ?_
      exact kk ad q.2 r.2 (oL_of q o) _ _ hR1 (by unfold Bud at hbud ⊢; omega) _ _ hP hD hS _ (lv_sub hl [3, 4, 5, 6, 0] rfl)
    · refine lv_aload_n hx hb dL_law_364 rfl (lv_at hl 5 rfl) ?_
      refine lv_iconst (v := 0) hx hb dL_law_365 (by decide) ?_
      refine va_lald hx hb hK.1 hP 0 1 rfl rfl (inb_vp (by decide)) dL_law_366 ?_
      refine lv_iload hx hb dL_law_367 (lv_at hl 0 rfl) ?_
      refine lv_i2l hx hb dL_law_369 rfl ?_
      refine W.lcmp hx hb dL_law_370 ?_
      refine lv_if_eq (tgt := 376) hx hb dL_law_371 (by decide) (fun c_3 => ?_) (fun c_3 => ?_)
      · refine lv_goto (tgt := 1435) hx hb dL_law_376 (by decide) ?_
        refine lv_iinc (v := (x4 + (6 : Int32))) (lv' := [(4, .int (x4 + (6 : Int32))), (6, .int r.1), (5, .int (rL_of q)), (0, .ref b), (1, .ref (ad 0 0)), (2, .ref (am 0 0)), (3, .ref ao)]) hx hb dL_law_1435 hl (k := 6) rfl rfl (by decide) rfl (fun ls hl => ?_)
        refine lv_goto (tgt := 23) hx hb dL_law_1438 (by decide) ?_
        exact kk ad q.2 r.2 (oL_of q o) _ _ hR1 (by unfold Bud at hbud ⊢; omega) _ _ hP hD hS _ (lv_sub hl [3, 4, 5, 6, 0] rfl)
      · exact absurd ((lg_cmp_eq _ _).mpr (otof heq c_2)) c_3
  · exact absurd hth c_1
set_option maxHeartbeats 4000000 in
set_option maxRecDepth 100000 in
theorem lawc_flow {R : ST → ST → Prop} (pf : pf_flow R) {p : Program} {l : Launch} {e : Env} {s : State} {m : MethodId} {below : List Frame} {meth : Method} {c : Code} {b L : Nat} {xs : Nat → Int32} {D : va_G} {cy : Nat → ClassId} (C : Lx p l s m meth c b L xs D cy) {am : Nat → Nat → Nat} {ao it cs ss : Nat} {x4 : Int32} (hin1 : vp_in (x4 + (1 : Int32)) L) (hin2 : vp_in (x4 + (2 : Int32)) L) (hin3 : vp_in (x4 + (3 : Int32)) L) (hin4 : vp_in (x4 + (4 : Int32)) L) (hin5 : vp_in (x4 + (5 : Int32)) L) (hit : it < 513) (kk : ∀ (ad : Nat → Nat → Nat) (σ τ : ST) (o : Nat → Int64) (cs ss : Nat), R σ τ → Bud (it + 1) cs ss σ → ∀ (H : Heap) (locs : List Loc), va_P D vwCl (lwW cy ad am ao σ τ o) H → va_D (fun q : Nat => s.heap.size ≤ q) (lwW cy ad am ao σ τ o) → va_S (fun q : Nat => s.heap.size ≤ q) s.heap H locs → ∀ ls : Array Slot, lv_has ls 8 [(0, .ref b), (1, .ref (ad 0 0)), (2, .ref (am 0 0)), (3, .ref ao), (4, .int (x4 + (6 : Int32)))] → W p l e room_1 s m #[Value.ref b] below meth c H locs cs ss (lw_Z below #[Value.ref b] s) (F0 m 23 ls [])) {ad : Nat → Nat → Nat} {σ τ : ST} {o : Nat → Int64} (hR : R σ τ) (hbud : Bud it cs ss σ) {H : Heap} {locs : List Loc} (hP : va_P D vwCl (lwW cy ad am ao σ τ o) H) (hD : va_D (fun q : Nat => s.heap.size ≤ q) (lwW cy ad am ao σ τ o)) (hS : va_S (fun q : Nat => s.heap.size ≤ q) s.heap H locs) {ls : Array Slot} (hl : lv_has ls 8 [(0, .ref b), (1, .ref (ad 0 0)), (2, .ref (am 0 0)), (3, .ref ao), (4, .int x4)]) : W p l e room_1 s m #[Value.ref b] below meth c H locs cs ss (lw_Z below #[Value.ref b] s) (F0 m 379 ls []) := by
  obtain ⟨hx, hb, hr, hml, hown, hts, hX, hbl, hlocks, hK, hXX, htr⟩ := id C
  have hA : ∀ q : Nat, s.heap.size ≤ q → (fun q : Nat => s.heap.size ≤ q) q := fun _ h => h
  have hbA : ¬ (fun q : Nat => s.heap.size ≤ q) b := Nat.not_le.mpr hbl
  have hcs : cs + 0 ≤ room_1.cells := by show cs + 0 ≤ 601024; unfold Bud at hbud; omega
  have hss : ss + 0 ≤ room_1.slots := by show ss + 0 ≤ 7293034; unfold Bud at hbud; omega
  refine lv_aload_n hx hb dL_law_379 rfl (lv_at hl 1 rfl) ?_
  refine lv_aload_n hx hb dL_law_380 rfl (lv_at hl 0 rfl) ?_
  refine lv_iload hx hb dL_law_381 (lv_at hl 4 rfl) ?_
  refine lv_iconst (v := 1) hx hb dL_law_383 (by decide) ?_
  refine lv_iadd hx hb dL_law_384 ?_
  refine va_sld hx hb hX hbl hbA hS hin1 dL_law_385 ?_
  refine lv_aload_n hx hb dL_law_386 rfl (lv_at hl 0 rfl) ?_
  refine lv_iload hx hb dL_law_387 (lv_at hl 4 rfl) ?_
  refine lv_iconst (v := 2) hx hb dL_law_389 (by decide) ?_
  refine lv_iadd hx hb dL_law_390 ?_
  refine va_sld hx hb hX hbl hbA hS hin2 dL_law_391 ?_
  obtain ⟨q, r, hq, hr9, heq, hR1⟩ := pf σ τ (xs (Int32.toNatClampNeg (x4 + (1 : Int32)))) (xs (Int32.toNatClampNeg (x4 + (2 : Int32)))) hR
  have hP : va_P D vwCl ([outc cy ao o] ++ (cw cy ad σ ++ (mw cy am τ))) _ := hP
  have hD : va_D (fun q : Nat => s.heap.size ≤ q) ([outc cy ao o] ++ (cw cy ad σ ++ (mw cy am τ))) := hD
  refine zf_i [outc cy ao o] (mw cy am τ) (zr_V [.int (xs (Int32.toNatClampNeg (x4 + (1 : Int32)))), .int (xs (Int32.toNatClampNeg (x4 + (2 : Int32))))] [] ⟨hx, hb, hml, hown, hts⟩ (ctX2_flow l D cy ad σ (xs (Int32.toNatClampNeg (x4 + (1 : Int32)))) (xs (Int32.toNatClampNeg (x4 + (2 : Int32)))) q hq _) (cwV 2 hts gL_law_X2_flow rfl rfl rfl (by decide +kernel) ⟨Nat.le_of_ble_eq_true rfl, Nat.le_of_ble_eq_true rfl⟩) hK (z_partP hP) (z_partD hD) 0 cw_0 rfl rfl rfl hl.1 rfl (Nat.le_of_ble_eq_true rfl) dL_law_392 ⟨hcs, hss⟩) hP hD hS hA (fun H locs hP hD hS => ?_)
  refine lv_aload_n hx hb dL_law_395 rfl (lv_at hl 2 rfl) ?_
  refine lv_aload_n hx hb dL_law_396 rfl (lv_at hl 0 rfl) ?_
  refine lv_iload hx hb dL_law_397 (lv_at hl 4 rfl) ?_
  refine lv_iconst (v := 1) hx hb dL_law_399 (by decide) ?_
  refine lv_iadd hx hb dL_law_400 ?_
  refine va_sld hx hb hX hbl hbA hS hin1 dL_law_401 ?_
  refine lv_aload_n hx hb dL_law_402 rfl (lv_at hl 0 rfl) ?_
  refine lv_iload hx hb dL_law_403 (lv_at hl 4 rfl) ?_
  refine lv_iconst (v := 2) hx hb dL_law_405 (by decide) ?_
  refine lv_iadd hx hb dL_law_406 ?_
  refine va_sld hx hb hX hbl hbA hS hin2 dL_law_407 ?_
  have hP : va_P D vwCl (([outc cy ao o] ++ cw cy ad σ) ++ (mw cy am τ ++ [])) _ := hP
  have hD : va_D (fun q : Nat => s.heap.size ≤ q) (([outc cy ao o] ++ cw cy ad σ) ++ (mw cy am τ ++ [])) := hD
  refine zf_i ([outc cy ao o] ++ cw cy ad σ) [] (zr_V [.int (xs (Int32.toNatClampNeg (x4 + (1 : Int32)))), .int (xs (Int32.toNatClampNeg (x4 + (2 : Int32))))] [.int q] ⟨hx, hb, hml, hown, hts⟩ (ctX3_flow l D cy am τ (xs (Int32.toNatClampNeg (x4 + (1 : Int32)))) (xs (Int32.toNatClampNeg (x4 + (2 : Int32)))) r hr9 _) (cwV 2 hts gL_law_X3_flow rfl rfl rfl (by decide +kernel) ⟨Nat.le_of_ble_eq_true rfl, Nat.le_of_ble_eq_true rfl⟩) hK (z_partP hP) (z_partD hD) 0 mw_0 rfl rfl rfl hl.1 rfl (Nat.le_of_ble_eq_true rfl) dL_law_408 ⟨hcs, hss⟩) hP hD hS hA (fun H locs hP hD hS => ?_)
  have hP : va_P D vwCl (lwW cy ad am ao σ r.2 o) H := hP
  have hD : va_D (fun q : Nat => s.heap.size ≤ q) (lwW cy ad am ao σ r.2 o) := hD
  refine lv_icmp_eq (tgt := 1435) hx hb dL_law_411 (by decide) (fun c_1 => ?_) (fun c_1 => ?_)
  · refine lv_iinc (v := (x4 + (6 : Int32))) (lv' := [(4, .int (x4 + (6 : Int32))), (0, .ref b), (1, .ref (ad 0 0)), (2, .ref (am 0 0)), (3, .ref ao)]) hx hb dL_law_1435 hl (k := 4) rfl rfl (by decide) rfl (fun ls hl => ?_)
    refine lv_goto (tgt := 23) hx hb dL_law_1438 (by decide) ?_
    exact kk ad σ r.2 o _ _ hR1 (by unfold Bud at hbud ⊢; omega) _ _ hP hD hS _ (lv_sub hl [1, 2, 3, 4, 0] rfl)
  · exact absurd heq c_1
set_option maxHeartbeats 4000000 in
set_option maxRecDepth 100000 in
theorem lawc_price {R : ST → ST → Prop} (pf : pf_price R) {p : Program} {l : Launch} {e : Env} {s : State} {m : MethodId} {below : List Frame} {meth : Method} {c : Code} {b L : Nat} {xs : Nat → Int32} {D : va_G} {cy : Nat → ClassId} (C : Lx p l s m meth c b L xs D cy) {am : Nat → Nat → Nat} {ao it cs ss : Nat} {x4 : Int32} (hin1 : vp_in (x4 + (1 : Int32)) L) (hin2 : vp_in (x4 + (2 : Int32)) L) (hin3 : vp_in (x4 + (3 : Int32)) L) (hin4 : vp_in (x4 + (4 : Int32)) L) (hin5 : vp_in (x4 + (5 : Int32)) L) (hit : it < 513) (kk : ∀ (ad : Nat → Nat → Nat) (σ τ : ST) (o : Nat → Int64) (cs ss : Nat), R σ τ → Bud (it + 1) cs ss σ → ∀ (H : Heap) (locs : List Loc), va_P D vwCl (lwW cy ad am ao σ τ o) H → va_D (fun q : Nat => s.heap.size ≤ q) (lwW cy ad am ao σ τ o) → va_S (fun q : Nat => s.heap.size ≤ q) s.heap H locs → ∀ ls : Array Slot, lv_has ls 8 [(0, .ref b), (1, .ref (ad 0 0)), (2, .ref (am 0 0)), (3, .ref ao), (4, .int (x4 + (6 : Int32)))] → W p l e room_1 s m #[Value.ref b] below meth c H locs cs ss (lw_Z below #[Value.ref b] s) (F0 m 23 ls [])) {ad : Nat → Nat → Nat} {σ τ : ST} {o : Nat → Int64} (hR : R σ τ) (hbud : Bud it cs ss σ) {H : Heap} {locs : List Loc} (hP : va_P D vwCl (lwW cy ad am ao σ τ o) H) (hD : va_D (fun q : Nat => s.heap.size ≤ q) (lwW cy ad am ao σ τ o)) (hS : va_S (fun q : Nat => s.heap.size ≤ q) s.heap H locs) {ls : Array Slot} (hl : lv_has ls 8 [(0, .ref b), (1, .ref (ad 0 0)), (2, .ref (am 0 0)), (3, .ref ao), (4, .int x4)]) : W p l e room_1 s m #[Value.ref b] below meth c H locs cs ss (lw_Z below #[Value.ref b] s) (F0 m 416 ls []) := by
  obtain ⟨hx, hb, hr, hml, hown, hts, hX, hbl, hlocks, hK, hXX, htr⟩ := id C
  have hA : ∀ q : Nat, s.heap.size ≤ q → (fun q : Nat => s.heap.size ≤ q) q := fun _ h => h
  have hbA : ¬ (fun q : Nat => s.heap.size ≤ q) b := Nat.not_le.mpr hbl
  have hcs : cs + 0 ≤ room_1.cells := by show cs + 0 ≤ 601024; unfold Bud at hbud; omega
  have hss : ss + 0 ≤ room_1.slots := by show ss + 0 ≤ 7293034; unfold Bud at hbud; omega
  refine lv_aload_n hx hb dL_law_416 rfl (lv_at hl 1 rfl) ?_
  refine lv_aload_n hx hb dL_law_417 rfl (lv_at hl 0 rfl) ?_
  refine lv_iload hx hb dL_law_418 (lv_at hl 4 rfl) ?_
  refine lv_iconst (v := 1) hx hb dL_law_420 (by decide) ?_
  refine lv_iadd hx hb dL_law_421 ?_
  refine va_sld hx hb hX hbl hbA hS hin1 dL_law_422 ?_
  refine lv_aload_n hx hb dL_law_423 rfl (lv_at hl 0 rfl) ?_
  refine lv_iload hx hb dL_law_424 (lv_at hl 4 rfl) ?_
  refine lv_iconst (v := 2) hx hb dL_law_426 (by decide) ?_
  refine lv_iadd hx hb dL_law_427 ?_
  refine va_sld hx hb hX hbl hbA hS hin2 dL_law_428 ?_
  obtain ⟨q, r, hq, hr9, heq, hR1, hcn⟩ := pf σ τ (xs (Int32.toNatClampNeg (x4 + (1 : Int32)))) (xs (Int32.toNatClampNeg (x4 + (2 : Int32)))) hR
  have hP : va_P D vwCl ([outc cy ao o] ++ (cw cy ad σ ++ (mw cy am τ))) _ := hP
  have hD : va_D (fun q : Nat => s.heap.size ≤ q) ([outc cy ao o] ++ (cw cy ad σ ++ (mw cy am τ))) := hD
  refine zf_i [outc cy ao o] (mw cy am τ) (zr_V [.int (xs (Int32.toNatClampNeg (x4 + (1 : Int32)))), .int (xs (Int32.toNatClampNeg (x4 + (2 : Int32))))] [] ⟨hx, hb, hml, hown, hts⟩ (ctX2_price l D cy ad σ (xs (Int32.toNatClampNeg (x4 + (1 : Int32)))) (xs (Int32.toNatClampNeg (x4 + (2 : Int32)))) q hq _) (cwV 2 hts gL_law_X2_price rfl rfl rfl (by decide +kernel) ⟨Nat.le_of_ble_eq_true rfl, Nat.le_of_ble_eq_true rfl⟩) hK (z_partP hP) (z_partD hD) 0 cw_0 rfl rfl rfl hl.1 rfl (Nat.le_of_ble_eq_true rfl) dL_law_429 ⟨hcs, hss⟩) hP hD hS hA (fun H locs hP hD hS => ?_)
  refine lv_aload_n hx hb dL_law_432 rfl (lv_at hl 2 rfl) ?_
  refine lv_aload_n hx hb dL_law_433 rfl (lv_at hl 0 rfl) ?_
  refine lv_iload hx hb dL_law_434 (lv_at hl 4 rfl) ?_
  refine lv_iconst (v := 1) hx hb dL_law_436 (by decide) ?_
  refine lv_iadd hx hb dL_law_437 ?_
  refine va_sld hx hb hX hbl hbA hS hin1 dL_law_438 ?_
  refine lv_aload_n hx hb dL_law_439 rfl (lv_at hl 0 rfl) ?_
  refine lv_iload hx hb dL_law_440 (lv_at hl 4 rfl) ?_
  refine lv_iconst (v := 2) hx hb dL_law_442 (by decide) ?_
  refine lv_iadd hx hb dL_law_443 ?_
  refine va_sld hx hb hX hbl hbA hS hin2 dL_law_444 ?_
  have hP : va_P D vwCl (([outc cy ao o] ++ cw cy ad q.2) ++ (mw cy am τ ++ [])) _ := hP
  have hD : va_D (fun q : Nat => s.heap.size ≤ q) (([outc cy ao o] ++ cw cy ad q.2) ++ (mw cy am τ ++ [])) := hD
  refine zf_i ([outc cy ao o] ++ cw cy ad q.2) [] (zr_V [.int (xs (Int32.toNatClampNeg (x4 + (1 : Int32)))), .int (xs (Int32.toNatClampNeg (x4 + (2 : Int32))))] [.int q.1] ⟨hx, hb, hml, hown, hts⟩ (ctX3_price l D cy am τ (xs (Int32.toNatClampNeg (x4 + (1 : Int32)))) (xs (Int32.toNatClampNeg (x4 + (2 : Int32)))) r hr9 _) (cwV 2 hts gL_law_X3_price rfl rfl rfl (by decide +kernel) ⟨Nat.le_of_ble_eq_true rfl, Nat.le_of_ble_eq_true rfl⟩) hK (z_partP hP) (z_partD hD) 0 mw_0 rfl rfl rfl hl.1 rfl (Nat.le_of_ble_eq_true rfl) dL_law_445 ⟨hcs, hss⟩) hP hD hS hA (fun H locs hP hD hS => ?_)
  have hP : va_P D vwCl (lwW cy ad am ao q.2 r.2 o) H := hP
  have hD : va_D (fun q : Nat => s.heap.size ≤ q) (lwW cy ad am ao q.2 r.2 o) := hD
  refine lv_icmp_eq (tgt := 1435) hx hb dL_law_448 (by decide) (fun c_1 => ?_) (fun c_1 => ?_)
  · refine lv_iinc (v := (x4 + (6 : Int32))) (lv' := [(4, .int (x4 + (6 : Int32))), (0, .ref b), (1, .ref (ad 0 0)), (2, .ref (am 0 0)), (3, .ref ao)]) hx hb dL_law_1435 hl (k := 4) rfl rfl (by decide) rfl (fun ls hl => ?_)
    refine lv_goto (tgt := 23) hx hb dL_law_1438 (by decide) ?_
    exact kk ad q.2 r.2 o _ _ hR1 (by unfold Bud at hbud ⊢; omega) _ _ hP hD hS _ (lv_sub hl [1, 2, 3, 4, 0] rfl)
  · exact absurd heq c_1
set_option maxHeartbeats 4000000 in
set_option maxRecDepth 100000 in
theorem lawc_rateOf {R : ST → ST → Prop} (pf : pf_rateOf R) {p : Program} {l : Launch} {e : Env} {s : State} {m : MethodId} {below : List Frame} {meth : Method} {c : Code} {b L : Nat} {xs : Nat → Int32} {D : va_G} {cy : Nat → ClassId} (C : Lx p l s m meth c b L xs D cy) {am : Nat → Nat → Nat} {ao it cs ss : Nat} {x4 : Int32} (hin1 : vp_in (x4 + (1 : Int32)) L) (hin2 : vp_in (x4 + (2 : Int32)) L) (hin3 : vp_in (x4 + (3 : Int32)) L) (hin4 : vp_in (x4 + (4 : Int32)) L) (hin5 : vp_in (x4 + (5 : Int32)) L) (hit : it < 513) (kk : ∀ (ad : Nat → Nat → Nat) (σ τ : ST) (o : Nat → Int64) (cs ss : Nat), R σ τ → Bud (it + 1) cs ss σ → ∀ (H : Heap) (locs : List Loc), va_P D vwCl (lwW cy ad am ao σ τ o) H → va_D (fun q : Nat => s.heap.size ≤ q) (lwW cy ad am ao σ τ o) → va_S (fun q : Nat => s.heap.size ≤ q) s.heap H locs → ∀ ls : Array Slot, lv_has ls 8 [(0, .ref b), (1, .ref (ad 0 0)), (2, .ref (am 0 0)), (3, .ref ao), (4, .int (x4 + (6 : Int32)))] → W p l e room_1 s m #[Value.ref b] below meth c H locs cs ss (lw_Z below #[Value.ref b] s) (F0 m 23 ls [])) {ad : Nat → Nat → Nat} {σ τ : ST} {o : Nat → Int64} (hR : R σ τ) (hbud : Bud it cs ss σ) {H : Heap} {locs : List Loc} (hP : va_P D vwCl (lwW cy ad am ao σ τ o) H) (hD : va_D (fun q : Nat => s.heap.size ≤ q) (lwW cy ad am ao σ τ o)) (hS : va_S (fun q : Nat => s.heap.size ≤ q) s.heap H locs) {ls : Array Slot} (hl : lv_has ls 8 [(0, .ref b), (1, .ref (ad 0 0)), (2, .ref (am 0 0)), (3, .ref ao), (4, .int x4)]) : W p l e room_1 s m #[Value.ref b] below meth c H locs cs ss (lw_Z below #[Value.ref b] s) (F0 m 453 ls []) := by
  obtain ⟨hx, hb, hr, hml, hown, hts, hX, hbl, hlocks, hK, hXX, htr⟩ := id C
  have hA : ∀ q : Nat, s.heap.size ≤ q → (fun q : Nat => s.heap.size ≤ q) q := fun _ h => h
  have hbA : ¬ (fun q : Nat => s.heap.size ≤ q) b := Nat.not_le.mpr hbl
  have hcs : cs + 0 ≤ room_1.cells := by show cs + 0 ≤ 601024; unfold Bud at hbud; omega
  have hss : ss + 0 ≤ room_1.slots := by show ss + 0 ≤ 7293034; unfold Bud at hbud; omega
  refine lv_aload_n hx hb dL_law_453 rfl (lv_at hl 1 rfl) ?_
  refine lv_aload_n hx hb dL_law_454 rfl (lv_at hl 0 rfl) ?_
  refine lv_iload hx hb dL_law_455 (lv_at hl 4 rfl) ?_
  refine lv_iconst (v := 1) hx hb dL_law_457 (by decide) ?_
  refine lv_iadd hx hb dL_law_458 ?_
  refine va_sld hx hb hX hbl hbA hS hin1 dL_law_459 ?_
  refine lv_aload_n hx hb dL_law_460 rfl (lv_at hl 0 rfl) ?_
  refine lv_iload hx hb dL_law_461 (lv_at hl 4 rfl) ?_
  refine lv_iconst (v := 2) hx hb dL_law_463 (by decide) ?_
  refine lv_iadd hx hb dL_law_464 ?_
  refine va_sld hx hb hX hbl hbA hS hin2 dL_law_465 ?_
  obtain ⟨q, r, hq, hr9, heq, hR1, hcn⟩ := pf σ τ (xs (Int32.toNatClampNeg (x4 + (1 : Int32)))) (xs (Int32.toNatClampNeg (x4 + (2 : Int32)))) hR
  have hP : va_P D vwCl ([outc cy ao o] ++ (cw cy ad σ ++ (mw cy am τ))) _ := hP
  have hD : va_D (fun q : Nat => s.heap.size ≤ q) ([outc cy ao o] ++ (cw cy ad σ ++ (mw cy am τ))) := hD
  refine zf_i [outc cy ao o] (mw cy am τ) (zr_V [.int (xs (Int32.toNatClampNeg (x4 + (1 : Int32)))), .int (xs (Int32.toNatClampNeg (x4 + (2 : Int32))))] [] ⟨hx, hb, hml, hown, hts⟩ (ctX2_rateOf l D cy ad σ (xs (Int32.toNatClampNeg (x4 + (1 : Int32)))) (xs (Int32.toNatClampNeg (x4 + (2 : Int32)))) q hq _) (cwV 2 hts gL_law_X2_rateOf rfl rfl rfl (by decide +kernel) ⟨Nat.le_of_ble_eq_true rfl, Nat.le_of_ble_eq_true rfl⟩) hK (z_partP hP) (z_partD hD) 0 cw_0 rfl rfl rfl hl.1 rfl (Nat.le_of_ble_eq_true rfl) dL_law_466 ⟨hcs, hss⟩) hP hD hS hA (fun H locs hP hD hS => ?_)
  refine lv_aload_n hx hb dL_law_469 rfl (lv_at hl 2 rfl) ?_
  refine lv_aload_n hx hb dL_law_470 rfl (lv_at hl 0 rfl) ?_
  refine lv_iload hx hb dL_law_471 (lv_at hl 4 rfl) ?_
  refine lv_iconst (v := 1) hx hb dL_law_473 (by decide) ?_
  refine lv_iadd hx hb dL_law_474 ?_
  refine va_sld hx hb hX hbl hbA hS hin1 dL_law_475 ?_
  refine lv_aload_n hx hb dL_law_476 rfl (lv_at hl 0 rfl) ?_
  refine lv_iload hx hb dL_law_477 (lv_at hl 4 rfl) ?_
  refine lv_iconst (v := 2) hx hb dL_law_479 (by decide) ?_
  refine lv_iadd hx hb dL_law_480 ?_
  refine va_sld hx hb hX hbl hbA hS hin2 dL_law_481 ?_
  have hP : va_P D vwCl (([outc cy ao o] ++ cw cy ad q.2) ++ (mw cy am τ ++ [])) _ := hP
  have hD : va_D (fun q : Nat => s.heap.size ≤ q) (([outc cy ao o] ++ cw cy ad q.2) ++ (mw cy am τ ++ [])) := hD
  refine zf_i ([outc cy ao o] ++ cw cy ad q.2) [] (zr_V [.int (xs (Int32.toNatClampNeg (x4 + (1 : Int32)))), .int (xs (Int32.toNatClampNeg (x4 + (2 : Int32))))] [.int q.1] ⟨hx, hb, hml, hown, hts⟩ (ctX3_rateOf l D cy am τ (xs (Int32.toNatClampNeg (x4 + (1 : Int32)))) (xs (Int32.toNatClampNeg (x4 + (2 : Int32)))) r hr9 _) (cwV 2 hts gL_law_X3_rateOf rfl rfl rfl (by decide +kernel) ⟨Nat.le_of_ble_eq_true rfl, Nat.le_of_ble_eq_true rfl⟩) hK (z_partP hP) (z_partD hD) 0 mw_0 rfl rfl rfl hl.1 rfl (Nat.le_of_ble_eq_true rfl) dL_law_482 ⟨hcs, hss⟩) hP hD hS hA (fun H locs hP hD hS => ?_)
  have hP : va_P D vwCl (lwW cy ad am ao q.2 r.2 o) H := hP
  have hD : va_D (fun q : Nat => s.heap.size ≤ q) (lwW cy ad am ao q.2 r.2 o) := hD
  refine lv_icmp_eq (tgt := 1435) hx hb dL_law_485 (by decide) (fun c_1 => ?_) (fun c_1 => ?_)
  · refine lv_iinc (v := (x4 + (6 : Int32))) (lv' := [(4, .int (x4 + (6 : Int32))), (0, .ref b), (1, .ref (ad 0 0)), (2, .ref (am 0 0)), (3, .ref ao)]) hx hb dL_law_1435 hl (k := 4) rfl rfl (by decide) rfl (fun ls hl => ?_)
    refine lv_goto (tgt := 23) hx hb dL_law_1438 (by decide) ?_
    exact kk ad q.2 r.2 o _ _ hR1 (by unfold Bud at hbud ⊢; omega) _ _ hP hD hS _ (lv_sub hl [1, 2, 3, 4, 0] rfl)
  · exact absurd heq c_1
set_option maxHeartbeats 4000000 in
set_option maxRecDepth 100000 in
theorem lawc_contract {R : ST → ST → Prop} (pf : pf_contract R) {p : Program} {l : Launch} {e : Env} {s : State} {m : MethodId} {below : List Frame} {meth : Method} {c : Code} {b L : Nat} {xs : Nat → Int32} {D : va_G} {cy : Nat → ClassId} (C : Lx p l s m meth c b L xs D cy) {am : Nat → Nat → Nat} {ao it cs ss : Nat} {x4 : Int32} (hin1 : vp_in (x4 + (1 : Int32)) L) (hin2 : vp_in (x4 + (2 : Int32)) L) (hin3 : vp_in (x4 + (3 : Int32)) L) (hin4 : vp_in (x4 + (4 : Int32)) L) (hin5 : vp_in (x4 + (5 : Int32)) L) (hit : it < 513) (kk : ∀ (ad : Nat → Nat → Nat) (σ τ : ST) (o : Nat → Int64) (cs ss : Nat), R σ τ → Bud (it + 1) cs ss σ → ∀ (H : Heap) (locs : List Loc), va_P D vwCl (lwW cy ad am ao σ τ o) H → va_D (fun q : Nat => s.heap.size ≤ q) (lwW cy ad am ao σ τ o) → va_S (fun q : Nat => s.heap.size ≤ q) s.heap H locs → ∀ ls : Array Slot, lv_has ls 8 [(0, .ref b), (1, .ref (ad 0 0)), (2, .ref (am 0 0)), (3, .ref ao), (4, .int (x4 + (6 : Int32)))] → W p l e room_1 s m #[Value.ref b] below meth c H locs cs ss (lw_Z below #[Value.ref b] s) (F0 m 23 ls [])) {ad : Nat → Nat → Nat} {σ τ : ST} {o : Nat → Int64} (hR : R σ τ) (hbud : Bud it cs ss σ) {H : Heap} {locs : List Loc} (hP : va_P D vwCl (lwW cy ad am ao σ τ o) H) (hD : va_D (fun q : Nat => s.heap.size ≤ q) (lwW cy ad am ao σ τ o)) (hS : va_S (fun q : Nat => s.heap.size ≤ q) s.heap H locs) {ls : Array Slot} (hl : lv_has ls 8 [(0, .ref b), (1, .ref (ad 0 0)), (2, .ref (am 0 0)), (3, .ref ao), (4, .int x4)]) : W p l e room_1 s m #[Value.ref b] below meth c H locs cs ss (lw_Z below #[Value.ref b] s) (F0 m 490 ls []) := by
  obtain ⟨hx, hb, hr, hml, hown, hts, hX, hbl, hlocks, hK, hXX, htr⟩ := id C
  have hA : ∀ q : Nat, s.heap.size ≤ q → (fun q : Nat => s.heap.size ≤ q) q := fun _ h => h
  have hbA : ¬ (fun q : Nat => s.heap.size ≤ q) b := Nat.not_le.mpr hbl
  have hcs : cs + 0 ≤ room_1.cells := by show cs + 0 ≤ 601024; unfold Bud at hbud; omega
  have hss : ss + 0 ≤ room_1.slots := by show ss + 0 ≤ 7293034; unfold Bud at hbud; omega
  refine lv_aload_n hx hb dL_law_490 rfl (lv_at hl 1 rfl) ?_
  refine lv_aload_n hx hb dL_law_491 rfl (lv_at hl 0 rfl) ?_
  refine lv_iload hx hb dL_law_492 (lv_at hl 4 rfl) ?_
  refine lv_iconst (v := 1) hx hb dL_law_494 (by decide) ?_
  refine lv_iadd hx hb dL_law_495 ?_
  refine va_sld hx hb hX hbl hbA hS hin1 dL_law_496 ?_
  refine lv_aload_n hx hb dL_law_497 rfl (lv_at hl 0 rfl) ?_
  refine lv_iload hx hb dL_law_498 (lv_at hl 4 rfl) ?_
  refine lv_iconst (v := 2) hx hb dL_law_500 (by decide) ?_
  refine lv_iadd hx hb dL_law_501 ?_
  refine va_sld hx hb hX hbl hbA hS hin2 dL_law_502 ?_
  refine lv_aload_n hx hb dL_law_503 rfl (lv_at hl 0 rfl) ?_
  refine lv_iload hx hb dL_law_504 (lv_at hl 4 rfl) ?_
  refine lv_iconst (v := 3) hx hb dL_law_506 (by decide) ?_
  refine lv_iadd hx hb dL_law_507 ?_
  refine va_sld hx hb hX hbl hbA hS hin3 dL_law_508 ?_
  obtain ⟨q, r, hq, hr9, heq, hR1, hcn⟩ := pf σ τ (xs (Int32.toNatClampNeg (x4 + (1 : Int32)))) (xs (Int32.toNatClampNeg (x4 + (2 : Int32)))) (xs (Int32.toNatClampNeg (x4 + (3 : Int32)))) hR
  have hP : va_P D vwCl ([outc cy ao o] ++ (cw cy ad σ ++ (mw cy am τ))) _ := hP
  have hD : va_D (fun q : Nat => s.heap.size ≤ q) ([outc cy ao o] ++ (cw cy ad σ ++ (mw cy am τ))) := hD
  refine zf_i [outc cy ao o] (mw cy am τ) (zr_V [.int (xs (Int32.toNatClampNeg (x4 + (1 : Int32)))), .int (xs (Int32.toNatClampNeg (x4 + (2 : Int32)))), .int (xs (Int32.toNatClampNeg (x4 + (3 : Int32))))] [] ⟨hx, hb, hml, hown, hts⟩ (ctX2_contract l D cy ad σ (xs (Int32.toNatClampNeg (x4 + (1 : Int32)))) (xs (Int32.toNatClampNeg (x4 + (2 : Int32)))) (xs (Int32.toNatClampNeg (x4 + (3 : Int32)))) q hq _) (cwV 3 hts gL_law_X2_contract rfl rfl rfl (by decide +kernel) ⟨Nat.le_of_ble_eq_true rfl, Nat.le_of_ble_eq_true rfl⟩) hK (z_partP hP) (z_partD hD) 0 cw_0 rfl rfl rfl hl.1 rfl (Nat.le_of_ble_eq_true rfl) dL_law_509 ⟨hcs, hss⟩) hP hD hS hA (fun H locs hP hD hS => ?_)
  refine lv_aload_n hx hb dL_law_512 rfl (lv_at hl 2 rfl) ?_
  refine lv_aload_n hx hb dL_law_513 rfl (lv_at hl 0 rfl) ?_
  refine lv_iload hx hb dL_law_514 (lv_at hl 4 rfl) ?_
  refine lv_iconst (v := 1) hx hb dL_law_516 (by decide) ?_
  refine lv_iadd hx hb dL_law_517 ?_
  refine va_sld hx hb hX hbl hbA hS hin1 dL_law_518 ?_
  refine lv_aload_n hx hb dL_law_519 rfl (lv_at hl 0 rfl) ?_
  refine lv_iload hx hb dL_law_520 (lv_at hl 4 rfl) ?_
  refine lv_iconst (v := 2) hx hb dL_law_522 (by decide) ?_
  refine lv_iadd hx hb dL_law_523 ?_
  refine va_sld hx hb hX hbl hbA hS hin2 dL_law_524 ?_
  refine lv_aload_n hx hb dL_law_525 rfl (lv_at hl 0 rfl) ?_
  refine lv_iload hx hb dL_law_526 (lv_at hl 4 rfl) ?_
  refine lv_iconst (v := 3) hx hb dL_law_528 (by decide) ?_
  refine lv_iadd hx hb dL_law_529 ?_
  refine va_sld hx hb hX hbl hbA hS hin3 dL_law_530 ?_
  have hP : va_P D vwCl (([outc cy ao o] ++ cw cy ad q.2) ++ (mw cy am τ ++ [])) _ := hP
  have hD : va_D (fun q : Nat => s.heap.size ≤ q) (([outc cy ao o] ++ cw cy ad q.2) ++ (mw cy am τ ++ [])) := hD
  refine zf_i ([outc cy ao o] ++ cw cy ad q.2) [] (zr_V [.int (xs (Int32.toNatClampNeg (x4 + (1 : Int32)))), .int (xs (Int32.toNatClampNeg (x4 + (2 : Int32)))), .int (xs (Int32.toNatClampNeg (x4 + (3 : Int32))))] [.int q.1] ⟨hx, hb, hml, hown, hts⟩ (ctX3_contract l D cy am τ (xs (Int32.toNatClampNeg (x4 + (1 : Int32)))) (xs (Int32.toNatClampNeg (x4 + (2 : Int32)))) (xs (Int32.toNatClampNeg (x4 + (3 : Int32)))) r hr9 _) (cwV 3 hts gL_law_X3_contract rfl rfl rfl (by decide +kernel) ⟨Nat.le_of_ble_eq_true rfl, Nat.le_of_ble_eq_true rfl⟩) hK (z_partP hP) (z_partD hD) 0 mw_0 rfl rfl rfl hl.1 rfl (Nat.le_of_ble_eq_true rfl) dL_law_531 ⟨hcs, hss⟩) hP hD hS hA (fun H locs hP hD hS => ?_)
  have hP : va_P D vwCl (lwW cy ad am ao q.2 r.2 o) H := hP
  have hD : va_D (fun q : Nat => s.heap.size ≤ q) (lwW cy ad am ao q.2 r.2 o) := hD
  refine lv_icmp_eq (tgt := 1435) hx hb dL_law_534 (by decide) (fun c_1 => ?_) (fun c_1 => ?_)
  · refine lv_iinc (v := (x4 + (6 : Int32))) (lv' := [(4, .int (x4 + (6 : Int32))), (0, .ref b), (1, .ref (ad 0 0)), (2, .ref (am 0 0)), (3, .ref ao)]) hx hb dL_law_1435 hl (k := 4) rfl rfl (by decide) rfl (fun ls hl => ?_)
    refine lv_goto (tgt := 23) hx hb dL_law_1438 (by decide) ?_
    exact kk ad q.2 r.2 o _ _ hR1 (by unfold Bud at hbud ⊢; omega) _ _ hP hD hS _ (lv_sub hl [1, 2, 3, 4, 0] rfl)
  · exact absurd heq c_1
set_option maxHeartbeats 4000000 in
set_option maxRecDepth 100000 in
theorem lawc_count {R : ST → ST → Prop} (pf : pf_count R) {p : Program} {l : Launch} {e : Env} {s : State} {m : MethodId} {below : List Frame} {meth : Method} {c : Code} {b L : Nat} {xs : Nat → Int32} {D : va_G} {cy : Nat → ClassId} (C : Lx p l s m meth c b L xs D cy) {am : Nat → Nat → Nat} {ao it cs ss : Nat} {x4 : Int32} (hin1 : vp_in (x4 + (1 : Int32)) L) (hin2 : vp_in (x4 + (2 : Int32)) L) (hin3 : vp_in (x4 + (3 : Int32)) L) (hin4 : vp_in (x4 + (4 : Int32)) L) (hin5 : vp_in (x4 + (5 : Int32)) L) (hit : it < 513) (kk : ∀ (ad : Nat → Nat → Nat) (σ τ : ST) (o : Nat → Int64) (cs ss : Nat), R σ τ → Bud (it + 1) cs ss σ → ∀ (H : Heap) (locs : List Loc), va_P D vwCl (lwW cy ad am ao σ τ o) H → va_D (fun q : Nat => s.heap.size ≤ q) (lwW cy ad am ao σ τ o) → va_S (fun q : Nat => s.heap.size ≤ q) s.heap H locs → ∀ ls : Array Slot, lv_has ls 8 [(0, .ref b), (1, .ref (ad 0 0)), (2, .ref (am 0 0)), (3, .ref ao), (4, .int (x4 + (6 : Int32)))] → W p l e room_1 s m #[Value.ref b] below meth c H locs cs ss (lw_Z below #[Value.ref b] s) (F0 m 23 ls [])) {ad : Nat → Nat → Nat} {σ τ : ST} {o : Nat → Int64} (hR : R σ τ) (hbud : Bud it cs ss σ) {H : Heap} {locs : List Loc} (hP : va_P D vwCl (lwW cy ad am ao σ τ o) H) (hD : va_D (fun q : Nat => s.heap.size ≤ q) (lwW cy ad am ao σ τ o)) (hS : va_S (fun q : Nat => s.heap.size ≤ q) s.heap H locs) {ls : Array Slot} (hl : lv_has ls 8 [(0, .ref b), (1, .ref (ad 0 0)), (2, .ref (am 0 0)), (3, .ref ao), (4, .int x4)]) : W p l e room_1 s m #[Value.ref b] below meth c H locs cs ss (lw_Z below #[Value.ref b] s) (F0 m 539 ls []) := by
  obtain ⟨hx, hb, hr, hml, hown, hts, hX, hbl, hlocks, hK, hXX, htr⟩ := id C
  have hA : ∀ q : Nat, s.heap.size ≤ q → (fun q : Nat => s.heap.size ≤ q) q := fun _ h => h
  have hbA : ¬ (fun q : Nat => s.heap.size ≤ q) b := Nat.not_le.mpr hbl
  have hcs : cs + 0 ≤ room_1.cells := by show cs + 0 ≤ 601024; unfold Bud at hbud; omega
  have hss : ss + 0 ≤ room_1.slots := by show ss + 0 ≤ 7293034; unfold Bud at hbud; omega
  refine lv_aload_n hx hb dL_law_539 rfl (lv_at hl 1 rfl) ?_
  refine lv_aload_n hx hb dL_law_540 rfl (lv_at hl 0 rfl) ?_
  refine lv_iload hx hb dL_law_541 (lv_at hl 4 rfl) ?_
  refine lv_iconst (v := 1) hx hb dL_law_543 (by decide) ?_
  refine lv_iadd hx hb dL_law_544 ?_
  refine va_sld hx hb hX hbl hbA hS hin1 dL_law_545 ?_
  obtain ⟨q, r, hq, hr9, heq, hR1⟩ := pf σ τ (xs (Int32.toNatClampNeg (x4 + (1 : Int32)))) hR
  have hP : va_P D vwCl ([outc cy ao o] ++ (cw cy ad σ ++ (mw cy am τ))) _ := hP
  have hD : va_D (fun q : Nat => s.heap.size ≤ q) ([outc cy ao o] ++ (cw cy ad σ ++ (mw cy am τ))) := hD
  refine zf_i [outc cy ao o] (mw cy am τ) (zr_V [.int (xs (Int32.toNatClampNeg (x4 + (1 : Int32))))] [] ⟨hx, hb, hml, hown, hts⟩ (ctX2_count l D cy ad σ (xs (Int32.toNatClampNeg (x4 + (1 : Int32)))) q hq _) (cwV 1 hts gL_law_X2_count rfl rfl rfl (by decide +kernel) ⟨Nat.le_of_ble_eq_true rfl, Nat.le_of_ble_eq_true rfl⟩) hK (z_partP hP) (z_partD hD) 0 cw_0 rfl rfl rfl hl.1 rfl (Nat.le_of_ble_eq_true rfl) dL_law_546 ⟨hcs, hss⟩) hP hD hS hA (fun H locs hP hD hS => ?_)
  refine lv_aload_n hx hb dL_law_549 rfl (lv_at hl 2 rfl) ?_
  refine lv_aload_n hx hb dL_law_550 rfl (lv_at hl 0 rfl) ?_
  refine lv_iload hx hb dL_law_551 (lv_at hl 4 rfl) ?_
  refine lv_iconst (v := 1) hx hb dL_law_553 (by decide) ?_
  refine lv_iadd hx hb dL_law_554 ?_
  refine va_sld hx hb hX hbl hbA hS hin1 dL_law_555 ?_
  have hP : va_P D vwCl (([outc cy ao o] ++ cw cy ad σ) ++ (mw cy am τ ++ [])) _ := hP
  have hD : va_D (fun q : Nat => s.heap.size ≤ q) (([outc cy ao o] ++ cw cy ad σ) ++ (mw cy am τ ++ [])) := hD
  refine zf_i ([outc cy ao o] ++ cw cy ad σ) [] (zr_V [.int (xs (Int32.toNatClampNeg (x4 + (1 : Int32))))] [.int q] ⟨hx, hb, hml, hown, hts⟩ (ctX3_count l D cy am τ (xs (Int32.toNatClampNeg (x4 + (1 : Int32)))) r hr9 _) (cwV 1 hts gL_law_X3_count rfl rfl rfl (by decide +kernel) ⟨Nat.le_of_ble_eq_true rfl, Nat.le_of_ble_eq_true rfl⟩) hK (z_partP hP) (z_partD hD) 0 mw_0 rfl rfl rfl hl.1 rfl (Nat.le_of_ble_eq_true rfl) dL_law_556 ⟨hcs, hss⟩) hP hD hS hA (fun H locs hP hD hS => ?_)
  have hP : va_P D vwCl (lwW cy ad am ao σ r.2 o) H := hP
  have hD : va_D (fun q : Nat => s.heap.size ≤ q) (lwW cy ad am ao σ r.2 o) := hD
  refine lv_icmp_eq (tgt := 1435) hx hb dL_law_559 (by decide) (fun c_1 => ?_) (fun c_1 => ?_)
  · refine lv_iinc (v := (x4 + (6 : Int32))) (lv' := [(4, .int (x4 + (6 : Int32))), (0, .ref b), (1, .ref (ad 0 0)), (2, .ref (am 0 0)), (3, .ref ao)]) hx hb dL_law_1435 hl (k := 4) rfl rfl (by decide) rfl (fun ls hl => ?_)
    refine lv_goto (tgt := 23) hx hb dL_law_1438 (by decide) ?_
    exact kk ad σ r.2 o _ _ hR1 (by unfold Bud at hbud ⊢; omega) _ _ hP hD hS _ (lv_sub hl [1, 2, 3, 4, 0] rfl)
  · exact absurd heq c_1
set_option maxHeartbeats 4000000 in
set_option maxRecDepth 100000 in
theorem lawc_cheapest {R : ST → ST → Prop} (pf : pf_cheapest R) {p : Program} {l : Launch} {e : Env} {s : State} {m : MethodId} {below : List Frame} {meth : Method} {c : Code} {b L : Nat} {xs : Nat → Int32} {D : va_G} {cy : Nat → ClassId} (C : Lx p l s m meth c b L xs D cy) {am : Nat → Nat → Nat} {ao it cs ss : Nat} {x4 : Int32} (hin1 : vp_in (x4 + (1 : Int32)) L) (hin2 : vp_in (x4 + (2 : Int32)) L) (hin3 : vp_in (x4 + (3 : Int32)) L) (hin4 : vp_in (x4 + (4 : Int32)) L) (hin5 : vp_in (x4 + (5 : Int32)) L) (hit : it < 513) (kk : ∀ (ad : Nat → Nat → Nat) (σ τ : ST) (o : Nat → Int64) (cs ss : Nat), R σ τ → Bud (it + 1) cs ss σ → ∀ (H : Heap) (locs : List Loc), va_P D vwCl (lwW cy ad am ao σ τ o) H → va_D (fun q : Nat => s.heap.size ≤ q) (lwW cy ad am ao σ τ o) → va_S (fun q : Nat => s.heap.size ≤ q) s.heap H locs → ∀ ls : Array Slot, lv_has ls 8 [(0, .ref b), (1, .ref (ad 0 0)), (2, .ref (am 0 0)), (3, .ref ao), (4, .int (x4 + (6 : Int32)))] → W p l e room_1 s m #[Value.ref b] below meth c H locs cs ss (lw_Z below #[Value.ref b] s) (F0 m 23 ls [])) {ad : Nat → Nat → Nat} {σ τ : ST} {o : Nat → Int64} (hR : R σ τ) (hbud : Bud it cs ss σ) {H : Heap} {locs : List Loc} (hP : va_P D vwCl (lwW cy ad am ao σ τ o) H) (hD : va_D (fun q : Nat => s.heap.size ≤ q) (lwW cy ad am ao σ τ o)) (hS : va_S (fun q : Nat => s.heap.size ≤ q) s.heap H locs) {ls : Array Slot} (hl : lv_has ls 8 [(0, .ref b), (1, .ref (ad 0 0)), (2, .ref (am 0 0)), (3, .ref ao), (4, .int x4)]) : W p l e room_1 s m #[Value.ref b] below meth c H locs cs ss (lw_Z below #[Value.ref b] s) (F0 m 564 ls []) := by
  obtain ⟨hx, hb, hr, hml, hown, hts, hX, hbl, hlocks, hK, hXX, htr⟩ := id C
  have hA : ∀ q : Nat, s.heap.size ≤ q → (fun q : Nat => s.heap.size ≤ q) q := fun _ h => h
  have hbA : ¬ (fun q : Nat => s.heap.size ≤ q) b := Nat.not_le.mpr hbl
  have hcs : cs + 0 ≤ room_1.cells := by show cs + 0 ≤ 601024; unfold Bud at hbud; omega
  have hss : ss + 0 ≤ room_1.slots := by show ss + 0 ≤ 7293034; unfold Bud at hbud; omega
  refine lv_aload_n hx hb dL_law_564 rfl (lv_at hl 1 rfl) ?_
  refine lv_aload_n hx hb dL_law_565 rfl (lv_at hl 0 rfl) ?_
  refine lv_iload hx hb dL_law_566 (lv_at hl 4 rfl) ?_
  refine lv_iconst (v := 1) hx hb dL_law_568 (by decide) ?_
  refine lv_iadd hx hb dL_law_569 ?_
  refine va_sld hx hb hX hbl hbA hS hin1 dL_law_570 ?_
  obtain ⟨q, r, hq, hr9, heq, hR1, hcn⟩ := pf σ τ (xs (Int32.toNatClampNeg (x4 + (1 : Int32)))) hR
  have hP : va_P D vwCl ([outc cy ao o] ++ (cw cy ad σ ++ (mw cy am τ))) _ := hP
  have hD : va_D (fun q : Nat => s.heap.size ≤ q) ([outc cy ao o] ++ (cw cy ad σ ++ (mw cy am τ))) := hD
  refine zf_i [outc cy ao o] (mw cy am τ) (zr_V [.int (xs (Int32.toNatClampNeg (x4 + (1 : Int32))))] [] ⟨hx, hb, hml, hown, hts⟩ (ctX2_cheapest l D cy ad σ (xs (Int32.toNatClampNeg (x4 + (1 : Int32)))) q hq _) (cwV 1 hts gL_law_X2_cheapest rfl rfl rfl (by decide +kernel) ⟨Nat.le_of_ble_eq_true rfl, Nat.le_of_ble_eq_true rfl⟩) hK (z_partP hP) (z_partD hD) 0 cw_0 rfl rfl rfl hl.1 rfl (Nat.le_of_ble_eq_true rfl) dL_law_571 ⟨hcs, hss⟩) hP hD hS hA (fun H locs hP hD hS => ?_)
  refine lv_aload_n hx hb dL_law_574 rfl (lv_at hl 2 rfl) ?_
  refine lv_aload_n hx hb dL_law_575 rfl (lv_at hl 0 rfl) ?_
  refine lv_iload hx hb dL_law_576 (lv_at hl 4 rfl) ?_
  refine lv_iconst (v := 1) hx hb dL_law_578 (by decide) ?_
  refine lv_iadd hx hb dL_law_579 ?_
  refine va_sld hx hb hX hbl hbA hS hin1 dL_law_580 ?_
  have hP : va_P D vwCl (([outc cy ao o] ++ cw cy ad q.2) ++ (mw cy am τ ++ [])) _ := hP
  have hD : va_D (fun q : Nat => s.heap.size ≤ q) (([outc cy ao o] ++ cw cy ad q.2) ++ (mw cy am τ ++ [])) := hD
  refine zf_i ([outc cy ao o] ++ cw cy ad q.2) [] (zr_V [.int (xs (Int32.toNatClampNeg (x4 + (1 : Int32))))] [.int q.1] ⟨hx, hb, hml, hown, hts⟩ (ctX3_cheapest l D cy am τ (xs (Int32.toNatClampNeg (x4 + (1 : Int32)))) r hr9 _) (cwV 1 hts gL_law_X3_cheapest rfl rfl rfl (by decide +kernel) ⟨Nat.le_of_ble_eq_true rfl, Nat.le_of_ble_eq_true rfl⟩) hK (z_partP hP) (z_partD hD) 0 mw_0 rfl rfl rfl hl.1 rfl (Nat.le_of_ble_eq_true rfl) dL_law_581 ⟨hcs, hss⟩) hP hD hS hA (fun H locs hP hD hS => ?_)
  have hP : va_P D vwCl (lwW cy ad am ao q.2 r.2 o) H := hP
  have hD : va_D (fun q : Nat => s.heap.size ≤ q) (lwW cy ad am ao q.2 r.2 o) := hD
  refine lv_icmp_eq (tgt := 1435) hx hb dL_law_584 (by decide) (fun c_1 => ?_) (fun c_1 => ?_)
  · refine lv_iinc (v := (x4 + (6 : Int32))) (lv' := [(4, .int (x4 + (6 : Int32))), (0, .ref b), (1, .ref (ad 0 0)), (2, .ref (am 0 0)), (3, .ref ao)]) hx hb dL_law_1435 hl (k := 4) rfl rfl (by decide) rfl (fun ls hl => ?_)
    refine lv_goto (tgt := 23) hx hb dL_law_1438 (by decide) ?_
    exact kk ad q.2 r.2 o _ _ hR1 (by unfold Bud at hbud ⊢; omega) _ _ hP hD hS _ (lv_sub hl [1, 2, 3, 4, 0] rfl)
  · exact absurd heq c_1
set_option maxHeartbeats 4000000 in
set_option maxRecDepth 100000 in
theorem lawc_ranked {R : ST → ST → Prop} (pf : pf_ranked R) {p : Program} {l : Launch} {e : Env} {s : State} {m : MethodId} {below : List Frame} {meth : Method} {c : Code} {b L : Nat} {xs : Nat → Int32} {D : va_G} {cy : Nat → ClassId} (C : Lx p l s m meth c b L xs D cy) {am : Nat → Nat → Nat} {ao it cs ss : Nat} {x4 : Int32} (hin1 : vp_in (x4 + (1 : Int32)) L) (hin2 : vp_in (x4 + (2 : Int32)) L) (hin3 : vp_in (x4 + (3 : Int32)) L) (hin4 : vp_in (x4 + (4 : Int32)) L) (hin5 : vp_in (x4 + (5 : Int32)) L) (hit : it < 513) (kk : ∀ (ad : Nat → Nat → Nat) (σ τ : ST) (o : Nat → Int64) (cs ss : Nat), R σ τ → Bud (it + 1) cs ss σ → ∀ (H : Heap) (locs : List Loc), va_P D vwCl (lwW cy ad am ao σ τ o) H → va_D (fun q : Nat => s.heap.size ≤ q) (lwW cy ad am ao σ τ o) → va_S (fun q : Nat => s.heap.size ≤ q) s.heap H locs → ∀ ls : Array Slot, lv_has ls 8 [(0, .ref b), (1, .ref (ad 0 0)), (2, .ref (am 0 0)), (3, .ref ao), (4, .int (x4 + (6 : Int32)))] → W p l e room_1 s m #[Value.ref b] below meth c H locs cs ss (lw_Z below #[Value.ref b] s) (F0 m 23 ls [])) {ad : Nat → Nat → Nat} {σ τ : ST} {o : Nat → Int64} (hR : R σ τ) (hbud : Bud it cs ss σ) {H : Heap} {locs : List Loc} (hP : va_P D vwCl (lwW cy ad am ao σ τ o) H) (hD : va_D (fun q : Nat => s.heap.size ≤ q) (lwW cy ad am ao σ τ o)) (hS : va_S (fun q : Nat => s.heap.size ≤ q) s.heap H locs) {ls : Array Slot} (hl : lv_has ls 8 [(0, .ref b), (1, .ref (ad 0 0)), (2, .ref (am 0 0)), (3, .ref ao), (4, .int x4)]) : W p l e room_1 s m #[Value.ref b] below meth c H locs cs ss (lw_Z below #[Value.ref b] s) (F0 m 589 ls []) := by
  obtain ⟨hx, hb, hr, hml, hown, hts, hX, hbl, hlocks, hK, hXX, htr⟩ := id C
  have hA : ∀ q : Nat, s.heap.size ≤ q → (fun q : Nat => s.heap.size ≤ q) q := fun _ h => h
  have hbA : ¬ (fun q : Nat => s.heap.size ≤ q) b := Nat.not_le.mpr hbl
  have hcs : cs + 0 ≤ room_1.cells := by show cs + 0 ≤ 601024; unfold Bud at hbud; omega
  have hss : ss + 0 ≤ room_1.slots := by show ss + 0 ≤ 7293034; unfold Bud at hbud; omega
  refine lv_aload_n hx hb dL_law_589 rfl (lv_at hl 1 rfl) ?_
  refine lv_aload_n hx hb dL_law_590 rfl (lv_at hl 0 rfl) ?_
  refine lv_iload hx hb dL_law_591 (lv_at hl 4 rfl) ?_
  refine lv_iconst (v := 1) hx hb dL_law_593 (by decide) ?_
  refine lv_iadd hx hb dL_law_594 ?_
  refine va_sld hx hb hX hbl hbA hS hin1 dL_law_595 ?_
  refine lv_aload_n hx hb dL_law_596 rfl (lv_at hl 0 rfl) ?_
  refine lv_iload hx hb dL_law_597 (lv_at hl 4 rfl) ?_
  refine lv_iconst (v := 2) hx hb dL_law_599 (by decide) ?_
  refine lv_iadd hx hb dL_law_600 ?_
  refine va_sld hx hb hX hbl hbA hS hin2 dL_law_601 ?_
  obtain ⟨q, r, hq, hr9, heq, hR1, hcn⟩ := pf σ τ (xs (Int32.toNatClampNeg (x4 + (1 : Int32)))) (xs (Int32.toNatClampNeg (x4 + (2 : Int32)))) hR
  have hP : va_P D vwCl ([outc cy ao o] ++ (cw cy ad σ ++ (mw cy am τ))) _ := hP
  have hD : va_D (fun q : Nat => s.heap.size ≤ q) ([outc cy ao o] ++ (cw cy ad σ ++ (mw cy am τ))) := hD
  refine zf_i [outc cy ao o] (mw cy am τ) (zr_V [.int (xs (Int32.toNatClampNeg (x4 + (1 : Int32)))), .int (xs (Int32.toNatClampNeg (x4 + (2 : Int32))))] [] ⟨hx, hb, hml, hown, hts⟩ (ctX2_ranked l D cy ad σ (xs (Int32.toNatClampNeg (x4 + (1 : Int32)))) (xs (Int32.toNatClampNeg (x4 + (2 : Int32)))) q hq _) (cwV 2 hts gL_law_X2_ranked rfl rfl rfl (by decide +kernel) ⟨Nat.le_of_ble_eq_true rfl, Nat.le_of_ble_eq_true rfl⟩) hK (z_partP hP) (z_partD hD) 0 cw_0 rfl rfl rfl hl.1 rfl (Nat.le_of_ble_eq_true rfl) dL_law_602 ⟨hcs, hss⟩) hP hD hS hA (fun H locs hP hD hS => ?_)
  refine lv_aload_n hx hb dL_law_605 rfl (lv_at hl 2 rfl) ?_
  refine lv_aload_n hx hb dL_law_606 rfl (lv_at hl 0 rfl) ?_
  refine lv_iload hx hb dL_law_607 (lv_at hl 4 rfl) ?_
  refine lv_iconst (v := 1) hx hb dL_law_609 (by decide) ?_
  refine lv_iadd hx hb dL_law_610 ?_
  refine va_sld hx hb hX hbl hbA hS hin1 dL_law_611 ?_
  refine lv_aload_n hx hb dL_law_612 rfl (lv_at hl 0 rfl) ?_
  refine lv_iload hx hb dL_law_613 (lv_at hl 4 rfl) ?_
  refine lv_iconst (v := 2) hx hb dL_law_615 (by decide) ?_
  refine lv_iadd hx hb dL_law_616 ?_
  refine va_sld hx hb hX hbl hbA hS hin2 dL_law_617 ?_
  have hP : va_P D vwCl (([outc cy ao o] ++ cw cy ad q.2) ++ (mw cy am τ ++ [])) _ := hP
  have hD : va_D (fun q : Nat => s.heap.size ≤ q) (([outc cy ao o] ++ cw cy ad q.2) ++ (mw cy am τ ++ [])) := hD
  refine zf_i ([outc cy ao o] ++ cw cy ad q.2) [] (zr_V [.int (xs (Int32.toNatClampNeg (x4 + (1 : Int32)))), .int (xs (Int32.toNatClampNeg (x4 + (2 : Int32))))] [.int q.1] ⟨hx, hb, hml, hown, hts⟩ (ctX3_ranked l D cy am τ (xs (Int32.toNatClampNeg (x4 + (1 : Int32)))) (xs (Int32.toNatClampNeg (x4 + (2 : Int32)))) r hr9 _) (cwV 2 hts gL_law_X3_ranked rfl rfl rfl (by decide +kernel) ⟨Nat.le_of_ble_eq_true rfl, Nat.le_of_ble_eq_true rfl⟩) hK (z_partP hP) (z_partD hD) 0 mw_0 rfl rfl rfl hl.1 rfl (Nat.le_of_ble_eq_true rfl) dL_law_618 ⟨hcs, hss⟩) hP hD hS hA (fun H locs hP hD hS => ?_)
  have hP : va_P D vwCl (lwW cy ad am ao q.2 r.2 o) H := hP
  have hD : va_D (fun q : Nat => s.heap.size ≤ q) (lwW cy ad am ao q.2 r.2 o) := hD
  refine lv_icmp_eq (tgt := 1435) hx hb dL_law_621 (by decide) (fun c_1 => ?_) (fun c_1 => ?_)
  · refine lv_iinc (v := (x4 + (6 : Int32))) (lv' := [(4, .int (x4 + (6 : Int32))), (0, .ref b), (1, .ref (ad 0 0)), (2, .ref (am 0 0)), (3, .ref ao)]) hx hb dL_law_1435 hl (k := 4) rfl rfl (by decide) rfl (fun ls hl => ?_)
    refine lv_goto (tgt := 23) hx hb dL_law_1438 (by decide) ?_
    exact kk ad q.2 r.2 o _ _ hR1 (by unfold Bud at hbud ⊢; omega) _ _ hP hD hS _ (lv_sub hl [1, 2, 3, 4, 0] rfl)
  · exact absurd heq c_1
set_option maxHeartbeats 4000000 in
set_option maxRecDepth 100000 in
theorem lawc_mark {R : ST → ST → Prop} (pf : pf_mark R) {p : Program} {l : Launch} {e : Env} {s : State} {m : MethodId} {below : List Frame} {meth : Method} {c : Code} {b L : Nat} {xs : Nat → Int32} {D : va_G} {cy : Nat → ClassId} (C : Lx p l s m meth c b L xs D cy) {am : Nat → Nat → Nat} {ao it cs ss : Nat} {x4 : Int32} (hin1 : vp_in (x4 + (1 : Int32)) L) (hin2 : vp_in (x4 + (2 : Int32)) L) (hin3 : vp_in (x4 + (3 : Int32)) L) (hin4 : vp_in (x4 + (4 : Int32)) L) (hin5 : vp_in (x4 + (5 : Int32)) L) (hit : it < 513) (kk : ∀ (ad : Nat → Nat → Nat) (σ τ : ST) (o : Nat → Int64) (cs ss : Nat), R σ τ → Bud (it + 1) cs ss σ → ∀ (H : Heap) (locs : List Loc), va_P D vwCl (lwW cy ad am ao σ τ o) H → va_D (fun q : Nat => s.heap.size ≤ q) (lwW cy ad am ao σ τ o) → va_S (fun q : Nat => s.heap.size ≤ q) s.heap H locs → ∀ ls : Array Slot, lv_has ls 8 [(0, .ref b), (1, .ref (ad 0 0)), (2, .ref (am 0 0)), (3, .ref ao), (4, .int (x4 + (6 : Int32)))] → W p l e room_1 s m #[Value.ref b] below meth c H locs cs ss (lw_Z below #[Value.ref b] s) (F0 m 23 ls [])) {ad : Nat → Nat → Nat} {σ τ : ST} {o : Nat → Int64} (hR : R σ τ) (hbud : Bud it cs ss σ) {H : Heap} {locs : List Loc} (hP : va_P D vwCl (lwW cy ad am ao σ τ o) H) (hD : va_D (fun q : Nat => s.heap.size ≤ q) (lwW cy ad am ao σ τ o)) (hS : va_S (fun q : Nat => s.heap.size ≤ q) s.heap H locs) {ls : Array Slot} (hl : lv_has ls 8 [(0, .ref b), (1, .ref (ad 0 0)), (2, .ref (am 0 0)), (3, .ref ao), (4, .int x4)]) : W p l e room_1 s m #[Value.ref b] below meth c H locs cs ss (lw_Z below #[Value.ref b] s) (F0 m 626 ls []) := by
  obtain ⟨hx, hb, hr, hml, hown, hts, hX, hbl, hlocks, hK, hXX, htr⟩ := id C
  have hA : ∀ q : Nat, s.heap.size ≤ q → (fun q : Nat => s.heap.size ≤ q) q := fun _ h => h
  have hbA : ¬ (fun q : Nat => s.heap.size ≤ q) b := Nat.not_le.mpr hbl
  have hcs : cs + 0 ≤ room_1.cells := by show cs + 0 ≤ 601024; unfold Bud at hbud; omega
  have hss : ss + 0 ≤ room_1.slots := by show ss + 0 ≤ 7293034; unfold Bud at hbud; omega
  refine lv_aload_n hx hb dL_law_626 rfl (lv_at hl 1 rfl) ?_
  refine lv_aload_n hx hb dL_law_627 rfl (lv_at hl 0 rfl) ?_
  refine lv_iload hx hb dL_law_628 (lv_at hl 4 rfl) ?_
  refine lv_iconst (v := 1) hx hb dL_law_630 (by decide) ?_
  refine lv_iadd hx hb dL_law_631 ?_
  refine va_sld hx hb hX hbl hbA hS hin1 dL_law_632 ?_
  obtain ⟨q, r, hq, hr9, heq, hR1, hcn⟩ := pf σ τ (xs (Int32.toNatClampNeg (x4 + (1 : Int32)))) hR
  have hP : va_P D vwCl ([outc cy ao o] ++ (cw cy ad σ ++ (mw cy am τ))) _ := hP
  have hD : va_D (fun q : Nat => s.heap.size ≤ q) ([outc cy ao o] ++ (cw cy ad σ ++ (mw cy am τ))) := hD
  refine zf_l [outc cy ao o] (mw cy am τ) (zr_V [.int (xs (Int32.toNatClampNeg (x4 + (1 : Int32))))] [] ⟨hx, hb, hml, hown, hts⟩ (ctX2_mark l D cy ad σ (xs (Int32.toNatClampNeg (x4 + (1 : Int32)))) q hq _) (cwV 1 hts gL_law_X2_mark rfl rfl rfl (by decide +kernel) ⟨Nat.le_of_ble_eq_true rfl, Nat.le_of_ble_eq_true rfl⟩) hK (z_partP hP) (z_partD hD) 0 cw_0 rfl rfl rfl hl.1 rfl (Nat.le_of_ble_eq_true rfl) dL_law_633 ⟨hcs, hss⟩) hP hD hS hA (fun H locs hP hD hS => ?_)
  refine lv_aload_n hx hb dL_law_636 rfl (lv_at hl 2 rfl) ?_
  refine lv_aload_n hx hb dL_law_637 rfl (lv_at hl 0 rfl) ?_
  refine lv_iload hx hb dL_law_638 (lv_at hl 4 rfl) ?_
  refine lv_iconst (v := 1) hx hb dL_law_640 (by decide) ?_
  refine lv_iadd hx hb dL_law_641 ?_
  refine va_sld hx hb hX hbl hbA hS hin1 dL_law_642 ?_
  have hP : va_P D vwCl (([outc cy ao o] ++ cw cy ad q.2) ++ (mw cy am τ ++ [])) _ := hP
  have hD : va_D (fun q : Nat => s.heap.size ≤ q) (([outc cy ao o] ++ cw cy ad q.2) ++ (mw cy am τ ++ [])) := hD
  refine zf_l ([outc cy ao o] ++ cw cy ad q.2) [] (zr_V [.int (xs (Int32.toNatClampNeg (x4 + (1 : Int32))))] [.long q.1] ⟨hx, hb, hml, hown, hts⟩ (ctX3_mark l D cy am τ (xs (Int32.toNatClampNeg (x4 + (1 : Int32)))) r hr9 _) (cwV 1 hts gL_law_X3_mark rfl rfl rfl (by decide +kernel) ⟨Nat.le_of_ble_eq_true rfl, Nat.le_of_ble_eq_true rfl⟩) hK (z_partP hP) (z_partD hD) 0 mw_0 rfl rfl rfl hl.1 rfl (Nat.le_of_ble_eq_true rfl) dL_law_643 ⟨hcs, hss⟩) hP hD hS hA (fun H locs hP hD hS => ?_)
  have hP : va_P D vwCl (lwW cy ad am ao q.2 r.2 o) H := hP
  have hD : va_D (fun q : Nat => s.heap.size ≤ q) (lwW cy ad am ao q.2 r.2 o) := hD
  refine W.lcmp hx hb dL_law_646 ?_
  refine lv_if_eq (tgt := 1435) hx hb dL_law_647 (by decide) (fun c_1 => ?_) (fun c_1 => ?_)
  · refine lv_iinc (v := (x4 + (6 : Int32))) (lv' := [(4, .int (x4 + (6 : Int32))), (0, .ref b), (1, .ref (ad 0 0)), (2, .ref (am 0 0)), (3, .ref ao)]) hx hb dL_law_1435 hl (k := 4) rfl rfl (by decide) rfl (fun ls hl => ?_)
    refine lv_goto (tgt := 23) hx hb dL_law_1438 (by decide) ?_
    exact kk ad q.2 r.2 o _ _ hR1 (by unfold Bud at hbud ⊢; omega) _ _ hP hD hS _ (lv_sub hl [1, 2, 3, 4, 0] rfl)
  · exact absurd ((lg_cmp_eq _ _).mpr heq) c_1
theorem otgap {q : Option Int64 × ST} {r : Int64 × ST} {o : Nat → Int64} (h : ∀ v, q.1 = some v → v = r.1) (h0 : rL_gap q = 0) : (oL_gap q o) (Int32.toNatClampNeg (0 : Int32)) = r.1 := by
  unfold rL_gap at h0
  unfold oL_gap
  cases hq : q.1 with
  | none => rw [hq] at h0; exact absurd h0 (by decide)
  | some v => rw [← h v hq]; simp [vp_updL]
set_option maxHeartbeats 4000000 in
set_option maxRecDepth 100000 in
theorem lawc_gap {R : ST → ST → Prop} (pf : pf_gap R) {p : Program} {l : Launch} {e : Env} {s : State} {m : MethodId} {below : List Frame} {meth : Method} {c : Code} {b L : Nat} {xs : Nat → Int32} {D : va_G} {cy : Nat → ClassId} (C : Lx p l s m meth c b L xs D cy) {am : Nat → Nat → Nat} {ao it cs ss : Nat} {x4 : Int32} (hin1 : vp_in (x4 + (1 : Int32)) L) (hin2 : vp_in (x4 + (2 : Int32)) L) (hin3 : vp_in (x4 + (3 : Int32)) L) (hin4 : vp_in (x4 + (4 : Int32)) L) (hin5 : vp_in (x4 + (5 : Int32)) L) (hit : it < 513) (kk : ∀ (ad : Nat → Nat → Nat) (σ τ : ST) (o : Nat → Int64) (cs ss : Nat), R σ τ → Bud (it + 1) cs ss σ → ∀ (H : Heap) (locs : List Loc), va_P D vwCl (lwW cy ad am ao σ τ o) H → va_D (fun q : Nat => s.heap.size ≤ q) (lwW cy ad am ao σ τ o) → va_S (fun q : Nat => s.heap.size ≤ q) s.heap H locs → ∀ ls : Array Slot, lv_has ls 8 [(0, .ref b), (1, .ref (ad 0 0)), (2, .ref (am 0 0)), (3, .ref ao), (4, .int (x4 + (6 : Int32)))] → W p l e room_1 s m #[Value.ref b] below meth c H locs cs ss (lw_Z below #[Value.ref b] s) (F0 m 23 ls [])) {ad : Nat → Nat → Nat} {σ τ : ST} {o : Nat → Int64} (hR : R σ τ) (hbud : Bud it cs ss σ) {H : Heap} {locs : List Loc} (hP : va_P D vwCl (lwW cy ad am ao σ τ o) H) (hD : va_D (fun q : Nat => s.heap.size ≤ q) (lwW cy ad am ao σ τ o)) (hS : va_S (fun q : Nat => s.heap.size ≤ q) s.heap H locs) {ls : Array Slot} (hl : lv_has ls 8 [(0, .ref b), (1, .ref (ad 0 0)), (2, .ref (am 0 0)), (3, .ref ao), (4, .int x4)]) : W p l e room_1 s m #[Value.ref b] below meth c H locs cs ss (lw_Z below #[Value.ref b] s) (F0 m 652 ls []) := by
  obtain ⟨hx, hb, hr, hml, hown, hts, hX, hbl, hlocks, hK, hXX, htr⟩ := id C
  have hA : ∀ q : Nat, s.heap.size ≤ q → (fun q : Nat => s.heap.size ≤ q) q := fun _ h => h
  have hbA : ¬ (fun q : Nat => s.heap.size ≤ q) b := Nat.not_le.mpr hbl
  have hcs : cs + 0 ≤ room_1.cells := by show cs + 0 ≤ 601024; unfold Bud at hbud; omega
  have hss : ss + 0 ≤ room_1.slots := by show ss + 0 ≤ 7293034; unfold Bud at hbud; omega
  refine lv_aload_n hx hb dL_law_652 rfl (lv_at hl 1 rfl) ?_
  refine lv_aload_n hx hb dL_law_653 rfl (lv_at hl 0 rfl) ?_
  refine lv_iload hx hb dL_law_654 (lv_at hl 4 rfl) ?_
  refine lv_iconst (v := 1) hx hb dL_law_656 (by decide) ?_
  refine lv_iadd hx hb dL_law_657 ?_
  refine va_sld hx hb hX hbl hbA hS hin1 dL_law_658 ?_
  refine lv_aload_n hx hb dL_law_659 rfl (lv_at hl 0 rfl) ?_
  refine lv_iload hx hb dL_law_660 (lv_at hl 4 rfl) ?_
  refine lv_iconst (v := 2) hx hb dL_law_662 (by decide) ?_
  refine lv_iadd hx hb dL_law_663 ?_
  refine va_sld hx hb hX hbl hbA hS hin2 dL_law_664 ?_
  refine lv_aload_n hx hb dL_law_665 rfl (lv_at hl 3 rfl) ?_
  obtain ⟨q, r, hq, hr9, hth, heq, hR1, hcn⟩ := pf σ τ (xs (Int32.toNatClampNeg (x4 + (1 : Int32)))) (xs (Int32.toNatClampNeg (x4 + (2 : Int32)))) hR
  refine zc_im (yr_SW [.ref (ad 0 0), .int (xs (Int32.toNatClampNeg (x4 + (1 : Int32)))), .int (xs (Int32.toNatClampNeg (x4 + (2 : Int32)))), .ref ao] [] ⟨hx, hb, hml, hown, hts⟩ (ctL_gap l htr s.heap.size D cy ad (mw cy am τ) ao o σ (xs (Int32.toNatClampNeg (x4 + (1 : Int32)))) (xs (Int32.toNatClampNeg (x4 + (2 : Int32)))) q hq _) (vx_cwSW 4 hts gL_law_L_gap rfl rfl rfl (by decide +kernel) ⟨Nat.le_of_ble_eq_true rfl, Nat.le_of_ble_eq_true rfl⟩) hK hXX (fun _ h => h) (Nat.le_refl _) hP hD hS rfl hl.1 rfl (Nat.le_of_ble_eq_true rfl) dL_law_666 ⟨by show cs + 1 ≤ 601024; unfold Bud at hbud; omega, by show ss + 6 ≤ 7293034; unfold Bud at hbud; omega⟩) hD hS hA (fun H locs hP hD hS => ?_)
  have hcs : cs + 1 + 0 ≤ room_1.cells := by show cs + 1 + 0 ≤ 601024; unfold Bud at hbud; omega
  have hss : ss + 6 + 0 ≤ room_1.slots := by show ss + 6 + 0 ≤ 7293034; unfold Bud at hbud; omega
  refine lv_istore (lv' := [(5, .int (rL_gap q)), (0, .ref b), (1, .ref (ad 0 0)), (2, .ref (am 0 0)), (3, .ref ao), (4, .int x4)]) hx hb dL_law_669 hl (by decide) rfl (fun ls hl => ?_)
  refine lv_aload_n hx hb dL_law_671 rfl (lv_at hl 3 rfl) ?_
  refine lv_aload_n hx hb dL_law_672 rfl (lv_at hl 1 rfl) ?_
  refine lv_iload hx hb dL_law_673 (lv_at hl 5 rfl) ?_
  refine lv_iconst (v := 1) hx hb dL_law_675 (by decide) ?_
  refine lv_iadd hx hb dL_law_676 ?_
  refine va_sld hx hb hX hbl hbA hS hin1 dL_law_677 ?_
  refine lv_aload_n hx hb dL_law_678 rfl (lv_at hl 1 rfl) ?_
  refine lv_iload hx hb dL_law_679 (lv_at hl 5 rfl) ?_
  refine lv_iconst (v := 2) hx hb dL_law_681 (by decide) ?_
  refine lv_iadd hx hb dL_law_682 ?_
  refine va_sld hx hb hX hbl hbA hS hin2 dL_law_683 ?_
  have hP : va_P D vwCl (([outc cy ao (oL_gap q o)] ++ cw cy ad q.2) ++ (mw cy am τ ++ [])) _ := hP
  have hD : va_D (fun q : Nat => s.heap.size ≤ q) (([outc cy ao (oL_gap q o)] ++ cw cy ad q.2) ++ (mw cy am τ ++ [])) := hD
  refine zf_l ([outc cy ao (oL_gap q o)] ++ cw cy ad q.2) [] (zr_V [.int (xs (Int32.toNatClampNeg (x4 + (1 : Int32)))), .int (xs (Int32.toNatClampNeg (x4 + (2 : Int32))))] [] ⟨hx, hb, hml, hown, hts⟩ (ctX3_gap l D cy am τ (xs (Int32.toNatClampNeg (x4 + (1 : Int32)))) (xs (Int32.toNatClampNeg (x4 + (2 : Int32)))) r hr9 _) (cwV 2 hts gL_law_X3_gap rfl rfl rfl (by decide +kernel) ⟨Nat.le_of_ble_eq_true rfl, Nat.le_of_ble_eq_true rfl⟩) hK (z_partP hP) (z_partD hD) 0 mw_0 rfl rfl rfl hl.1 rfl (Nat.le_of_ble_eq_true rfl) dL_law_684 ⟨hcs, hss⟩) hP hD hS hA (fun H locs hP hD hS => ?_)
  have hP : va_P D vwCl (lwW cy ad am ao q.2 r.2 (oL_gap q o)) H := hP
  have hD : va_D (fun q : Nat => s.heap.size ≤ q) (lwW cy ad am ao q.2 r.2 (oL_gap q o)) := hD
  refine lv_lstore (lv' := [(6, .long r.1), (5, .int (rL_gap q)), (0, .ref b), (1, .ref (ad 0 0)), (2, .ref (am 0 0)), (3, .ref ao), (4, .int x4)]) hx hb dL_law_687 hl (by decide) rfl (fun ls hl => ?_)
  refine lv_aload_n hx hb dL_law_689 rfl (lv_at hl 4 rfl) ?_
  have hP : va_P D vwCl (([outc cy ao (oL_gap q o)] ++ cw cy ad q.2) ++ (mw cy am r.2 ++ [])) _ := hP
  have hD : va_D (fun q : Nat => s.heap.size ≤ q) (([outc cy ao (oL_gap q o)] ++ cw cy ad q.2) ++ (mw cy am r.2 ++ [])) := hD
  refine zf_i ([outc cy ao (oL_gap q o)] ++ cw cy ad q.2) [] (zr_V [] [] ⟨hx, hb, hml, hown, hts⟩ (ctX3_thrown l D cy am r.2 (gI r.2 0 0 10) rfl _) (cwV 0 hts gL_law_X3_thrown rfl rfl rfl (by decide +kernel) ⟨Nat.le_of_ble_eq_true rfl, Nat.le_of_ble_eq_true rfl⟩) hK (z_partP hP) (z_partD hD) 0 mw_0 rfl rfl rfl hl.1 rfl (Nat.le_of_ble_eq_true rfl) dL_law_690 ⟨hcs, hss⟩) hP hD hS hA (fun H locs hP hD hS => ?_)
  have hP : va_P D vwCl (lwW cy ad am ao q.2 r.2 (oL_gap q o)) H := hP
  have hD : va_D (fun q : Nat => s.heap.size ≤ q) (lwW cy ad am ao q.2 r.2 (oL_gap q o)) := hD
  refine lv_iload hx hb dL_law_693 (lv_at hl 1 rfl) ?_
  refine lv_icmp_eq (tgt := 700) hx hb dL_law_695 (by decide) (fun c_1 => ?_) (fun c_1 => ?_)
  · refine lv_iload hx hb dL_law_700 (lv_at hl 1 rfl) ?_
    refine lv_if_ne (tgt := 716) hx hb dL_law_702 (by decide) (fun c_2 => ?_) (fun c_2 => ?_)
    · refine lv_goto (tgt := 1435) hx hb dL_law_716 (by decide) ?_
      refine lv_iinc (v := (x4 + (6 : Int32))) (lv' := [(4, .int (x4 + (6 : Int32))), (6, .long r.1), (5, .int (rL_gap q)), (0, .ref b), (1, .ref (ad 0 0)), (2, .ref (am 0 0)), (3, .ref ao)]) hx hb dL_law_1435 hl (k := 6) rfl rfl (by decide) rfl (fun ls hl => ?_)
      refine lv_goto (tgt := 23) hx hb dL_law_1438 (by decide) ?_
      exact kk ad q.2 r.2 (oL_gap q o) _ _ hR1 (by unfold Bud at hbud ⊢; omega) _ _ hP hD hS _ (lv_sub hl [3, 4, 5, 6, 0] rfl)
    · refine lv_aload_n hx hb dL_law_705 rfl (lv_at hl 5 rfl) ?_
      refine lv_iconst (v := 0) hx hb dL_law_706 (by decide) ?_
      refine va_lald hx hb hK.1 hP 0 1 rfl rfl (inb_vp (by decide)) dL_law_707 ?_
      refine lv_lload hx hb dL_law_708 (lv_at hl 0 rfl) ?_
      refine W.lcmp hx hb dL_law_710 ?_
      refine lv_if_eq (tgt := 716) hx hb dL_law_711 (by decide) (fun c_3 => ?_) (fun c_3 => ?_)
      · refine lv_goto (tgt := 1435) hx hb dL_law_716 (by decide) ?_
        refine lv_iinc (v := (x4 + (6 : Int32))) (lv' := [(4, .int (x4 + (6 : Int32))), (6, .long r.1), (5, .int (rL_gap q)), (0, .ref b), (1, .ref (ad 0 0)), (2, .ref (am 0 0)), (3, .ref ao)]) hx hb dL_law_1435 hl (k := 6) rfl rfl (by decide) rfl (fun ls hl => ?_)
        refine lv_goto (tgt := 23) hx hb dL_law_1438 (by decide) ?_
        exact kk ad q.2 r.2 (oL_gap q o) _ _ hR1 (by unfold Bud at hbud ⊢; omega) _ _ hP hD hS _ (lv_sub hl [3, 4, 5, 6, 0] rfl)
      · exact absurd ((lg_cmp_eq _ _).mpr (otgap heq c_2)) c_3
  · exact absurd hth c_1
set_option maxHeartbeats 4000000 in
set_option maxRecDepth 100000 in
theorem lawc_switches {R : ST → ST → Prop} (pf : pf_switches R) {p : Program} {l : Launch} {e : Env} {s : State} {m : MethodId} {below : List Frame} {meth : Method} {c : Code} {b L : Nat} {xs : Nat → Int32} {D : va_G} {cy : Nat → ClassId} (C : Lx p l s m meth c b L xs D cy) {am : Nat → Nat → Nat} {ao it cs ss : Nat} {x4 : Int32} (hin1 : vp_in (x4 + (1 : Int32)) L) (hin2 : vp_in (x4 + (2 : Int32)) L) (hin3 : vp_in (x4 + (3 : Int32)) L) (hin4 : vp_in (x4 + (4 : Int32)) L) (hin5 : vp_in (x4 + (5 : Int32)) L) (hit : it < 513) (kk : ∀ (ad : Nat → Nat → Nat) (σ τ : ST) (o : Nat → Int64) (cs ss : Nat), R σ τ → Bud (it + 1) cs ss σ → ∀ (H : Heap) (locs : List Loc), va_P D vwCl (lwW cy ad am ao σ τ o) H → va_D (fun q : Nat => s.heap.size ≤ q) (lwW cy ad am ao σ τ o) → va_S (fun q : Nat => s.heap.size ≤ q) s.heap H locs → ∀ ls : Array Slot, lv_has ls 8 [(0, .ref b), (1, .ref (ad 0 0)), (2, .ref (am 0 0)), (3, .ref ao), (4, .int (x4 + (6 : Int32)))] → W p l e room_1 s m #[Value.ref b] below meth c H locs cs ss (lw_Z below #[Value.ref b] s) (F0 m 23 ls [])) {ad : Nat → Nat → Nat} {σ τ : ST} {o : Nat → Int64} (hR : R σ τ) (hbud : Bud it cs ss σ) {H : Heap} {locs : List Loc} (hP : va_P D vwCl (lwW cy ad am ao σ τ o) H) (hD : va_D (fun q : Nat => s.heap.size ≤ q) (lwW cy ad am ao σ τ o)) (hS : va_S (fun q : Nat => s.heap.size ≤ q) s.heap H locs) {ls : Array Slot} (hl : lv_has ls 8 [(0, .ref b), (1, .ref (ad 0 0)), (2, .ref (am 0 0)), (3, .ref ao), (4, .int x4)]) : W p l e room_1 s m #[Value.ref b] below meth c H locs cs ss (lw_Z below #[Value.ref b] s) (F0 m 719 ls []) := by
  obtain ⟨hx, hb, hr, hml, hown, hts, hX, hbl, hlocks, hK, hXX, htr⟩ := id C
  have hA : ∀ q : Nat, s.heap.size ≤ q → (fun q : Nat => s.heap.size ≤ q) q := fun _ h => h
  have hbA : ¬ (fun q : Nat => s.heap.size ≤ q) b := Nat.not_le.mpr hbl
  have hcs : cs + 0 ≤ room_1.cells := by show cs + 0 ≤ 601024; unfold Bud at hbud; omega
  have hss : ss + 0 ≤ room_1.slots := by show ss + 0 ≤ 7293034; unfold Bud at hbud; omega
  refine lv_aload_n hx hb dL_law_719 rfl (lv_at hl 1 rfl) ?_
  refine lv_aload_n hx hb dL_law_720 rfl (lv_at hl 0 rfl) ?_
  refine lv_iload hx hb dL_law_721 (lv_at hl 4 rfl) ?_
  refine lv_iconst (v := 1) hx hb dL_law_723 (by decide) ?_
  refine lv_iadd hx hb dL_law_724 ?_
  refine va_sld hx hb hX hbl hbA hS hin1 dL_law_725 ?_
  refine lv_aload_n hx hb dL_law_726 rfl (lv_at hl 0 rfl) ?_
  refine lv_iload hx hb dL_law_727 (lv_at hl 4 rfl) ?_
  refine lv_iconst (v := 2) hx hb dL_law_729 (by decide) ?_
  refine lv_iadd hx hb dL_law_730 ?_
  refine va_sld hx hb hX hbl hbA hS hin2 dL_law_731 ?_
  refine lv_aload_n hx hb dL_law_732 rfl (lv_at hl 0 rfl) ?_
  refine lv_iload hx hb dL_law_733 (lv_at hl 4 rfl) ?_
  refine lv_iconst (v := 3) hx hb dL_law_735 (by decide) ?_
  refine lv_iadd hx hb dL_law_736 ?_
  refine va_sld hx hb hX hbl hbA hS hin3 dL_law_737 ?_
  obtain ⟨q, r, n, hq, hr9, heq, hR1, hn, hcn⟩ := pf σ τ (xs (Int32.toNatClampNeg (x4 + (1 : Int32)))) (xs (Int32.toNatClampNeg (x4 + (2 : Int32)))) (xs (Int32.toNatClampNeg (x4 + (3 : Int32)))) hR
  have hP : va_P D vwCl ([outc cy ao o] ++ (cw cy ad σ ++ (mw cy am τ))) _ := hP
  have hD : va_D (fun q : Nat => s.heap.size ≤ q) ([outc cy ao o] ++ (cw cy ad σ ++ (mw cy am τ))) := hD
  refine zf_a [outc cy ao o] (mw cy am τ) (zr_V [.int (xs (Int32.toNatClampNeg (x4 + (1 : Int32)))), .int (xs (Int32.toNatClampNeg (x4 + (2 : Int32)))), .int (xs (Int32.toNatClampNeg (x4 + (3 : Int32))))] [] ⟨hx, hb, hml, hown, hts⟩ (ctX2_switches2 l D cy ad σ (xs (Int32.toNatClampNeg (x4 + (1 : Int32)))) (xs (Int32.toNatClampNeg (x4 + (2 : Int32)))) (xs (Int32.toNatClampNeg (x4 + (3 : Int32)))) q hq n hn _) (cwV 3 hts gL_law_X2_switches rfl rfl rfl (by decide +kernel) ⟨Nat.le_of_ble_eq_true rfl, Nat.le_of_ble_eq_true rfl⟩) hK (z_partP hP) (z_partD hD) 0 cw_0 rfl rfl rfl hl.1 rfl (Nat.le_of_ble_eq_true rfl) dL_law_738 ⟨by show cs + n ≤ 601024; unfold Bud at hbud; omega, by show ss + 3201 * n ≤ 7293034; unfold Bud at hbud; omega⟩) hP hD hS hA (fun ad1 H locs hu hP hD hS => ?_)
  rw [← hu 0 0 (by decide)] at hl
  have hcs : cs + n + 0 ≤ room_1.cells := by show cs + n + 0 ≤ 601024; unfold Bud at hbud; omega
  have hss : ss + 3201 * n + 0 ≤ room_1.slots := by show ss + 3201 * n + 0 ≤ 7293034; unfold Bud at hbud; omega
  refine lv_aload_n hx hb dL_law_741 rfl (lv_at hl 2 rfl) ?_
  refine lv_aload_n hx hb dL_law_742 rfl (lv_at hl 0 rfl) ?_
  refine lv_iload hx hb dL_law_743 (lv_at hl 4 rfl) ?_
  refine lv_iconst (v := 1) hx hb dL_law_745 (by decide) ?_
  refine lv_iadd hx hb dL_law_746 ?_
  refine va_sld hx hb hX hbl hbA hS hin1 dL_law_747 ?_
  refine lv_aload_n hx hb dL_law_748 rfl (lv_at hl 0 rfl) ?_
  refine lv_iload hx hb dL_law_749 (lv_at hl 4 rfl) ?_
  refine lv_iconst (v := 2) hx hb dL_law_751 (by decide) ?_
  refine lv_iadd hx hb dL_law_752 ?_
  refine va_sld hx hb hX hbl hbA hS hin2 dL_law_753 ?_
  refine lv_aload_n hx hb dL_law_754 rfl (lv_at hl 0 rfl) ?_
  refine lv_iload hx hb dL_law_755 (lv_at hl 4 rfl) ?_
  refine lv_iconst (v := 3) hx hb dL_law_757 (by decide) ?_
  refine lv_iadd hx hb dL_law_758 ?_
  refine va_sld hx hb hX hbl hbA hS hin3 dL_law_759 ?_
  have hP : va_P D vwCl (([outc cy ao o] ++ cw cy ad1 q.2) ++ (mw cy am τ ++ [])) _ := hP
  have hD : va_D (fun q : Nat => s.heap.size ≤ q) (([outc cy ao o] ++ cw cy ad1 q.2) ++ (mw cy am τ ++ [])) := hD
  refine zf_i ([outc cy ao o] ++ cw cy ad1 q.2) [] (zr_V [.int (xs (Int32.toNatClampNeg (x4 + (1 : Int32)))), .int (xs (Int32.toNatClampNeg (x4 + (2 : Int32)))), .int (xs (Int32.toNatClampNeg (x4 + (3 : Int32))))] [.int q.1] ⟨hx, hb, hml, hown, hts⟩ (ctX3_switches l D cy am τ (xs (Int32.toNatClampNeg (x4 + (1 : Int32)))) (xs (Int32.toNatClampNeg (x4 + (2 : Int32)))) (xs (Int32.toNatClampNeg (x4 + (3 : Int32)))) r hr9 _) (cwV 3 hts gL_law_X3_switches rfl rfl rfl (by decide +kernel) ⟨Nat.le_of_ble_eq_true rfl, Nat.le_of_ble_eq_true rfl⟩) hK (z_partP hP) (z_partD hD) 0 mw_0 rfl rfl rfl hl.1 rfl (Nat.le_of_ble_eq_true rfl) dL_law_760 ⟨hcs, hss⟩) hP hD hS hA (fun H locs hP hD hS => ?_)
  have hP : va_P D vwCl (lwW cy ad1 am ao q.2 r.2 o) H := hP
  have hD : va_D (fun q : Nat => s.heap.size ≤ q) (lwW cy ad1 am ao q.2 r.2 o) := hD
  refine lv_icmp_eq (tgt := 1435) hx hb dL_law_763 (by decide) (fun c_1 => ?_) (fun c_1 => ?_)
  · refine lv_iinc (v := (x4 + (6 : Int32))) (lv' := [(4, .int (x4 + (6 : Int32))), (0, .ref b), (1, .ref (ad1 0 0)), (2, .ref (am 0 0)), (3, .ref ao)]) hx hb dL_law_1435 hl (k := 4) rfl rfl (by decide) rfl (fun ls hl => ?_)
    refine lv_goto (tgt := 23) hx hb dL_law_1438 (by decide) ?_
    exact kk ad1 q.2 r.2 o _ _ hR1 (by unfold Bud at hbud ⊢; omega) _ _ hP hD hS _ (lv_sub hl [1, 2, 3, 4, 0] rfl)
  · exact absurd heq c_1
set_option maxHeartbeats 4000000 in
set_option maxRecDepth 100000 in
theorem lawc_implied {R : ST → ST → Prop} (pf : pf_implied R) {p : Program} {l : Launch} {e : Env} {s : State} {m : MethodId} {below : List Frame} {meth : Method} {c : Code} {b L : Nat} {xs : Nat → Int32} {D : va_G} {cy : Nat → ClassId} (C : Lx p l s m meth c b L xs D cy) {am : Nat → Nat → Nat} {ao it cs ss : Nat} {x4 : Int32} (hin1 : vp_in (x4 + (1 : Int32)) L) (hin2 : vp_in (x4 + (2 : Int32)) L) (hin3 : vp_in (x4 + (3 : Int32)) L) (hin4 : vp_in (x4 + (4 : Int32)) L) (hin5 : vp_in (x4 + (5 : Int32)) L) (hit : it < 513) (kk : ∀ (ad : Nat → Nat → Nat) (σ τ : ST) (o : Nat → Int64) (cs ss : Nat), R σ τ → Bud (it + 1) cs ss σ → ∀ (H : Heap) (locs : List Loc), va_P D vwCl (lwW cy ad am ao σ τ o) H → va_D (fun q : Nat => s.heap.size ≤ q) (lwW cy ad am ao σ τ o) → va_S (fun q : Nat => s.heap.size ≤ q) s.heap H locs → ∀ ls : Array Slot, lv_has ls 8 [(0, .ref b), (1, .ref (ad 0 0)), (2, .ref (am 0 0)), (3, .ref ao), (4, .int (x4 + (6 : Int32)))] → W p l e room_1 s m #[Value.ref b] below meth c H locs cs ss (lw_Z below #[Value.ref b] s) (F0 m 23 ls [])) {ad : Nat → Nat → Nat} {σ τ : ST} {o : Nat → Int64} (hR : R σ τ) (hbud : Bud it cs ss σ) {H : Heap} {locs : List Loc} (hP : va_P D vwCl (lwW cy ad am ao σ τ o) H) (hD : va_D (fun q : Nat => s.heap.size ≤ q) (lwW cy ad am ao σ τ o)) (hS : va_S (fun q : Nat => s.heap.size ≤ q) s.heap H locs) {ls : Array Slot} (hl : lv_has ls 8 [(0, .ref b), (1, .ref (ad 0 0)), (2, .ref (am 0 0)), (3, .ref ao), (4, .int x4)]) : W p l e room_1 s m #[Value.ref b] below meth c H locs cs ss (lw_Z below #[Value.ref b] s) (F0 m 768 ls []) := by
  obtain ⟨hx, hb, hr, hml, hown, hts, hX, hbl, hlocks, hK, hXX, htr⟩ := id C
  have hA : ∀ q : Nat, s.heap.size ≤ q → (fun q : Nat => s.heap.size ≤ q) q := fun _ h => h
  have hbA : ¬ (fun q : Nat => s.heap.size ≤ q) b := Nat.not_le.mpr hbl
  have hcs : cs + 0 ≤ room_1.cells := by show cs + 0 ≤ 601024; unfold Bud at hbud; omega
  have hss : ss + 0 ≤ room_1.slots := by show ss + 0 ≤ 7293034; unfold Bud at hbud; omega
  refine lv_aload_n hx hb dL_law_768 rfl (lv_at hl 1 rfl) ?_
  refine lv_aload_n hx hb dL_law_769 rfl (lv_at hl 0 rfl) ?_
  refine lv_iload hx hb dL_law_770 (lv_at hl 4 rfl) ?_
  refine lv_iconst (v := 1) hx hb dL_law_772 (by decide) ?_
  refine lv_iadd hx hb dL_law_773 ?_
  refine va_sld hx hb hX hbl hbA hS hin1 dL_law_774 ?_
  refine lv_i2l hx hb dL_law_775 rfl ?_
  refine lv_bipush (v := 32) hx hb dL_law_776 (by decide) ?_
  refine lv_lshl hx hb dL_law_778 rfl ?_
  refine lv_aload_n hx hb dL_law_779 rfl (lv_at hl 0 rfl) ?_
  refine lv_iload hx hb dL_law_780 (lv_at hl 4 rfl) ?_
  refine lv_iconst (v := 2) hx hb dL_law_782 (by decide) ?_
  refine lv_iadd hx hb dL_law_783 ?_
  refine va_sld hx hb hX hbl hbA hS hin2 dL_law_784 ?_
  refine lv_i2l hx hb dL_law_785 rfl ?_
  refine lv_ldc2 (v := 4294967295) hx hb hown (hts (.constantLong RL 105 (4294967295)) (by decide +kernel)) dL_law_786 ?_
  refine lv_land hx hb dL_law_789 ?_
  refine lv_lor hx hb dL_law_790 ?_
  obtain ⟨q, r, hq, hr9, heq, hR1, hcn⟩ := pf σ τ (((Int32.toInt64 (xs (Int32.toNatClampNeg (x4 + (1 : Int32))))) <<< (Int32.toInt64 (32 : Int32) &&& 63)) ||| ((Int32.toInt64 (xs (Int32.toNatClampNeg (x4 + (2 : Int32))))) &&& (4294967295 : Int64))) hR
  have hP : va_P D vwCl ([outc cy ao o] ++ (cw cy ad σ ++ (mw cy am τ))) _ := hP
  have hD : va_D (fun q : Nat => s.heap.size ≤ q) ([outc cy ao o] ++ (cw cy ad σ ++ (mw cy am τ))) := hD
  refine zf_i [outc cy ao o] (mw cy am τ) (zr_V [.long (((Int32.toInt64 (xs (Int32.toNatClampNeg (x4 + (1 : Int32))))) <<< (Int32.toInt64 (32 : Int32) &&& 63)) ||| ((Int32.toInt64 (xs (Int32.toNatClampNeg (x4 + (2 : Int32))))) &&& (4294967295 : Int64)))] [] ⟨hx, hb, hml, hown, hts⟩ (ctX2_implied l D cy ad σ (((Int32.toInt64 (xs (Int32.toNatClampNeg (x4 + (1 : Int32))))) <<< (Int32.toInt64 (32 : Int32) &&& 63)) ||| ((Int32.toInt64 (xs (Int32.toNatClampNeg (x4 + (2 : Int32))))) &&& (4294967295 : Int64))) q hq _) (cwV 1 hts gL_law_X2_implied rfl rfl rfl (by decide +kernel) ⟨Nat.le_of_ble_eq_true rfl, Nat.le_of_ble_eq_true rfl⟩) hK (z_partP hP) (z_partD hD) 0 cw_0 rfl rfl rfl hl.1 rfl (Nat.le_of_ble_eq_true rfl) dL_law_791 ⟨hcs, hss⟩) hP hD hS hA (fun H locs hP hD hS => ?_)
  refine lv_aload_n hx hb dL_law_794 rfl (lv_at hl 2 rfl) ?_
  refine lv_aload_n hx hb dL_law_795 rfl (lv_at hl 0 rfl) ?_
  refine lv_iload hx hb dL_law_796 (lv_at hl 4 rfl) ?_
  refine lv_iconst (v := 1) hx hb dL_law_798 (by decide) ?_
  refine lv_iadd hx hb dL_law_799 ?_
  refine va_sld hx hb hX hbl hbA hS hin1 dL_law_800 ?_
  refine lv_i2l hx hb dL_law_801 rfl ?_
  refine lv_bipush (v := 32) hx hb dL_law_802 (by decide) ?_
  refine lv_lshl hx hb dL_law_804 rfl ?_
  refine lv_aload_n hx hb dL_law_805 rfl (lv_at hl 0 rfl) ?_
  refine lv_iload hx hb dL_law_806 (lv_at hl 4 rfl) ?_
  refine lv_iconst (v := 2) hx hb dL_law_808 (by decide) ?_
  refine lv_iadd hx hb dL_law_809 ?_
  refine va_sld hx hb hX hbl hbA hS hin2 dL_law_810 ?_
  refine lv_i2l hx hb dL_law_811 rfl ?_
  refine lv_ldc2 (v := 4294967295) hx hb hown (hts (.constantLong RL 105 (4294967295)) (by decide +kernel)) dL_law_812 ?_
  refine lv_land hx hb dL_law_815 ?_
  refine lv_lor hx hb dL_law_816 ?_
  have hP : va_P D vwCl (([outc cy ao o] ++ cw cy ad q.2) ++ (mw cy am τ ++ [])) _ := hP
  have hD : va_D (fun q : Nat => s.heap.size ≤ q) (([outc cy ao o] ++ cw cy ad q.2) ++ (mw cy am τ ++ [])) := hD
  refine zf_i ([outc cy ao o] ++ cw cy ad q.2) [] (zr_V [.long (((Int32.toInt64 (xs (Int32.toNatClampNeg (x4 + (1 : Int32))))) <<< (Int32.toInt64 (32 : Int32) &&& 63)) ||| ((Int32.toInt64 (xs (Int32.toNatClampNeg (x4 + (2 : Int32))))) &&& (4294967295 : Int64)))] [.int q.1] ⟨hx, hb, hml, hown, hts⟩ (ctX3_implied l D cy am τ (((Int32.toInt64 (xs (Int32.toNatClampNeg (x4 + (1 : Int32))))) <<< (Int32.toInt64 (32 : Int32) &&& 63)) ||| ((Int32.toInt64 (xs (Int32.toNatClampNeg (x4 + (2 : Int32))))) &&& (4294967295 : Int64))) r hr9 _) (cwV 1 hts gL_law_X3_implied rfl rfl rfl (by decide +kernel) ⟨Nat.le_of_ble_eq_true rfl, Nat.le_of_ble_eq_true rfl⟩) hK (z_partP hP) (z_partD hD) 0 mw_0 rfl rfl rfl hl.1 rfl (Nat.le_of_ble_eq_true rfl) dL_law_817 ⟨hcs, hss⟩) hP hD hS hA (fun H locs hP hD hS => ?_)
  have hP : va_P D vwCl (lwW cy ad am ao q.2 r.2 o) H := hP
  have hD : va_D (fun q : Nat => s.heap.size ≤ q) (lwW cy ad am ao q.2 r.2 o) := hD
  refine lv_icmp_eq (tgt := 1435) hx hb dL_law_820 (by decide) (fun c_1 => ?_) (fun c_1 => ?_)
  · refine lv_iinc (v := (x4 + (6 : Int32))) (lv' := [(4, .int (x4 + (6 : Int32))), (0, .ref b), (1, .ref (ad 0 0)), (2, .ref (am 0 0)), (3, .ref ao)]) hx hb dL_law_1435 hl (k := 4) rfl rfl (by decide) rfl (fun ls hl => ?_)
    refine lv_goto (tgt := 23) hx hb dL_law_1438 (by decide) ?_
    exact kk ad q.2 r.2 o _ _ hR1 (by unfold Bud at hbud ⊢; omega) _ _ hP hD hS _ (lv_sub hl [1, 2, 3, 4, 0] rfl)
  · exact absurd heq c_1
set_option maxHeartbeats 4000000 in
set_option maxRecDepth 100000 in
theorem lawc_meet {R : ST → ST → Prop} (pf : pf_meet R) {p : Program} {l : Launch} {e : Env} {s : State} {m : MethodId} {below : List Frame} {meth : Method} {c : Code} {b L : Nat} {xs : Nat → Int32} {D : va_G} {cy : Nat → ClassId} (C : Lx p l s m meth c b L xs D cy) {am : Nat → Nat → Nat} {ao it cs ss : Nat} {x4 : Int32} (hin1 : vp_in (x4 + (1 : Int32)) L) (hin2 : vp_in (x4 + (2 : Int32)) L) (hin3 : vp_in (x4 + (3 : Int32)) L) (hin4 : vp_in (x4 + (4 : Int32)) L) (hin5 : vp_in (x4 + (5 : Int32)) L) (hit : it < 513) (kk : ∀ (ad : Nat → Nat → Nat) (σ τ : ST) (o : Nat → Int64) (cs ss : Nat), R σ τ → Bud (it + 1) cs ss σ → ∀ (H : Heap) (locs : List Loc), va_P D vwCl (lwW cy ad am ao σ τ o) H → va_D (fun q : Nat => s.heap.size ≤ q) (lwW cy ad am ao σ τ o) → va_S (fun q : Nat => s.heap.size ≤ q) s.heap H locs → ∀ ls : Array Slot, lv_has ls 8 [(0, .ref b), (1, .ref (ad 0 0)), (2, .ref (am 0 0)), (3, .ref ao), (4, .int (x4 + (6 : Int32)))] → W p l e room_1 s m #[Value.ref b] below meth c H locs cs ss (lw_Z below #[Value.ref b] s) (F0 m 23 ls [])) {ad : Nat → Nat → Nat} {σ τ : ST} {o : Nat → Int64} (hR : R σ τ) (hbud : Bud it cs ss σ) {H : Heap} {locs : List Loc} (hP : va_P D vwCl (lwW cy ad am ao σ τ o) H) (hD : va_D (fun q : Nat => s.heap.size ≤ q) (lwW cy ad am ao σ τ o)) (hS : va_S (fun q : Nat => s.heap.size ≤ q) s.heap H locs) {ls : Array Slot} (hl : lv_has ls 8 [(0, .ref b), (1, .ref (ad 0 0)), (2, .ref (am 0 0)), (3, .ref ao), (4, .int x4)]) : W p l e room_1 s m #[Value.ref b] below meth c H locs cs ss (lw_Z below #[Value.ref b] s) (F0 m 825 ls []) := by
  obtain ⟨hx, hb, hr, hml, hown, hts, hX, hbl, hlocks, hK, hXX, htr⟩ := id C
  have hA : ∀ q : Nat, s.heap.size ≤ q → (fun q : Nat => s.heap.size ≤ q) q := fun _ h => h
  have hbA : ¬ (fun q : Nat => s.heap.size ≤ q) b := Nat.not_le.mpr hbl
  have hcs : cs + 0 ≤ room_1.cells := by show cs + 0 ≤ 601024; unfold Bud at hbud; omega
  have hss : ss + 0 ≤ room_1.slots := by show ss + 0 ≤ 7293034; unfold Bud at hbud; omega
  refine lv_aload_n hx hb dL_law_825 rfl (lv_at hl 1 rfl) ?_
  refine lv_aload_n hx hb dL_law_826 rfl (lv_at hl 0 rfl) ?_
  refine lv_iload hx hb dL_law_827 (lv_at hl 4 rfl) ?_
  refine lv_iconst (v := 1) hx hb dL_law_829 (by decide) ?_
  refine lv_iadd hx hb dL_law_830 ?_
  refine va_sld hx hb hX hbl hbA hS hin1 dL_law_831 ?_
  refine lv_aload_n hx hb dL_law_832 rfl (lv_at hl 0 rfl) ?_
  refine lv_iload hx hb dL_law_833 (lv_at hl 4 rfl) ?_
  refine lv_iconst (v := 2) hx hb dL_law_835 (by decide) ?_
  refine lv_iadd hx hb dL_law_836 ?_
  refine va_sld hx hb hX hbl hbA hS hin2 dL_law_837 ?_
  refine lv_aload_n hx hb dL_law_838 rfl (lv_at hl 0 rfl) ?_
  refine lv_iload hx hb dL_law_839 (lv_at hl 4 rfl) ?_
  refine lv_iconst (v := 3) hx hb dL_law_841 (by decide) ?_
  refine lv_iadd hx hb dL_law_842 ?_
  refine va_sld hx hb hX hbl hbA hS hin3 dL_law_843 ?_
  refine lv_aload_n hx hb dL_law_844 rfl (lv_at hl 0 rfl) ?_
  refine lv_iload hx hb dL_law_845 (lv_at hl 4 rfl) ?_
  refine lv_iconst (v := 4) hx hb dL_law_847 (by decide) ?_
  refine lv_iadd hx hb dL_law_848 ?_
  refine va_sld hx hb hX hbl hbA hS hin4 dL_law_849 ?_
  obtain ⟨q, r, hq, hr9, heq, hR1, hcn⟩ := pf σ τ (xs (Int32.toNatClampNeg (x4 + (1 : Int32)))) (xs (Int32.toNatClampNeg (x4 + (2 : Int32)))) (xs (Int32.toNatClampNeg (x4 + (3 : Int32)))) (xs (Int32.toNatClampNeg (x4 + (4 : Int32)))) hR
  have hP : va_P D vwCl ([outc cy ao o] ++ (cw cy ad σ ++ (mw cy am τ))) _ := hP
  have hD : va_D (fun q : Nat => s.heap.size ≤ q) ([outc cy ao o] ++ (cw cy ad σ ++ (mw cy am τ))) := hD
  refine zf_i [outc cy ao o] (mw cy am τ) (zr_V [.int (xs (Int32.toNatClampNeg (x4 + (1 : Int32)))), .int (xs (Int32.toNatClampNeg (x4 + (2 : Int32)))), .int (xs (Int32.toNatClampNeg (x4 + (3 : Int32)))), .int (xs (Int32.toNatClampNeg (x4 + (4 : Int32))))] [] ⟨hx, hb, hml, hown, hts⟩ (ctX2_meet l D cy ad σ (xs (Int32.toNatClampNeg (x4 + (1 : Int32)))) (xs (Int32.toNatClampNeg (x4 + (2 : Int32)))) (xs (Int32.toNatClampNeg (x4 + (3 : Int32)))) (xs (Int32.toNatClampNeg (x4 + (4 : Int32)))) q hq _) (cwV 4 hts gL_law_X2_meet rfl rfl rfl (by decide +kernel) ⟨Nat.le_of_ble_eq_true rfl, Nat.le_of_ble_eq_true rfl⟩) hK (z_partP hP) (z_partD hD) 0 cw_0 rfl rfl rfl hl.1 rfl (Nat.le_of_ble_eq_true rfl) dL_law_850 ⟨hcs, hss⟩) hP hD hS hA (fun H locs hP hD hS => ?_)
  refine lv_aload_n hx hb dL_law_853 rfl (lv_at hl 2 rfl) ?_
  refine lv_aload_n hx hb dL_law_854 rfl (lv_at hl 0 rfl) ?_
  refine lv_iload hx hb dL_law_855 (lv_at hl 4 rfl) ?_
  refine lv_iconst (v := 1) hx hb dL_law_857 (by decide) ?_
  refine lv_iadd hx hb dL_law_858 ?_
  refine va_sld hx hb hX hbl hbA hS hin1 dL_law_859 ?_
  refine lv_aload_n hx hb dL_law_860 rfl (lv_at hl 0 rfl) ?_
  refine lv_iload hx hb dL_law_861 (lv_at hl 4 rfl) ?_
  refine lv_iconst (v := 2) hx hb dL_law_863 (by decide) ?_
  refine lv_iadd hx hb dL_law_864 ?_
  refine va_sld hx hb hX hbl hbA hS hin2 dL_law_865 ?_
  refine lv_aload_n hx hb dL_law_866 rfl (lv_at hl 0 rfl) ?_
  refine lv_iload hx hb dL_law_867 (lv_at hl 4 rfl) ?_
  refine lv_iconst (v := 3) hx hb dL_law_869 (by decide) ?_
  refine lv_iadd hx hb dL_law_870 ?_
  refine va_sld hx hb hX hbl hbA hS hin3 dL_law_871 ?_
  refine lv_aload_n hx hb dL_law_872 rfl (lv_at hl 0 rfl) ?_
  refine lv_iload hx hb dL_law_873 (lv_at hl 4 rfl) ?_
  refine lv_iconst (v := 4) hx hb dL_law_875 (by decide) ?_
  refine lv_iadd hx hb dL_law_876 ?_
  refine va_sld hx hb hX hbl hbA hS hin4 dL_law_877 ?_
  have hP : va_P D vwCl (([outc cy ao o] ++ cw cy ad q.2) ++ (mw cy am τ ++ [])) _ := hP
  have hD : va_D (fun q : Nat => s.heap.size ≤ q) (([outc cy ao o] ++ cw cy ad q.2) ++ (mw cy am τ ++ [])) := hD
  refine zf_i ([outc cy ao o] ++ cw cy ad q.2) [] (zr_V [.int (xs (Int32.toNatClampNeg (x4 + (1 : Int32)))), .int (xs (Int32.toNatClampNeg (x4 + (2 : Int32)))), .int (xs (Int32.toNatClampNeg (x4 + (3 : Int32)))), .int (xs (Int32.toNatClampNeg (x4 + (4 : Int32))))] [.int q.1] ⟨hx, hb, hml, hown, hts⟩ (ctX3_meet l D cy am τ (xs (Int32.toNatClampNeg (x4 + (1 : Int32)))) (xs (Int32.toNatClampNeg (x4 + (2 : Int32)))) (xs (Int32.toNatClampNeg (x4 + (3 : Int32)))) (xs (Int32.toNatClampNeg (x4 + (4 : Int32)))) r hr9 _) (cwV 4 hts gL_law_X3_meet rfl rfl rfl (by decide +kernel) ⟨Nat.le_of_ble_eq_true rfl, Nat.le_of_ble_eq_true rfl⟩) hK (z_partP hP) (z_partD hD) 0 mw_0 rfl rfl rfl hl.1 rfl (Nat.le_of_ble_eq_true rfl) dL_law_878 ⟨hcs, hss⟩) hP hD hS hA (fun H locs hP hD hS => ?_)
  have hP : va_P D vwCl (lwW cy ad am ao q.2 r.2 o) H := hP
  have hD : va_D (fun q : Nat => s.heap.size ≤ q) (lwW cy ad am ao q.2 r.2 o) := hD
  refine lv_icmp_eq (tgt := 1435) hx hb dL_law_881 (by decide) (fun c_1 => ?_) (fun c_1 => ?_)
  · refine lv_iinc (v := (x4 + (6 : Int32))) (lv' := [(4, .int (x4 + (6 : Int32))), (0, .ref b), (1, .ref (ad 0 0)), (2, .ref (am 0 0)), (3, .ref ao)]) hx hb dL_law_1435 hl (k := 4) rfl rfl (by decide) rfl (fun ls hl => ?_)
    refine lv_goto (tgt := 23) hx hb dL_law_1438 (by decide) ?_
    exact kk ad q.2 r.2 o _ _ hR1 (by unfold Bud at hbud ⊢; omega) _ _ hP hD hS _ (lv_sub hl [1, 2, 3, 4, 0] rfl)
  · exact absurd heq c_1
theorem otcost {q : Option Int64 × ST} {r : Int64 × ST} {o : Nat → Int64} (h : ∀ v, q.1 = some v → v = r.1) (h0 : rL_cost q = 0) : (oL_cost q o) (Int32.toNatClampNeg (0 : Int32)) = r.1 := by
  unfold rL_cost at h0
  unfold oL_cost
  cases hq : q.1 with
  | none => rw [hq] at h0; exact absurd h0 (by decide)
  | some v => rw [← h v hq]; simp [vp_updL]
set_option maxHeartbeats 4000000 in
set_option maxRecDepth 100000 in
theorem lawc_cost {R : ST → ST → Prop} (pf : pf_cost R) {p : Program} {l : Launch} {e : Env} {s : State} {m : MethodId} {below : List Frame} {meth : Method} {c : Code} {b L : Nat} {xs : Nat → Int32} {D : va_G} {cy : Nat → ClassId} (C : Lx p l s m meth c b L xs D cy) {am : Nat → Nat → Nat} {ao it cs ss : Nat} {x4 : Int32} (hin1 : vp_in (x4 + (1 : Int32)) L) (hin2 : vp_in (x4 + (2 : Int32)) L) (hin3 : vp_in (x4 + (3 : Int32)) L) (hin4 : vp_in (x4 + (4 : Int32)) L) (hin5 : vp_in (x4 + (5 : Int32)) L) (hit : it < 513) (kk : ∀ (ad : Nat → Nat → Nat) (σ τ : ST) (o : Nat → Int64) (cs ss : Nat), R σ τ → Bud (it + 1) cs ss σ → ∀ (H : Heap) (locs : List Loc), va_P D vwCl (lwW cy ad am ao σ τ o) H → va_D (fun q : Nat => s.heap.size ≤ q) (lwW cy ad am ao σ τ o) → va_S (fun q : Nat => s.heap.size ≤ q) s.heap H locs → ∀ ls : Array Slot, lv_has ls 8 [(0, .ref b), (1, .ref (ad 0 0)), (2, .ref (am 0 0)), (3, .ref ao), (4, .int (x4 + (6 : Int32)))] → W p l e room_1 s m #[Value.ref b] below meth c H locs cs ss (lw_Z below #[Value.ref b] s) (F0 m 23 ls [])) {ad : Nat → Nat → Nat} {σ τ : ST} {o : Nat → Int64} (hR : R σ τ) (hbud : Bud it cs ss σ) {H : Heap} {locs : List Loc} (hP : va_P D vwCl (lwW cy ad am ao σ τ o) H) (hD : va_D (fun q : Nat => s.heap.size ≤ q) (lwW cy ad am ao σ τ o)) (hS : va_S (fun q : Nat => s.heap.size ≤ q) s.heap H locs) {ls : Array Slot} (hl : lv_has ls 8 [(0, .ref b), (1, .ref (ad 0 0)), (2, .ref (am 0 0)), (3, .ref ao), (4, .int x4)]) : W p l e room_1 s m #[Value.ref b] below meth c H locs cs ss (lw_Z below #[Value.ref b] s) (F0 m 886 ls []) := by
  obtain ⟨hx, hb, hr, hml, hown, hts, hX, hbl, hlocks, hK, hXX, htr⟩ := id C
  have hA : ∀ q : Nat, s.heap.size ≤ q → (fun q : Nat => s.heap.size ≤ q) q := fun _ h => h
  have hbA : ¬ (fun q : Nat => s.heap.size ≤ q) b := Nat.not_le.mpr hbl
  have hcs : cs + 0 ≤ room_1.cells := by show cs + 0 ≤ 601024; unfold Bud at hbud; omega
  have hss : ss + 0 ≤ room_1.slots := by show ss + 0 ≤ 7293034; unfold Bud at hbud; omega
  refine lv_aload_n hx hb dL_law_886 rfl (lv_at hl 1 rfl) ?_
  refine lv_aload_n hx hb dL_law_887 rfl (lv_at hl 0 rfl) ?_
  refine lv_iload hx hb dL_law_888 (lv_at hl 4 rfl) ?_
  refine lv_iconst (v := 1) hx hb dL_law_890 (by decide) ?_
  refine lv_iadd hx hb dL_law_891 ?_
  refine va_sld hx hb hX hbl hbA hS hin1 dL_law_892 ?_
  refine lv_aload_n hx hb dL_law_893 rfl (lv_at hl 0 rfl) ?_
  refine lv_iload hx hb dL_law_894 (lv_at hl 4 rfl) ?_
  refine lv_iconst (v := 2) hx hb dL_law_896 (by decide) ?_
  refine lv_iadd hx hb dL_law_897 ?_
  refine va_sld hx hb hX hbl hbA hS hin2 dL_law_898 ?_
  refine lv_aload_n hx hb dL_law_899 rfl (lv_at hl 0 rfl) ?_
  refine lv_iload hx hb dL_law_900 (lv_at hl 4 rfl) ?_
  refine lv_iconst (v := 3) hx hb dL_law_902 (by decide) ?_
  refine lv_iadd hx hb dL_law_903 ?_
  refine va_sld hx hb hX hbl hbA hS hin3 dL_law_904 ?_
  refine lv_aload_n hx hb dL_law_905 rfl (lv_at hl 3 rfl) ?_
  obtain ⟨q, r, hq, hr9, hth, heq, hR1, hcn⟩ := pf σ τ (xs (Int32.toNatClampNeg (x4 + (1 : Int32)))) (xs (Int32.toNatClampNeg (x4 + (2 : Int32)))) (xs (Int32.toNatClampNeg (x4 + (3 : Int32)))) hR
  refine zc_im (yr_SW [.ref (ad 0 0), .int (xs (Int32.toNatClampNeg (x4 + (1 : Int32)))), .int (xs (Int32.toNatClampNeg (x4 + (2 : Int32)))), .int (xs (Int32.toNatClampNeg (x4 + (3 : Int32)))), .ref ao] [] ⟨hx, hb, hml, hown, hts⟩ (ctL_cost l htr s.heap.size D cy ad (mw cy am τ) ao o σ (xs (Int32.toNatClampNeg (x4 + (1 : Int32)))) (xs (Int32.toNatClampNeg (x4 + (2 : Int32)))) (xs (Int32.toNatClampNeg (x4 + (3 : Int32)))) q hq _) (vx_cwSW 5 hts gL_law_L_cost rfl rfl rfl (by decide +kernel) ⟨Nat.le_of_ble_eq_true rfl, Nat.le_of_ble_eq_true rfl⟩) hK hXX (fun _ h => h) (Nat.le_refl _) hP hD hS rfl hl.1 rfl (Nat.le_of_ble_eq_true rfl) dL_law_906 ⟨by show cs + 1 ≤ 601024; unfold Bud at hbud; omega, by show ss + 6 ≤ 7293034; unfold Bud at hbud; omega⟩) hD hS hA (fun H locs hP hD hS => ?_)
  have hcs : cs + 1 + 0 ≤ room_1.cells := by show cs + 1 + 0 ≤ 601024; unfold Bud at hbud; omega
  have hss : ss + 6 + 0 ≤ room_1.slots := by show ss + 6 + 0 ≤ 7293034; unfold Bud at hbud; omega
  refine lv_istore (lv' := [(5, .int (rL_cost q)), (0, .ref b), (1, .ref (ad 0 0)), (2, .ref (am 0 0)), (3, .ref ao), (4, .int x4)]) hx hb dL_law_909 hl (by decide) rfl (fun ls hl => ?_)
  refine lv_aload_n hx hb dL_law_911 rfl (lv_at hl 3 rfl) ?_
  refine lv_aload_n hx hb dL_law_912 rfl (lv_at hl 1 rfl) ?_
  refine lv_iload hx hb dL_law_913 (lv_at hl 5 rfl) ?_
  refine lv_iconst (v := 1) hx hb dL_law_915 (by decide) ?_
  refine lv_iadd hx hb dL_law_916 ?_
  refine va_sld hx hb hX hbl hbA hS hin1 dL_law_917 ?_
  refine lv_aload_n hx hb dL_law_918 rfl (lv_at hl 1 rfl) ?_
  refine lv_iload hx hb dL_law_919 (lv_at hl 5 rfl) ?_
  refine lv_iconst (v := 2) hx hb dL_law_921 (by decide) ?_
  refine lv_iadd hx hb dL_law_922 ?_
  refine va_sld hx hb hX hbl hbA hS hin2 dL_law_923 ?_
  refine lv_aload_n hx hb dL_law_924 rfl (lv_at hl 1 rfl) ?_
  refine lv_iload hx hb dL_law_925 (lv_at hl 5 rfl) ?_
  refine lv_iconst (v := 3) hx hb dL_law_927 (by decide) ?_
  refine lv_iadd hx hb dL_law_928 ?_
  refine va_sld hx hb hX hbl hbA hS hin3 dL_law_929 ?_
  have hP : va_P D vwCl (([outc cy ao (oL_cost q o)] ++ cw cy ad q.2) ++ (mw cy am τ ++ [])) _ := hP
  have hD : va_D (fun q : Nat => s.heap.size ≤ q) (([outc cy ao (oL_cost q o)] ++ cw cy ad q.2) ++ (mw cy am τ ++ [])) := hD
  refine zf_l ([outc cy ao (oL_cost q o)] ++ cw cy ad q.2) [] (zr_V [.int (xs (Int32.toNatClampNeg (x4 + (1 : Int32)))), .int (xs (Int32.toNatClampNeg (x4 + (2 : Int32)))), .int (xs (Int32.toNatClampNeg (x4 + (3 : Int32))))] [] ⟨hx, hb, hml, hown, hts⟩ (ctX3_cost l D cy am τ (xs (Int32.toNatClampNeg (x4 + (1 : Int32)))) (xs (Int32.toNatClampNeg (x4 + (2 : Int32)))) (xs (Int32.toNatClampNeg (x4 + (3 : Int32)))) r hr9 _) (cwV 3 hts gL_law_X3_cost rfl rfl rfl (by decide +kernel) ⟨Nat.le_of_ble_eq_true rfl, Nat.le_of_ble_eq_true rfl⟩) hK (z_partP hP) (z_partD hD) 0 mw_0 rfl rfl rfl hl.1 rfl (Nat.le_of_ble_eq_true rfl) dL_law_930 ⟨hcs, hss⟩) hP hD hS hA (fun H locs hP hD hS => ?_)
  have hP : va_P D vwCl (lwW cy ad am ao q.2 r.2 (oL_cost q o)) H := hP
  have hD : va_D (fun q : Nat => s.heap.size ≤ q) (lwW cy ad am ao q.2 r.2 (oL_cost q o)) := hD
  refine lv_lstore (lv' := [(6, .long r.1), (5, .int (rL_cost q)), (0, .ref b), (1, .ref (ad 0 0)), (2, .ref (am 0 0)), (3, .ref ao), (4, .int x4)]) hx hb dL_law_933 hl (by decide) rfl (fun ls hl => ?_)
  refine lv_aload_n hx hb dL_law_935 rfl (lv_at hl 4 rfl) ?_
  have hP : va_P D vwCl (([outc cy ao (oL_cost q o)] ++ cw cy ad q.2) ++ (mw cy am r.2 ++ [])) _ := hP
  have hD : va_D (fun q : Nat => s.heap.size ≤ q) (([outc cy ao (oL_cost q o)] ++ cw cy ad q.2) ++ (mw cy am r.2 ++ [])) := hD
  refine zf_i ([outc cy ao (oL_cost q o)] ++ cw cy ad q.2) [] (zr_V [] [] ⟨hx, hb, hml, hown, hts⟩ (ctX3_thrown l D cy am r.2 (gI r.2 0 0 10) rfl _) (cwV 0 hts gL_law_X3_thrown rfl rfl rfl (by decide +kernel) ⟨Nat.le_of_ble_eq_true rfl, Nat.le_of_ble_eq_true rfl⟩) hK (z_partP hP) (z_partD hD) 0 mw_0 rfl rfl rfl hl.1 rfl (Nat.le_of_ble_eq_true rfl) dL_law_936 ⟨hcs, hss⟩) hP hD hS hA (fun H locs hP hD hS => ?_)
  have hP : va_P D vwCl (lwW cy ad am ao q.2 r.2 (oL_cost q o)) H := hP
  have hD : va_D (fun q : Nat => s.heap.size ≤ q) (lwW cy ad am ao q.2 r.2 (oL_cost q o)) := hD
  refine lv_iload hx hb dL_law_939 (lv_at hl 1 rfl) ?_
  refine lv_icmp_eq (tgt := 946) hx hb dL_law_941 (by decide) (fun c_1 => ?_) (fun c_1 => ?_)
  · refine lv_iload hx hb dL_law_946 (lv_at hl 1 rfl) ?_
    refine lv_if_ne (tgt := 962) hx hb dL_law_948 (by decide) (fun c_2 => ?_) (fun c_2 => ?_)
    · refine lv_goto (tgt := 1435) hx hb dL_law_962 (by decide) ?_
      refine lv_iinc (v := (x4 + (6 : Int32))) (lv' := [(4, .int (x4 + (6 : Int32))), (6, .long r.1), (5, .int (rL_cost q)), (0, .ref b), (1, .ref (ad 0 0)), (2, .ref (am 0 0)), (3, .ref ao)]) hx hb dL_law_1435 hl (k := 6) rfl rfl (by decide) rfl (fun ls hl => ?_)
      refine lv_goto (tgt := 23) hx hb dL_law_1438 (by decide) ?_
      exact kk ad q.2 r.2 (oL_cost q o) _ _ hR1 (by unfold Bud at hbud ⊢; omega) _ _ hP hD hS _ (lv_sub hl [3, 4, 5, 6, 0] rfl)
    · refine lv_aload_n hx hb dL_law_951 rfl (lv_at hl 5 rfl) ?_
      refine lv_iconst (v := 0) hx hb dL_law_952 (by decide) ?_
      refine va_lald hx hb hK.1 hP 0 1 rfl rfl (inb_vp (by decide)) dL_law_953 ?_
      refine lv_lload hx hb dL_law_954 (lv_at hl 0 rfl) ?_
      refine W.lcmp hx hb dL_law_956 ?_
      refine lv_if_eq (tgt := 962) hx hb dL_law_957 (by decide) (fun c_3 => ?_) (fun c_3 => ?_)
      · refine lv_goto (tgt := 1435) hx hb dL_law_962 (by decide) ?_
        refine lv_iinc (v := (x4 + (6 : Int32))) (lv' := [(4, .int (x4 + (6 : Int32))), (6, .long r.1), (5, .int (rL_cost q)), (0, .ref b), (1, .ref (ad 0 0)), (2, .ref (am 0 0)), (3, .ref ao)]) hx hb dL_law_1435 hl (k := 6) rfl rfl (by decide) rfl (fun ls hl => ?_)
        refine lv_goto (tgt := 23) hx hb dL_law_1438 (by decide) ?_
        exact kk ad q.2 r.2 (oL_cost q o) _ _ hR1 (by unfold Bud at hbud ⊢; omega) _ _ hP hD hS _ (lv_sub hl [3, 4, 5, 6, 0] rfl)
      · exact absurd ((lg_cmp_eq _ _).mpr (otcost heq c_2)) c_3
  · exact absurd hth c_1
set_option maxHeartbeats 4000000 in
set_option maxRecDepth 100000 in
theorem lawc_tree {R : ST → ST → Prop} (pf : pf_tree R) {p : Program} {l : Launch} {e : Env} {s : State} {m : MethodId} {below : List Frame} {meth : Method} {c : Code} {b L : Nat} {xs : Nat → Int32} {D : va_G} {cy : Nat → ClassId} (C : Lx p l s m meth c b L xs D cy) {am : Nat → Nat → Nat} {ao it cs ss : Nat} {x4 : Int32} (hin1 : vp_in (x4 + (1 : Int32)) L) (hin2 : vp_in (x4 + (2 : Int32)) L) (hin3 : vp_in (x4 + (3 : Int32)) L) (hin4 : vp_in (x4 + (4 : Int32)) L) (hin5 : vp_in (x4 + (5 : Int32)) L) (hit : it < 513) (kk : ∀ (ad : Nat → Nat → Nat) (σ τ : ST) (o : Nat → Int64) (cs ss : Nat), R σ τ → Bud (it + 1) cs ss σ → ∀ (H : Heap) (locs : List Loc), va_P D vwCl (lwW cy ad am ao σ τ o) H → va_D (fun q : Nat => s.heap.size ≤ q) (lwW cy ad am ao σ τ o) → va_S (fun q : Nat => s.heap.size ≤ q) s.heap H locs → ∀ ls : Array Slot, lv_has ls 8 [(0, .ref b), (1, .ref (ad 0 0)), (2, .ref (am 0 0)), (3, .ref ao), (4, .int (x4 + (6 : Int32)))] → W p l e room_1 s m #[Value.ref b] below meth c H locs cs ss (lw_Z below #[Value.ref b] s) (F0 m 23 ls [])) {ad : Nat → Nat → Nat} {σ τ : ST} {o : Nat → Int64} (hR : R σ τ) (hbud : Bud it cs ss σ) {H : Heap} {locs : List Loc} (hP : va_P D vwCl (lwW cy ad am ao σ τ o) H) (hD : va_D (fun q : Nat => s.heap.size ≤ q) (lwW cy ad am ao σ τ o)) (hS : va_S (fun q : Nat => s.heap.size ≤ q) s.heap H locs) {ls : Array Slot} (hl : lv_has ls 8 [(0, .ref b), (1, .ref (ad 0 0)), (2, .ref (am 0 0)), (3, .ref ao), (4, .int x4)]) : W p l e room_1 s m #[Value.ref b] below meth c H locs cs ss (lw_Z below #[Value.ref b] s) (F0 m 965 ls []) := by
  obtain ⟨hx, hb, hr, hml, hown, hts, hX, hbl, hlocks, hK, hXX, htr⟩ := id C
  have hA : ∀ q : Nat, s.heap.size ≤ q → (fun q : Nat => s.heap.size ≤ q) q := fun _ h => h
  have hbA : ¬ (fun q : Nat => s.heap.size ≤ q) b := Nat.not_le.mpr hbl
  have hcs : cs + 0 ≤ room_1.cells := by show cs + 0 ≤ 601024; unfold Bud at hbud; omega
  have hss : ss + 0 ≤ room_1.slots := by show ss + 0 ≤ 7293034; unfold Bud at hbud; omega
  refine lv_aload_n hx hb dL_law_965 rfl (lv_at hl 1 rfl) ?_
  refine lv_aload_n hx hb dL_law_966 rfl (lv_at hl 0 rfl) ?_
  refine lv_iload hx hb dL_law_967 (lv_at hl 4 rfl) ?_
  refine lv_iconst (v := 1) hx hb dL_law_969 (by decide) ?_
  refine lv_iadd hx hb dL_law_970 ?_
  refine va_sld hx hb hX hbl hbA hS hin1 dL_law_971 ?_
  refine lv_aload_n hx hb dL_law_972 rfl (lv_at hl 0 rfl) ?_
  refine lv_iload hx hb dL_law_973 (lv_at hl 4 rfl) ?_
  refine lv_iconst (v := 2) hx hb dL_law_975 (by decide) ?_
  refine lv_iadd hx hb dL_law_976 ?_
  refine va_sld hx hb hX hbl hbA hS hin2 dL_law_977 ?_
  refine lv_aload_n hx hb dL_law_978 rfl (lv_at hl 0 rfl) ?_
  refine lv_iload hx hb dL_law_979 (lv_at hl 4 rfl) ?_
  refine lv_iconst (v := 3) hx hb dL_law_981 (by decide) ?_
  refine lv_iadd hx hb dL_law_982 ?_
  refine va_sld hx hb hX hbl hbA hS hin3 dL_law_983 ?_
  refine lv_aload_n hx hb dL_law_984 rfl (lv_at hl 0 rfl) ?_
  refine lv_iload hx hb dL_law_985 (lv_at hl 4 rfl) ?_
  refine lv_iconst (v := 4) hx hb dL_law_987 (by decide) ?_
  refine lv_iadd hx hb dL_law_988 ?_
  refine va_sld hx hb hX hbl hbA hS hin4 dL_law_989 ?_
  refine lv_aload_n hx hb dL_law_990 rfl (lv_at hl 0 rfl) ?_
  refine lv_iload hx hb dL_law_991 (lv_at hl 4 rfl) ?_
  refine lv_iconst (v := 5) hx hb dL_law_993 (by decide) ?_
  refine lv_iadd hx hb dL_law_994 ?_
  refine va_sld hx hb hX hbl hbA hS hin5 dL_law_995 ?_
  obtain ⟨q, r, hq, hr9, heq, hR1, hcn⟩ := pf σ τ (xs (Int32.toNatClampNeg (x4 + (1 : Int32)))) (xs (Int32.toNatClampNeg (x4 + (2 : Int32)))) (xs (Int32.toNatClampNeg (x4 + (3 : Int32)))) (xs (Int32.toNatClampNeg (x4 + (4 : Int32)))) (xs (Int32.toNatClampNeg (x4 + (5 : Int32)))) hR
  have hP : va_P D vwCl ([outc cy ao o] ++ (cw cy ad σ ++ (mw cy am τ))) _ := hP
  have hD : va_D (fun q : Nat => s.heap.size ≤ q) ([outc cy ao o] ++ (cw cy ad σ ++ (mw cy am τ))) := hD
  refine zf_i [outc cy ao o] (mw cy am τ) (zr_V [.int (xs (Int32.toNatClampNeg (x4 + (1 : Int32)))), .int (xs (Int32.toNatClampNeg (x4 + (2 : Int32)))), .int (xs (Int32.toNatClampNeg (x4 + (3 : Int32)))), .int (xs (Int32.toNatClampNeg (x4 + (4 : Int32)))), .int (xs (Int32.toNatClampNeg (x4 + (5 : Int32))))] [] ⟨hx, hb, hml, hown, hts⟩ (ctX2_tree l D cy ad σ (xs (Int32.toNatClampNeg (x4 + (1 : Int32)))) (xs (Int32.toNatClampNeg (x4 + (2 : Int32)))) (xs (Int32.toNatClampNeg (x4 + (3 : Int32)))) (xs (Int32.toNatClampNeg (x4 + (4 : Int32)))) (xs (Int32.toNatClampNeg (x4 + (5 : Int32)))) q hq _) (cwV 5 hts gL_law_X2_tree rfl rfl rfl (by decide +kernel) ⟨Nat.le_of_ble_eq_true rfl, Nat.le_of_ble_eq_true rfl⟩) hK (z_partP hP) (z_partD hD) 0 cw_0 rfl rfl rfl hl.1 rfl (Nat.le_of_ble_eq_true rfl) dL_law_996 ⟨hcs, hss⟩) hP hD hS hA (fun H locs hP hD hS => ?_)
  refine lv_aload_n hx hb dL_law_999 rfl (lv_at hl 2 rfl) ?_
  refine lv_aload_n hx hb dL_law_1000 rfl (lv_at hl 0 rfl) ?_
  refine lv_iload hx hb dL_law_1001 (lv_at hl 4 rfl) ?_
  refine lv_iconst (v := 1) hx hb dL_law_1003 (by decide) ?_
  refine lv_iadd hx hb dL_law_1004 ?_
  refine va_sld hx hb hX hbl hbA hS hin1 dL_law_1005 ?_
  refine lv_aload_n hx hb dL_law_1006 rfl (lv_at hl 0 rfl) ?_
  refine lv_iload hx hb dL_law_1007 (lv_at hl 4 rfl) ?_
  refine lv_iconst (v := 2) hx hb dL_law_1009 (by decide) ?_
  refine lv_iadd hx hb dL_law_1010 ?_
  refine va_sld hx hb hX hbl hbA hS hin2 dL_law_1011 ?_
  refine lv_aload_n hx hb dL_law_1012 rfl (lv_at hl 0 rfl) ?_
  refine lv_iload hx hb dL_law_1013 (lv_at hl 4 rfl) ?_
  refine lv_iconst (v := 3) hx hb dL_law_1015 (by decide) ?_
  refine lv_iadd hx hb dL_law_1016 ?_
  refine va_sld hx hb hX hbl hbA hS hin3 dL_law_1017 ?_
  refine lv_aload_n hx hb dL_law_1018 rfl (lv_at hl 0 rfl) ?_
  refine lv_iload hx hb dL_law_1019 (lv_at hl 4 rfl) ?_
  refine lv_iconst (v := 4) hx hb dL_law_1021 (by decide) ?_
  refine lv_iadd hx hb dL_law_1022 ?_
  refine va_sld hx hb hX hbl hbA hS hin4 dL_law_1023 ?_
  refine lv_aload_n hx hb dL_law_1024 rfl (lv_at hl 0 rfl) ?_
  refine lv_iload hx hb dL_law_1025 (lv_at hl 4 rfl) ?_
  refine lv_iconst (v := 5) hx hb dL_law_1027 (by decide) ?_
  refine lv_iadd hx hb dL_law_1028 ?_
  refine va_sld hx hb hX hbl hbA hS hin5 dL_law_1029 ?_
  have hP : va_P D vwCl (([outc cy ao o] ++ cw cy ad q.2) ++ (mw cy am τ ++ [])) _ := hP
  have hD : va_D (fun q : Nat => s.heap.size ≤ q) (([outc cy ao o] ++ cw cy ad q.2) ++ (mw cy am τ ++ [])) := hD
  refine zf_i ([outc cy ao o] ++ cw cy ad q.2) [] (zr_V [.int (xs (Int32.toNatClampNeg (x4 + (1 : Int32)))), .int (xs (Int32.toNatClampNeg (x4 + (2 : Int32)))), .int (xs (Int32.toNatClampNeg (x4 + (3 : Int32)))), .int (xs (Int32.toNatClampNeg (x4 + (4 : Int32)))), .int (xs (Int32.toNatClampNeg (x4 + (5 : Int32))))] [.int q.1] ⟨hx, hb, hml, hown, hts⟩ (ctX3_tree l D cy am τ (xs (Int32.toNatClampNeg (x4 + (1 : Int32)))) (xs (Int32.toNatClampNeg (x4 + (2 : Int32)))) (xs (Int32.toNatClampNeg (x4 + (3 : Int32)))) (xs (Int32.toNatClampNeg (x4 + (4 : Int32)))) (xs (Int32.toNatClampNeg (x4 + (5 : Int32)))) r hr9 _) (cwV 5 hts gL_law_X3_tree rfl rfl rfl (by decide +kernel) ⟨Nat.le_of_ble_eq_true rfl, Nat.le_of_ble_eq_true rfl⟩) hK (z_partP hP) (z_partD hD) 0 mw_0 rfl rfl rfl hl.1 rfl (Nat.le_of_ble_eq_true rfl) dL_law_1030 ⟨hcs, hss⟩) hP hD hS hA (fun H locs hP hD hS => ?_)
  have hP : va_P D vwCl (lwW cy ad am ao q.2 r.2 o) H := hP
  have hD : va_D (fun q : Nat => s.heap.size ≤ q) (lwW cy ad am ao q.2 r.2 o) := hD
  refine lv_icmp_eq (tgt := 1435) hx hb dL_law_1033 (by decide) (fun c_1 => ?_) (fun c_1 => ?_)
  · refine lv_iinc (v := (x4 + (6 : Int32))) (lv' := [(4, .int (x4 + (6 : Int32))), (0, .ref b), (1, .ref (ad 0 0)), (2, .ref (am 0 0)), (3, .ref ao)]) hx hb dL_law_1435 hl (k := 4) rfl rfl (by decide) rfl (fun ls hl => ?_)
    refine lv_goto (tgt := 23) hx hb dL_law_1438 (by decide) ?_
    exact kk ad q.2 r.2 o _ _ hR1 (by unfold Bud at hbud ⊢; omega) _ _ hP hD hS _ (lv_sub hl [1, 2, 3, 4, 0] rfl)
  · exact absurd heq c_1
set_option maxHeartbeats 4000000 in
set_option maxRecDepth 100000 in
theorem lawc_rate {R : ST → ST → Prop} (pf : pf_rate R) {p : Program} {l : Launch} {e : Env} {s : State} {m : MethodId} {below : List Frame} {meth : Method} {c : Code} {b L : Nat} {xs : Nat → Int32} {D : va_G} {cy : Nat → ClassId} (C : Lx p l s m meth c b L xs D cy) {am : Nat → Nat → Nat} {ao it cs ss : Nat} {x4 : Int32} (hin1 : vp_in (x4 + (1 : Int32)) L) (hin2 : vp_in (x4 + (2 : Int32)) L) (hin3 : vp_in (x4 + (3 : Int32)) L) (hin4 : vp_in (x4 + (4 : Int32)) L) (hin5 : vp_in (x4 + (5 : Int32)) L) (hit : it < 513) (kk : ∀ (ad : Nat → Nat → Nat) (σ τ : ST) (o : Nat → Int64) (cs ss : Nat), R σ τ → Bud (it + 1) cs ss σ → ∀ (H : Heap) (locs : List Loc), va_P D vwCl (lwW cy ad am ao σ τ o) H → va_D (fun q : Nat => s.heap.size ≤ q) (lwW cy ad am ao σ τ o) → va_S (fun q : Nat => s.heap.size ≤ q) s.heap H locs → ∀ ls : Array Slot, lv_has ls 8 [(0, .ref b), (1, .ref (ad 0 0)), (2, .ref (am 0 0)), (3, .ref ao), (4, .int (x4 + (6 : Int32)))] → W p l e room_1 s m #[Value.ref b] below meth c H locs cs ss (lw_Z below #[Value.ref b] s) (F0 m 23 ls [])) {ad : Nat → Nat → Nat} {σ τ : ST} {o : Nat → Int64} (hR : R σ τ) (hbud : Bud it cs ss σ) {H : Heap} {locs : List Loc} (hP : va_P D vwCl (lwW cy ad am ao σ τ o) H) (hD : va_D (fun q : Nat => s.heap.size ≤ q) (lwW cy ad am ao σ τ o)) (hS : va_S (fun q : Nat => s.heap.size ≤ q) s.heap H locs) {ls : Array Slot} (hl : lv_has ls 8 [(0, .ref b), (1, .ref (ad 0 0)), (2, .ref (am 0 0)), (3, .ref ao), (4, .int x4)]) : W p l e room_1 s m #[Value.ref b] below meth c H locs cs ss (lw_Z below #[Value.ref b] s) (F0 m 1038 ls []) := by
  obtain ⟨hx, hb, hr, hml, hown, hts, hX, hbl, hlocks, hK, hXX, htr⟩ := id C
  have hA : ∀ q : Nat, s.heap.size ≤ q → (fun q : Nat => s.heap.size ≤ q) q := fun _ h => h
  have hbA : ¬ (fun q : Nat => s.heap.size ≤ q) b := Nat.not_le.mpr hbl
  have hcs : cs + 0 ≤ room_1.cells := by show cs + 0 ≤ 601024; unfold Bud at hbud; omega
  have hss : ss + 0 ≤ room_1.slots := by show ss + 0 ≤ 7293034; unfold Bud at hbud; omega
  refine lv_aload_n hx hb dL_law_1038 rfl (lv_at hl 1 rfl) ?_
  refine lv_aload_n hx hb dL_law_1039 rfl (lv_at hl 0 rfl) ?_
  refine lv_iload hx hb dL_law_1040 (lv_at hl 4 rfl) ?_
  refine lv_iconst (v := 1) hx hb dL_law_1042 (by decide) ?_
  refine lv_iadd hx hb dL_law_1043 ?_
  refine va_sld hx hb hX hbl hbA hS hin1 dL_law_1044 ?_
  refine lv_aload_n hx hb dL_law_1045 rfl (lv_at hl 0 rfl) ?_
  refine lv_iload hx hb dL_law_1046 (lv_at hl 4 rfl) ?_
  refine lv_iconst (v := 2) hx hb dL_law_1048 (by decide) ?_
  refine lv_iadd hx hb dL_law_1049 ?_
  refine va_sld hx hb hX hbl hbA hS hin2 dL_law_1050 ?_
  obtain ⟨q, r, hq, hr9, heq, hR1⟩ := pf σ τ (xs (Int32.toNatClampNeg (x4 + (1 : Int32)))) (xs (Int32.toNatClampNeg (x4 + (2 : Int32)))) hR
  have hP : va_P D vwCl ([outc cy ao o] ++ (cw cy ad σ ++ (mw cy am τ))) _ := hP
  have hD : va_D (fun q : Nat => s.heap.size ≤ q) ([outc cy ao o] ++ (cw cy ad σ ++ (mw cy am τ))) := hD
  refine zf_i [outc cy ao o] (mw cy am τ) (zr_V [.int (xs (Int32.toNatClampNeg (x4 + (1 : Int32)))), .int (xs (Int32.toNatClampNeg (x4 + (2 : Int32))))] [] ⟨hx, hb, hml, hown, hts⟩ (ctX2_rate l D cy ad σ (xs (Int32.toNatClampNeg (x4 + (1 : Int32)))) (xs (Int32.toNatClampNeg (x4 + (2 : Int32)))) q hq _) (cwV 2 hts gL_law_X2_rate rfl rfl rfl (by decide +kernel) ⟨Nat.le_of_ble_eq_true rfl, Nat.le_of_ble_eq_true rfl⟩) hK (z_partP hP) (z_partD hD) 0 cw_0 rfl rfl rfl hl.1 rfl (Nat.le_of_ble_eq_true rfl) dL_law_1051 ⟨hcs, hss⟩) hP hD hS hA (fun H locs hP hD hS => ?_)
  refine lv_aload_n hx hb dL_law_1054 rfl (lv_at hl 2 rfl) ?_
  refine lv_aload_n hx hb dL_law_1055 rfl (lv_at hl 0 rfl) ?_
  refine lv_iload hx hb dL_law_1056 (lv_at hl 4 rfl) ?_
  refine lv_iconst (v := 1) hx hb dL_law_1058 (by decide) ?_
  refine lv_iadd hx hb dL_law_1059 ?_
  refine va_sld hx hb hX hbl hbA hS hin1 dL_law_1060 ?_
  refine lv_aload_n hx hb dL_law_1061 rfl (lv_at hl 0 rfl) ?_
  refine lv_iload hx hb dL_law_1062 (lv_at hl 4 rfl) ?_
  refine lv_iconst (v := 2) hx hb dL_law_1064 (by decide) ?_
  refine lv_iadd hx hb dL_law_1065 ?_
  refine va_sld hx hb hX hbl hbA hS hin2 dL_law_1066 ?_
  have hP : va_P D vwCl (([outc cy ao o] ++ cw cy ad σ) ++ (mw cy am τ ++ [])) _ := hP
  have hD : va_D (fun q : Nat => s.heap.size ≤ q) (([outc cy ao o] ++ cw cy ad σ) ++ (mw cy am τ ++ [])) := hD
  refine zf_i ([outc cy ao o] ++ cw cy ad σ) [] (zr_V [.int (xs (Int32.toNatClampNeg (x4 + (1 : Int32)))), .int (xs (Int32.toNatClampNeg (x4 + (2 : Int32))))] [.int q] ⟨hx, hb, hml, hown, hts⟩ (ctX3_rate l D cy am τ (xs (Int32.toNatClampNeg (x4 + (1 : Int32)))) (xs (Int32.toNatClampNeg (x4 + (2 : Int32)))) r hr9 _) (cwV 2 hts gL_law_X3_rate rfl rfl rfl (by decide +kernel) ⟨Nat.le_of_ble_eq_true rfl, Nat.le_of_ble_eq_true rfl⟩) hK (z_partP hP) (z_partD hD) 0 mw_0 rfl rfl rfl hl.1 rfl (Nat.le_of_ble_eq_true rfl) dL_law_1067 ⟨hcs, hss⟩) hP hD hS hA (fun H locs hP hD hS => ?_)
  have hP : va_P D vwCl (lwW cy ad am ao σ r.2 o) H := hP
  have hD : va_D (fun q : Nat => s.heap.size ≤ q) (lwW cy ad am ao σ r.2 o) := hD
  refine lv_icmp_eq (tgt := 1435) hx hb dL_law_1070 (by decide) (fun c_1 => ?_) (fun c_1 => ?_)
  · refine lv_iinc (v := (x4 + (6 : Int32))) (lv' := [(4, .int (x4 + (6 : Int32))), (0, .ref b), (1, .ref (ad 0 0)), (2, .ref (am 0 0)), (3, .ref ao)]) hx hb dL_law_1435 hl (k := 4) rfl rfl (by decide) rfl (fun ls hl => ?_)
    refine lv_goto (tgt := 23) hx hb dL_law_1438 (by decide) ?_
    exact kk ad σ r.2 o _ _ hR1 (by unfold Bud at hbud ⊢; omega) _ _ hP hD hS _ (lv_sub hl [1, 2, 3, 4, 0] rfl)
  · exact absurd heq c_1
theorem otvalue {q : Option Int64 × ST} {r : Int64 × ST} {o : Nat → Int64} (h : ∀ v, q.1 = some v → v = r.1) (h0 : rL_value q = 0) : (oL_value q o) (Int32.toNatClampNeg (0 : Int32)) = r.1 := by
  unfold rL_value at h0
  unfold oL_value
  cases hq : q.1 with
  | none => rw [hq] at h0; exact absurd h0 (by decide)
  | some v => rw [← h v hq]; simp [vp_updL]
set_option maxHeartbeats 4000000 in
set_option maxRecDepth 100000 in
theorem lawc_value {R : ST → ST → Prop} (pf : pf_value R) {p : Program} {l : Launch} {e : Env} {s : State} {m : MethodId} {below : List Frame} {meth : Method} {c : Code} {b L : Nat} {xs : Nat → Int32} {D : va_G} {cy : Nat → ClassId} (C : Lx p l s m meth c b L xs D cy) {am : Nat → Nat → Nat} {ao it cs ss : Nat} {x4 : Int32} (hin1 : vp_in (x4 + (1 : Int32)) L) (hin2 : vp_in (x4 + (2 : Int32)) L) (hin3 : vp_in (x4 + (3 : Int32)) L) (hin4 : vp_in (x4 + (4 : Int32)) L) (hin5 : vp_in (x4 + (5 : Int32)) L) (hit : it < 513) (kk : ∀ (ad : Nat → Nat → Nat) (σ τ : ST) (o : Nat → Int64) (cs ss : Nat), R σ τ → Bud (it + 1) cs ss σ → ∀ (H : Heap) (locs : List Loc), va_P D vwCl (lwW cy ad am ao σ τ o) H → va_D (fun q : Nat => s.heap.size ≤ q) (lwW cy ad am ao σ τ o) → va_S (fun q : Nat => s.heap.size ≤ q) s.heap H locs → ∀ ls : Array Slot, lv_has ls 8 [(0, .ref b), (1, .ref (ad 0 0)), (2, .ref (am 0 0)), (3, .ref ao), (4, .int (x4 + (6 : Int32)))] → W p l e room_1 s m #[Value.ref b] below meth c H locs cs ss (lw_Z below #[Value.ref b] s) (F0 m 23 ls [])) {ad : Nat → Nat → Nat} {σ τ : ST} {o : Nat → Int64} (hR : R σ τ) (hbud : Bud it cs ss σ) {H : Heap} {locs : List Loc} (hP : va_P D vwCl (lwW cy ad am ao σ τ o) H) (hD : va_D (fun q : Nat => s.heap.size ≤ q) (lwW cy ad am ao σ τ o)) (hS : va_S (fun q : Nat => s.heap.size ≤ q) s.heap H locs) {ls : Array Slot} (hl : lv_has ls 8 [(0, .ref b), (1, .ref (ad 0 0)), (2, .ref (am 0 0)), (3, .ref ao), (4, .int x4)]) : W p l e room_1 s m #[Value.ref b] below meth c H locs cs ss (lw_Z below #[Value.ref b] s) (F0 m 1075 ls []) := by
  obtain ⟨hx, hb, hr, hml, hown, hts, hX, hbl, hlocks, hK, hXX, htr⟩ := id C
  have hA : ∀ q : Nat, s.heap.size ≤ q → (fun q : Nat => s.heap.size ≤ q) q := fun _ h => h
  have hbA : ¬ (fun q : Nat => s.heap.size ≤ q) b := Nat.not_le.mpr hbl
  have hcs : cs + 0 ≤ room_1.cells := by show cs + 0 ≤ 601024; unfold Bud at hbud; omega
  have hss : ss + 0 ≤ room_1.slots := by show ss + 0 ≤ 7293034; unfold Bud at hbud; omega
  refine lv_aload_n hx hb dL_law_1075 rfl (lv_at hl 1 rfl) ?_
  refine lv_aload_n hx hb dL_law_1076 rfl (lv_at hl 0 rfl) ?_
  refine lv_iload hx hb dL_law_1077 (lv_at hl 4 rfl) ?_
  refine lv_iconst (v := 1) hx hb dL_law_1079 (by decide) ?_
  refine lv_iadd hx hb dL_law_1080 ?_
  refine va_sld hx hb hX hbl hbA hS hin1 dL_law_1081 ?_
  refine lv_aload_n hx hb dL_law_1082 rfl (lv_at hl 0 rfl) ?_
  refine lv_iload hx hb dL_law_1083 (lv_at hl 4 rfl) ?_
  refine lv_iconst (v := 2) hx hb dL_law_1085 (by decide) ?_
  refine lv_iadd hx hb dL_law_1086 ?_
  refine va_sld hx hb hX hbl hbA hS hin2 dL_law_1087 ?_
  refine lv_aload_n hx hb dL_law_1088 rfl (lv_at hl 3 rfl) ?_
  obtain ⟨q, r, hq, hr9, hth, heq, hR1, hcn⟩ := pf σ τ (xs (Int32.toNatClampNeg (x4 + (1 : Int32)))) (xs (Int32.toNatClampNeg (x4 + (2 : Int32)))) hR
  refine zc_im (yr_SW [.ref (ad 0 0), .int (xs (Int32.toNatClampNeg (x4 + (1 : Int32)))), .int (xs (Int32.toNatClampNeg (x4 + (2 : Int32)))), .ref ao] [] ⟨hx, hb, hml, hown, hts⟩ (ctL_value l htr s.heap.size D cy ad (mw cy am τ) ao o σ (xs (Int32.toNatClampNeg (x4 + (1 : Int32)))) (xs (Int32.toNatClampNeg (x4 + (2 : Int32)))) q hq _) (vx_cwSW 4 hts gL_law_L_value rfl rfl rfl (by decide +kernel) ⟨Nat.le_of_ble_eq_true rfl, Nat.le_of_ble_eq_true rfl⟩) hK hXX (fun _ h => h) (Nat.le_refl _) hP hD hS rfl hl.1 rfl (Nat.le_of_ble_eq_true rfl) dL_law_1089 ⟨by show cs + 1 ≤ 601024; unfold Bud at hbud; omega, by show ss + 6 ≤ 7293034; unfold Bud at hbud; omega⟩) hD hS hA (fun H locs hP hD hS => ?_)
  have hcs : cs + 1 + 0 ≤ room_1.cells := by show cs + 1 + 0 ≤ 601024; unfold Bud at hbud; omega
  have hss : ss + 6 + 0 ≤ room_1.slots := by show ss + 6 + 0 ≤ 7293034; unfold Bud at hbud; omega
  refine lv_istore (lv' := [(5, .int (rL_value q)), (0, .ref b), (1, .ref (ad 0 0)), (2, .ref (am 0 0)), (3, .ref ao), (4, .int x4)]) hx hb dL_law_1092 hl (by decide) rfl (fun ls hl => ?_)
  refine lv_aload_n hx hb dL_law_1094 rfl (lv_at hl 3 rfl) ?_
  refine lv_aload_n hx hb dL_law_1095 rfl (lv_at hl 1 rfl) ?_
  refine lv_iload hx hb dL_law_1096 (lv_at hl 5 rfl) ?_
  refine lv_iconst (v := 1) hx hb dL_law_1098 (by decide) ?_
  refine lv_iadd hx hb dL_law_1099 ?_
  refine va_sld hx hb hX hbl hbA hS hin1 dL_law_1100 ?_
  refine lv_aload_n hx hb dL_law_1101 rfl (lv_at hl 1 rfl) ?_
  refine lv_iload hx hb dL_law_1102 (lv_at hl 5 rfl) ?_
  refine lv_iconst (v := 2) hx hb dL_law_1104 (by decide) ?_
  refine lv_iadd hx hb dL_law_1105 ?_
  refine va_sld hx hb hX hbl hbA hS hin2 dL_law_1106 ?_
  have hP : va_P D vwCl (([outc cy ao (oL_value q o)] ++ cw cy ad q.2) ++ (mw cy am τ ++ [])) _ := hP
  have hD : va_D (fun q : Nat => s.heap.size ≤ q) (([outc cy ao (oL_value q o)] ++ cw cy ad q.2) ++ (mw cy am τ ++ [])) := hD
  refine zf_l ([outc cy ao (oL_value q o)] ++ cw cy ad q.2) [] (zr_V [.int (xs (Int32.toNatClampNeg (x4 + (1 : Int32)))), .int (xs (Int32.toNatClampNeg (x4 + (2 : Int32))))] [] ⟨hx, hb, hml, hown, hts⟩ (ctX3_value l D cy am τ (xs (Int32.toNatClampNeg (x4 + (1 : Int32)))) (xs (Int32.toNatClampNeg (x4 + (2 : Int32)))) r hr9 _) (cwV 2 hts gL_law_X3_value rfl rfl rfl (by decide +kernel) ⟨Nat.le_of_ble_eq_true rfl, Nat.le_of_ble_eq_true rfl⟩) hK (z_partP hP) (z_partD hD) 0 mw_0 rfl rfl rfl hl.1 rfl (Nat.le_of_ble_eq_true rfl) dL_law_1107 ⟨hcs, hss⟩) hP hD hS hA (fun H locs hP hD hS => ?_)
  have hP : va_P D vwCl (lwW cy ad am ao q.2 r.2 (oL_value q o)) H := hP
  have hD : va_D (fun q : Nat => s.heap.size ≤ q) (lwW cy ad am ao q.2 r.2 (oL_value q o)) := hD
  refine lv_lstore (lv' := [(6, .long r.1), (5, .int (rL_value q)), (0, .ref b), (1, .ref (ad 0 0)), (2, .ref (am 0 0)), (3, .ref ao), (4, .int x4)]) hx hb dL_law_1110 hl (by decide) rfl (fun ls hl => ?_)
  refine lv_aload_n hx hb dL_law_1112 rfl (lv_at hl 4 rfl) ?_
  have hP : va_P D vwCl (([outc cy ao (oL_value q o)] ++ cw cy ad q.2) ++ (mw cy am r.2 ++ [])) _ := hP
  have hD : va_D (fun q : Nat => s.heap.size ≤ q) (([outc cy ao (oL_value q o)] ++ cw cy ad q.2) ++ (mw cy am r.2 ++ [])) := hD
  refine zf_i ([outc cy ao (oL_value q o)] ++ cw cy ad q.2) [] (zr_V [] [] ⟨hx, hb, hml, hown, hts⟩ (ctX3_thrown l D cy am r.2 (gI r.2 0 0 10) rfl _) (cwV 0 hts gL_law_X3_thrown rfl rfl rfl (by decide +kernel) ⟨Nat.le_of_ble_eq_true rfl, Nat.le_of_ble_eq_true rfl⟩) hK (z_partP hP) (z_partD hD) 0 mw_0 rfl rfl rfl hl.1 rfl (Nat.le_of_ble_eq_true rfl) dL_law_1113 ⟨hcs, hss⟩) hP hD hS hA (fun H locs hP hD hS => ?_)
  have hP : va_P D vwCl (lwW cy ad am ao q.2 r.2 (oL_value q o)) H := hP
  have hD : va_D (fun q : Nat => s.heap.size ≤ q) (lwW cy ad am ao q.2 r.2 (oL_value q o)) := hD
  refine lv_iload hx hb dL_law_1116 (lv_at hl 1 rfl) ?_
  refine lv_icmp_eq (tgt := 1123) hx hb dL_law_1118 (by decide) (fun c_1 => ?_) (fun c_1 => ?_)
  · refine lv_iload hx hb dL_law_1123 (lv_at hl 1 rfl) ?_
    refine lv_if_ne (tgt := 1139) hx hb dL_law_1125 (by decide) (fun c_2 => ?_) (fun c_2 => ?_)
    · refine lv_goto (tgt := 1435) hx hb dL_law_1139 (by decide) ?_
      refine lv_iinc (v := (x4 + (6 : Int32))) (lv' := [(4, .int (x4 + (6 : Int32))), (6, .long r.1), (5, .int (rL_value q)), (0, .ref b), (1, .ref (ad 0 0)), (2, .ref (am 0 0)), (3, .ref ao)]) hx hb dL_law_1435 hl (k := 6) rfl rfl (by decide) rfl (fun ls hl => ?_)
      refine lv_goto (tgt := 23) hx hb dL_law_1438 (by decide) ?_
      exact kk ad q.2 r.2 (oL_value q o) _ _ hR1 (by unfold Bud at hbud ⊢; omega) _ _ hP hD hS _ (lv_sub hl [3, 4, 5, 6, 0] rfl)
    · refine lv_aload_n hx hb dL_law_1128 rfl (lv_at hl 5 rfl) ?_
      refine lv_iconst (v := 0) hx hb dL_law_1129 (by decide) ?_
      refine va_lald hx hb hK.1 hP 0 1 rfl rfl (inb_vp (by decide)) dL_law_1130 ?_
      refine lv_lload hx hb dL_law_1131 (lv_at hl 0 rfl) ?_
      refine W.lcmp hx hb dL_law_1133 ?_
      refine lv_if_eq (tgt := 1139) hx hb dL_law_1134 (by decide) (fun c_3 => ?_) (fun c_3 => ?_)
      · refine lv_goto (tgt := 1435) hx hb dL_law_1139 (by decide) ?_
        refine lv_iinc (v := (x4 + (6 : Int32))) (lv' := [(4, .int (x4 + (6 : Int32))), (6, .long r.1), (5, .int (rL_value q)), (0, .ref b), (1, .ref (ad 0 0)), (2, .ref (am 0 0)), (3, .ref ao)]) hx hb dL_law_1435 hl (k := 6) rfl rfl (by decide) rfl (fun ls hl => ?_)
        refine lv_goto (tgt := 23) hx hb dL_law_1438 (by decide) ?_
        exact kk ad q.2 r.2 (oL_value q o) _ _ hR1 (by unfold Bud at hbud ⊢; omega) _ _ hP hD hS _ (lv_sub hl [3, 4, 5, 6, 0] rfl)
      · exact absurd ((lg_cmp_eq _ _).mpr (otvalue heq c_2)) c_3
  · exact absurd hth c_1
set_option maxHeartbeats 4000000 in
set_option maxRecDepth 100000 in
theorem lawc_act {R : ST → ST → Prop} (pf : pf_act R) {p : Program} {l : Launch} {e : Env} {s : State} {m : MethodId} {below : List Frame} {meth : Method} {c : Code} {b L : Nat} {xs : Nat → Int32} {D : va_G} {cy : Nat → ClassId} (C : Lx p l s m meth c b L xs D cy) {am : Nat → Nat → Nat} {ao it cs ss : Nat} {x4 : Int32} (hin1 : vp_in (x4 + (1 : Int32)) L) (hin2 : vp_in (x4 + (2 : Int32)) L) (hin3 : vp_in (x4 + (3 : Int32)) L) (hin4 : vp_in (x4 + (4 : Int32)) L) (hin5 : vp_in (x4 + (5 : Int32)) L) (hit : it < 513) (kk : ∀ (ad : Nat → Nat → Nat) (σ τ : ST) (o : Nat → Int64) (cs ss : Nat), R σ τ → Bud (it + 1) cs ss σ → ∀ (H : Heap) (locs : List Loc), va_P D vwCl (lwW cy ad am ao σ τ o) H → va_D (fun q : Nat => s.heap.size ≤ q) (lwW cy ad am ao σ τ o) → va_S (fun q : Nat => s.heap.size ≤ q) s.heap H locs → ∀ ls : Array Slot, lv_has ls 8 [(0, .ref b), (1, .ref (ad 0 0)), (2, .ref (am 0 0)), (3, .ref ao), (4, .int (x4 + (6 : Int32)))] → W p l e room_1 s m #[Value.ref b] below meth c H locs cs ss (lw_Z below #[Value.ref b] s) (F0 m 23 ls [])) {ad : Nat → Nat → Nat} {σ τ : ST} {o : Nat → Int64} (hR : R σ τ) (hbud : Bud it cs ss σ) {H : Heap} {locs : List Loc} (hP : va_P D vwCl (lwW cy ad am ao σ τ o) H) (hD : va_D (fun q : Nat => s.heap.size ≤ q) (lwW cy ad am ao σ τ o)) (hS : va_S (fun q : Nat => s.heap.size ≤ q) s.heap H locs) {ls : Array Slot} (hl : lv_has ls 8 [(0, .ref b), (1, .ref (ad 0 0)), (2, .ref (am 0 0)), (3, .ref ao), (4, .int x4)]) : W p l e room_1 s m #[Value.ref b] below meth c H locs cs ss (lw_Z below #[Value.ref b] s) (F0 m 1142 ls []) := by
  obtain ⟨hx, hb, hr, hml, hown, hts, hX, hbl, hlocks, hK, hXX, htr⟩ := id C
  have hA : ∀ q : Nat, s.heap.size ≤ q → (fun q : Nat => s.heap.size ≤ q) q := fun _ h => h
  have hbA : ¬ (fun q : Nat => s.heap.size ≤ q) b := Nat.not_le.mpr hbl
  have hcs : cs + 0 ≤ room_1.cells := by show cs + 0 ≤ 601024; unfold Bud at hbud; omega
  have hss : ss + 0 ≤ room_1.slots := by show ss + 0 ≤ 7293034; unfold Bud at hbud; omega
  refine lv_aload_n hx hb dL_law_1142 rfl (lv_at hl 1 rfl) ?_
  refine lv_aload_n hx hb dL_law_1143 rfl (lv_at hl 0 rfl) ?_
  refine lv_iload hx hb dL_law_1144 (lv_at hl 4 rfl) ?_
  refine lv_iconst (v := 1) hx hb dL_law_1146 (by decide) ?_
  refine lv_iadd hx hb dL_law_1147 ?_
  refine va_sld hx hb hX hbl hbA hS hin1 dL_law_1148 ?_
  refine lv_aload_n hx hb dL_law_1149 rfl (lv_at hl 0 rfl) ?_
  refine lv_iload hx hb dL_law_1150 (lv_at hl 4 rfl) ?_
  refine lv_iconst (v := 2) hx hb dL_law_1152 (by decide) ?_
  refine lv_iadd hx hb dL_law_1153 ?_
  refine va_sld hx hb hX hbl hbA hS hin2 dL_law_1154 ?_
  obtain ⟨q, r, hq, hr9, heq, hR1, hcn⟩ := pf σ τ (xs (Int32.toNatClampNeg (x4 + (1 : Int32)))) (xs (Int32.toNatClampNeg (x4 + (2 : Int32)))) hR
  have hP : va_P D vwCl ([outc cy ao o] ++ (cw cy ad σ ++ (mw cy am τ))) _ := hP
  have hD : va_D (fun q : Nat => s.heap.size ≤ q) ([outc cy ao o] ++ (cw cy ad σ ++ (mw cy am τ))) := hD
  refine zf_i [outc cy ao o] (mw cy am τ) (zr_V [.int (xs (Int32.toNatClampNeg (x4 + (1 : Int32)))), .int (xs (Int32.toNatClampNeg (x4 + (2 : Int32))))] [] ⟨hx, hb, hml, hown, hts⟩ (ctX2_act l D cy ad σ (xs (Int32.toNatClampNeg (x4 + (1 : Int32)))) (xs (Int32.toNatClampNeg (x4 + (2 : Int32)))) q hq _) (cwV 2 hts gL_law_X2_act rfl rfl rfl (by decide +kernel) ⟨Nat.le_of_ble_eq_true rfl, Nat.le_of_ble_eq_true rfl⟩) hK (z_partP hP) (z_partD hD) 0 cw_0 rfl rfl rfl hl.1 rfl (Nat.le_of_ble_eq_true rfl) dL_law_1155 ⟨hcs, hss⟩) hP hD hS hA (fun H locs hP hD hS => ?_)
  refine lv_aload_n hx hb dL_law_1158 rfl (lv_at hl 2 rfl) ?_
  refine lv_aload_n hx hb dL_law_1159 rfl (lv_at hl 0 rfl) ?_
  refine lv_iload hx hb dL_law_1160 (lv_at hl 4 rfl) ?_
  refine lv_iconst (v := 1) hx hb dL_law_1162 (by decide) ?_
  refine lv_iadd hx hb dL_law_1163 ?_
  refine va_sld hx hb hX hbl hbA hS hin1 dL_law_1164 ?_
  refine lv_aload_n hx hb dL_law_1165 rfl (lv_at hl 0 rfl) ?_
  refine lv_iload hx hb dL_law_1166 (lv_at hl 4 rfl) ?_
  refine lv_iconst (v := 2) hx hb dL_law_1168 (by decide) ?_
  refine lv_iadd hx hb dL_law_1169 ?_
  refine va_sld hx hb hX hbl hbA hS hin2 dL_law_1170 ?_
  have hP : va_P D vwCl (([outc cy ao o] ++ cw cy ad q.2) ++ (mw cy am τ ++ [])) _ := hP
  have hD : va_D (fun q : Nat => s.heap.size ≤ q) (([outc cy ao o] ++ cw cy ad q.2) ++ (mw cy am τ ++ [])) := hD
  refine zf_i ([outc cy ao o] ++ cw cy ad q.2) [] (zr_V [.int (xs (Int32.toNatClampNeg (x4 + (1 : Int32)))), .int (xs (Int32.toNatClampNeg (x4 + (2 : Int32))))] [.int q.1] ⟨hx, hb, hml, hown, hts⟩ (ctX3_act l D cy am τ (xs (Int32.toNatClampNeg (x4 + (1 : Int32)))) (xs (Int32.toNatClampNeg (x4 + (2 : Int32)))) r hr9 _) (cwV 2 hts gL_law_X3_act rfl rfl rfl (by decide +kernel) ⟨Nat.le_of_ble_eq_true rfl, Nat.le_of_ble_eq_true rfl⟩) hK (z_partP hP) (z_partD hD) 0 mw_0 rfl rfl rfl hl.1 rfl (Nat.le_of_ble_eq_true rfl) dL_law_1171 ⟨hcs, hss⟩) hP hD hS hA (fun H locs hP hD hS => ?_)
  have hP : va_P D vwCl (lwW cy ad am ao q.2 r.2 o) H := hP
  have hD : va_D (fun q : Nat => s.heap.size ≤ q) (lwW cy ad am ao q.2 r.2 o) := hD
  refine lv_icmp_eq (tgt := 1435) hx hb dL_law_1174 (by decide) (fun c_1 => ?_) (fun c_1 => ?_)
  · refine lv_iinc (v := (x4 + (6 : Int32))) (lv' := [(4, .int (x4 + (6 : Int32))), (0, .ref b), (1, .ref (ad 0 0)), (2, .ref (am 0 0)), (3, .ref ao)]) hx hb dL_law_1435 hl (k := 4) rfl rfl (by decide) rfl (fun ls hl => ?_)
    refine lv_goto (tgt := 23) hx hb dL_law_1438 (by decide) ?_
    exact kk ad q.2 r.2 o _ _ hR1 (by unfold Bud at hbud ⊢; omega) _ _ hP hD hS _ (lv_sub hl [1, 2, 3, 4, 0] rfl)
  · exact absurd heq c_1
set_option maxHeartbeats 4000000 in
set_option maxRecDepth 100000 in
theorem lawc_path {R : ST → ST → Prop} (pf : pf_path R) {p : Program} {l : Launch} {e : Env} {s : State} {m : MethodId} {below : List Frame} {meth : Method} {c : Code} {b L : Nat} {xs : Nat → Int32} {D : va_G} {cy : Nat → ClassId} (C : Lx p l s m meth c b L xs D cy) {am : Nat → Nat → Nat} {ao it cs ss : Nat} {x4 : Int32} (hin1 : vp_in (x4 + (1 : Int32)) L) (hin2 : vp_in (x4 + (2 : Int32)) L) (hin3 : vp_in (x4 + (3 : Int32)) L) (hin4 : vp_in (x4 + (4 : Int32)) L) (hin5 : vp_in (x4 + (5 : Int32)) L) (hit : it < 513) (kk : ∀ (ad : Nat → Nat → Nat) (σ τ : ST) (o : Nat → Int64) (cs ss : Nat), R σ τ → Bud (it + 1) cs ss σ → ∀ (H : Heap) (locs : List Loc), va_P D vwCl (lwW cy ad am ao σ τ o) H → va_D (fun q : Nat => s.heap.size ≤ q) (lwW cy ad am ao σ τ o) → va_S (fun q : Nat => s.heap.size ≤ q) s.heap H locs → ∀ ls : Array Slot, lv_has ls 8 [(0, .ref b), (1, .ref (ad 0 0)), (2, .ref (am 0 0)), (3, .ref ao), (4, .int (x4 + (6 : Int32)))] → W p l e room_1 s m #[Value.ref b] below meth c H locs cs ss (lw_Z below #[Value.ref b] s) (F0 m 23 ls [])) {ad : Nat → Nat → Nat} {σ τ : ST} {o : Nat → Int64} (hR : R σ τ) (hbud : Bud it cs ss σ) {H : Heap} {locs : List Loc} (hP : va_P D vwCl (lwW cy ad am ao σ τ o) H) (hD : va_D (fun q : Nat => s.heap.size ≤ q) (lwW cy ad am ao σ τ o)) (hS : va_S (fun q : Nat => s.heap.size ≤ q) s.heap H locs) {ls : Array Slot} (hl : lv_has ls 8 [(0, .ref b), (1, .ref (ad 0 0)), (2, .ref (am 0 0)), (3, .ref ao), (4, .int x4)]) : W p l e room_1 s m #[Value.ref b] below meth c H locs cs ss (lw_Z below #[Value.ref b] s) (F0 m 1179 ls []) := by
  obtain ⟨hx, hb, hr, hml, hown, hts, hX, hbl, hlocks, hK, hXX, htr⟩ := id C
  have hA : ∀ q : Nat, s.heap.size ≤ q → (fun q : Nat => s.heap.size ≤ q) q := fun _ h => h
  have hbA : ¬ (fun q : Nat => s.heap.size ≤ q) b := Nat.not_le.mpr hbl
  have hcs : cs + 0 ≤ room_1.cells := by show cs + 0 ≤ 601024; unfold Bud at hbud; omega
  have hss : ss + 0 ≤ room_1.slots := by show ss + 0 ≤ 7293034; unfold Bud at hbud; omega
  refine lv_aload_n hx hb dL_law_1179 rfl (lv_at hl 1 rfl) ?_
  refine lv_aload_n hx hb dL_law_1180 rfl (lv_at hl 0 rfl) ?_
  refine lv_iload hx hb dL_law_1181 (lv_at hl 4 rfl) ?_
  refine lv_iconst (v := 1) hx hb dL_law_1183 (by decide) ?_
  refine lv_iadd hx hb dL_law_1184 ?_
  refine va_sld hx hb hX hbl hbA hS hin1 dL_law_1185 ?_
  refine lv_aload_n hx hb dL_law_1186 rfl (lv_at hl 0 rfl) ?_
  refine lv_iload hx hb dL_law_1187 (lv_at hl 4 rfl) ?_
  refine lv_iconst (v := 2) hx hb dL_law_1189 (by decide) ?_
  refine lv_iadd hx hb dL_law_1190 ?_
  refine va_sld hx hb hX hbl hbA hS hin2 dL_law_1191 ?_
  refine lv_if_eq (tgt := 1199) hx hb dL_law_1192 (by decide) (fun c_1 => ?_) (fun c_1 => ?_)
  · refine lv_iconst (v := 0) hx hb dL_law_1199 (by decide) ?_
    obtain ⟨q, r, hq, hr9, heq, hR1, hcn⟩ := pf σ τ (xs (Int32.toNatClampNeg (x4 + (1 : Int32)))) (0 : Int32) hR
    have hP : va_P D vwCl ([outc cy ao o] ++ (cw cy ad σ ++ (mw cy am τ))) _ := hP
    have hD : va_D (fun q : Nat => s.heap.size ≤ q) ([outc cy ao o] ++ (cw cy ad σ ++ (mw cy am τ))) := hD
    refine zf_i [outc cy ao o] (mw cy am τ) (zr_V [.int (xs (Int32.toNatClampNeg (x4 + (1 : Int32)))), .int (0 : Int32)] [] ⟨hx, hb, hml, hown, hts⟩ (ctX2_path l D cy ad σ (xs (Int32.toNatClampNeg (x4 + (1 : Int32)))) (0 : Int32) q hq _) (cwV 2 hts gL_law_X2_path rfl rfl rfl (by decide +kernel) ⟨Nat.le_of_ble_eq_true rfl, Nat.le_of_ble_eq_true rfl⟩) hK (z_partP hP) (z_partD hD) 0 cw_0 rfl rfl rfl hl.1 rfl (Nat.le_of_ble_eq_true rfl) dL_law_1200 ⟨hcs, hss⟩) hP hD hS hA (fun H locs hP hD hS => ?_)
    refine lv_aload_n hx hb dL_law_1203 rfl (lv_at hl 2 rfl) ?_
    refine lv_aload_n hx hb dL_law_1204 rfl (lv_at hl 0 rfl) ?_
    refine lv_iload hx hb dL_law_1205 (lv_at hl 4 rfl) ?_
    refine lv_iconst (v := 1) hx hb dL_law_1207 (by decide) ?_
    refine lv_iadd hx hb dL_law_1208 ?_
    refine va_sld hx hb hX hbl hbA hS hin1 dL_law_1209 ?_
    refine lv_aload_n hx hb dL_law_1210 rfl (lv_at hl 0 rfl) ?_
    refine lv_iload hx hb dL_law_1211 (lv_at hl 4 rfl) ?_
    refine lv_iconst (v := 2) hx hb dL_law_1213 (by decide) ?_
    refine lv_iadd hx hb dL_law_1214 ?_
    refine va_sld hx hb hX hbl hbA hS hin2 dL_law_1215 ?_
    refine lv_if_eq (tgt := 1223) hx hb dL_law_1216 (by decide) (fun c_2 => ?_) (fun c_2 => ?_)
    · refine lv_iconst (v := 0) hx hb dL_law_1223 (by decide) ?_
      have hP : va_P D vwCl (([outc cy ao o] ++ cw cy ad q.2) ++ (mw cy am τ ++ [])) _ := hP
      have hD : va_D (fun q : Nat => s.heap.size ≤ q) (([outc cy ao o] ++ cw cy ad q.2) ++ (mw cy am τ ++ [])) := hD
      refine zf_i ([outc cy ao o] ++ cw cy ad q.2) [] (zr_V [.int (xs (Int32.toNatClampNeg (x4 + (1 : Int32)))), .int (0 : Int32)] [.int q.1] ⟨hx, hb, hml, hown, hts⟩ (ctX3_path l D cy am τ (xs (Int32.toNatClampNeg (x4 + (1 : Int32)))) (0 : Int32) r hr9 _) (cwV 2 hts gL_law_X3_path rfl rfl rfl (by decide +kernel) ⟨Nat.le_of_ble_eq_true rfl, Nat.le_of_ble_eq_true rfl⟩) hK (z_partP hP) (z_partD hD) 0 mw_0 rfl rfl rfl hl.1 rfl (Nat.le_of_ble_eq_true rfl) dL_law_1224 ⟨hcs, hss⟩) hP hD hS hA (fun H locs hP hD hS => ?_)
      have hP : va_P D vwCl (lwW cy ad am ao q.2 r.2 o) H := hP
      have hD : va_D (fun q : Nat => s.heap.size ≤ q) (lwW cy ad am ao q.2 r.2 o) := hD
      refine lv_icmp_eq (tgt := 1435) hx hb dL_law_1227 (by decide) (fun c_3 => ?_) (fun c_3 => ?_)
      · refine lv_iinc (v := (x4 + (6 : Int32))) (lv' := [(4, .int (x4 + (6 : Int32))), (0, .ref b), (1, .ref (ad 0 0)), (2, .ref (am 0 0)), (3, .ref ao)]) hx hb dL_law_1435 hl (k := 4) rfl rfl (by decide) rfl (fun ls hl => ?_)
        refine lv_goto (tgt := 23) hx hb dL_law_1438 (by decide) ?_
        exact kk ad q.2 r.2 o _ _ hR1 (by unfold Bud at hbud ⊢; omega) _ _ hP hD hS _ (lv_sub hl [1, 2, 3, 4, 0] rfl)
      · exact absurd heq c_3
    · exact absurd c_1 c_2
  · refine lv_iconst (v := 1) hx hb dL_law_1195 (by decide) ?_
    refine lv_goto (tgt := 1200) hx hb dL_law_1196 (by decide) ?_
    obtain ⟨q, r, hq, hr9, heq, hR1, hcn⟩ := pf σ τ (xs (Int32.toNatClampNeg (x4 + (1 : Int32)))) (1 : Int32) hR
    have hP : va_P D vwCl ([outc cy ao o] ++ (cw cy ad σ ++ (mw cy am τ))) _ := hP
    have hD : va_D (fun q : Nat => s.heap.size ≤ q) ([outc cy ao o] ++ (cw cy ad σ ++ (mw cy am τ))) := hD
    refine zf_i [outc cy ao o] (mw cy am τ) (zr_V [.int (xs (Int32.toNatClampNeg (x4 + (1 : Int32)))), .int (1 : Int32)] [] ⟨hx, hb, hml, hown, hts⟩ (ctX2_path l D cy ad σ (xs (Int32.toNatClampNeg (x4 + (1 : Int32)))) (1 : Int32) q hq _) (cwV 2 hts gL_law_X2_path rfl rfl rfl (by decide +kernel) ⟨Nat.le_of_ble_eq_true rfl, Nat.le_of_ble_eq_true rfl⟩) hK (z_partP hP) (z_partD hD) 0 cw_0 rfl rfl rfl hl.1 rfl (Nat.le_of_ble_eq_true rfl) dL_law_1200 ⟨hcs, hss⟩) hP hD hS hA (fun H locs hP hD hS => ?_)
    refine lv_aload_n hx hb dL_law_1203 rfl (lv_at hl 2 rfl) ?_
    refine lv_aload_n hx hb dL_law_1204 rfl (lv_at hl 0 rfl) ?_
    refine lv_iload hx hb dL_law_1205 (lv_at hl 4 rfl) ?_
    refine lv_iconst (v := 1) hx hb dL_law_1207 (by decide) ?_
    refine lv_iadd hx hb dL_law_1208 ?_
    refine va_sld hx hb hX hbl hbA hS hin1 dL_law_1209 ?_
    refine lv_aload_n hx hb dL_law_1210 rfl (lv_at hl 0 rfl) ?_
    refine lv_iload hx hb dL_law_1211 (lv_at hl 4 rfl) ?_
    refine lv_iconst (v := 2) hx hb dL_law_1213 (by decide) ?_
    refine lv_iadd hx hb dL_law_1214 ?_
    refine va_sld hx hb hX hbl hbA hS hin2 dL_law_1215 ?_
    refine lv_if_eq (tgt := 1223) hx hb dL_law_1216 (by decide) (fun c_4 => ?_) (fun c_4 => ?_)
    · exact absurd c_4 c_1
    · refine lv_iconst (v := 1) hx hb dL_law_1219 (by decide) ?_
      refine lv_goto (tgt := 1224) hx hb dL_law_1220 (by decide) ?_
      have hP : va_P D vwCl (([outc cy ao o] ++ cw cy ad q.2) ++ (mw cy am τ ++ [])) _ := hP
      have hD : va_D (fun q : Nat => s.heap.size ≤ q) (([outc cy ao o] ++ cw cy ad q.2) ++ (mw cy am τ ++ [])) := hD
      refine zf_i ([outc cy ao o] ++ cw cy ad q.2) [] (zr_V [.int (xs (Int32.toNatClampNeg (x4 + (1 : Int32)))), .int (1 : Int32)] [.int q.1] ⟨hx, hb, hml, hown, hts⟩ (ctX3_path l D cy am τ (xs (Int32.toNatClampNeg (x4 + (1 : Int32)))) (1 : Int32) r hr9 _) (cwV 2 hts gL_law_X3_path rfl rfl rfl (by decide +kernel) ⟨Nat.le_of_ble_eq_true rfl, Nat.le_of_ble_eq_true rfl⟩) hK (z_partP hP) (z_partD hD) 0 mw_0 rfl rfl rfl hl.1 rfl (Nat.le_of_ble_eq_true rfl) dL_law_1224 ⟨hcs, hss⟩) hP hD hS hA (fun H locs hP hD hS => ?_)
      have hP : va_P D vwCl (lwW cy ad am ao q.2 r.2 o) H := hP
      have hD : va_D (fun q : Nat => s.heap.size ≤ q) (lwW cy ad am ao q.2 r.2 o) := hD
      refine lv_icmp_eq (tgt := 1435) hx hb dL_law_1227 (by decide) (fun c_5 => ?_) (fun c_5 => ?_)
      · refine lv_iinc (v := (x4 + (6 : Int32))) (lv' := [(4, .int (x4 + (6 : Int32))), (0, .ref b), (1, .ref (ad 0 0)), (2, .ref (am 0 0)), (3, .ref ao)]) hx hb dL_law_1435 hl (k := 4) rfl rfl (by decide) rfl (fun ls hl => ?_)
        refine lv_goto (tgt := 23) hx hb dL_law_1438 (by decide) ?_
        exact kk ad q.2 r.2 o _ _ hR1 (by unfold Bud at hbud ⊢; omega) _ _ hP hD hS _ (lv_sub hl [1, 2, 3, 4, 0] rfl)
      · exact absurd heq c_5
set_option maxHeartbeats 4000000 in
set_option maxRecDepth 100000 in
theorem lawc_often {R : ST → ST → Prop} (pf : pf_often R) {p : Program} {l : Launch} {e : Env} {s : State} {m : MethodId} {below : List Frame} {meth : Method} {c : Code} {b L : Nat} {xs : Nat → Int32} {D : va_G} {cy : Nat → ClassId} (C : Lx p l s m meth c b L xs D cy) {am : Nat → Nat → Nat} {ao it cs ss : Nat} {x4 : Int32} (hin1 : vp_in (x4 + (1 : Int32)) L) (hin2 : vp_in (x4 + (2 : Int32)) L) (hin3 : vp_in (x4 + (3 : Int32)) L) (hin4 : vp_in (x4 + (4 : Int32)) L) (hin5 : vp_in (x4 + (5 : Int32)) L) (hit : it < 513) (kk : ∀ (ad : Nat → Nat → Nat) (σ τ : ST) (o : Nat → Int64) (cs ss : Nat), R σ τ → Bud (it + 1) cs ss σ → ∀ (H : Heap) (locs : List Loc), va_P D vwCl (lwW cy ad am ao σ τ o) H → va_D (fun q : Nat => s.heap.size ≤ q) (lwW cy ad am ao σ τ o) → va_S (fun q : Nat => s.heap.size ≤ q) s.heap H locs → ∀ ls : Array Slot, lv_has ls 8 [(0, .ref b), (1, .ref (ad 0 0)), (2, .ref (am 0 0)), (3, .ref ao), (4, .int (x4 + (6 : Int32)))] → W p l e room_1 s m #[Value.ref b] below meth c H locs cs ss (lw_Z below #[Value.ref b] s) (F0 m 23 ls [])) {ad : Nat → Nat → Nat} {σ τ : ST} {o : Nat → Int64} (hR : R σ τ) (hbud : Bud it cs ss σ) {H : Heap} {locs : List Loc} (hP : va_P D vwCl (lwW cy ad am ao σ τ o) H) (hD : va_D (fun q : Nat => s.heap.size ≤ q) (lwW cy ad am ao σ τ o)) (hS : va_S (fun q : Nat => s.heap.size ≤ q) s.heap H locs) {ls : Array Slot} (hl : lv_has ls 8 [(0, .ref b), (1, .ref (ad 0 0)), (2, .ref (am 0 0)), (3, .ref ao), (4, .int x4)]) : W p l e room_1 s m #[Value.ref b] below meth c H locs cs ss (lw_Z below #[Value.ref b] s) (F0 m 1232 ls []) := by
  obtain ⟨hx, hb, hr, hml, hown, hts, hX, hbl, hlocks, hK, hXX, htr⟩ := id C
  have hA : ∀ q : Nat, s.heap.size ≤ q → (fun q : Nat => s.heap.size ≤ q) q := fun _ h => h
  have hbA : ¬ (fun q : Nat => s.heap.size ≤ q) b := Nat.not_le.mpr hbl
  have hcs : cs + 0 ≤ room_1.cells := by show cs + 0 ≤ 601024; unfold Bud at hbud; omega
  have hss : ss + 0 ≤ room_1.slots := by show ss + 0 ≤ 7293034; unfold Bud at hbud; omega
  refine lv_aload_n hx hb dL_law_1232 rfl (lv_at hl 1 rfl) ?_
  refine lv_aload_n hx hb dL_law_1233 rfl (lv_at hl 0 rfl) ?_
  refine lv_iload hx hb dL_law_1234 (lv_at hl 4 rfl) ?_
  refine lv_iconst (v := 1) hx hb dL_law_1236 (by decide) ?_
  refine lv_iadd hx hb dL_law_1237 ?_
  refine va_sld hx hb hX hbl hbA hS hin1 dL_law_1238 ?_
  obtain ⟨q, r, hq, hr9, heq, hR1, hcn⟩ := pf σ τ (xs (Int32.toNatClampNeg (x4 + (1 : Int32)))) hR
  have hP : va_P D vwCl ([outc cy ao o] ++ (cw cy ad σ ++ (mw cy am τ))) _ := hP
  have hD : va_D (fun q : Nat => s.heap.size ≤ q) ([outc cy ao o] ++ (cw cy ad σ ++ (mw cy am τ))) := hD
  refine zf_i [outc cy ao o] (mw cy am τ) (zr_V [.int (xs (Int32.toNatClampNeg (x4 + (1 : Int32))))] [] ⟨hx, hb, hml, hown, hts⟩ (ctX2_often l D cy ad σ (xs (Int32.toNatClampNeg (x4 + (1 : Int32)))) q hq _) (cwV 1 hts gL_law_X2_often rfl rfl rfl (by decide +kernel) ⟨Nat.le_of_ble_eq_true rfl, Nat.le_of_ble_eq_true rfl⟩) hK (z_partP hP) (z_partD hD) 0 cw_0 rfl rfl rfl hl.1 rfl (Nat.le_of_ble_eq_true rfl) dL_law_1239 ⟨hcs, hss⟩) hP hD hS hA (fun H locs hP hD hS => ?_)
  refine lv_aload_n hx hb dL_law_1242 rfl (lv_at hl 2 rfl) ?_
  refine lv_aload_n hx hb dL_law_1243 rfl (lv_at hl 0 rfl) ?_
  refine lv_iload hx hb dL_law_1244 (lv_at hl 4 rfl) ?_
  refine lv_iconst (v := 1) hx hb dL_law_1246 (by decide) ?_
  refine lv_iadd hx hb dL_law_1247 ?_
  refine va_sld hx hb hX hbl hbA hS hin1 dL_law_1248 ?_
  have hP : va_P D vwCl (([outc cy ao o] ++ cw cy ad q.2) ++ (mw cy am τ ++ [])) _ := hP
  have hD : va_D (fun q : Nat => s.heap.size ≤ q) (([outc cy ao o] ++ cw cy ad q.2) ++ (mw cy am τ ++ [])) := hD
  refine zf_i ([outc cy ao o] ++ cw cy ad q.2) [] (zr_V [.int (xs (Int32.toNatClampNeg (x4 + (1 : Int32))))] [.int q.1] ⟨hx, hb, hml, hown, hts⟩ (ctX3_often l D cy am τ (xs (Int32.toNatClampNeg (x4 + (1 : Int32)))) r hr9 _) (cwV 1 hts gL_law_X3_often rfl rfl rfl (by decide +kernel) ⟨Nat.le_of_ble_eq_true rfl, Nat.le_of_ble_eq_true rfl⟩) hK (z_partP hP) (z_partD hD) 0 mw_0 rfl rfl rfl hl.1 rfl (Nat.le_of_ble_eq_true rfl) dL_law_1249 ⟨hcs, hss⟩) hP hD hS hA (fun H locs hP hD hS => ?_)
  have hP : va_P D vwCl (lwW cy ad am ao q.2 r.2 o) H := hP
  have hD : va_D (fun q : Nat => s.heap.size ≤ q) (lwW cy ad am ao q.2 r.2 o) := hD
  refine lv_icmp_eq (tgt := 1435) hx hb dL_law_1252 (by decide) (fun c_1 => ?_) (fun c_1 => ?_)
  · refine lv_iinc (v := (x4 + (6 : Int32))) (lv' := [(4, .int (x4 + (6 : Int32))), (0, .ref b), (1, .ref (ad 0 0)), (2, .ref (am 0 0)), (3, .ref ao)]) hx hb dL_law_1435 hl (k := 4) rfl rfl (by decide) rfl (fun ls hl => ?_)
    refine lv_goto (tgt := 23) hx hb dL_law_1438 (by decide) ?_
    exact kk ad q.2 r.2 o _ _ hR1 (by unfold Bud at hbud ⊢; omega) _ _ hP hD hS _ (lv_sub hl [1, 2, 3, 4, 0] rfl)
  · exact absurd heq c_1
theorem otfixed {q : Option Int64 × ST} {r : Int64 × ST} {o : Nat → Int64} (h : ∀ v, q.1 = some v → v = r.1) (h0 : rL_fixed q = 0) : (oL_fixed q o) (Int32.toNatClampNeg (0 : Int32)) = r.1 := by
  unfold rL_fixed at h0
  unfold oL_fixed
  cases hq : q.1 with
  | none => rw [hq] at h0; exact absurd h0 (by decide)
  | some v => rw [← h v hq]; simp [vp_updL]
set_option maxHeartbeats 4000000 in
set_option maxRecDepth 100000 in
theorem lawc_fixed {R : ST → ST → Prop} (pf : pf_fixed R) {p : Program} {l : Launch} {e : Env} {s : State} {m : MethodId} {below : List Frame} {meth : Method} {c : Code} {b L : Nat} {xs : Nat → Int32} {D : va_G} {cy : Nat → ClassId} (C : Lx p l s m meth c b L xs D cy) {am : Nat → Nat → Nat} {ao it cs ss : Nat} {x4 : Int32} (hin1 : vp_in (x4 + (1 : Int32)) L) (hin2 : vp_in (x4 + (2 : Int32)) L) (hin3 : vp_in (x4 + (3 : Int32)) L) (hin4 : vp_in (x4 + (4 : Int32)) L) (hin5 : vp_in (x4 + (5 : Int32)) L) (hit : it < 513) (kk : ∀ (ad : Nat → Nat → Nat) (σ τ : ST) (o : Nat → Int64) (cs ss : Nat), R σ τ → Bud (it + 1) cs ss σ → ∀ (H : Heap) (locs : List Loc), va_P D vwCl (lwW cy ad am ao σ τ o) H → va_D (fun q : Nat => s.heap.size ≤ q) (lwW cy ad am ao σ τ o) → va_S (fun q : Nat => s.heap.size ≤ q) s.heap H locs → ∀ ls : Array Slot, lv_has ls 8 [(0, .ref b), (1, .ref (ad 0 0)), (2, .ref (am 0 0)), (3, .ref ao), (4, .int (x4 + (6 : Int32)))] → W p l e room_1 s m #[Value.ref b] below meth c H locs cs ss (lw_Z below #[Value.ref b] s) (F0 m 23 ls [])) {ad : Nat → Nat → Nat} {σ τ : ST} {o : Nat → Int64} (hR : R σ τ) (hbud : Bud it cs ss σ) {H : Heap} {locs : List Loc} (hP : va_P D vwCl (lwW cy ad am ao σ τ o) H) (hD : va_D (fun q : Nat => s.heap.size ≤ q) (lwW cy ad am ao σ τ o)) (hS : va_S (fun q : Nat => s.heap.size ≤ q) s.heap H locs) {ls : Array Slot} (hl : lv_has ls 8 [(0, .ref b), (1, .ref (ad 0 0)), (2, .ref (am 0 0)), (3, .ref ao), (4, .int x4)]) : W p l e room_1 s m #[Value.ref b] below meth c H locs cs ss (lw_Z below #[Value.ref b] s) (F0 m 1257 ls []) := by
  obtain ⟨hx, hb, hr, hml, hown, hts, hX, hbl, hlocks, hK, hXX, htr⟩ := id C
  have hA : ∀ q : Nat, s.heap.size ≤ q → (fun q : Nat => s.heap.size ≤ q) q := fun _ h => h
  have hbA : ¬ (fun q : Nat => s.heap.size ≤ q) b := Nat.not_le.mpr hbl
  have hcs : cs + 0 ≤ room_1.cells := by show cs + 0 ≤ 601024; unfold Bud at hbud; omega
  have hss : ss + 0 ≤ room_1.slots := by show ss + 0 ≤ 7293034; unfold Bud at hbud; omega
  refine lv_aload_n hx hb dL_law_1257 rfl (lv_at hl 1 rfl) ?_
  refine lv_aload_n hx hb dL_law_1258 rfl (lv_at hl 0 rfl) ?_
  refine lv_iload hx hb dL_law_1259 (lv_at hl 4 rfl) ?_
  refine lv_iconst (v := 1) hx hb dL_law_1261 (by decide) ?_
  refine lv_iadd hx hb dL_law_1262 ?_
  refine va_sld hx hb hX hbl hbA hS hin1 dL_law_1263 ?_
  refine lv_aload_n hx hb dL_law_1264 rfl (lv_at hl 3 rfl) ?_
  obtain ⟨q, r, hq, hr9, hth, heq, hR1, hcn⟩ := pf σ τ (xs (Int32.toNatClampNeg (x4 + (1 : Int32)))) hR
  refine zc_im (yr_SW [.ref (ad 0 0), .int (xs (Int32.toNatClampNeg (x4 + (1 : Int32)))), .ref ao] [] ⟨hx, hb, hml, hown, hts⟩ (ctL_fixed l htr s.heap.size D cy ad (mw cy am τ) ao o σ (xs (Int32.toNatClampNeg (x4 + (1 : Int32)))) q hq _) (vx_cwSW 3 hts gL_law_L_fixed rfl rfl rfl (by decide +kernel) ⟨Nat.le_of_ble_eq_true rfl, Nat.le_of_ble_eq_true rfl⟩) hK hXX (fun _ h => h) (Nat.le_refl _) hP hD hS rfl hl.1 rfl (Nat.le_of_ble_eq_true rfl) dL_law_1265 ⟨by show cs + 1 ≤ 601024; unfold Bud at hbud; omega, by show ss + 6 ≤ 7293034; unfold Bud at hbud; omega⟩) hD hS hA (fun H locs hP hD hS => ?_)
  have hcs : cs + 1 + 0 ≤ room_1.cells := by show cs + 1 + 0 ≤ 601024; unfold Bud at hbud; omega
  have hss : ss + 6 + 0 ≤ room_1.slots := by show ss + 6 + 0 ≤ 7293034; unfold Bud at hbud; omega
  refine lv_istore (lv' := [(5, .int (rL_fixed q)), (0, .ref b), (1, .ref (ad 0 0)), (2, .ref (am 0 0)), (3, .ref ao), (4, .int x4)]) hx hb dL_law_1268 hl (by decide) rfl (fun ls hl => ?_)
  refine lv_aload_n hx hb dL_law_1270 rfl (lv_at hl 3 rfl) ?_
  refine lv_aload_n hx hb dL_law_1271 rfl (lv_at hl 1 rfl) ?_
  refine lv_iload hx hb dL_law_1272 (lv_at hl 5 rfl) ?_
  refine lv_iconst (v := 1) hx hb dL_law_1274 (by decide) ?_
  refine lv_iadd hx hb dL_law_1275 ?_
  refine va_sld hx hb hX hbl hbA hS hin1 dL_law_1276 ?_
  have hP : va_P D vwCl (([outc cy ao (oL_fixed q o)] ++ cw cy ad q.2) ++ (mw cy am τ ++ [])) _ := hP
  have hD : va_D (fun q : Nat => s.heap.size ≤ q) (([outc cy ao (oL_fixed q o)] ++ cw cy ad q.2) ++ (mw cy am τ ++ [])) := hD
  refine zf_l ([outc cy ao (oL_fixed q o)] ++ cw cy ad q.2) [] (zr_V [.int (xs (Int32.toNatClampNeg (x4 + (1 : Int32))))] [] ⟨hx, hb, hml, hown, hts⟩ (ctX3_fixed l D cy am τ (xs (Int32.toNatClampNeg (x4 + (1 : Int32)))) r hr9 _) (cwV 1 hts gL_law_X3_fixed rfl rfl rfl (by decide +kernel) ⟨Nat.le_of_ble_eq_true rfl, Nat.le_of_ble_eq_true rfl⟩) hK (z_partP hP) (z_partD hD) 0 mw_0 rfl rfl rfl hl.1 rfl (Nat.le_of_ble_eq_true rfl) dL_law_1277 ⟨hcs, hss⟩) hP hD hS hA (fun H locs hP hD hS => ?_)
  have hP : va_P D vwCl (lwW cy ad am ao q.2 r.2 (oL_fixed q o)) H := hP
  have hD : va_D (fun q : Nat => s.heap.size ≤ q) (lwW cy ad am ao q.2 r.2 (oL_fixed q o)) := hD
  refine lv_lstore (lv' := [(6, .long r.1), (5, .int (rL_fixed q)), (0, .ref b), (1, .ref (ad 0 0)), (2, .ref (am 0 0)), (3, .ref ao), (4, .int x4)]) hx hb dL_law_1280 hl (by decide) rfl (fun ls hl => ?_)
  refine lv_aload_n hx hb dL_law_1282 rfl (lv_at hl 4 rfl) ?_
  have hP : va_P D vwCl (([outc cy ao (oL_fixed q o)] ++ cw cy ad q.2) ++ (mw cy am r.2 ++ [])) _ := hP
  have hD : va_D (fun q : Nat => s.heap.size ≤ q) (([outc cy ao (oL_fixed q o)] ++ cw cy ad q.2) ++ (mw cy am r.2 ++ [])) := hD
  refine zf_i ([outc cy ao (oL_fixed q o)] ++ cw cy ad q.2) [] (zr_V [] [] ⟨hx, hb, hml, hown, hts⟩ (ctX3_thrown l D cy am r.2 (gI r.2 0 0 10) rfl _) (cwV 0 hts gL_law_X3_thrown rfl rfl rfl (by decide +kernel) ⟨Nat.le_of_ble_eq_true rfl, Nat.le_of_ble_eq_true rfl⟩) hK (z_partP hP) (z_partD hD) 0 mw_0 rfl rfl rfl hl.1 rfl (Nat.le_of_ble_eq_true rfl) dL_law_1283 ⟨hcs, hss⟩) hP hD hS hA (fun H locs hP hD hS => ?_)
  have hP : va_P D vwCl (lwW cy ad am ao q.2 r.2 (oL_fixed q o)) H := hP
  have hD : va_D (fun q : Nat => s.heap.size ≤ q) (lwW cy ad am ao q.2 r.2 (oL_fixed q o)) := hD
  refine lv_iload hx hb dL_law_1286 (lv_at hl 1 rfl) ?_
  refine lv_icmp_eq (tgt := 1293) hx hb dL_law_1288 (by decide) (fun c_1 => ?_) (fun c_1 => ?_)
  · refine lv_iload hx hb dL_law_1293 (lv_at hl 1 rfl) ?_
    refine lv_if_ne (tgt := 1309) hx hb dL_law_1295 (by decide) (fun c_2 => ?_) (fun c_2 => ?_)
    · refine lv_goto (tgt := 1435) hx hb dL_law_1309 (by decide) ?_
      refine lv_iinc (v := (x4 + (6 : Int32))) (lv' := [(4, .int (x4 + (6 : Int32))), (6, .long r.1), (5, .int (rL_fixed q)), (0, .ref b), (1, .ref (ad 0 0)), (2, .ref (am 0 0)), (3, .ref ao)]) hx hb dL_law_1435 hl (k := 6) rfl rfl (by decide) rfl (fun ls hl => ?_)
      refine lv_goto (tgt := 23) hx hb dL_law_1438 (by decide) ?_
      exact kk ad q.2 r.2 (oL_fixed q o) _ _ hR1 (by unfold Bud at hbud ⊢; omega) _ _ hP hD hS _ (lv_sub hl [3, 4, 5, 6, 0] rfl)
    · refine lv_aload_n hx hb dL_law_1298 rfl (lv_at hl 5 rfl) ?_
      refine lv_iconst (v := 0) hx hb dL_law_1299 (by decide) ?_
      refine va_lald hx hb hK.1 hP 0 1 rfl rfl (inb_vp (by decide)) dL_law_1300 ?_
      refine lv_lload hx hb dL_law_1301 (lv_at hl 0 rfl) ?_
      refine W.lcmp hx hb dL_law_1303 ?_
      refine lv_if_eq (tgt := 1309) hx hb dL_law_1304 (by decide) (fun c_3 => ?_) (fun c_3 => ?_)
      · refine lv_goto (tgt := 1435) hx hb dL_law_1309 (by decide) ?_
        refine lv_iinc (v := (x4 + (6 : Int32))) (lv' := [(4, .int (x4 + (6 : Int32))), (6, .long r.1), (5, .int (rL_fixed q)), (0, .ref b), (1, .ref (ad 0 0)), (2, .ref (am 0 0)), (3, .ref ao)]) hx hb dL_law_1435 hl (k := 6) rfl rfl (by decide) rfl (fun ls hl => ?_)
        refine lv_goto (tgt := 23) hx hb dL_law_1438 (by decide) ?_
        exact kk ad q.2 r.2 (oL_fixed q o) _ _ hR1 (by unfold Bud at hbud ⊢; omega) _ _ hP hD hS _ (lv_sub hl [3, 4, 5, 6, 0] rfl)
      · exact absurd ((lg_cmp_eq _ _).mpr (otfixed heq c_2)) c_3
  · exact absurd hth c_1
theorem otonly {q : Option Int64 × ST} {r : Int64 × ST} {o : Nat → Int64} (h : ∀ v, q.1 = some v → v = r.1) (h0 : rL_only q = 0) : (oL_only q o) (Int32.toNatClampNeg (0 : Int32)) = r.1 := by
  unfold rL_only at h0
  unfold oL_only
  cases hq : q.1 with
  | none => rw [hq] at h0; exact absurd h0 (by decide)
  | some v => rw [← h v hq]; simp [vp_updL]
set_option maxHeartbeats 4000000 in
set_option maxRecDepth 100000 in
theorem lawc_only {R : ST → ST → Prop} (pf : pf_only R) {p : Program} {l : Launch} {e : Env} {s : State} {m : MethodId} {below : List Frame} {meth : Method} {c : Code} {b L : Nat} {xs : Nat → Int32} {D : va_G} {cy : Nat → ClassId} (C : Lx p l s m meth c b L xs D cy) {am : Nat → Nat → Nat} {ao it cs ss : Nat} {x4 : Int32} (hin1 : vp_in (x4 + (1 : Int32)) L) (hin2 : vp_in (x4 + (2 : Int32)) L) (hin3 : vp_in (x4 + (3 : Int32)) L) (hin4 : vp_in (x4 + (4 : Int32)) L) (hin5 : vp_in (x4 + (5 : Int32)) L) (hit : it < 513) (kk : ∀ (ad : Nat → Nat → Nat) (σ τ : ST) (o : Nat → Int64) (cs ss : Nat), R σ τ → Bud (it + 1) cs ss σ → ∀ (H : Heap) (locs : List Loc), va_P D vwCl (lwW cy ad am ao σ τ o) H → va_D (fun q : Nat => s.heap.size ≤ q) (lwW cy ad am ao σ τ o) → va_S (fun q : Nat => s.heap.size ≤ q) s.heap H locs → ∀ ls : Array Slot, lv_has ls 8 [(0, .ref b), (1, .ref (ad 0 0)), (2, .ref (am 0 0)), (3, .ref ao), (4, .int (x4 + (6 : Int32)))] → W p l e room_1 s m #[Value.ref b] below meth c H locs cs ss (lw_Z below #[Value.ref b] s) (F0 m 23 ls [])) {ad : Nat → Nat → Nat} {σ τ : ST} {o : Nat → Int64} (hR : R σ τ) (hbud : Bud it cs ss σ) {H : Heap} {locs : List Loc} (hP : va_P D vwCl (lwW cy ad am ao σ τ o) H) (hD : va_D (fun q : Nat => s.heap.size ≤ q) (lwW cy ad am ao σ τ o)) (hS : va_S (fun q : Nat => s.heap.size ≤ q) s.heap H locs) {ls : Array Slot} (hl : lv_has ls 8 [(0, .ref b), (1, .ref (ad 0 0)), (2, .ref (am 0 0)), (3, .ref ao), (4, .int x4)]) : W p l e room_1 s m #[Value.ref b] below meth c H locs cs ss (lw_Z below #[Value.ref b] s) (F0 m 1312 ls []) := by
  obtain ⟨hx, hb, hr, hml, hown, hts, hX, hbl, hlocks, hK, hXX, htr⟩ := id C
  have hA : ∀ q : Nat, s.heap.size ≤ q → (fun q : Nat => s.heap.size ≤ q) q := fun _ h => h
  have hbA : ¬ (fun q : Nat => s.heap.size ≤ q) b := Nat.not_le.mpr hbl
  have hcs : cs + 0 ≤ room_1.cells := by show cs + 0 ≤ 601024; unfold Bud at hbud; omega
  have hss : ss + 0 ≤ room_1.slots := by show ss + 0 ≤ 7293034; unfold Bud at hbud; omega
  refine lv_aload_n hx hb dL_law_1312 rfl (lv_at hl 1 rfl) ?_
  refine lv_aload_n hx hb dL_law_1313 rfl (lv_at hl 0 rfl) ?_
  refine lv_iload hx hb dL_law_1314 (lv_at hl 4 rfl) ?_
  refine lv_iconst (v := 1) hx hb dL_law_1316 (by decide) ?_
  refine lv_iadd hx hb dL_law_1317 ?_
  refine va_sld hx hb hX hbl hbA hS hin1 dL_law_1318 ?_
  refine lv_aload_n hx hb dL_law_1319 rfl (lv_at hl 3 rfl) ?_
  obtain ⟨q, r, hq, hr9, hth, heq, hR1, hcn⟩ := pf σ τ (xs (Int32.toNatClampNeg (x4 + (1 : Int32)))) hR
  refine zc_im (yr_SW [.ref (ad 0 0), .int (xs (Int32.toNatClampNeg (x4 + (1 : Int32)))), .ref ao] [] ⟨hx, hb, hml, hown, hts⟩ (ctL_only l htr s.heap.size D cy ad (mw cy am τ) ao o σ (xs (Int32.toNatClampNeg (x4 + (1 : Int32)))) q hq _) (vx_cwSW 3 hts gL_law_L_only rfl rfl rfl (by decide +kernel) ⟨Nat.le_of_ble_eq_true rfl, Nat.le_of_ble_eq_true rfl⟩) hK hXX (fun _ h => h) (Nat.le_refl _) hP hD hS rfl hl.1 rfl (Nat.le_of_ble_eq_true rfl) dL_law_1320 ⟨by show cs + 1 ≤ 601024; unfold Bud at hbud; omega, by show ss + 6 ≤ 7293034; unfold Bud at hbud; omega⟩) hD hS hA (fun H locs hP hD hS => ?_)
  have hcs : cs + 1 + 0 ≤ room_1.cells := by show cs + 1 + 0 ≤ 601024; unfold Bud at hbud; omega
  have hss : ss + 6 + 0 ≤ room_1.slots := by show ss + 6 + 0 ≤ 7293034; unfold Bud at hbud; omega
  refine lv_istore (lv' := [(5, .int (rL_only q)), (0, .ref b), (1, .ref (ad 0 0)), (2, .ref (am 0 0)), (3, .ref ao), (4, .int x4)]) hx hb dL_law_1323 hl (by decide) rfl (fun ls hl => ?_)
  refine lv_aload_n hx hb dL_law_1325 rfl (lv_at hl 3 rfl) ?_
  refine lv_aload_n hx hb dL_law_1326 rfl (lv_at hl 1 rfl) ?_
  refine lv_iload hx hb dL_law_1327 (lv_at hl 5 rfl) ?_
  refine lv_iconst (v := 1) hx hb dL_law_1329 (by decide) ?_
  refine lv_iadd hx hb dL_law_1330 ?_
  refine va_sld hx hb hX hbl hbA hS hin1 dL_law_1331 ?_
  have hP : va_P D vwCl (([outc cy ao (oL_only q o)] ++ cw cy ad q.2) ++ (mw cy am τ ++ [])) _ := hP
  have hD : va_D (fun q : Nat => s.heap.size ≤ q) (([outc cy ao (oL_only q o)] ++ cw cy ad q.2) ++ (mw cy am τ ++ [])) := hD
  refine zf_l ([outc cy ao (oL_only q o)] ++ cw cy ad q.2) [] (zr_V [.int (xs (Int32.toNatClampNeg (x4 + (1 : Int32))))] [] ⟨hx, hb, hml, hown, hts⟩ (ctX3_only l D cy am τ (xs (Int32.toNatClampNeg (x4 + (1 : Int32)))) r hr9 _) (cwV 1 hts gL_law_X3_only rfl rfl rfl (by decide +kernel) ⟨Nat.le_of_ble_eq_true rfl, Nat.le_of_ble_eq_true rfl⟩) hK (z_partP hP) (z_partD hD) 0 mw_0 rfl rfl rfl hl.1 rfl (Nat.le_of_ble_eq_true rfl) dL_law_1332 ⟨hcs, hss⟩) hP hD hS hA (fun H locs hP hD hS => ?_)
  have hP : va_P D vwCl (lwW cy ad am ao q.2 r.2 (oL_only q o)) H := hP
  have hD : va_D (fun q : Nat => s.heap.size ≤ q) (lwW cy ad am ao q.2 r.2 (oL_only q o)) := hD
  refine lv_lstore (lv' := [(6, .long r.1), (5, .int (rL_only q)), (0, .ref b), (1, .ref (ad 0 0)), (2, .ref (am 0 0)), (3, .ref ao), (4, .int x4)]) hx hb dL_law_1335 hl (by decide) rfl (fun ls hl => ?_)
  refine lv_aload_n hx hb dL_law_1337 rfl (lv_at hl 4 rfl) ?_
  have hP : va_P D vwCl (([outc cy ao (oL_only q o)] ++ cw cy ad q.2) ++ (mw cy am r.2 ++ [])) _ := hP
  have hD : va_D (fun q : Nat => s.heap.size ≤ q) (([outc cy ao (oL_only q o)] ++ cw cy ad q.2) ++ (mw cy am r.2 ++ [])) := hD
  refine zf_i ([outc cy ao (oL_only q o)] ++ cw cy ad q.2) [] (zr_V [] [] ⟨hx, hb, hml, hown, hts⟩ (ctX3_thrown l D cy am r.2 (gI r.2 0 0 10) rfl _) (cwV 0 hts gL_law_X3_thrown rfl rfl rfl (by decide +kernel) ⟨Nat.le_of_ble_eq_true rfl, Nat.le_of_ble_eq_true rfl⟩) hK (z_partP hP) (z_partD hD) 0 mw_0 rfl rfl rfl hl.1 rfl (Nat.le_of_ble_eq_true rfl) dL_law_1338 ⟨hcs, hss⟩) hP hD hS hA (fun H locs hP hD hS => ?_)
  have hP : va_P D vwCl (lwW cy ad am ao q.2 r.2 (oL_only q o)) H := hP
  have hD : va_D (fun q : Nat => s.heap.size ≤ q) (lwW cy ad am ao q.2 r.2 (oL_only q o)) := hD
  refine lv_iload hx hb dL_law_1341 (lv_at hl 1 rfl) ?_
  refine lv_icmp_eq (tgt := 1348) hx hb dL_law_1343 (by decide) (fun c_1 => ?_) (fun c_1 => ?_)
  · refine lv_iload hx hb dL_law_1348 (lv_at hl 1 rfl) ?_
    refine lv_if_ne (tgt := 1364) hx hb dL_law_1350 (by decide) (fun c_2 => ?_) (fun c_2 => ?_)
    · refine lv_goto (tgt := 1435) hx hb dL_law_1364 (by decide) ?_
      refine lv_iinc (v := (x4 + (6 : Int32))) (lv' := [(4, .int (x4 + (6 : Int32))), (6, .long r.1), (5, .int (rL_only q)), (0, .ref b), (1, .ref (ad 0 0)), (2, .ref (am 0 0)), (3, .ref ao)]) hx hb dL_law_1435 hl (k := 6) rfl rfl (by decide) rfl (fun ls hl => ?_)
      refine lv_goto (tgt := 23) hx hb dL_law_1438 (by decide) ?_
      exact kk ad q.2 r.2 (oL_only q o) _ _ hR1 (by unfold Bud at hbud ⊢; omega) _ _ hP hD hS _ (lv_sub hl [3, 4, 5, 6, 0] rfl)
    · refine lv_aload_n hx hb dL_law_1353 rfl (lv_at hl 5 rfl) ?_
      refine lv_iconst (v := 0) hx hb dL_law_1354 (by decide) ?_
      refine va_lald hx hb hK.1 hP 0 1 rfl rfl (inb_vp (by decide)) dL_law_1355 ?_
      refine lv_lload hx hb dL_law_1356 (lv_at hl 0 rfl) ?_
      refine W.lcmp hx hb dL_law_1358 ?_
      refine lv_if_eq (tgt := 1364) hx hb dL_law_1359 (by decide) (fun c_3 => ?_) (fun c_3 => ?_)
      · refine lv_goto (tgt := 1435) hx hb dL_law_1364 (by decide) ?_
        refine lv_iinc (v := (x4 + (6 : Int32))) (lv' := [(4, .int (x4 + (6 : Int32))), (6, .long r.1), (5, .int (rL_only q)), (0, .ref b), (1, .ref (ad 0 0)), (2, .ref (am 0 0)), (3, .ref ao)]) hx hb dL_law_1435 hl (k := 6) rfl rfl (by decide) rfl (fun ls hl => ?_)
        refine lv_goto (tgt := 23) hx hb dL_law_1438 (by decide) ?_
        exact kk ad q.2 r.2 (oL_only q o) _ _ hR1 (by unfold Bud at hbud ⊢; omega) _ _ hP hD hS _ (lv_sub hl [3, 4, 5, 6, 0] rfl)
      · exact absurd ((lg_cmp_eq _ _).mpr (otonly heq c_2)) c_3
  · exact absurd hth c_1
theorem otwithout {q : Option Int64 × ST} {r : Int64 × ST} {o : Nat → Int64} (h : ∀ v, q.1 = some v → v = r.1) (h0 : rL_without q = 0) : (oL_without q o) (Int32.toNatClampNeg (0 : Int32)) = r.1 := by
  unfold rL_without at h0
  unfold oL_without
  cases hq : q.1 with
  | none => rw [hq] at h0; exact absurd h0 (by decide)
  | some v => rw [← h v hq]; simp [vp_updL]
set_option maxHeartbeats 4000000 in
set_option maxRecDepth 100000 in
theorem lawc_without {R : ST → ST → Prop} (pf : pf_without R) {p : Program} {l : Launch} {e : Env} {s : State} {m : MethodId} {below : List Frame} {meth : Method} {c : Code} {b L : Nat} {xs : Nat → Int32} {D : va_G} {cy : Nat → ClassId} (C : Lx p l s m meth c b L xs D cy) {am : Nat → Nat → Nat} {ao it cs ss : Nat} {x4 : Int32} (hin1 : vp_in (x4 + (1 : Int32)) L) (hin2 : vp_in (x4 + (2 : Int32)) L) (hin3 : vp_in (x4 + (3 : Int32)) L) (hin4 : vp_in (x4 + (4 : Int32)) L) (hin5 : vp_in (x4 + (5 : Int32)) L) (hit : it < 513) (kk : ∀ (ad : Nat → Nat → Nat) (σ τ : ST) (o : Nat → Int64) (cs ss : Nat), R σ τ → Bud (it + 1) cs ss σ → ∀ (H : Heap) (locs : List Loc), va_P D vwCl (lwW cy ad am ao σ τ o) H → va_D (fun q : Nat => s.heap.size ≤ q) (lwW cy ad am ao σ τ o) → va_S (fun q : Nat => s.heap.size ≤ q) s.heap H locs → ∀ ls : Array Slot, lv_has ls 8 [(0, .ref b), (1, .ref (ad 0 0)), (2, .ref (am 0 0)), (3, .ref ao), (4, .int (x4 + (6 : Int32)))] → W p l e room_1 s m #[Value.ref b] below meth c H locs cs ss (lw_Z below #[Value.ref b] s) (F0 m 23 ls [])) {ad : Nat → Nat → Nat} {σ τ : ST} {o : Nat → Int64} (hR : R σ τ) (hbud : Bud it cs ss σ) {H : Heap} {locs : List Loc} (hP : va_P D vwCl (lwW cy ad am ao σ τ o) H) (hD : va_D (fun q : Nat => s.heap.size ≤ q) (lwW cy ad am ao σ τ o)) (hS : va_S (fun q : Nat => s.heap.size ≤ q) s.heap H locs) {ls : Array Slot} (hl : lv_has ls 8 [(0, .ref b), (1, .ref (ad 0 0)), (2, .ref (am 0 0)), (3, .ref ao), (4, .int x4)]) : W p l e room_1 s m #[Value.ref b] below meth c H locs cs ss (lw_Z below #[Value.ref b] s) (F0 m 1367 ls []) := by
  obtain ⟨hx, hb, hr, hml, hown, hts, hX, hbl, hlocks, hK, hXX, htr⟩ := id C
  have hA : ∀ q : Nat, s.heap.size ≤ q → (fun q : Nat => s.heap.size ≤ q) q := fun _ h => h
  have hbA : ¬ (fun q : Nat => s.heap.size ≤ q) b := Nat.not_le.mpr hbl
  have hcs : cs + 0 ≤ room_1.cells := by show cs + 0 ≤ 601024; unfold Bud at hbud; omega
  have hss : ss + 0 ≤ room_1.slots := by show ss + 0 ≤ 7293034; unfold Bud at hbud; omega
  refine lv_aload_n hx hb dL_law_1367 rfl (lv_at hl 1 rfl) ?_
  refine lv_aload_n hx hb dL_law_1368 rfl (lv_at hl 0 rfl) ?_
  refine lv_iload hx hb dL_law_1369 (lv_at hl 4 rfl) ?_
  refine lv_iconst (v := 1) hx hb dL_law_1371 (by decide) ?_
  refine lv_iadd hx hb dL_law_1372 ?_
  refine va_sld hx hb hX hbl hbA hS hin1 dL_law_1373 ?_
  refine lv_aload_n hx hb dL_law_1374 rfl (lv_at hl 3 rfl) ?_
  obtain ⟨q, r, hq, hr9, hth, heq, hR1, hcn⟩ := pf σ τ (xs (Int32.toNatClampNeg (x4 + (1 : Int32)))) hR
  refine zc_im (yr_SW [.ref (ad 0 0), .int (xs (Int32.toNatClampNeg (x4 + (1 : Int32)))), .ref ao] [] ⟨hx, hb, hml, hown, hts⟩ (ctL_without l htr s.heap.size D cy ad (mw cy am τ) ao o σ (xs (Int32.toNatClampNeg (x4 + (1 : Int32)))) q hq _) (vx_cwSW 3 hts gL_law_L_without rfl rfl rfl (by decide +kernel) ⟨Nat.le_of_ble_eq_true rfl, Nat.le_of_ble_eq_true rfl⟩) hK hXX (fun _ h => h) (Nat.le_refl _) hP hD hS rfl hl.1 rfl (Nat.le_of_ble_eq_true rfl) dL_law_1375 ⟨by show cs + 1 ≤ 601024; unfold Bud at hbud; omega, by show ss + 6 ≤ 7293034; unfold Bud at hbud; omega⟩) hD hS hA (fun H locs hP hD hS => ?_)
  have hcs : cs + 1 + 0 ≤ room_1.cells := by show cs + 1 + 0 ≤ 601024; unfold Bud at hbud; omega
  have hss : ss + 6 + 0 ≤ room_1.slots := by show ss + 6 + 0 ≤ 7293034; unfold Bud at hbud; omega
  refine lv_istore (lv' := [(5, .int (rL_without q)), (0, .ref b), (1, .ref (ad 0 0)), (2, .ref (am 0 0)), (3, .ref ao), (4, .int x4)]) hx hb dL_law_1378 hl (by decide) rfl (fun ls hl => ?_)
  refine lv_aload_n hx hb dL_law_1380 rfl (lv_at hl 3 rfl) ?_
  refine lv_aload_n hx hb dL_law_1381 rfl (lv_at hl 1 rfl) ?_
  refine lv_iload hx hb dL_law_1382 (lv_at hl 5 rfl) ?_
  refine lv_iconst (v := 1) hx hb dL_law_1384 (by decide) ?_
  refine lv_iadd hx hb dL_law_1385 ?_
  refine va_sld hx hb hX hbl hbA hS hin1 dL_law_1386 ?_
  have hP : va_P D vwCl (([outc cy ao (oL_without q o)] ++ cw cy ad q.2) ++ (mw cy am τ ++ [])) _ := hP
  have hD : va_D (fun q : Nat => s.heap.size ≤ q) (([outc cy ao (oL_without q o)] ++ cw cy ad q.2) ++ (mw cy am τ ++ [])) := hD
  refine zf_l ([outc cy ao (oL_without q o)] ++ cw cy ad q.2) [] (zr_V [.int (xs (Int32.toNatClampNeg (x4 + (1 : Int32))))] [] ⟨hx, hb, hml, hown, hts⟩ (ctX3_without l D cy am τ (xs (Int32.toNatClampNeg (x4 + (1 : Int32)))) r hr9 _) (cwV 1 hts gL_law_X3_without rfl rfl rfl (by decide +kernel) ⟨Nat.le_of_ble_eq_true rfl, Nat.le_of_ble_eq_true rfl⟩) hK (z_partP hP) (z_partD hD) 0 mw_0 rfl rfl rfl hl.1 rfl (Nat.le_of_ble_eq_true rfl) dL_law_1387 ⟨hcs, hss⟩) hP hD hS hA (fun H locs hP hD hS => ?_)
  have hP : va_P D vwCl (lwW cy ad am ao q.2 r.2 (oL_without q o)) H := hP
  have hD : va_D (fun q : Nat => s.heap.size ≤ q) (lwW cy ad am ao q.2 r.2 (oL_without q o)) := hD
  refine lv_lstore (lv' := [(6, .long r.1), (5, .int (rL_without q)), (0, .ref b), (1, .ref (ad 0 0)), (2, .ref (am 0 0)), (3, .ref ao), (4, .int x4)]) hx hb dL_law_1390 hl (by decide) rfl (fun ls hl => ?_)
  refine lv_aload_n hx hb dL_law_1392 rfl (lv_at hl 4 rfl) ?_
  have hP : va_P D vwCl (([outc cy ao (oL_without q o)] ++ cw cy ad q.2) ++ (mw cy am r.2 ++ [])) _ := hP
  have hD : va_D (fun q : Nat => s.heap.size ≤ q) (([outc cy ao (oL_without q o)] ++ cw cy ad q.2) ++ (mw cy am r.2 ++ [])) := hD
  refine zf_i ([outc cy ao (oL_without q o)] ++ cw cy ad q.2) [] (zr_V [] [] ⟨hx, hb, hml, hown, hts⟩ (ctX3_thrown l D cy am r.2 (gI r.2 0 0 10) rfl _) (cwV 0 hts gL_law_X3_thrown rfl rfl rfl (by decide +kernel) ⟨Nat.le_of_ble_eq_true rfl, Nat.le_of_ble_eq_true rfl⟩) hK (z_partP hP) (z_partD hD) 0 mw_0 rfl rfl rfl hl.1 rfl (Nat.le_of_ble_eq_true rfl) dL_law_1393 ⟨hcs, hss⟩) hP hD hS hA (fun H locs hP hD hS => ?_)
  have hP : va_P D vwCl (lwW cy ad am ao q.2 r.2 (oL_without q o)) H := hP
  have hD : va_D (fun q : Nat => s.heap.size ≤ q) (lwW cy ad am ao q.2 r.2 (oL_without q o)) := hD
  refine lv_iload hx hb dL_law_1396 (lv_at hl 1 rfl) ?_
  refine lv_icmp_eq (tgt := 1403) hx hb dL_law_1398 (by decide) (fun c_1 => ?_) (fun c_1 => ?_)
  · refine lv_iload hx hb dL_law_1403 (lv_at hl 1 rfl) ?_
    refine lv_if_ne (tgt := 1419) hx hb dL_law_1405 (by decide) (fun c_2 => ?_) (fun c_2 => ?_)
    · refine lv_goto (tgt := 1435) hx hb dL_law_1419 (by decide) ?_
      refine lv_iinc (v := (x4 + (6 : Int32))) (lv' := [(4, .int (x4 + (6 : Int32))), (6, .long r.1), (5, .int (rL_without q)), (0, .ref b), (1, .ref (ad 0 0)), (2, .ref (am 0 0)), (3, .ref ao)]) hx hb dL_law_1435 hl (k := 6) rfl rfl (by decide) rfl (fun ls hl => ?_)
      refine lv_goto (tgt := 23) hx hb dL_law_1438 (by decide) ?_
      exact kk ad q.2 r.2 (oL_without q o) _ _ hR1 (by unfold Bud at hbud ⊢; omega) _ _ hP hD hS _ (lv_sub hl [3, 4, 5, 6, 0] rfl)
    · refine lv_aload_n hx hb dL_law_1408 rfl (lv_at hl 5 rfl) ?_
      refine lv_iconst (v := 0) hx hb dL_law_1409 (by decide) ?_
      refine va_lald hx hb hK.1 hP 0 1 rfl rfl (inb_vp (by decide)) dL_law_1410 ?_
      refine lv_lload hx hb dL_law_1411 (lv_at hl 0 rfl) ?_
      refine W.lcmp hx hb dL_law_1413 ?_
      refine lv_if_eq (tgt := 1419) hx hb dL_law_1414 (by decide) (fun c_3 => ?_) (fun c_3 => ?_)
      · refine lv_goto (tgt := 1435) hx hb dL_law_1419 (by decide) ?_
        refine lv_iinc (v := (x4 + (6 : Int32))) (lv' := [(4, .int (x4 + (6 : Int32))), (6, .long r.1), (5, .int (rL_without q)), (0, .ref b), (1, .ref (ad 0 0)), (2, .ref (am 0 0)), (3, .ref ao)]) hx hb dL_law_1435 hl (k := 6) rfl rfl (by decide) rfl (fun ls hl => ?_)
        refine lv_goto (tgt := 23) hx hb dL_law_1438 (by decide) ?_
        exact kk ad q.2 r.2 (oL_without q o) _ _ hR1 (by unfold Bud at hbud ⊢; omega) _ _ hP hD hS _ (lv_sub hl [3, 4, 5, 6, 0] rfl)
      · exact absurd ((lg_cmp_eq _ _).mpr (otwithout heq c_2)) c_3
  · exact absurd hth c_1
set_option maxHeartbeats 4000000 in
set_option maxRecDepth 100000 in
theorem lawc_fair {R : ST → ST → Prop} (pf : pf_fair R) {p : Program} {l : Launch} {e : Env} {s : State} {m : MethodId} {below : List Frame} {meth : Method} {c : Code} {b L : Nat} {xs : Nat → Int32} {D : va_G} {cy : Nat → ClassId} (C : Lx p l s m meth c b L xs D cy) {am : Nat → Nat → Nat} {ao it cs ss : Nat} {x4 : Int32} (hin1 : vp_in (x4 + (1 : Int32)) L) (hin2 : vp_in (x4 + (2 : Int32)) L) (hin3 : vp_in (x4 + (3 : Int32)) L) (hin4 : vp_in (x4 + (4 : Int32)) L) (hin5 : vp_in (x4 + (5 : Int32)) L) (hit : it < 513) (kk : ∀ (ad : Nat → Nat → Nat) (σ τ : ST) (o : Nat → Int64) (cs ss : Nat), R σ τ → Bud (it + 1) cs ss σ → ∀ (H : Heap) (locs : List Loc), va_P D vwCl (lwW cy ad am ao σ τ o) H → va_D (fun q : Nat => s.heap.size ≤ q) (lwW cy ad am ao σ τ o) → va_S (fun q : Nat => s.heap.size ≤ q) s.heap H locs → ∀ ls : Array Slot, lv_has ls 8 [(0, .ref b), (1, .ref (ad 0 0)), (2, .ref (am 0 0)), (3, .ref ao), (4, .int (x4 + (6 : Int32)))] → W p l e room_1 s m #[Value.ref b] below meth c H locs cs ss (lw_Z below #[Value.ref b] s) (F0 m 23 ls [])) {ad : Nat → Nat → Nat} {σ τ : ST} {o : Nat → Int64} (hR : R σ τ) (hbud : Bud it cs ss σ) {H : Heap} {locs : List Loc} (hP : va_P D vwCl (lwW cy ad am ao σ τ o) H) (hD : va_D (fun q : Nat => s.heap.size ≤ q) (lwW cy ad am ao σ τ o)) (hS : va_S (fun q : Nat => s.heap.size ≤ q) s.heap H locs) {ls : Array Slot} (hl : lv_has ls 8 [(0, .ref b), (1, .ref (ad 0 0)), (2, .ref (am 0 0)), (3, .ref ao), (4, .int x4)]) : W p l e room_1 s m #[Value.ref b] below meth c H locs cs ss (lw_Z below #[Value.ref b] s) (F0 m 1422 ls []) := by
  obtain ⟨hx, hb, hr, hml, hown, hts, hX, hbl, hlocks, hK, hXX, htr⟩ := id C
  have hA : ∀ q : Nat, s.heap.size ≤ q → (fun q : Nat => s.heap.size ≤ q) q := fun _ h => h
  have hbA : ¬ (fun q : Nat => s.heap.size ≤ q) b := Nat.not_le.mpr hbl
  have hcs : cs + 0 ≤ room_1.cells := by show cs + 0 ≤ 601024; unfold Bud at hbud; omega
  have hss : ss + 0 ≤ room_1.slots := by show ss + 0 ≤ 7293034; unfold Bud at hbud; omega
  refine lv_aload_n hx hb dL_law_1422 rfl (lv_at hl 1 rfl) ?_
  obtain ⟨q, r, hq, hr9, heq, hR1, hcn⟩ := pf σ τ  hR
  have hP : va_P D vwCl ([outc cy ao o] ++ (cw cy ad σ ++ (mw cy am τ))) _ := hP
  have hD : va_D (fun q : Nat => s.heap.size ≤ q) ([outc cy ao o] ++ (cw cy ad σ ++ (mw cy am τ))) := hD
  refine zf_i [outc cy ao o] (mw cy am τ) (zr_V [] [] ⟨hx, hb, hml, hown, hts⟩ (ctX2_fair l D cy ad σ  q hq _) (cwV 0 hts gL_law_X2_fair rfl rfl rfl (by decide +kernel) ⟨Nat.le_of_ble_eq_true rfl, Nat.le_of_ble_eq_true rfl⟩) hK (z_partP hP) (z_partD hD) 0 cw_0 rfl rfl rfl hl.1 rfl (Nat.le_of_ble_eq_true rfl) dL_law_1423 ⟨hcs, hss⟩) hP hD hS hA (fun H locs hP hD hS => ?_)
  refine lv_aload_n hx hb dL_law_1426 rfl (lv_at hl 2 rfl) ?_
  have hP : va_P D vwCl (([outc cy ao o] ++ cw cy ad q.2) ++ (mw cy am τ ++ [])) _ := hP
  have hD : va_D (fun q : Nat => s.heap.size ≤ q) (([outc cy ao o] ++ cw cy ad q.2) ++ (mw cy am τ ++ [])) := hD
  refine zf_i ([outc cy ao o] ++ cw cy ad q.2) [] (zr_V [] [.int q.1] ⟨hx, hb, hml, hown, hts⟩ (ctX3_fair l D cy am τ  r hr9 _) (cwV 0 hts gL_law_X3_fair rfl rfl rfl (by decide +kernel) ⟨Nat.le_of_ble_eq_true rfl, Nat.le_of_ble_eq_true rfl⟩) hK (z_partP hP) (z_partD hD) 0 mw_0 rfl rfl rfl hl.1 rfl (Nat.le_of_ble_eq_true rfl) dL_law_1427 ⟨hcs, hss⟩) hP hD hS hA (fun H locs hP hD hS => ?_)
  have hP : va_P D vwCl (lwW cy ad am ao q.2 r.2 o) H := hP
  have hD : va_D (fun q : Nat => s.heap.size ≤ q) (lwW cy ad am ao q.2 r.2 o) := hD
  refine lv_icmp_eq (tgt := 1435) hx hb dL_law_1430 (by decide) (fun c_1 => ?_) (fun c_1 => ?_)
  · refine lv_iinc (v := (x4 + (6 : Int32))) (lv' := [(4, .int (x4 + (6 : Int32))), (0, .ref b), (1, .ref (ad 0 0)), (2, .ref (am 0 0)), (3, .ref ao)]) hx hb dL_law_1435 hl (k := 4) rfl rfl (by decide) rfl (fun ls hl => ?_)
    refine lv_goto (tgt := 23) hx hb dL_law_1438 (by decide) ?_
    exact kk ad q.2 r.2 o _ _ hR1 (by unfold Bud at hbud ⊢; omega) _ _ hP hD hS _ (lv_sub hl [1, 2, 3, 4, 0] rfl)
  · exact absurd heq c_1

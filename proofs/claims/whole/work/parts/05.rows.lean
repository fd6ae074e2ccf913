/-! ROWS OF MY OWN -/
theorem eP {D : va_G} {H : Heap} {w w' : va_W} (h : w = w') (hP : va_P D vwCl w H) : va_P D vwCl w' H := h ▸ hP
theorem eD {A : Nat → Prop} {w w' : va_W} (h : w = w') (hD : va_D A w) : va_D A w' := h ▸ hD
theorem wv_t {ad : Nat → Nat → Nat} {σ : ST} {k : Nat} (h : gW σ k = true) : wv ad σ k = .ref (ad 18 k) := if_pos h
theorem wv_f {ad : Nat → Nat → Nat} {σ : ST} {k : Nat} (h : ¬ gW σ k = true) : wv ad σ k = .null := if_neg h
theorem inb_lt {i : Int32} {n : Nat} (h : inb i n = true) : i.toNatClampNeg < n := Nat.not_le.mp fun q => inb_vp h (Or.inr q)
def nzi (x : Int32) : Bool := !decide (x = 0)
def nzl (x : Int64) : Bool := !decide (x = 0)
theorem nzi_n {x : Int32} (h : nzi x = true) : ¬ x = 0 := fun q => by simp [nzi, q] at h
theorem nzl_n {x : Int64} (h : nzl x = true) : ¬ x = 0 := fun q => by simp [nzl, q] at h
theorem sw_out {x : Int32} {lo hi : Int} (h : ∀ i : Int, lo ≤ i → i ≤ hi → ¬ x.toInt = i) : x.toInt < lo ∨ hi < x.toInt := by
  by_cases h1 : x.toInt < lo
  · exact Or.inl h1
  · by_cases h2 : hi < x.toInt
    · exact Or.inr h2
    · exact absurd rfl (h x.toInt (Int.not_lt.mp h1) (Int.not_lt.mp h2))
section ZR
variable {p : Program} {l : Launch} {e : Env} {R : Room} {s : State} {m : MethodId} {args : Array Value} {below : List Frame} {meth : Method} {c : Code} {H : Heap} {locs : List Loc} {cells slots : Nat} {Q : State → Prop}
variable {cc : ByteArray} {pc : Nat} {ls : Array Slot} {rest : List Value} {D : va_G} {cl : List vw_C} {A : Nat → Prop} {a : Nat} {tys : List (ClassId × FieldType)} {ws : va_W} {H0 : Heap}
theorem z_ald (hexec : p.tables.exec = Jvm.exec) (hb : c.code = cc) (hK : va_K D cl tys s) (hP : va_P D cl ws H) (q0 t0 : Nat) {cA : ClassId} {ty : FieldType} {n : Nat} {f : Nat → Nat} (ha : ws[q0]? = some (a, .inl (cA, n, xr (fun i => some (f i))))) (ht : tys[t0]? = some (cA, ty)) (hr : ty.isReference = true) {i : Int32} (hin : vp_in i n) (hdg : decode cc pc = .ok (.aaload, 1))
    (kk : W p l e R s m args below meth c H locs cells slots Q (F0 m (pc + 1) ls (.ref (f i.toNatClampNeg) :: rest))) : W p l e R s m args below meth c H locs cells slots Q (F0 m pc ls (.int i :: .ref a :: rest)) := by
  have hlt : i.toNatClampNeg < n := Nat.not_le.mp fun q => hin (Or.inr q)
  exact W.aald (v := .ref (f i.toNatClampNeg)) (ty := ty) hexec hb (hP q0 _ ha) ((hK.2 t0 _ ht).1 n (fun j => va_rf (some (f j)))) hr (fun q => by cases q) (by show ¬ (i < 0 ∨ (arrV _ _ _).slots.size ≤ _); rw [arrV_size]; exact hin) (by show (arrV _ _ _).slots[_]? = _; rw [arrV_read _ _ hlt]; rfl) rfl rfl hdg kk
end ZR
/-- a state gets a name -/
def sv {α : Type} (x : ST) (f : ST → Option α) : Option α := f x
theorem sv_e {α : Type} (x : ST) (f : ST → Option α) : sv x f = f x := rfl
theorem sv_some {α : Type} {x : ST} {f : ST → Option α} {y : α} (h : sv x f = some y) : ∃ z, z = x ∧ f z = some y := ⟨x, rfl, h⟩

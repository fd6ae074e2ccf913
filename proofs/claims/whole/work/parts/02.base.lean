/-! THE STATE, THE WORLDS, THE ROWS OF CALLS (my own) -/
/-- a state: ints by tag, place, place; longs likewise; which bond stands at a place; which bond has its row of worths -/
abbrev ST : Type := (Nat → Nat → Nat → Int32) × (Nat → Nat → Nat → Int64) × (Nat → Nat) × (Nat → Bool)
def gI (σ : ST) (t i j : Nat) : Int32 := σ.1 t i j
def gJ (σ : ST) (t i j : Nat) : Int64 := σ.2.1 t i j
def gP (σ : ST) (i : Nat) : Nat := σ.2.2.1 i
def gW (σ : ST) (k : Nat) : Bool := σ.2.2.2 k
def up3 {α : Type} (f : Nat → Nat → Nat → α) (t i j : Nat) (v : α) : Nat → Nat → Nat → α := fun a b c => if a = t ∧ b = i ∧ c = j then v else f a b c
def sI (σ : ST) (t i j : Nat) (v : Int32) : ST := (up3 σ.1 t i j v, σ.2.1, σ.2.2.1, σ.2.2.2)
def sJ (σ : ST) (t i j : Nat) (v : Int64) : ST := (σ.1, up3 σ.2.1 t i j v, σ.2.2.1, σ.2.2.2)
def sP (σ : ST) (i k : Nat) : ST := (σ.1, σ.2.1, (fun a => if a = i then k else σ.2.2.1 a), σ.2.2.2)
def sW (σ : ST) (k : Nat) (b : Bool) : ST := (σ.1, σ.2.1, σ.2.2.1, (fun a => if a = k then b else σ.2.2.2 a))
/-- a whole row of ints is another one -/
def sR (σ : ST) (t i : Nat) (r : Nat → Int32) : ST := ((fun a b c => if a = t ∧ b = i then r c else σ.1 a b c), σ.2.1, σ.2.2.1, σ.2.2.2)
theorem gI_sI (σ : ST) (t i j : Nat) (v : Int32) (a b c : Nat) : gI (sI σ t i j v) a b c = if a = t ∧ b = i ∧ c = j then v else gI σ a b c := rfl
theorem gI_sJ (σ : ST) (t i j : Nat) (v : Int64) : gI (sJ σ t i j v) = gI σ := rfl
theorem gI_sP (σ : ST) (i k : Nat) : gI (sP σ i k) = gI σ := rfl
theorem gI_sW (σ : ST) (k : Nat) (b : Bool) : gI (sW σ k b) = gI σ := rfl
theorem gI_sR (σ : ST) (t i : Nat) (r : Nat → Int32) (a b c : Nat) : gI (sR σ t i r) a b c = if a = t ∧ b = i then r c else gI σ a b c := rfl
theorem gJ_sJ (σ : ST) (t i j : Nat) (v : Int64) (a b c : Nat) : gJ (sJ σ t i j v) a b c = if a = t ∧ b = i ∧ c = j then v else gJ σ a b c := rfl
theorem gJ_sI (σ : ST) (t i j : Nat) (v : Int32) : gJ (sI σ t i j v) = gJ σ := rfl
theorem gJ_sR (σ : ST) (t i : Nat) (r : Nat → Int32) : gJ (sR σ t i r) = gJ σ := rfl
theorem gJ_sP (σ : ST) (i k : Nat) : gJ (sP σ i k) = gJ σ := rfl
theorem gJ_sW (σ : ST) (k : Nat) (b : Bool) : gJ (sW σ k b) = gJ σ := rfl
theorem gP_sI (σ : ST) (t i j : Nat) (v : Int32) : gP (sI σ t i j v) = gP σ := rfl
theorem gP_sR (σ : ST) (t i : Nat) (r : Nat → Int32) : gP (sR σ t i r) = gP σ := rfl
theorem gP_sJ (σ : ST) (t i j : Nat) (v : Int64) : gP (sJ σ t i j v) = gP σ := rfl
theorem gP_sP (σ : ST) (i k a : Nat) : gP (sP σ i k) a = if a = i then k else gP σ a := rfl
theorem gP_sW (σ : ST) (k : Nat) (b : Bool) : gP (sW σ k b) = gP σ := rfl
theorem gW_sI (σ : ST) (t i j : Nat) (v : Int32) : gW (sI σ t i j v) = gW σ := rfl
theorem gW_sR (σ : ST) (t i : Nat) (r : Nat → Int32) : gW (sR σ t i r) = gW σ := rfl
theorem gW_sJ (σ : ST) (t i j : Nat) (v : Int64) : gW (sJ σ t i j v) = gW σ := rfl
theorem gW_sP (σ : ST) (i k : Nat) : gW (sP σ i k) = gW σ := rfl
theorem gW_sW (σ : ST) (k : Nat) (b : Bool) (a : Nat) : gW (sW σ k b) a = if a = k then b else gW σ a := rfl
theorem gI_nt {σ : ST} {t i j : Nat} {v : Int32} {a : Nat} (h : a ≠ t) : gI (sI σ t i j v) a = gI σ a := by
  funext b c
  rw [gI_sI, if_neg (fun q => h q.1)]
theorem gI_ni {σ : ST} {t i j : Nat} {v : Int32} {b : Nat} (h : b ≠ i) : gI (sI σ t i j v) t b = gI σ t b := by
  funext c
  rw [gI_sI, if_neg (fun q => h q.2.1)]
theorem gI_at {σ : ST} {t i j : Nat} {v : Int32} : gI (sI σ t i j v) t i = upd (gI σ t i) j v := by
  funext c
  rw [gI_sI]
  by_cases h : c = j
  · rw [if_pos ⟨rfl, rfl, h⟩]; simp [upd, h]
  · rw [if_neg (fun q => h q.2.2)]; simp [upd, h]
theorem gI_Rnt {σ : ST} {t i : Nat} {r : Nat → Int32} {a : Nat} (h : a ≠ t) : gI (sR σ t i r) a = gI σ a := by
  funext b c
  rw [gI_sR, if_neg (fun q => h q.1)]
theorem gI_Rni {σ : ST} {t i : Nat} {r : Nat → Int32} {b : Nat} (h : b ≠ i) : gI (sR σ t i r) t b = gI σ t b := by
  funext c
  rw [gI_sR, if_neg (fun q => h q.2)]
theorem gI_Rat {σ : ST} {t i : Nat} {r : Nat → Int32} : gI (sR σ t i r) t i = r := by
  funext c
  rw [gI_sR, if_pos ⟨rfl, rfl⟩]
theorem gJ_nt {σ : ST} {t i j : Nat} {v : Int64} {a : Nat} (h : a ≠ t) : gJ (sJ σ t i j v) a = gJ σ a := by
  funext b c
  rw [gJ_sJ, if_neg (fun q => h q.1)]
theorem gJ_ni {σ : ST} {t i j : Nat} {v : Int64} {b : Nat} (h : b ≠ i) : gJ (sJ σ t i j v) t b = gJ σ t b := by
  funext c
  rw [gJ_sJ, if_neg (fun q => h q.2.1)]
theorem gJ_at {σ : ST} {t i j : Nat} {v : Int64} : gJ (sJ σ t i j v) t i = vp_updL (gJ σ t i) j v := by
  funext c
  rw [gJ_sJ]
  by_cases h : c = j
  · rw [if_pos ⟨rfl, rfl, h⟩]; simp [vp_updL, h]
  · rw [if_neg (fun q => h q.2.2)]; simp [vp_updL, h]
/-! mirrors: guards, binds, branches -/
def gd {α : Type} (b : Bool) (x : Option α) : Option α := if b then x else none
theorem gd_some {α : Type} {b : Bool} {x : Option α} {y : α} (h : gd b x = some y) : b = true ∧ x = some y := by
  cases b with
  | true => exact ⟨rfl, h⟩
  | false => cases h
theorem gd_t {α : Type} {b : Bool} {x : Option α} (h : b = true) : gd b x = x := by rw [h]; rfl
def inb (i : Int32) (n : Nat) : Bool := !(decide (i < 0) || decide (n ≤ i.toNatClampNeg))
theorem inb_vp {i : Int32} {n : Nat} (h : inb i n = true) : vp_in i n := by
  unfold inb at h
  intro q
  rcases q with q | q <;> simp [q] at h
theorem inb_of {i : Int32} {n : Nat} (h : vp_in i n) : inb i n = true := by
  have h1 : ¬ i < 0 := fun q => h (Or.inl q)
  have h2 : ¬ n ≤ i.toNatClampNeg := fun q => h (Or.inr q)
  simp [inb, h1, h2]
theorem lt_of_dec {a b : Nat} (h : decide (a < b) = true) : a < b := of_decide_eq_true h
theorem ob {α β : Type} {o : Option α} {f : α → Option β} {y : β} (h : o.bind f = some y) : ∃ a, o = some a ∧ f a = some y := by
  cases o with
  | none => cases h
  | some a => exact ⟨a, rfl, h⟩
theorem ifp {c : Prop} [Decidable c] {α : Type} {a b z : α} (hc : c) (h : (if c then a else b) = z) : a = z := by rw [if_pos hc] at h; exact h
theorem ifn {c : Prop} [Decidable c] {α : Type} {a b z : α} (hc : ¬ c) (h : (if c then a else b) = z) : b = z := by rw [if_neg hc] at h; exact h
/-- a loop by rounds -/
def fx {α β : Type} (F : (α → Option β) → α → Option β) : Nat → α → Option β
  | 0, _ => none
  | n + 1, x => F (fx F n) x
theorem fx_s {α β : Type} (F : (α → Option β) → α → Option β) (n : Nat) (x : α) : fx F (n + 1) x = F (fx F n) x := rfl
def FU : Nat := 5000
/-- a boolean answer is 0 or 1 -/
def zb (v : Int32) : Bool := decide (v = 0) || decide (v = 1)
theorem zb_n {v : Int32} (h : zb v = true) : narrow .boolean (.int v) = .int v := by
  unfold zb at h
  rcases (Bool.or_eq_true _ _).mp h with h | h <;> rw [of_decide_eq_true h] <;> rfl
/-! lists -/
theorem zz_app {α : Type} {a b : List α} {n k : Nat} (h : a.length = n) : (a ++ b)[n + k]? = b[k]? := by
  subst h
  rw [List.getElem?_append_right (Nat.le_add_right _ _), Nat.add_sub_cancel_left]
theorem zz_map {α : Type} {f : Nat → α} {n k : Nat} {b : List α} (h : k < n) : ((List.range n).map f ++ b)[k]? = some (f k) := by
  rw [List.getElem?_append_left (by rw [List.length_map, List.length_range]; exact h), List.getElem?_map, List.getElem?_range h]
  rfl
theorem zz_mapS {α : Type} {f : Nat → α} {n k : Nat} {b : List α} : ((List.range n).map f ++ b)[n + k]? = b[k]? := zz_app (by rw [List.length_map, List.length_range])
theorem zz_setA {α : Type} {a b : List α} {n k : Nat} {x : α} (h : a.length = n) : (a ++ b).set (n + k) x = a ++ b.set k x := by
  subst h
  rw [List.set_append_right _ _ (Nat.le_add_right _ _), Nat.add_sub_cancel_left]
theorem zz_setS {α : Type} {f : Nat → α} {b : List α} {n k : Nat} {x : α} : ((List.range n).map f ++ b).set (n + k) x = (List.range n).map f ++ b.set k x := zz_setA (by rw [List.length_map, List.length_range])
theorem zz_setM {α : Type} {f g : Nat → α} {n k : Nat} {b : List α} {x : α} (hk : k < n) (hx : g k = x) (ho : ∀ j, j ≠ k → g j = f j) : ((List.range n).map f ++ b).set k x = (List.range n).map g ++ b := by
  have hl : k < ((List.range n).map f).length := by rw [List.length_map, List.length_range]; exact hk
  rw [List.set_append_left _ _ hl]
  congr 1
  apply List.ext_getElem?
  intro j
  by_cases hj : j = k
  · subst hj
    rw [List.getElem?_set_self hl, List.getElem?_map, List.getElem?_range hk, ← hx]
    rfl
  · rw [List.getElem?_set_ne (Ne.symm hj), List.getElem?_map, List.getElem?_map]
    cases h : (List.range n)[j]? with
    | none => rfl
    | some a =>
      have hjn : j < n := by
        have := (List.getElem?_eq_some_iff.mp h).1
        rw [List.length_range] at this
        exact this
      rw [List.getElem?_range hjn] at h
      cases h
      show some (f j) = some (g j)
      rw [ho j hj]

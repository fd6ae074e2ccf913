/-! BITS -/
def gb (x : Int32) (i : Nat) : Bool := x.toBitVec.getLsbD i
theorem gb_0 (i : Nat) : gb 0 i = false := by
  unfold gb; exact BitVec.getLsbD_zero
theorem gb_ge {x : Int32} {i : Nat} (h : 32 ≤ i) : gb x i = false := BitVec.getLsbD_of_ge _ _ h
theorem gb_lit {y : Int32} {k : Nat} (hk : k < 32) (h : ∀ i : Fin 32, gb y i.1 = decide (i.1 = k)) (i : Nat) : gb y i = decide (i = k) := by
  by_cases c : i < 32
  · exact h ⟨i, c⟩
  · rw [gb_ge (by omega)]
    have : ¬ i = k := by omega
    simp [this]
theorem gb_1 {k : Nat} (hk : k < 8) (i : Nat) : gb ((1 : Int32) <<< (zi k &&& 31)) i = decide (i = k) := by
  refine gb_lit (by omega) ?_ i
  have : k = 0 ∨ k = 1 ∨ k = 2 ∨ k = 3 ∨ k = 4 ∨ k = 5 ∨ k = 6 ∨ k = 7 := by omega
  rcases this with h | h | h | h | h | h | h | h <;> subst h <;> decide +kernel
theorem gb_or (x y : Int32) (i : Nat) : gb (x ||| y) i = (gb x i || gb y i) := by
  unfold gb; rw [Int32.toBitVec_or, BitVec.getLsbD_or]
theorem gb_and (x y : Int32) (i : Nat) : gb (x &&& y) i = (gb x i && gb y i) := by
  unfold gb; rw [Int32.toBitVec_and, BitVec.getLsbD_and]
theorem gb_xor (x y : Int32) (i : Nat) : gb (x ^^^ y) i = (gb x i ^^ gb y i) := by
  unfold gb; rw [Int32.toBitVec_xor, BitVec.getLsbD_xor]
theorem gb_m1 {i : Nat} (h : i < 32) : gb (-1) i = true := by
  have : ∀ j : Fin 32, gb (-1) j.1 = true := by decide +kernel
  exact this ⟨i, h⟩
theorem gb_or1 (x : Int32) {k : Nat} (hk : k < 8) (i : Nat) : gb (x ||| ((1 : Int32) <<< (zi k &&& 31))) i = (gb x i || decide (i = k)) := by
  rw [gb_or, gb_1 hk]
theorem gb_an1 (x : Int32) {k : Nat} (hk : k < 8) (i : Nat) : gb (x &&& (((1 : Int32) <<< (zi k &&& 31)) ^^^ (-1 : Int32))) i = (gb x i && !decide (i = k)) := by
  rw [gb_and, gb_xor, gb_1 hk]
  by_cases h : i < 32
  · rw [gb_m1 h]; cases decide (i = k) <;> simp
  · rw [gb_ge (x := x) (by omega)]; simp
theorem gb_z (x : Int32) : x = 0 ↔ ∀ i, gb x i = false := by
  constructor
  · intro h i; rw [h, gb_0]
  · intro h
    apply Int32.toBitVec_inj.mp
    apply BitVec.eq_of_getLsbD_eq
    intro i _
    have := h i
    unfold gb at this
    rw [this]; exact BitVec.getLsbD_zero.symm
theorem bv_and1 (y : BitVec 32) : (y &&& 1#32 = 1#32) ↔ y.getLsbD 0 = true := by
  constructor
  · intro h
    have := congrArg (fun z : BitVec 32 => z.getLsbD 0) h
    simpa using this
  · intro h
    apply BitVec.eq_of_getLsbD_eq
    intro i hi
    rw [BitVec.getLsbD_and, BitVec.getLsbD_one]
    by_cases c : i = 0
    · subst c; simp [h]
    · simp [c]
theorem bv_and0 (y : BitVec 32) : (y &&& 1#32 = 0#32) ↔ y.getLsbD 0 = false := by
  constructor
  · intro h
    have := congrArg (fun z : BitVec 32 => z.getLsbD 0) h
    simpa using this
  · intro h
    apply BitVec.eq_of_getLsbD_eq
    intro i hi
    rw [BitVec.getLsbD_and, BitVec.getLsbD_one]
    by_cases c : i = 0
    · subst c; rw [h, Bool.false_and]; exact BitVec.getLsbD_zero.symm
    · simp [c]
theorem sh_0 (x : Int32) {k : Nat} (hk : k < 32) : (x >>> (zi k &&& 31)).toBitVec.getLsbD 0 = gb x k := by
  have hz : ∀ j : Fin 32, ((zi (j.1 : Int) &&& 31).toBitVec.smod 32) = BitVec.ofNat 32 j.1 := by decide +kernel
  rw [Int32.toBitVec_shiftRight]
  have e := hz ⟨k, hk⟩
  simp only at e
  rw [e]
  unfold gb
  rw [BitVec.sshiftRight_eq', BitVec.getLsbD_sshiftRight]
  have : (BitVec.ofNat 32 k).toNat = k := by
    rw [BitVec.toNat_ofNat]; exact Nat.mod_eq_of_lt (by omega)
  rw [this]
  simp [hk]
theorem an_1 (x : Int32) : (x &&& (1 : Int32) = (1 : Int32)) ↔ x.toBitVec.getLsbD 0 = true := by
  rw [← bv_and1, ← Int32.toBitVec_inj, Int32.toBitVec_and]; rfl
theorem an_0 (x : Int32) : (x &&& (1 : Int32) = (0 : Int32)) ↔ x.toBitVec.getLsbD 0 = false := by
  rw [← bv_and0, ← Int32.toBitVec_inj, Int32.toBitVec_and]; rfl
theorem bit_1 (x : Int32) {k : Nat} (hk : k < 32) : ((x >>> (zi k &&& 31)) &&& (1 : Int32) = (1 : Int32)) ↔ gb x k = true := by
  rw [an_1, sh_0 x hk]
theorem bit_0 (x : Int32) {k : Nat} (hk : k < 32) : ((x >>> (zi k &&& 31)) &&& (1 : Int32) = (0 : Int32)) ↔ gb x k = false := by
  rw [an_0, sh_0 x hk]
theorem bit_v (x : Int32) {k : Nat} (hk : k < 32) : (x >>> (zi k &&& 31)) &&& (1 : Int32) = zi (if gb x k then 1 else 0) := by
  cases h : gb x k with
  | true => exact (bit_1 x hk).mpr h
  | false => exact (bit_0 x hk).mpr h
theorem c_isIn (x : Int32) {k : Nat} (hk : k < 8) : mX2_isIn x (zi k) = some (if gb x k then 1 else 0) := by
  unfold mX2_isIn
  cases h : gb x k with
  | true => rw [if_pos ((bit_1 x (by omega)).mpr h)]; rfl
  | false => rw [if_neg (fun q => by rw [(bit_1 x (by omega)).mp q] at h; cases h)]; rfl

/-! NUMBERS: machine ints as the images of whole numbers -/
def zi (z : Int) : Int32 := Int32.ofInt z
def zl (z : Int) : Int64 := Int64.ofInt z
theorem zi_t {a : Int} (h1 : -2147483648 ≤ a) (h2 : a < 2147483648) : (zi a).toInt = a := by
  unfold zi; rw [Int32.toInt_ofInt]; show Int.bmod a 4294967296 = a; simp only [Int.bmod_def]; omega
theorem zl_t {a : Int} (h1 : -9223372036854775808 ≤ a) (h2 : a < 9223372036854775808) : (zl a).toInt = a := by
  unfold zl; rw [Int64.toInt_ofInt]; show Int.bmod a 18446744073709551616 = a; simp only [Int.bmod_def]; omega
theorem zi_of (x : Int32) : zi x.toInt = x := Int32.ofInt_toInt x
theorem zl_of (x : Int64) : zl x.toInt = x := Int64.ofInt_toInt x
theorem zi_rg (x : Int32) : -2147483648 ≤ x.toInt ∧ x.toInt < 2147483648 := ⟨Int32.le_toInt x, Int32.toInt_lt x⟩
theorem zl_rg (x : Int64) : -9223372036854775808 ≤ x.toInt ∧ x.toInt < 9223372036854775808 := ⟨Int64.le_toInt x, Int64.toInt_lt x⟩
theorem zi_add (a b : Int) : zi a + zi b = zi (a + b) := (Int32.ofInt_add a b).symm
theorem zi_sub (a b : Int) : zi a - zi b = zi (a - b) := (Int32.ofInt_sub a b).symm
theorem zi_mul (a b : Int) : zi a * zi b = zi (a * b) := (Int32.ofInt_mul a b).symm
theorem zi_neg (a : Int) : -zi a = zi (-a) := (Int32.ofInt_neg a).symm
theorem zl_add (a b : Int) : zl a + zl b = zl (a + b) := (Int64.ofInt_add a b).symm
theorem zl_sub (a b : Int) : zl a - zl b = zl (a - b) := (Int64.ofInt_sub a b).symm
theorem zl_mul (a b : Int) : zl a * zl b = zl (a * b) := (Int64.ofInt_mul a b).symm
theorem zl_neg (a : Int) : -zl a = zl (-a) := (Int64.ofInt_neg a).symm
def r32 (a : Int) : Prop := -2147483648 ≤ a ∧ a < 2147483648
def r64 (a : Int) : Prop := -9223372036854775808 ≤ a ∧ a < 9223372036854775808
theorem zi_lt {a b : Int} (ha : r32 a) (hb : r32 b) : (zi a < zi b) ↔ a < b := by
  rw [Int32.lt_iff_toInt_lt, zi_t ha.1 ha.2, zi_t hb.1 hb.2]
theorem zi_le {a b : Int} (ha : r32 a) (hb : r32 b) : (zi a ≤ zi b) ↔ a ≤ b := by
  rw [Int32.le_iff_toInt_le, zi_t ha.1 ha.2, zi_t hb.1 hb.2]
theorem zi_eq {a b : Int} (ha : r32 a) (hb : r32 b) : (zi a = zi b) ↔ a = b :=
  ⟨fun h => by rw [← zi_t ha.1 ha.2, h, zi_t hb.1 hb.2], fun h => by rw [h]⟩
theorem zl_lt {a b : Int} (ha : r64 a) (hb : r64 b) : (zl a < zl b) ↔ a < b := by
  rw [Int64.lt_iff_toInt_lt, zl_t ha.1 ha.2, zl_t hb.1 hb.2]
theorem zl_le {a b : Int} (ha : r64 a) (hb : r64 b) : (zl a ≤ zl b) ↔ a ≤ b := by
  rw [Int64.le_iff_toInt_le, zl_t ha.1 ha.2, zl_t hb.1 hb.2]
theorem zl_eq {a b : Int} (ha : r64 a) (hb : r64 b) : (zl a = zl b) ↔ a = b :=
  ⟨fun h => by rw [← zl_t ha.1 ha.2, h, zl_t hb.1 hb.2], fun h => by rw [h]⟩
theorem zi_div {a b : Int} (ha : r32 a) (hb : r32 b) (h : 0 < b) : zi a / zi b = zi (a.tdiv b) := by
  rw [← zi_of (zi a / zi b), Int32.toInt_div, zi_t ha.1 ha.2, zi_t hb.1 hb.2]
  apply Int32.toInt_inj.mp
  unfold zi
  rw [Int32.toInt_ofInt, Int32.toInt_ofInt]
  show Int.bmod (Int.bmod (a.tdiv b) 4294967296) 4294967296 = _
  rw [Int.bmod_bmod]
theorem zl_div {a b : Int} (ha : r64 a) (hb : r64 b) (h : 0 < b) : zl a / zl b = zl (a.tdiv b) := by
  rw [← zl_of (zl a / zl b), Int64.toInt_div, zl_t ha.1 ha.2, zl_t hb.1 hb.2]
  apply Int64.toInt_inj.mp
  unfold zl
  rw [Int64.toInt_ofInt, Int64.toInt_ofInt]
  show Int.bmod (Int.bmod (a.tdiv b) 18446744073709551616) 18446744073709551616 = _
  rw [Int.bmod_bmod]
theorem zi_dv {a b : Int} (ha : r32 a) (hb : r32 b) (h0 : 0 ≤ a) (h : 0 < b) : zi a / zi b = zi (a / b) := by
  rw [zi_div ha hb h, Int.tdiv_eq_ediv_of_nonneg h0]
theorem zl_dv {a b : Int} (ha : r64 a) (hb : r64 b) (h0 : 0 ≤ a) (h : 0 < b) : zl a / zl b = zl (a / b) := by
  rw [zl_div ha hb h, Int.tdiv_eq_ediv_of_nonneg h0]
theorem zi_L {a : Int} (ha : r32 a) : (zi a).toInt64 = zl a := by
  rw [← zl_of (zi a).toInt64, Int32.toInt_toInt64, zi_t ha.1 ha.2]
theorem zl_I (a : Int) : (zl a).toInt32 = zi a := by
  unfold zl zi; exact Int64.toInt32_ofInt ..
theorem zi_N {a : Int} (ha : r32 a) : (zi a).toNatClampNeg = a.toNat := by
  rw [← Int32.toNat_toInt, zi_t ha.1 ha.2]
theorem inb_z {a : Int} {n : Nat} (h0 : 0 ≤ a) (h1 : a < n) (h2 : a < 2147483648) : inb (zi a) n = true := by
  have ha : r32 a := ⟨by omega, h2⟩
  have e : (zi a).toNatClampNeg = a.toNat := zi_N ha
  have e2 : ¬ (zi a < 0) := by
    show ¬ (zi a < zi 0)
    rw [zi_lt ha ⟨by omega, by omega⟩]; omega
  unfold inb
  rw [e]
  simp [e2]
  omega
theorem i64_irr (x : Int64) : ¬ x < x := by rw [Int64.lt_iff_toInt_lt]; omega
theorem i64_asy {x y : Int64} (h : x > y) : ¬ x < y := by
  have h : y < x := h
  rw [Int64.lt_iff_toInt_lt] at *; omega
theorem i64_tri {x y : Int64} (h : ¬ x > y) (h2 : ¬ x = y) : x < y := by
  have h : ¬ y < x := h
  have h3 : x.toInt ≠ y.toInt := fun e => h2 (Int64.toInt_inj.mp e)
  rw [Int64.lt_iff_toInt_lt] at *; omega
theorem lc_lt {x y : Int64} : (lg_cmp x y < 0) ↔ x < y := by
  unfold lg_cmp
  by_cases h : x > y
  · rw [if_pos h]; exact ⟨fun q => absurd q (by decide), fun q => absurd q (i64_asy h)⟩
  · rw [if_neg h]
    by_cases h2 : x = y
    · rw [if_pos h2]; exact ⟨fun q => absurd q (by decide), fun q => absurd (h2 ▸ q) (i64_irr _)⟩
    · rw [if_neg h2]; exact ⟨fun _ => i64_tri h h2, fun _ => by decide⟩
theorem lc_gt {x y : Int64} : (0 < lg_cmp x y) ↔ y < x := by
  unfold lg_cmp
  by_cases h : x > y
  · rw [if_pos h]; exact ⟨fun _ => h, fun _ => by decide⟩
  · rw [if_neg h]
    by_cases h2 : x = y
    · rw [if_pos h2]; exact ⟨fun q => absurd q (by decide), fun q => absurd q h⟩
    · rw [if_neg h2]; exact ⟨fun q => absurd q (by decide), fun q => absurd q h⟩
theorem i32_nlt {x y : Int32} : ¬ x < y ↔ y ≤ x := by
  rw [Int32.lt_iff_toInt_lt, Int32.le_iff_toInt_le]; omega
theorem i64_nlt {x y : Int64} : ¬ x < y ↔ y ≤ x := by
  rw [Int64.lt_iff_toInt_lt, Int64.le_iff_toInt_le]; omega
theorem lc_ge {x y : Int64} : (0 ≤ lg_cmp x y) ↔ y ≤ x := by
  rw [← i32_nlt, lc_lt, i64_nlt]
theorem lc_le {x y : Int64} : (lg_cmp x y ≤ 0) ↔ x ≤ y := by
  rw [← i32_nlt, lc_gt, i64_nlt]
theorem lc_eq {x y : Int64} : (lg_cmp x y = 0) ↔ x = y := by
  unfold lg_cmp
  by_cases h : x > y
  · rw [if_pos h]; exact ⟨fun q => absurd q (by decide), fun q => absurd (q ▸ h) (i64_irr _)⟩
  · rw [if_neg h]
    by_cases h2 : x = y
    · rw [if_pos h2]; exact ⟨fun _ => h2, fun _ => rfl⟩
    · rw [if_neg h2]; exact ⟨fun q => absurd q (by decide), fun q => absurd q h2⟩
theorem lz_lt {x y : Int64} : (lg_cmp x y < zi 0) ↔ x < y := lc_lt
theorem lz_gt {x y : Int64} : (zi 0 < lg_cmp x y) ↔ y < x := lc_gt
theorem lz_ge {x y : Int64} : (zi 0 ≤ lg_cmp x y) ↔ y ≤ x := lc_ge
theorem lz_le {x y : Int64} : (lg_cmp x y ≤ zi 0) ↔ x ≤ y := lc_le
theorem lz_eq {x y : Int64} : (lg_cmp x y = zi 0) ↔ x = y := lc_eq
theorem ylt {a b : Int} (h1 : -2147483648 ≤ a) (h2 : a < 2147483648) (h3 : -2147483648 ≤ b) (h4 : b < 2147483648) : (zi a < zi b) ↔ a < b := zi_lt ⟨h1, h2⟩ ⟨h3, h4⟩
theorem yle {a b : Int} (h1 : -2147483648 ≤ a) (h2 : a < 2147483648) (h3 : -2147483648 ≤ b) (h4 : b < 2147483648) : (zi a ≤ zi b) ↔ a ≤ b := zi_le ⟨h1, h2⟩ ⟨h3, h4⟩
theorem yeq {a b : Int} (h1 : -2147483648 ≤ a) (h2 : a < 2147483648) (h3 : -2147483648 ≤ b) (h4 : b < 2147483648) : (zi a = zi b) ↔ a = b := zi_eq ⟨h1, h2⟩ ⟨h3, h4⟩
theorem wlt {a b : Int} (h1 : -9223372036854775808 ≤ a) (h2 : a < 9223372036854775808) (h3 : -9223372036854775808 ≤ b) (h4 : b < 9223372036854775808) : (zl a < zl b) ↔ a < b := zl_lt ⟨h1, h2⟩ ⟨h3, h4⟩
theorem wle {a b : Int} (h1 : -9223372036854775808 ≤ a) (h2 : a < 9223372036854775808) (h3 : -9223372036854775808 ≤ b) (h4 : b < 9223372036854775808) : (zl a ≤ zl b) ↔ a ≤ b := zl_le ⟨h1, h2⟩ ⟨h3, h4⟩
theorem weq {a b : Int} (h1 : -9223372036854775808 ≤ a) (h2 : a < 9223372036854775808) (h3 : -9223372036854775808 ≤ b) (h4 : b < 9223372036854775808) : (zl a = zl b) ↔ a = b := zl_eq ⟨h1, h2⟩ ⟨h3, h4⟩
theorem yL {a : Int} (h1 : -2147483648 ≤ a) (h2 : a < 2147483648) : (zi a).toInt64 = zl a := zi_L ⟨h1, h2⟩
theorem yN {a : Int} (h1 : -2147483648 ≤ a) (h2 : a < 2147483648) : (zi a).toNatClampNeg = a.toNat := zi_N ⟨h1, h2⟩
theorem ydv {a b : Int} (h1 : 0 ≤ a) (h2 : a < 2147483648) (h3 : 0 < b) (h4 : b < 2147483648) : zi a / zi b = zi (a / b) := zi_dv ⟨by omega, h2⟩ ⟨by omega, h4⟩ h1 h3
theorem wdv {a b : Int} (h1 : 0 ≤ a) (h2 : a < 9223372036854775808) (h3 : 0 < b) (h4 : b < 9223372036854775808) : zl a / zl b = zl (a / b) := zl_dv ⟨by omega, h2⟩ ⟨by omega, h4⟩ h1 h3
theorem gdt {α : Type} {x : Option α} : gd true x = x := rfl
theorem nzl_z {a : Int} (h1 : -9223372036854775808 ≤ a) (h2 : a < 9223372036854775808) (h : a ≠ 0) : nzl (zl a) = true := by
  have : ¬ zl a = 0 := by show ¬ zl a = zl 0; rw [weq h1 h2 (by omega) (by omega)]; exact h
  simp [nzl, this]
theorem nzi_z {a : Int} (h1 : -2147483648 ≤ a) (h2 : a < 2147483648) (h : a ≠ 0) : nzi (zi a) = true := by
  have : ¬ zi a = 0 := by show ¬ zi a = zi 0; rw [yeq h1 h2 (by omega) (by omega)]; exact h
  simp [nzi, this]
theorem ob_s {α β : Type} (a : α) (f : α → Option β) : (some a).bind f = f a := rfl
theorem sv_z {α : Type} (x : ST) (f : ST → Option α) : sv x f = f x := rfl
theorem zb0 : zb 0 = true := rfl
theorem zb1 : zb 1 = true := rfl
theorem l0 : (0 : Int32) = zi 0 := rfl
theorem l1 : (1 : Int32) = zi 1 := rfl
theorem l2 : (2 : Int32) = zi 2 := rfl
theorem l3 : (3 : Int32) = zi 3 := rfl
theorem l4 : (4 : Int32) = zi 4 := rfl
theorem l5 : (5 : Int32) = zi 5 := rfl
theorem l6 : (6 : Int32) = zi 6 := rfl
theorem l7 : (7 : Int32) = zi 7 := rfl
theorem l8 : (8 : Int32) = zi 8 := rfl
theorem l9 : (9 : Int32) = zi 9 := rfl
theorem l10 : (10 : Int32) = zi 10 := rfl
theorem l16 : (16 : Int32) = zi 16 := rfl
theorem l20 : (20 : Int32) = zi 20 := rfl
theorem l21 : (21 : Int32) = zi 21 := rfl
theorem l22 : (22 : Int32) = zi 22 := rfl
theorem l31 : (31 : Int32) = zi 31 := rfl
theorem l40 : (40 : Int32) = zi 40 := rfl
theorem l41 : (41 : Int32) = zi 41 := rfl
theorem l42 : (42 : Int32) = zi 42 := rfl
theorem l50 : (50 : Int32) = zi 50 := rfl
theorem l56 : (56 : Int32) = zi 56 := rfl
theorem l99 : (99 : Int32) = zi 99 := rfl
theorem l100 : (100 : Int32) = zi 100 := rfl
theorem l200 : (200 : Int32) = zi 200 := rfl
theorem l441 : (441 : Int32) = zi 441 := rfl
theorem l600 : (600 : Int32) = zi 600 := rfl
theorem l2000 : (2000 : Int32) = zi 2000 := rfl
theorem l2048 : (2048 : Int32) = zi 2048 := rfl
theorem l3000 : (3000 : Int32) = zi 3000 := rfl
theorem l3200 : (3200 : Int32) = zi 3200 := rfl
theorem l10000 : (10000 : Int32) = zi 10000 := rfl
theorem l1000000 : (1000000 : Int32) = zi 1000000 := rfl
theorem l100000000 : (100000000 : Int32) = zi 100000000 := rfl
theorem l536870912 : (536870912 : Int32) = zi 536870912 := rfl
theorem l999999999 : (999999999 : Int32) = zi 999999999 := rfl
theorem L0 : (0 : Int64) = zl 0 := rfl
theorem L1 : (1 : Int64) = zl 1 := rfl
theorem L2 : (2 : Int64) = zl 2 := rfl
theorem L3 : (3 : Int64) = zl 3 := rfl
theorem L4 : (4 : Int64) = zl 4 := rfl
theorem L5 : (5 : Int64) = zl 5 := rfl
theorem L6 : (6 : Int64) = zl 6 := rfl
theorem L7 : (7 : Int64) = zl 7 := rfl
theorem L8 : (8 : Int64) = zl 8 := rfl
theorem L9 : (9 : Int64) = zl 9 := rfl
theorem L10 : (10 : Int64) = zl 10 := rfl
theorem L16 : (16 : Int64) = zl 16 := rfl
theorem L20 : (20 : Int64) = zl 20 := rfl
theorem L21 : (21 : Int64) = zl 21 := rfl
theorem L22 : (22 : Int64) = zl 22 := rfl
theorem L31 : (31 : Int64) = zl 31 := rfl
theorem L40 : (40 : Int64) = zl 40 := rfl
theorem L41 : (41 : Int64) = zl 41 := rfl
theorem L42 : (42 : Int64) = zl 42 := rfl
theorem L50 : (50 : Int64) = zl 50 := rfl
theorem L56 : (56 : Int64) = zl 56 := rfl
theorem L99 : (99 : Int64) = zl 99 := rfl
theorem L100 : (100 : Int64) = zl 100 := rfl
theorem L200 : (200 : Int64) = zl 200 := rfl
theorem L441 : (441 : Int64) = zl 441 := rfl
theorem L600 : (600 : Int64) = zl 600 := rfl
theorem L2000 : (2000 : Int64) = zl 2000 := rfl
theorem L2048 : (2048 : Int64) = zl 2048 := rfl
theorem L3000 : (3000 : Int64) = zl 3000 := rfl
theorem L3200 : (3200 : Int64) = zl 3200 := rfl
theorem L10000 : (10000 : Int64) = zl 10000 := rfl
theorem L1000000 : (1000000 : Int64) = zl 1000000 := rfl
theorem L100000000 : (100000000 : Int64) = zl 100000000 := rfl
theorem L536870912 : (536870912 : Int64) = zl 536870912 := rfl
theorem L999999999 : (999999999 : Int64) = zl 999999999 := rfl

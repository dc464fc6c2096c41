/-! Whole numbers as ints of the machine. -/
def i32 (z : Int) : Int32 := Int32.ofInt z
theorem i32_toInt {z : Int} (h1 : -2147483648 ≤ z) (h2 : z ≤ 2147483647) : (i32 z).toInt = z := by
  unfold i32
  rw [Int32.toInt_ofInt]
  have hs : (Int32.size : Int) = 4294967296 := rfl
  exact Int.bmod_eq_of_le (by omega) (by omega)
theorem i32_of (x : Int32) : x = i32 x.toInt := (Int32.ofInt_toInt x).symm
theorem i32_ge (x : Int32) : -2147483648 ≤ x.toInt := by have := Int32.le_toInt x; omega
theorem i32_le' (x : Int32) : x.toInt ≤ 2147483647 := by have := Int32.toInt_lt x; omega
theorem i32_add (a b : Int) : i32 a + i32 b = i32 (a + b) := (Int32.ofInt_add a b).symm
theorem i32_sub (a b : Int) : i32 a - i32 b = i32 (a - b) := (Int32.ofInt_sub a b).symm
theorem i32_mul (a b : Int) : i32 a * i32 b = i32 (a * b) := (Int32.ofInt_mul a b).symm
theorem i32_neg (a : Int) : -i32 a = i32 (-a) := (Int32.ofInt_neg a).symm
theorem i32_inj {a b : Int} (h1 : -2147483648 ≤ a ∧ a ≤ 2147483647 ∧ -2147483648 ≤ b ∧ b ≤ 2147483647) : i32 a = i32 b ↔ a = b := by
  constructor
  · intro h
    have := congrArg Int32.toInt h
    rw [i32_toInt h1.1 h1.2.1, i32_toInt h1.2.2.1 h1.2.2.2] at this
    exact this
  · intro h; rw [h]
theorem i32_lt {a b : Int} (h1 : -2147483648 ≤ a ∧ a ≤ 2147483647 ∧ -2147483648 ≤ b ∧ b ≤ 2147483647) : i32 a < i32 b ↔ a < b := by
  rw [Int32.lt_iff_toInt_lt, i32_toInt h1.1 h1.2.1, i32_toInt h1.2.2.1 h1.2.2.2]
theorem i32_le {a b : Int} (h1 : -2147483648 ≤ a ∧ a ≤ 2147483647 ∧ -2147483648 ≤ b ∧ b ≤ 2147483647) : i32 a ≤ i32 b ↔ a ≤ b := by
  rw [Int32.le_iff_toInt_le, i32_toInt h1.1 h1.2.1, i32_toInt h1.2.2.1 h1.2.2.2]
theorem i32_nat {a : Int} (h1 : 0 ≤ a) (h2 : a ≤ 2147483647) : (i32 a).toNatClampNeg = a.toNat := by
  unfold Int32.toNatClampNeg
  rw [i32_toInt (by omega) h2]
theorem i32_inb {a : Int} {n : Nat} (h1 : -2147483648 ≤ a) (h2 : a ≤ 2147483647) : inb (i32 a) n = decide (0 ≤ a ∧ a < n) := by
  unfold inb
  rw [i32_toInt h1 h2]
theorem i32_div {a b : Int} (h1 : -2147483648 ≤ a ∧ a ≤ 2147483647 ∧ 0 < b ∧ b ≤ 2147483647) : i32 a / i32 b = i32 (a.tdiv b) := by
  apply Int32.toInt_inj.mp
  rw [Int32.toInt_div, i32_toInt h1.1 h1.2.1, i32_toInt (by omega) h1.2.2.2]
  have h3 : -2147483648 ≤ a.tdiv b ∧ a.tdiv b ≤ 2147483647 := by
    have h4 := Int.natAbs_tdiv_le_natAbs a b
    rcases Int.le_total 0 a with h5 | h5
    · have := Int.tdiv_nonneg h5 (Int.le_of_lt h1.2.2.1)
      omega
    · have h6 := Int.tdiv_nonneg (show 0 ≤ -a by omega) (Int.le_of_lt h1.2.2.1)
      rw [Int.neg_tdiv] at h6
      omega
  rw [i32_toInt h3.1 h3.2]
  exact Int.bmod_eq_of_le (by omega) (by omega)
theorem rI_ok {M : Mem} {a n : Nat} {z : Int} (h : 0 ≤ z ∧ z < n ∧ z ≤ 2147483647) : rI M a n (i32 z) = some (M.1 a z.toNat) := by
  unfold rI
  rw [i32_inb (by omega) h.2.2, if_pos (decide_eq_true (by omega)), i32_nat h.1 h.2.2]
theorem wI_ok {M : Mem} {a n : Nat} {z : Int} {x : Int32} (h : 0 ≤ z ∧ z < n ∧ z ≤ 2147483647) : wI M a n (i32 z) x = some (sI M a z.toNat x) := by
  unfold wI
  rw [i32_inb (by omega) h.2.2, if_pos (decide_eq_true (by omega)), i32_nat h.1 h.2.2]

/-! NUMBERS: when a sum, a difference, a product is the true one -/
theorem add32 {a b : Int32} (h1 : -2147483648 ≤ a.toInt + b.toInt) (h2 : a.toInt + b.toInt < 2147483648) : (a + b).toInt = a.toInt + b.toInt := by
  rw [Int32.toInt_add]; exact Int.bmod_eq_of_le (by omega) (by omega)
theorem sub32 {a b : Int32} (h1 : -2147483648 ≤ a.toInt - b.toInt) (h2 : a.toInt - b.toInt < 2147483648) : (a - b).toInt = a.toInt - b.toInt := by
  rw [Int32.toInt_sub]; exact Int.bmod_eq_of_le (by omega) (by omega)
theorem mul32 {a b : Int32} (h1 : -2147483648 ≤ a.toInt * b.toInt) (h2 : a.toInt * b.toInt < 2147483648) : (a * b).toInt = a.toInt * b.toInt := by
  rw [Int32.toInt_mul]; exact Int.bmod_eq_of_le (by omega) (by omega)
theorem neg32 {a : Int32} (h1 : -2147483648 < a.toInt) : (-a).toInt = -a.toInt := by
  have := Int32.toInt_lt a
  rw [Int32.toInt_neg]; exact Int.bmod_eq_of_le (by omega) (by omega)
theorem add64 {a b : Int64} (h1 : -9223372036854775808 ≤ a.toInt + b.toInt) (h2 : a.toInt + b.toInt < 9223372036854775808) : (a + b).toInt = a.toInt + b.toInt := by
  rw [Int64.toInt_add]; exact Int.bmod_eq_of_le (by omega) (by omega)
theorem sub64 {a b : Int64} (h1 : -9223372036854775808 ≤ a.toInt - b.toInt) (h2 : a.toInt - b.toInt < 9223372036854775808) : (a - b).toInt = a.toInt - b.toInt := by
  rw [Int64.toInt_sub]; exact Int.bmod_eq_of_le (by omega) (by omega)
theorem mul64 {a b : Int64} (h1 : -9223372036854775808 ≤ a.toInt * b.toInt) (h2 : a.toInt * b.toInt < 9223372036854775808) : (a * b).toInt = a.toInt * b.toInt := by
  rw [Int64.toInt_mul]; exact Int.bmod_eq_of_le (by omega) (by omega)
theorem neg64 {a : Int64} (h1 : -9223372036854775808 < a.toInt) : (-a).toInt = -a.toInt := by
  have := Int64.toInt_lt a
  rw [Int64.toInt_neg]; exact Int.bmod_eq_of_le (by omega) (by omega)
theorem sq_b {d m : Int} (h1 : -m ≤ d) (h2 : d ≤ m) : d * d ≤ m * m := by
  have a : d.natAbs ≤ m.natAbs := by omega
  have b := Nat.mul_le_mul a a
  have c := Int.natAbs_mul_self (a := d)
  have e := Int.natAbs_mul_self (a := m)
  omega
theorem sq_0 (d : Int) : 0 ≤ d * d := by
  have c := Int.natAbs_mul_self (a := d)
  omega
/-- the square of how far two joints are told to be apart -/
def sqN (x1 x2 y1 y2 : Int32) : Nat := ((x1.toInt - x2.toInt) * (x1.toInt - x2.toInt) + (y1.toInt - y2.toInt) * (y1.toInt - y2.toInt)).toNat
def inP (x : Int32) : Prop := -1000 ≤ x.toInt ∧ x.toInt ≤ 1000
theorem dif {x1 x2 : Int32} (h1 : inP x1) (h2 : inP x2) : (x1 - x2).toInt = x1.toInt - x2.toInt ∧ -2000 ≤ (x1 - x2).toInt ∧ (x1 - x2).toInt ≤ 2000 := by
  obtain ⟨a, b⟩ := h1
  obtain ⟨c, d⟩ := h2
  have e := sub32 (a := x1) (b := x2) (by omega) (by omega)
  exact ⟨e, by omega, by omega⟩
theorem sqN_b {x1 x2 y1 y2 : Int32} (h1 : inP x1) (h2 : inP x2) (h3 : inP y1) (h4 : inP y2) : sqN x1 x2 y1 y2 ≤ 8000000 ∧ (sqN x1 x2 y1 y2 : Int) = (x1.toInt - x2.toInt) * (x1.toInt - x2.toInt) + (y1.toInt - y2.toInt) * (y1.toInt - y2.toInt) := by
  obtain ⟨a, b, c⟩ := dif h1 h2
  obtain ⟨d, e, f⟩ := dif h3 h4
  unfold sqN
  rw [← a, ← d]
  have p := sq_b (m := 2000) b c
  have q := sq_b (m := 2000) e f
  have p0 := sq_0 (x1 - x2).toInt
  have q0 := sq_0 (y1 - y2).toInt
  omega
theorem sq32 {x1 x2 y1 y2 : Int32} (h1 : inP x1) (h2 : inP x2) (h3 : inP y1) (h4 : inP y2) : (x1 - x2) * (x1 - x2) + (y1 - y2) * (y1 - y2) = nI (sqN x1 x2 y1 y2) := by
  obtain ⟨g, k⟩ := sqN_b h1 h2 h3 h4
  obtain ⟨a, b, c⟩ := dif h1 h2
  obtain ⟨d, e, f⟩ := dif h3 h4
  have p := sq_b (m := 2000) b c
  have q := sq_b (m := 2000) e f
  have p0 := sq_0 (x1 - x2).toInt
  have q0 := sq_0 (y1 - y2).toInt
  have m1 := mul32 (a := x1 - x2) (b := x1 - x2) (by omega) (by omega)
  have m2 := mul32 (a := y1 - y2) (b := y1 - y2) (by omega) (by omega)
  rw [eq32, add32 (by omega) (by omega), m1, m2, nI_toInt (by omega), k, a, d]
theorem sq64 {x1 x2 y1 y2 : Int32} (h1 : inP x1) (h2 : inP x2) (h3 : inP y1) (h4 : inP y2) : (x1 - x2).toInt64 * (x1 - x2).toInt64 + (y1 - y2).toInt64 * (y1 - y2).toInt64 = lN (sqN x1 x2 y1 y2) := by
  obtain ⟨g, k⟩ := sqN_b h1 h2 h3 h4
  obtain ⟨a, b, c⟩ := dif h1 h2
  obtain ⟨d, e, f⟩ := dif h3 h4
  have p := sq_b (m := 2000) b c
  have q := sq_b (m := 2000) e f
  have p0 := sq_0 (x1 - x2).toInt
  have q0 := sq_0 (y1 - y2).toInt
  have m1 := mul64 (a := (x1 - x2).toInt64) (b := (x1 - x2).toInt64) (by rw [l32]; omega) (by rw [l32]; omega)
  have m2 := mul64 (a := (y1 - y2).toInt64) (b := (y1 - y2).toInt64) (by rw [l32]; omega) (by rw [l32]; omega)
  rw [l32] at m1 m2
  rw [eq64, add64 (by omega) (by omega), m1, m2, pk_lT (by omega), k, a, d]
theorem sqN_c (x1 x2 y1 y2 : Int32) : sqN x1 x2 y1 y2 = sqN x2 x1 y2 y1 := by
  unfold sqN
  congr 1
  rw [← Int.neg_mul_neg (x1.toInt - x2.toInt), ← Int.neg_mul_neg (y1.toInt - y2.toInt), Int.neg_sub, Int.neg_sub]

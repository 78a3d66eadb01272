/-! numbers of 64 bits as whole numbers -/
theorem l_add {x y : Int64} (h1 : -9223372036854775808 ≤ x.toInt + y.toInt) (h2 : x.toInt + y.toInt < 9223372036854775808) : (x + y).toInt = x.toInt + y.toInt := by
  rw [Int64.toInt_add]
  exact Int.bmod_eq_of_le (by omega) (by omega)
theorem l_sub {x y : Int64} (h1 : -9223372036854775808 ≤ x.toInt - y.toInt) (h2 : x.toInt - y.toInt < 9223372036854775808) : (x - y).toInt = x.toInt - y.toInt := by
  rw [Int64.toInt_sub]
  exact Int.bmod_eq_of_le (by omega) (by omega)
theorem l_mul {x y : Int64} (h1 : -9223372036854775808 ≤ x.toInt * y.toInt) (h2 : x.toInt * y.toInt < 9223372036854775808) : (x * y).toInt = x.toInt * y.toInt := by
  rw [Int64.toInt_mul]
  exact Int.bmod_eq_of_le (by omega) (by omega)
theorem l_neg {x : Int64} (h : x.toInt ≠ -9223372036854775808) : (-x).toInt = -x.toInt := by
  have h1 : -9223372036854775808 ≤ x.toInt := Int64.le_toInt x
  have h2 : x.toInt < 9223372036854775808 := Int64.toInt_lt x
  rw [Int64.toInt_neg]
  exact Int.bmod_eq_of_le (by omega) (by omega)
theorem l_div {x y : Int64} (h : ¬ (x.toInt = -9223372036854775808 ∧ y.toInt = -1)) : (x / y).toInt = x.toInt.tdiv y.toInt := by
  rw [Int64.toInt_div]
  by_cases h0 : y.toInt = 0
  · rw [h0]; simp
  · have h1 : -9223372036854775808 ≤ x.toInt := Int64.le_toInt x
    have h2 : x.toInt < 9223372036854775808 := Int64.toInt_lt x
    have h3 : x.toInt.natAbs / y.toInt.natAbs ≤ x.toInt.natAbs := Nat.div_le_self _ _
    have h4 : (x.toInt.tdiv y.toInt).natAbs = x.toInt.natAbs / y.toInt.natAbs := Int.natAbs_tdiv _ _
    by_cases h5 : x.toInt.tdiv y.toInt = 9223372036854775808
    · exfalso
      have h6 : x.toInt.natAbs / y.toInt.natAbs = 9223372036854775808 := by rw [← h4, h5]; rfl
      have h7 : x.toInt.natAbs ≤ 9223372036854775808 := by omega
      have h8 : y.toInt.natAbs = 1 := by
        rcases Nat.lt_or_ge y.toInt.natAbs 2 with q | q
        · omega
        · exfalso
          have : x.toInt.natAbs / y.toInt.natAbs ≤ x.toInt.natAbs / 2 := Nat.div_le_div_left q (by omega)
          omega
      have h9 : x.toInt.natAbs = 9223372036854775808 := by rw [h8] at h6; omega
      have hx : x.toInt = -9223372036854775808 := by omega
      have hy : y.toInt = 1 ∨ y.toInt = -1 := by omega
      rcases hy with hy | hy
      · rw [hx, hy] at h5
        exact absurd h5 (by decide)
      · exact h ⟨hx, hy⟩
    · exact Int.bmod_eq_of_le (by omega) (by omega)
theorem i2l (x : Int32) : (Int32.toInt64 x).toInt = x.toInt := Int32.toInt_toInt64 x
theorem i_bd (x : Int32) : -2147483648 ≤ x.toInt ∧ x.toInt < 2147483648 := ⟨Int32.le_toInt x, Int32.toInt_lt x⟩
theorem l_bd (x : Int64) : -9223372036854775808 ≤ x.toInt ∧ x.toInt < 9223372036854775808 := ⟨Int64.le_toInt x, Int64.toInt_lt x⟩
theorem i_add {x y : Int32} (h1 : -2147483648 ≤ x.toInt + y.toInt) (h2 : x.toInt + y.toInt < 2147483648) : (x + y).toInt = x.toInt + y.toInt := by
  rw [Int32.toInt_add]
  exact Int.bmod_eq_of_le (by omega) (by omega)
theorem i_sub {x y : Int32} (h1 : -2147483648 ≤ x.toInt - y.toInt) (h2 : x.toInt - y.toInt < 2147483648) : (x - y).toInt = x.toInt - y.toInt := by
  rw [Int32.toInt_sub]
  exact Int.bmod_eq_of_le (by omega) (by omega)
theorem i_mul {x y : Int32} (h1 : -2147483648 ≤ x.toInt * y.toInt) (h2 : x.toInt * y.toInt < 2147483648) : (x * y).toInt = x.toInt * y.toInt := by
  rw [Int32.toInt_mul]
  exact Int.bmod_eq_of_le (by omega) (by omega)
theorem q_gt (x y : Int64) : (0 < lg_cmp x y) ↔ y.toInt < x.toInt := (lg_cmp_gt x y).trans (l_lt y x)
theorem q_eq (x y : Int64) : (lg_cmp x y = 0) ↔ x.toInt = y.toInt := (lg_cmp_eq x y).trans (l_eq x y)
theorem q_le (x y : Int64) : (lg_cmp x y ≤ 0) ↔ x.toInt ≤ y.toInt := (lg_cmp_le x y).trans (l_le x y)
theorem q_ge (x y : Int64) : (0 ≤ lg_cmp x y) ↔ y.toInt ≤ x.toInt := (lg_cmp_ge x y).trans (l_le y x)
theorem q_lt (x y : Int64) : (lg_cmp x y < 0) ↔ x.toInt < y.toInt := (lg_cmp_lt x y).trans (l_lt x y)

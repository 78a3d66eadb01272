/-! the cofactors of a closed net solve its traffic equations -/
def LO (w : Mi) (i j : Nat) : Int := if i = j then (w i 0 + w i 1 + w i 2 + w i 3) - w i i else -(w i j)
def xI (O : Mi) (u : Nat) : Int := if u = 0 then 1 else lv (SI O u) (bc u 4 - 1) (bc u 4 - 1) (bc u 4 - 1)
theorem LO_00 (w : Mi) : LO w 0 0 = (w 0 0 + w 0 1 + w 0 2 + w 0 3) - w 0 0 := rfl
theorem LO_01 (w : Mi) : LO w 0 1 = -(w 0 1) := rfl
theorem LO_02 (w : Mi) : LO w 0 2 = -(w 0 2) := rfl
theorem LO_03 (w : Mi) : LO w 0 3 = -(w 0 3) := rfl
theorem LO_10 (w : Mi) : LO w 1 0 = -(w 1 0) := rfl
theorem LO_11 (w : Mi) : LO w 1 1 = (w 1 0 + w 1 1 + w 1 2 + w 1 3) - w 1 1 := rfl
theorem LO_12 (w : Mi) : LO w 1 2 = -(w 1 2) := rfl
theorem LO_13 (w : Mi) : LO w 1 3 = -(w 1 3) := rfl
theorem LO_20 (w : Mi) : LO w 2 0 = -(w 2 0) := rfl
theorem LO_21 (w : Mi) : LO w 2 1 = -(w 2 1) := rfl
theorem LO_22 (w : Mi) : LO w 2 2 = (w 2 0 + w 2 1 + w 2 2 + w 2 3) - w 2 2 := rfl
theorem LO_23 (w : Mi) : LO w 2 3 = -(w 2 3) := rfl
theorem LO_30 (w : Mi) : LO w 3 0 = -(w 3 0) := rfl
theorem LO_31 (w : Mi) : LO w 3 1 = -(w 3 1) := rfl
theorem LO_32 (w : Mi) : LO w 3 2 = -(w 3 2) := rfl
theorem LO_33 (w : Mi) : LO w 3 3 = (w 3 0 + w 3 1 + w 3 2 + w 3 3) - w 3 3 := rfl
theorem xI_0 (w : Mi) : xI (LO w) 0 = 1 := rfl
theorem xI_1 (w : Mi) : xI (LO w) 1 = LO w 0 0 := rfl
theorem xI_2 (w : Mi) : xI (LO w) 2 = LO w 1 1 := rfl
theorem xI_3 (w : Mi) : xI (LO w) 3 = LO w 1 1 * LO w 0 0 - LO w 1 0 * LO w 0 1 := rfl
theorem xI_4 (w : Mi) : xI (LO w) 4 = LO w 2 2 := rfl
theorem xI_5 (w : Mi) : xI (LO w) 5 = LO w 2 2 * LO w 0 0 - LO w 2 0 * LO w 0 2 := rfl
theorem xI_6 (w : Mi) : xI (LO w) 6 = LO w 2 2 * LO w 1 1 - LO w 2 1 * LO w 1 2 := rfl
theorem xI_7 (w : Mi) : xI (LO w) 7 = LO w 2 2 * (LO w 0 0 * LO w 1 1 - LO w 0 1 * LO w 1 0) - LO w 2 1 * (LO w 0 0 * LO w 1 2 - LO w 0 2 * LO w 1 0) + LO w 2 0 * (LO w 0 1 * LO w 1 2 - LO w 0 2 * LO w 1 1) := rfl
theorem xI_8 (w : Mi) : xI (LO w) 8 = LO w 3 3 := rfl
theorem xI_9 (w : Mi) : xI (LO w) 9 = LO w 3 3 * LO w 0 0 - LO w 3 0 * LO w 0 3 := rfl
theorem xI_10 (w : Mi) : xI (LO w) 10 = LO w 3 3 * LO w 1 1 - LO w 3 1 * LO w 1 3 := rfl
theorem xI_11 (w : Mi) : xI (LO w) 11 = LO w 3 3 * (LO w 0 0 * LO w 1 1 - LO w 0 1 * LO w 1 0) - LO w 3 1 * (LO w 0 0 * LO w 1 3 - LO w 0 3 * LO w 1 0) + LO w 3 0 * (LO w 0 1 * LO w 1 3 - LO w 0 3 * LO w 1 1) := rfl
theorem xI_12 (w : Mi) : xI (LO w) 12 = LO w 3 3 * LO w 2 2 - LO w 3 2 * LO w 2 3 := rfl
theorem xI_13 (w : Mi) : xI (LO w) 13 = LO w 3 3 * (LO w 0 0 * LO w 2 2 - LO w 0 2 * LO w 2 0) - LO w 3 2 * (LO w 0 0 * LO w 2 3 - LO w 0 3 * LO w 2 0) + LO w 3 0 * (LO w 0 2 * LO w 2 3 - LO w 0 3 * LO w 2 2) := rfl
theorem xI_14 (w : Mi) : xI (LO w) 14 = LO w 3 3 * (LO w 1 1 * LO w 2 2 - LO w 1 2 * LO w 2 1) - LO w 3 2 * (LO w 1 1 * LO w 2 3 - LO w 1 3 * LO w 2 1) + LO w 3 1 * (LO w 1 2 * LO w 2 3 - LO w 1 3 * LO w 2 2) := rfl
theorem tr1_0 {w : Mi} (r0 : w 0 0 + w 0 1 + w 0 2 + w 0 3 = 4) (z01 : w 0 1 = 0) (z02 : w 0 2 = 0) (z03 : w 0 3 = 0) : xI (LO w) 0 * w 0 0 = 4 * xI (LO w) 0 := by
  have e0 : w 0 0 = 4 - w 0 1 - w 0 2 - w 0 3 := by omega
  simp only [xI_0, LO_00, LO_01, LO_02, LO_03, LO_10, LO_11, LO_12, LO_13, LO_20, LO_21, LO_22, LO_23, LO_30, LO_31, LO_32, LO_33]
  simp only [e0, z01, z02, z03]
  grind
theorem tr2_1 {w : Mi} (r1 : w 1 0 + w 1 1 + w 1 2 + w 1 3 = 4) (z10 : w 1 0 = 0) (z12 : w 1 2 = 0) (z13 : w 1 3 = 0) : xI (LO w) 0 * w 1 1 = 4 * xI (LO w) 0 := by
  have e1 : w 1 1 = 4 - w 1 0 - w 1 2 - w 1 3 := by omega
  simp only [xI_0, LO_00, LO_01, LO_02, LO_03, LO_10, LO_11, LO_12, LO_13, LO_20, LO_21, LO_22, LO_23, LO_30, LO_31, LO_32, LO_33]
  simp only [e1, z10, z12, z13]
  grind
theorem tr3_0 {w : Mi} (r0 : w 0 0 + w 0 1 + w 0 2 + w 0 3 = 4) (r1 : w 1 0 + w 1 1 + w 1 2 + w 1 3 = 4) (z02 : w 0 2 = 0) (z03 : w 0 3 = 0) (z12 : w 1 2 = 0) (z13 : w 1 3 = 0) : xI (LO w) 2 * w 0 0 + xI (LO w) 1 * w 1 0 = 4 * xI (LO w) 2 := by
  have e0 : w 0 0 = 4 - w 0 1 - w 0 2 - w 0 3 := by omega
  have e1 : w 1 1 = 4 - w 1 0 - w 1 2 - w 1 3 := by omega
  simp only [xI_1, xI_2, LO_00, LO_01, LO_02, LO_03, LO_10, LO_11, LO_12, LO_13, LO_20, LO_21, LO_22, LO_23, LO_30, LO_31, LO_32, LO_33]
  simp only [e0, e1, z02, z03, z12, z13]
  grind
theorem tr3_1 {w : Mi} (r0 : w 0 0 + w 0 1 + w 0 2 + w 0 3 = 4) (r1 : w 1 0 + w 1 1 + w 1 2 + w 1 3 = 4) (z02 : w 0 2 = 0) (z03 : w 0 3 = 0) (z12 : w 1 2 = 0) (z13 : w 1 3 = 0) : xI (LO w) 2 * w 0 1 + xI (LO w) 1 * w 1 1 = 4 * xI (LO w) 1 := by
  have e0 : w 0 0 = 4 - w 0 1 - w 0 2 - w 0 3 := by omega
  have e1 : w 1 1 = 4 - w 1 0 - w 1 2 - w 1 3 := by omega
  simp only [xI_1, xI_2, LO_00, LO_01, LO_02, LO_03, LO_10, LO_11, LO_12, LO_13, LO_20, LO_21, LO_22, LO_23, LO_30, LO_31, LO_32, LO_33]
  simp only [e0, e1, z02, z03, z12, z13]
  grind
theorem tr4_2 {w : Mi} (r2 : w 2 0 + w 2 1 + w 2 2 + w 2 3 = 4) (z20 : w 2 0 = 0) (z21 : w 2 1 = 0) (z23 : w 2 3 = 0) : xI (LO w) 0 * w 2 2 = 4 * xI (LO w) 0 := by
  have e2 : w 2 2 = 4 - w 2 0 - w 2 1 - w 2 3 := by omega
  simp only [xI_0, LO_00, LO_01, LO_02, LO_03, LO_10, LO_11, LO_12, LO_13, LO_20, LO_21, LO_22, LO_23, LO_30, LO_31, LO_32, LO_33]
  simp only [e2, z20, z21, z23]
  grind
theorem tr5_0 {w : Mi} (r0 : w 0 0 + w 0 1 + w 0 2 + w 0 3 = 4) (r2 : w 2 0 + w 2 1 + w 2 2 + w 2 3 = 4) (z01 : w 0 1 = 0) (z03 : w 0 3 = 0) (z21 : w 2 1 = 0) (z23 : w 2 3 = 0) : xI (LO w) 4 * w 0 0 + xI (LO w) 1 * w 2 0 = 4 * xI (LO w) 4 := by
  have e0 : w 0 0 = 4 - w 0 1 - w 0 2 - w 0 3 := by omega
  have e2 : w 2 2 = 4 - w 2 0 - w 2 1 - w 2 3 := by omega
  simp only [xI_1, xI_4, LO_00, LO_01, LO_02, LO_03, LO_10, LO_11, LO_12, LO_13, LO_20, LO_21, LO_22, LO_23, LO_30, LO_31, LO_32, LO_33]
  simp only [e0, e2, z01, z03, z21, z23]
  grind
theorem tr5_2 {w : Mi} (r0 : w 0 0 + w 0 1 + w 0 2 + w 0 3 = 4) (r2 : w 2 0 + w 2 1 + w 2 2 + w 2 3 = 4) (z01 : w 0 1 = 0) (z03 : w 0 3 = 0) (z21 : w 2 1 = 0) (z23 : w 2 3 = 0) : xI (LO w) 4 * w 0 2 + xI (LO w) 1 * w 2 2 = 4 * xI (LO w) 1 := by
  have e0 : w 0 0 = 4 - w 0 1 - w 0 2 - w 0 3 := by omega
  have e2 : w 2 2 = 4 - w 2 0 - w 2 1 - w 2 3 := by omega
  simp only [xI_1, xI_4, LO_00, LO_01, LO_02, LO_03, LO_10, LO_11, LO_12, LO_13, LO_20, LO_21, LO_22, LO_23, LO_30, LO_31, LO_32, LO_33]
  simp only [e0, e2, z01, z03, z21, z23]
  grind
theorem tr6_1 {w : Mi} (r1 : w 1 0 + w 1 1 + w 1 2 + w 1 3 = 4) (r2 : w 2 0 + w 2 1 + w 2 2 + w 2 3 = 4) (z10 : w 1 0 = 0) (z13 : w 1 3 = 0) (z20 : w 2 0 = 0) (z23 : w 2 3 = 0) : xI (LO w) 4 * w 1 1 + xI (LO w) 2 * w 2 1 = 4 * xI (LO w) 4 := by
  have e1 : w 1 1 = 4 - w 1 0 - w 1 2 - w 1 3 := by omega
  have e2 : w 2 2 = 4 - w 2 0 - w 2 1 - w 2 3 := by omega
  simp only [xI_2, xI_4, LO_00, LO_01, LO_02, LO_03, LO_10, LO_11, LO_12, LO_13, LO_20, LO_21, LO_22, LO_23, LO_30, LO_31, LO_32, LO_33]
  simp only [e1, e2, z10, z13, z20, z23]
  grind
theorem tr6_2 {w : Mi} (r1 : w 1 0 + w 1 1 + w 1 2 + w 1 3 = 4) (r2 : w 2 0 + w 2 1 + w 2 2 + w 2 3 = 4) (z10 : w 1 0 = 0) (z13 : w 1 3 = 0) (z20 : w 2 0 = 0) (z23 : w 2 3 = 0) : xI (LO w) 4 * w 1 2 + xI (LO w) 2 * w 2 2 = 4 * xI (LO w) 2 := by
  have e1 : w 1 1 = 4 - w 1 0 - w 1 2 - w 1 3 := by omega
  have e2 : w 2 2 = 4 - w 2 0 - w 2 1 - w 2 3 := by omega
  simp only [xI_2, xI_4, LO_00, LO_01, LO_02, LO_03, LO_10, LO_11, LO_12, LO_13, LO_20, LO_21, LO_22, LO_23, LO_30, LO_31, LO_32, LO_33]
  simp only [e1, e2, z10, z13, z20, z23]
  grind
theorem tr7_0 {w : Mi} (r0 : w 0 0 + w 0 1 + w 0 2 + w 0 3 = 4) (r1 : w 1 0 + w 1 1 + w 1 2 + w 1 3 = 4) (r2 : w 2 0 + w 2 1 + w 2 2 + w 2 3 = 4) (z03 : w 0 3 = 0) (z13 : w 1 3 = 0) (z23 : w 2 3 = 0) : xI (LO w) 6 * w 0 0 + xI (LO w) 5 * w 1 0 + xI (LO w) 3 * w 2 0 = 4 * xI (LO w) 6 := by
  have e0 : w 0 0 = 4 - w 0 1 - w 0 2 - w 0 3 := by omega
  have e1 : w 1 1 = 4 - w 1 0 - w 1 2 - w 1 3 := by omega
  have e2 : w 2 2 = 4 - w 2 0 - w 2 1 - w 2 3 := by omega
  simp only [xI_3, xI_5, xI_6, LO_00, LO_01, LO_02, LO_03, LO_10, LO_11, LO_12, LO_13, LO_20, LO_21, LO_22, LO_23, LO_30, LO_31, LO_32, LO_33]
  simp only [e0, e1, e2, z03, z13, z23]
  grind
theorem tr7_1 {w : Mi} (r0 : w 0 0 + w 0 1 + w 0 2 + w 0 3 = 4) (r1 : w 1 0 + w 1 1 + w 1 2 + w 1 3 = 4) (r2 : w 2 0 + w 2 1 + w 2 2 + w 2 3 = 4) (z03 : w 0 3 = 0) (z13 : w 1 3 = 0) (z23 : w 2 3 = 0) : xI (LO w) 6 * w 0 1 + xI (LO w) 5 * w 1 1 + xI (LO w) 3 * w 2 1 = 4 * xI (LO w) 5 := by
  have e0 : w 0 0 = 4 - w 0 1 - w 0 2 - w 0 3 := by omega
  have e1 : w 1 1 = 4 - w 1 0 - w 1 2 - w 1 3 := by omega
  have e2 : w 2 2 = 4 - w 2 0 - w 2 1 - w 2 3 := by omega
  simp only [xI_3, xI_5, xI_6, LO_00, LO_01, LO_02, LO_03, LO_10, LO_11, LO_12, LO_13, LO_20, LO_21, LO_22, LO_23, LO_30, LO_31, LO_32, LO_33]
  simp only [e0, e1, e2, z03, z13, z23]
  grind
theorem tr7_2 {w : Mi} (r0 : w 0 0 + w 0 1 + w 0 2 + w 0 3 = 4) (r1 : w 1 0 + w 1 1 + w 1 2 + w 1 3 = 4) (r2 : w 2 0 + w 2 1 + w 2 2 + w 2 3 = 4) (z03 : w 0 3 = 0) (z13 : w 1 3 = 0) (z23 : w 2 3 = 0) : xI (LO w) 6 * w 0 2 + xI (LO w) 5 * w 1 2 + xI (LO w) 3 * w 2 2 = 4 * xI (LO w) 3 := by
  have e0 : w 0 0 = 4 - w 0 1 - w 0 2 - w 0 3 := by omega
  have e1 : w 1 1 = 4 - w 1 0 - w 1 2 - w 1 3 := by omega
  have e2 : w 2 2 = 4 - w 2 0 - w 2 1 - w 2 3 := by omega
  simp only [xI_3, xI_5, xI_6, LO_00, LO_01, LO_02, LO_03, LO_10, LO_11, LO_12, LO_13, LO_20, LO_21, LO_22, LO_23, LO_30, LO_31, LO_32, LO_33]
  simp only [e0, e1, e2, z03, z13, z23]
  grind
theorem tr8_3 {w : Mi} (r3 : w 3 0 + w 3 1 + w 3 2 + w 3 3 = 4) (z30 : w 3 0 = 0) (z31 : w 3 1 = 0) (z32 : w 3 2 = 0) : xI (LO w) 0 * w 3 3 = 4 * xI (LO w) 0 := by
  have e3 : w 3 3 = 4 - w 3 0 - w 3 1 - w 3 2 := by omega
  simp only [xI_0, LO_00, LO_01, LO_02, LO_03, LO_10, LO_11, LO_12, LO_13, LO_20, LO_21, LO_22, LO_23, LO_30, LO_31, LO_32, LO_33]
  simp only [e3, z30, z31, z32]
  grind
theorem tr9_0 {w : Mi} (r0 : w 0 0 + w 0 1 + w 0 2 + w 0 3 = 4) (r3 : w 3 0 + w 3 1 + w 3 2 + w 3 3 = 4) (z01 : w 0 1 = 0) (z02 : w 0 2 = 0) (z31 : w 3 1 = 0) (z32 : w 3 2 = 0) : xI (LO w) 8 * w 0 0 + xI (LO w) 1 * w 3 0 = 4 * xI (LO w) 8 := by
  have e0 : w 0 0 = 4 - w 0 1 - w 0 2 - w 0 3 := by omega
  have e3 : w 3 3 = 4 - w 3 0 - w 3 1 - w 3 2 := by omega
  simp only [xI_1, xI_8, LO_00, LO_01, LO_02, LO_03, LO_10, LO_11, LO_12, LO_13, LO_20, LO_21, LO_22, LO_23, LO_30, LO_31, LO_32, LO_33]
  simp only [e0, e3, z01, z02, z31, z32]
  grind
theorem tr9_3 {w : Mi} (r0 : w 0 0 + w 0 1 + w 0 2 + w 0 3 = 4) (r3 : w 3 0 + w 3 1 + w 3 2 + w 3 3 = 4) (z01 : w 0 1 = 0) (z02 : w 0 2 = 0) (z31 : w 3 1 = 0) (z32 : w 3 2 = 0) : xI (LO w) 8 * w 0 3 + xI (LO w) 1 * w 3 3 = 4 * xI (LO w) 1 := by
  have e0 : w 0 0 = 4 - w 0 1 - w 0 2 - w 0 3 := by omega
  have e3 : w 3 3 = 4 - w 3 0 - w 3 1 - w 3 2 := by omega
  simp only [xI_1, xI_8, LO_00, LO_01, LO_02, LO_03, LO_10, LO_11, LO_12, LO_13, LO_20, LO_21, LO_22, LO_23, LO_30, LO_31, LO_32, LO_33]
  simp only [e0, e3, z01, z02, z31, z32]
  grind
theorem tr10_1 {w : Mi} (r1 : w 1 0 + w 1 1 + w 1 2 + w 1 3 = 4) (r3 : w 3 0 + w 3 1 + w 3 2 + w 3 3 = 4) (z10 : w 1 0 = 0) (z12 : w 1 2 = 0) (z30 : w 3 0 = 0) (z32 : w 3 2 = 0) : xI (LO w) 8 * w 1 1 + xI (LO w) 2 * w 3 1 = 4 * xI (LO w) 8 := by
  have e1 : w 1 1 = 4 - w 1 0 - w 1 2 - w 1 3 := by omega
  have e3 : w 3 3 = 4 - w 3 0 - w 3 1 - w 3 2 := by omega
  simp only [xI_2, xI_8, LO_00, LO_01, LO_02, LO_03, LO_10, LO_11, LO_12, LO_13, LO_20, LO_21, LO_22, LO_23, LO_30, LO_31, LO_32, LO_33]
  simp only [e1, e3, z10, z12, z30, z32]
  grind
theorem tr10_3 {w : Mi} (r1 : w 1 0 + w 1 1 + w 1 2 + w 1 3 = 4) (r3 : w 3 0 + w 3 1 + w 3 2 + w 3 3 = 4) (z10 : w 1 0 = 0) (z12 : w 1 2 = 0) (z30 : w 3 0 = 0) (z32 : w 3 2 = 0) : xI (LO w) 8 * w 1 3 + xI (LO w) 2 * w 3 3 = 4 * xI (LO w) 2 := by
  have e1 : w 1 1 = 4 - w 1 0 - w 1 2 - w 1 3 := by omega
  have e3 : w 3 3 = 4 - w 3 0 - w 3 1 - w 3 2 := by omega
  simp only [xI_2, xI_8, LO_00, LO_01, LO_02, LO_03, LO_10, LO_11, LO_12, LO_13, LO_20, LO_21, LO_22, LO_23, LO_30, LO_31, LO_32, LO_33]
  simp only [e1, e3, z10, z12, z30, z32]
  grind
theorem tr11_0 {w : Mi} (r0 : w 0 0 + w 0 1 + w 0 2 + w 0 3 = 4) (r1 : w 1 0 + w 1 1 + w 1 2 + w 1 3 = 4) (r3 : w 3 0 + w 3 1 + w 3 2 + w 3 3 = 4) (z02 : w 0 2 = 0) (z12 : w 1 2 = 0) (z32 : w 3 2 = 0) : xI (LO w) 10 * w 0 0 + xI (LO w) 9 * w 1 0 + xI (LO w) 3 * w 3 0 = 4 * xI (LO w) 10 := by
  have e0 : w 0 0 = 4 - w 0 1 - w 0 2 - w 0 3 := by omega
  have e1 : w 1 1 = 4 - w 1 0 - w 1 2 - w 1 3 := by omega
  have e3 : w 3 3 = 4 - w 3 0 - w 3 1 - w 3 2 := by omega
  simp only [xI_10, xI_3, xI_9, LO_00, LO_01, LO_02, LO_03, LO_10, LO_11, LO_12, LO_13, LO_20, LO_21, LO_22, LO_23, LO_30, LO_31, LO_32, LO_33]
  simp only [e0, e1, e3, z02, z12, z32]
  grind
theorem tr11_1 {w : Mi} (r0 : w 0 0 + w 0 1 + w 0 2 + w 0 3 = 4) (r1 : w 1 0 + w 1 1 + w 1 2 + w 1 3 = 4) (r3 : w 3 0 + w 3 1 + w 3 2 + w 3 3 = 4) (z02 : w 0 2 = 0) (z12 : w 1 2 = 0) (z32 : w 3 2 = 0) : xI (LO w) 10 * w 0 1 + xI (LO w) 9 * w 1 1 + xI (LO w) 3 * w 3 1 = 4 * xI (LO w) 9 := by
  have e0 : w 0 0 = 4 - w 0 1 - w 0 2 - w 0 3 := by omega
  have e1 : w 1 1 = 4 - w 1 0 - w 1 2 - w 1 3 := by omega
  have e3 : w 3 3 = 4 - w 3 0 - w 3 1 - w 3 2 := by omega
  simp only [xI_10, xI_3, xI_9, LO_00, LO_01, LO_02, LO_03, LO_10, LO_11, LO_12, LO_13, LO_20, LO_21, LO_22, LO_23, LO_30, LO_31, LO_32, LO_33]
  simp only [e0, e1, e3, z02, z12, z32]
  grind
theorem tr11_3 {w : Mi} (r0 : w 0 0 + w 0 1 + w 0 2 + w 0 3 = 4) (r1 : w 1 0 + w 1 1 + w 1 2 + w 1 3 = 4) (r3 : w 3 0 + w 3 1 + w 3 2 + w 3 3 = 4) (z02 : w 0 2 = 0) (z12 : w 1 2 = 0) (z32 : w 3 2 = 0) : xI (LO w) 10 * w 0 3 + xI (LO w) 9 * w 1 3 + xI (LO w) 3 * w 3 3 = 4 * xI (LO w) 3 := by
  have e0 : w 0 0 = 4 - w 0 1 - w 0 2 - w 0 3 := by omega
  have e1 : w 1 1 = 4 - w 1 0 - w 1 2 - w 1 3 := by omega
  have e3 : w 3 3 = 4 - w 3 0 - w 3 1 - w 3 2 := by omega
  simp only [xI_10, xI_3, xI_9, LO_00, LO_01, LO_02, LO_03, LO_10, LO_11, LO_12, LO_13, LO_20, LO_21, LO_22, LO_23, LO_30, LO_31, LO_32, LO_33]
  simp only [e0, e1, e3, z02, z12, z32]
  grind
theorem tr12_2 {w : Mi} (r2 : w 2 0 + w 2 1 + w 2 2 + w 2 3 = 4) (r3 : w 3 0 + w 3 1 + w 3 2 + w 3 3 = 4) (z20 : w 2 0 = 0) (z21 : w 2 1 = 0) (z30 : w 3 0 = 0) (z31 : w 3 1 = 0) : xI (LO w) 8 * w 2 2 + xI (LO w) 4 * w 3 2 = 4 * xI (LO w) 8 := by
  have e2 : w 2 2 = 4 - w 2 0 - w 2 1 - w 2 3 := by omega
  have e3 : w 3 3 = 4 - w 3 0 - w 3 1 - w 3 2 := by omega
  simp only [xI_4, xI_8, LO_00, LO_01, LO_02, LO_03, LO_10, LO_11, LO_12, LO_13, LO_20, LO_21, LO_22, LO_23, LO_30, LO_31, LO_32, LO_33]
  simp only [e2, e3, z20, z21, z30, z31]
  grind
theorem tr12_3 {w : Mi} (r2 : w 2 0 + w 2 1 + w 2 2 + w 2 3 = 4) (r3 : w 3 0 + w 3 1 + w 3 2 + w 3 3 = 4) (z20 : w 2 0 = 0) (z21 : w 2 1 = 0) (z30 : w 3 0 = 0) (z31 : w 3 1 = 0) : xI (LO w) 8 * w 2 3 + xI (LO w) 4 * w 3 3 = 4 * xI (LO w) 4 := by
  have e2 : w 2 2 = 4 - w 2 0 - w 2 1 - w 2 3 := by omega
  have e3 : w 3 3 = 4 - w 3 0 - w 3 1 - w 3 2 := by omega
  simp only [xI_4, xI_8, LO_00, LO_01, LO_02, LO_03, LO_10, LO_11, LO_12, LO_13, LO_20, LO_21, LO_22, LO_23, LO_30, LO_31, LO_32, LO_33]
  simp only [e2, e3, z20, z21, z30, z31]
  grind
theorem tr13_0 {w : Mi} (r0 : w 0 0 + w 0 1 + w 0 2 + w 0 3 = 4) (r2 : w 2 0 + w 2 1 + w 2 2 + w 2 3 = 4) (r3 : w 3 0 + w 3 1 + w 3 2 + w 3 3 = 4) (z01 : w 0 1 = 0) (z21 : w 2 1 = 0) (z31 : w 3 1 = 0) : xI (LO w) 12 * w 0 0 + xI (LO w) 9 * w 2 0 + xI (LO w) 5 * w 3 0 = 4 * xI (LO w) 12 := by
  have e0 : w 0 0 = 4 - w 0 1 - w 0 2 - w 0 3 := by omega
  have e2 : w 2 2 = 4 - w 2 0 - w 2 1 - w 2 3 := by omega
  have e3 : w 3 3 = 4 - w 3 0 - w 3 1 - w 3 2 := by omega
  simp only [xI_12, xI_5, xI_9, LO_00, LO_01, LO_02, LO_03, LO_10, LO_11, LO_12, LO_13, LO_20, LO_21, LO_22, LO_23, LO_30, LO_31, LO_32, LO_33]
  simp only [e0, e2, e3, z01, z21, z31]
  grind
theorem tr13_2 {w : Mi} (r0 : w 0 0 + w 0 1 + w 0 2 + w 0 3 = 4) (r2 : w 2 0 + w 2 1 + w 2 2 + w 2 3 = 4) (r3 : w 3 0 + w 3 1 + w 3 2 + w 3 3 = 4) (z01 : w 0 1 = 0) (z21 : w 2 1 = 0) (z31 : w 3 1 = 0) : xI (LO w) 12 * w 0 2 + xI (LO w) 9 * w 2 2 + xI (LO w) 5 * w 3 2 = 4 * xI (LO w) 9 := by
  have e0 : w 0 0 = 4 - w 0 1 - w 0 2 - w 0 3 := by omega
  have e2 : w 2 2 = 4 - w 2 0 - w 2 1 - w 2 3 := by omega
  have e3 : w 3 3 = 4 - w 3 0 - w 3 1 - w 3 2 := by omega
  simp only [xI_12, xI_5, xI_9, LO_00, LO_01, LO_02, LO_03, LO_10, LO_11, LO_12, LO_13, LO_20, LO_21, LO_22, LO_23, LO_30, LO_31, LO_32, LO_33]
  simp only [e0, e2, e3, z01, z21, z31]
  grind
theorem tr13_3 {w : Mi} (r0 : w 0 0 + w 0 1 + w 0 2 + w 0 3 = 4) (r2 : w 2 0 + w 2 1 + w 2 2 + w 2 3 = 4) (r3 : w 3 0 + w 3 1 + w 3 2 + w 3 3 = 4) (z01 : w 0 1 = 0) (z21 : w 2 1 = 0) (z31 : w 3 1 = 0) : xI (LO w) 12 * w 0 3 + xI (LO w) 9 * w 2 3 + xI (LO w) 5 * w 3 3 = 4 * xI (LO w) 5 := by
  have e0 : w 0 0 = 4 - w 0 1 - w 0 2 - w 0 3 := by omega
  have e2 : w 2 2 = 4 - w 2 0 - w 2 1 - w 2 3 := by omega
  have e3 : w 3 3 = 4 - w 3 0 - w 3 1 - w 3 2 := by omega
  simp only [xI_12, xI_5, xI_9, LO_00, LO_01, LO_02, LO_03, LO_10, LO_11, LO_12, LO_13, LO_20, LO_21, LO_22, LO_23, LO_30, LO_31, LO_32, LO_33]
  simp only [e0, e2, e3, z01, z21, z31]
  grind
theorem tr14_1 {w : Mi} (r1 : w 1 0 + w 1 1 + w 1 2 + w 1 3 = 4) (r2 : w 2 0 + w 2 1 + w 2 2 + w 2 3 = 4) (r3 : w 3 0 + w 3 1 + w 3 2 + w 3 3 = 4) (z10 : w 1 0 = 0) (z20 : w 2 0 = 0) (z30 : w 3 0 = 0) : xI (LO w) 12 * w 1 1 + xI (LO w) 10 * w 2 1 + xI (LO w) 6 * w 3 1 = 4 * xI (LO w) 12 := by
  have e1 : w 1 1 = 4 - w 1 0 - w 1 2 - w 1 3 := by omega
  have e2 : w 2 2 = 4 - w 2 0 - w 2 1 - w 2 3 := by omega
  have e3 : w 3 3 = 4 - w 3 0 - w 3 1 - w 3 2 := by omega
  simp only [xI_10, xI_12, xI_6, LO_00, LO_01, LO_02, LO_03, LO_10, LO_11, LO_12, LO_13, LO_20, LO_21, LO_22, LO_23, LO_30, LO_31, LO_32, LO_33]
  simp only [e1, e2, e3, z10, z20, z30]
  grind
theorem tr14_2 {w : Mi} (r1 : w 1 0 + w 1 1 + w 1 2 + w 1 3 = 4) (r2 : w 2 0 + w 2 1 + w 2 2 + w 2 3 = 4) (r3 : w 3 0 + w 3 1 + w 3 2 + w 3 3 = 4) (z10 : w 1 0 = 0) (z20 : w 2 0 = 0) (z30 : w 3 0 = 0) : xI (LO w) 12 * w 1 2 + xI (LO w) 10 * w 2 2 + xI (LO w) 6 * w 3 2 = 4 * xI (LO w) 10 := by
  have e1 : w 1 1 = 4 - w 1 0 - w 1 2 - w 1 3 := by omega
  have e2 : w 2 2 = 4 - w 2 0 - w 2 1 - w 2 3 := by omega
  have e3 : w 3 3 = 4 - w 3 0 - w 3 1 - w 3 2 := by omega
  simp only [xI_10, xI_12, xI_6, LO_00, LO_01, LO_02, LO_03, LO_10, LO_11, LO_12, LO_13, LO_20, LO_21, LO_22, LO_23, LO_30, LO_31, LO_32, LO_33]
  simp only [e1, e2, e3, z10, z20, z30]
  grind
theorem tr14_3 {w : Mi} (r1 : w 1 0 + w 1 1 + w 1 2 + w 1 3 = 4) (r2 : w 2 0 + w 2 1 + w 2 2 + w 2 3 = 4) (r3 : w 3 0 + w 3 1 + w 3 2 + w 3 3 = 4) (z10 : w 1 0 = 0) (z20 : w 2 0 = 0) (z30 : w 3 0 = 0) : xI (LO w) 12 * w 1 3 + xI (LO w) 10 * w 2 3 + xI (LO w) 6 * w 3 3 = 4 * xI (LO w) 6 := by
  have e1 : w 1 1 = 4 - w 1 0 - w 1 2 - w 1 3 := by omega
  have e2 : w 2 2 = 4 - w 2 0 - w 2 1 - w 2 3 := by omega
  have e3 : w 3 3 = 4 - w 3 0 - w 3 1 - w 3 2 := by omega
  simp only [xI_10, xI_12, xI_6, LO_00, LO_01, LO_02, LO_03, LO_10, LO_11, LO_12, LO_13, LO_20, LO_21, LO_22, LO_23, LO_30, LO_31, LO_32, LO_33]
  simp only [e1, e2, e3, z10, z20, z30]
  grind
theorem tr15_0 {w : Mi} (r0 : w 0 0 + w 0 1 + w 0 2 + w 0 3 = 4) (r1 : w 1 0 + w 1 1 + w 1 2 + w 1 3 = 4) (r2 : w 2 0 + w 2 1 + w 2 2 + w 2 3 = 4) (r3 : w 3 0 + w 3 1 + w 3 2 + w 3 3 = 4)  : xI (LO w) 14 * w 0 0 + xI (LO w) 13 * w 1 0 + xI (LO w) 11 * w 2 0 + xI (LO w) 7 * w 3 0 = 4 * xI (LO w) 14 := by
  have e0 : w 0 0 = 4 - w 0 1 - w 0 2 - w 0 3 := by omega
  have e1 : w 1 1 = 4 - w 1 0 - w 1 2 - w 1 3 := by omega
  have e2 : w 2 2 = 4 - w 2 0 - w 2 1 - w 2 3 := by omega
  have e3 : w 3 3 = 4 - w 3 0 - w 3 1 - w 3 2 := by omega
  simp only [xI_11, xI_13, xI_14, xI_7, LO_00, LO_01, LO_02, LO_03, LO_10, LO_11, LO_12, LO_13, LO_20, LO_21, LO_22, LO_23, LO_30, LO_31, LO_32, LO_33]
  simp only [e0, e1, e2, e3]
  grind
theorem tr15_1 {w : Mi} (r0 : w 0 0 + w 0 1 + w 0 2 + w 0 3 = 4) (r1 : w 1 0 + w 1 1 + w 1 2 + w 1 3 = 4) (r2 : w 2 0 + w 2 1 + w 2 2 + w 2 3 = 4) (r3 : w 3 0 + w 3 1 + w 3 2 + w 3 3 = 4)  : xI (LO w) 14 * w 0 1 + xI (LO w) 13 * w 1 1 + xI (LO w) 11 * w 2 1 + xI (LO w) 7 * w 3 1 = 4 * xI (LO w) 13 := by
  have e0 : w 0 0 = 4 - w 0 1 - w 0 2 - w 0 3 := by omega
  have e1 : w 1 1 = 4 - w 1 0 - w 1 2 - w 1 3 := by omega
  have e2 : w 2 2 = 4 - w 2 0 - w 2 1 - w 2 3 := by omega
  have e3 : w 3 3 = 4 - w 3 0 - w 3 1 - w 3 2 := by omega
  simp only [xI_11, xI_13, xI_14, xI_7, LO_00, LO_01, LO_02, LO_03, LO_10, LO_11, LO_12, LO_13, LO_20, LO_21, LO_22, LO_23, LO_30, LO_31, LO_32, LO_33]
  simp only [e0, e1, e2, e3]
  grind
theorem tr15_2 {w : Mi} (r0 : w 0 0 + w 0 1 + w 0 2 + w 0 3 = 4) (r1 : w 1 0 + w 1 1 + w 1 2 + w 1 3 = 4) (r2 : w 2 0 + w 2 1 + w 2 2 + w 2 3 = 4) (r3 : w 3 0 + w 3 1 + w 3 2 + w 3 3 = 4)  : xI (LO w) 14 * w 0 2 + xI (LO w) 13 * w 1 2 + xI (LO w) 11 * w 2 2 + xI (LO w) 7 * w 3 2 = 4 * xI (LO w) 11 := by
  have e0 : w 0 0 = 4 - w 0 1 - w 0 2 - w 0 3 := by omega
  have e1 : w 1 1 = 4 - w 1 0 - w 1 2 - w 1 3 := by omega
  have e2 : w 2 2 = 4 - w 2 0 - w 2 1 - w 2 3 := by omega
  have e3 : w 3 3 = 4 - w 3 0 - w 3 1 - w 3 2 := by omega
  simp only [xI_11, xI_13, xI_14, xI_7, LO_00, LO_01, LO_02, LO_03, LO_10, LO_11, LO_12, LO_13, LO_20, LO_21, LO_22, LO_23, LO_30, LO_31, LO_32, LO_33]
  simp only [e0, e1, e2, e3]
  grind
theorem tr15_3 {w : Mi} (r0 : w 0 0 + w 0 1 + w 0 2 + w 0 3 = 4) (r1 : w 1 0 + w 1 1 + w 1 2 + w 1 3 = 4) (r2 : w 2 0 + w 2 1 + w 2 2 + w 2 3 = 4) (r3 : w 3 0 + w 3 1 + w 3 2 + w 3 3 = 4)  : xI (LO w) 14 * w 0 3 + xI (LO w) 13 * w 1 3 + xI (LO w) 11 * w 2 3 + xI (LO w) 7 * w 3 3 = 4 * xI (LO w) 7 := by
  have e0 : w 0 0 = 4 - w 0 1 - w 0 2 - w 0 3 := by omega
  have e1 : w 1 1 = 4 - w 1 0 - w 1 2 - w 1 3 := by omega
  have e2 : w 2 2 = 4 - w 2 0 - w 2 1 - w 2 3 := by omega
  have e3 : w 3 3 = 4 - w 3 0 - w 3 1 - w 3 2 := by omega
  simp only [xI_11, xI_13, xI_14, xI_7, LO_00, LO_01, LO_02, LO_03, LO_10, LO_11, LO_12, LO_13, LO_20, LO_21, LO_22, LO_23, LO_30, LO_31, LO_32, LO_33]
  simp only [e0, e1, e2, e3]
  grind

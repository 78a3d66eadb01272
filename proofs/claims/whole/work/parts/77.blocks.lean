/-! the reference's square of flows is the class's, turned and cut -/
def SI (E : Mi) (v a b : Nat) : Int := E (ixn v 4 a) (ixn v 4 b)
def k4 : Nat → Int
  | 4 => 1
  | 3 => 4
  | 2 => 16
  | _ => 64
theorem m4_e (O : Mi) : m4 O 3 3 = O 3 3 * (O 2 2 * (O 0 0 * O 1 1 - O 0 1 * O 1 0) - O 2 1 * (O 0 0 * O 1 2 - O 0 2 * O 1 0) + O 2 0 * (O 0 1 * O 1 2 - O 0 2 * O 1 1)) - O 3 2 * (O 2 3 * (O 0 0 * O 1 1 - O 0 1 * O 1 0) - O 2 1 * (O 0 0 * O 1 3 - O 0 3 * O 1 0) + O 2 0 * (O 0 1 * O 1 3 - O 0 3 * O 1 1)) + O 3 1 * (O 2 3 * (O 0 0 * O 1 2 - O 0 2 * O 1 0) - O 2 2 * (O 0 0 * O 1 3 - O 0 3 * O 1 0) + O 2 0 * (O 0 2 * O 1 3 - O 0 3 * O 1 2)) - O 3 0 * (O 2 3 * (O 0 1 * O 1 2 - O 0 2 * O 1 1) - O 2 2 * (O 0 1 * O 1 3 - O 0 3 * O 1 1) + O 2 1 * (O 0 2 * O 1 3 - O 0 3 * O 1 2)) := rfl
theorem m3_e (O : Mi) : m3 O 2 2 = O 2 2 * (O 0 0 * O 1 1 - O 0 1 * O 1 0) - O 2 1 * (O 0 0 * O 1 2 - O 0 2 * O 1 0) + O 2 0 * (O 0 1 * O 1 2 - O 0 2 * O 1 1) := rfl
theorem m2_e (O : Mi) : m2 O 1 1 = O 1 1 * O 0 0 - O 1 0 * O 0 1 := rfl
theorem blk1 {E F : Mi} (h : ∀ i j, i < 4 → j < 4 → F i j = if Nat.testBit 1 i = true ∧ Nat.testBit 1 j = true then E j i else if i = j then 4 else 0) : m4 F 3 3 = 64 * lv (SI E 1) 0 0 0 := by
  have h00 : F 0 0 = E 0 0 := h 0 0 (by omega) (by omega)
  have h01 : F 0 1 = 0 := h 0 1 (by omega) (by omega)
  have h02 : F 0 2 = 0 := h 0 2 (by omega) (by omega)
  have h03 : F 0 3 = 0 := h 0 3 (by omega) (by omega)
  have h10 : F 1 0 = 0 := h 1 0 (by omega) (by omega)
  have h11 : F 1 1 = 4 := h 1 1 (by omega) (by omega)
  have h12 : F 1 2 = 0 := h 1 2 (by omega) (by omega)
  have h13 : F 1 3 = 0 := h 1 3 (by omega) (by omega)
  have h20 : F 2 0 = 0 := h 2 0 (by omega) (by omega)
  have h21 : F 2 1 = 0 := h 2 1 (by omega) (by omega)
  have h22 : F 2 2 = 4 := h 2 2 (by omega) (by omega)
  have h23 : F 2 3 = 0 := h 2 3 (by omega) (by omega)
  have h30 : F 3 0 = 0 := h 3 0 (by omega) (by omega)
  have h31 : F 3 1 = 0 := h 3 1 (by omega) (by omega)
  have h32 : F 3 2 = 0 := h 3 2 (by omega) (by omega)
  have h33 : F 3 3 = 4 := h 3 3 (by omega) (by omega)
  show m4 F 3 3 = 64 * SI E 1 0 0
  have s00 : SI E 1 0 0 = E 0 0 := rfl
  rw [m4_e F]
  simp only [h00, h01, h02, h03, h10, h11, h12, h13, h20, h21, h22, h23, h30, h31, h32, h33, s00]
  grind
theorem blk2 {E F : Mi} (h : ∀ i j, i < 4 → j < 4 → F i j = if Nat.testBit 2 i = true ∧ Nat.testBit 2 j = true then E j i else if i = j then 4 else 0) : m4 F 3 3 = 64 * lv (SI E 2) 0 0 0 := by
  have h00 : F 0 0 = 4 := h 0 0 (by omega) (by omega)
  have h01 : F 0 1 = 0 := h 0 1 (by omega) (by omega)
  have h02 : F 0 2 = 0 := h 0 2 (by omega) (by omega)
  have h03 : F 0 3 = 0 := h 0 3 (by omega) (by omega)
  have h10 : F 1 0 = 0 := h 1 0 (by omega) (by omega)
  have h11 : F 1 1 = E 1 1 := h 1 1 (by omega) (by omega)
  have h12 : F 1 2 = 0 := h 1 2 (by omega) (by omega)
  have h13 : F 1 3 = 0 := h 1 3 (by omega) (by omega)
  have h20 : F 2 0 = 0 := h 2 0 (by omega) (by omega)
  have h21 : F 2 1 = 0 := h 2 1 (by omega) (by omega)
  have h22 : F 2 2 = 4 := h 2 2 (by omega) (by omega)
  have h23 : F 2 3 = 0 := h 2 3 (by omega) (by omega)
  have h30 : F 3 0 = 0 := h 3 0 (by omega) (by omega)
  have h31 : F 3 1 = 0 := h 3 1 (by omega) (by omega)
  have h32 : F 3 2 = 0 := h 3 2 (by omega) (by omega)
  have h33 : F 3 3 = 4 := h 3 3 (by omega) (by omega)
  show m4 F 3 3 = 64 * SI E 2 0 0
  have s00 : SI E 2 0 0 = E 1 1 := rfl
  rw [m4_e F]
  simp only [h00, h01, h02, h03, h10, h11, h12, h13, h20, h21, h22, h23, h30, h31, h32, h33, s00]
  grind
theorem blk3 {E F : Mi} (h : ∀ i j, i < 4 → j < 4 → F i j = if Nat.testBit 3 i = true ∧ Nat.testBit 3 j = true then E j i else if i = j then 4 else 0) : m4 F 3 3 = 16 * lv (SI E 3) 1 1 1 := by
  have h00 : F 0 0 = E 0 0 := h 0 0 (by omega) (by omega)
  have h01 : F 0 1 = E 1 0 := h 0 1 (by omega) (by omega)
  have h02 : F 0 2 = 0 := h 0 2 (by omega) (by omega)
  have h03 : F 0 3 = 0 := h 0 3 (by omega) (by omega)
  have h10 : F 1 0 = E 0 1 := h 1 0 (by omega) (by omega)
  have h11 : F 1 1 = E 1 1 := h 1 1 (by omega) (by omega)
  have h12 : F 1 2 = 0 := h 1 2 (by omega) (by omega)
  have h13 : F 1 3 = 0 := h 1 3 (by omega) (by omega)
  have h20 : F 2 0 = 0 := h 2 0 (by omega) (by omega)
  have h21 : F 2 1 = 0 := h 2 1 (by omega) (by omega)
  have h22 : F 2 2 = 4 := h 2 2 (by omega) (by omega)
  have h23 : F 2 3 = 0 := h 2 3 (by omega) (by omega)
  have h30 : F 3 0 = 0 := h 3 0 (by omega) (by omega)
  have h31 : F 3 1 = 0 := h 3 1 (by omega) (by omega)
  have h32 : F 3 2 = 0 := h 3 2 (by omega) (by omega)
  have h33 : F 3 3 = 4 := h 3 3 (by omega) (by omega)
  show m4 F 3 3 = 16 * m2 (SI E 3) 1 1
  have s00 : SI E 3 0 0 = E 0 0 := rfl
  have s01 : SI E 3 0 1 = E 0 1 := rfl
  have s10 : SI E 3 1 0 = E 1 0 := rfl
  have s11 : SI E 3 1 1 = E 1 1 := rfl
  rw [m4_e F, m2_e (SI E 3)]
  simp only [h00, h01, h02, h03, h10, h11, h12, h13, h20, h21, h22, h23, h30, h31, h32, h33, s00, s01, s10, s11]
  grind
theorem blk4 {E F : Mi} (h : ∀ i j, i < 4 → j < 4 → F i j = if Nat.testBit 4 i = true ∧ Nat.testBit 4 j = true then E j i else if i = j then 4 else 0) : m4 F 3 3 = 64 * lv (SI E 4) 0 0 0 := by
  have h00 : F 0 0 = 4 := h 0 0 (by omega) (by omega)
  have h01 : F 0 1 = 0 := h 0 1 (by omega) (by omega)
  have h02 : F 0 2 = 0 := h 0 2 (by omega) (by omega)
  have h03 : F 0 3 = 0 := h 0 3 (by omega) (by omega)
  have h10 : F 1 0 = 0 := h 1 0 (by omega) (by omega)
  have h11 : F 1 1 = 4 := h 1 1 (by omega) (by omega)
  have h12 : F 1 2 = 0 := h 1 2 (by omega) (by omega)
  have h13 : F 1 3 = 0 := h 1 3 (by omega) (by omega)
  have h20 : F 2 0 = 0 := h 2 0 (by omega) (by omega)
  have h21 : F 2 1 = 0 := h 2 1 (by omega) (by omega)
  have h22 : F 2 2 = E 2 2 := h 2 2 (by omega) (by omega)
  have h23 : F 2 3 = 0 := h 2 3 (by omega) (by omega)
  have h30 : F 3 0 = 0 := h 3 0 (by omega) (by omega)
  have h31 : F 3 1 = 0 := h 3 1 (by omega) (by omega)
  have h32 : F 3 2 = 0 := h 3 2 (by omega) (by omega)
  have h33 : F 3 3 = 4 := h 3 3 (by omega) (by omega)
  show m4 F 3 3 = 64 * SI E 4 0 0
  have s00 : SI E 4 0 0 = E 2 2 := rfl
  rw [m4_e F]
  simp only [h00, h01, h02, h03, h10, h11, h12, h13, h20, h21, h22, h23, h30, h31, h32, h33, s00]
  grind
theorem blk5 {E F : Mi} (h : ∀ i j, i < 4 → j < 4 → F i j = if Nat.testBit 5 i = true ∧ Nat.testBit 5 j = true then E j i else if i = j then 4 else 0) : m4 F 3 3 = 16 * lv (SI E 5) 1 1 1 := by
  have h00 : F 0 0 = E 0 0 := h 0 0 (by omega) (by omega)
  have h01 : F 0 1 = 0 := h 0 1 (by omega) (by omega)
  have h02 : F 0 2 = E 2 0 := h 0 2 (by omega) (by omega)
  have h03 : F 0 3 = 0 := h 0 3 (by omega) (by omega)
  have h10 : F 1 0 = 0 := h 1 0 (by omega) (by omega)
  have h11 : F 1 1 = 4 := h 1 1 (by omega) (by omega)
  have h12 : F 1 2 = 0 := h 1 2 (by omega) (by omega)
  have h13 : F 1 3 = 0 := h 1 3 (by omega) (by omega)
  have h20 : F 2 0 = E 0 2 := h 2 0 (by omega) (by omega)
  have h21 : F 2 1 = 0 := h 2 1 (by omega) (by omega)
  have h22 : F 2 2 = E 2 2 := h 2 2 (by omega) (by omega)
  have h23 : F 2 3 = 0 := h 2 3 (by omega) (by omega)
  have h30 : F 3 0 = 0 := h 3 0 (by omega) (by omega)
  have h31 : F 3 1 = 0 := h 3 1 (by omega) (by omega)
  have h32 : F 3 2 = 0 := h 3 2 (by omega) (by omega)
  have h33 : F 3 3 = 4 := h 3 3 (by omega) (by omega)
  show m4 F 3 3 = 16 * m2 (SI E 5) 1 1
  have s00 : SI E 5 0 0 = E 0 0 := rfl
  have s01 : SI E 5 0 1 = E 0 2 := rfl
  have s10 : SI E 5 1 0 = E 2 0 := rfl
  have s11 : SI E 5 1 1 = E 2 2 := rfl
  rw [m4_e F, m2_e (SI E 5)]
  simp only [h00, h01, h02, h03, h10, h11, h12, h13, h20, h21, h22, h23, h30, h31, h32, h33, s00, s01, s10, s11]
  grind
theorem blk6 {E F : Mi} (h : ∀ i j, i < 4 → j < 4 → F i j = if Nat.testBit 6 i = true ∧ Nat.testBit 6 j = true then E j i else if i = j then 4 else 0) : m4 F 3 3 = 16 * lv (SI E 6) 1 1 1 := by
  have h00 : F 0 0 = 4 := h 0 0 (by omega) (by omega)
  have h01 : F 0 1 = 0 := h 0 1 (by omega) (by omega)
  have h02 : F 0 2 = 0 := h 0 2 (by omega) (by omega)
  have h03 : F 0 3 = 0 := h 0 3 (by omega) (by omega)
  have h10 : F 1 0 = 0 := h 1 0 (by omega) (by omega)
  have h11 : F 1 1 = E 1 1 := h 1 1 (by omega) (by omega)
  have h12 : F 1 2 = E 2 1 := h 1 2 (by omega) (by omega)
  have h13 : F 1 3 = 0 := h 1 3 (by omega) (by omega)
  have h20 : F 2 0 = 0 := h 2 0 (by omega) (by omega)
  have h21 : F 2 1 = E 1 2 := h 2 1 (by omega) (by omega)
  have h22 : F 2 2 = E 2 2 := h 2 2 (by omega) (by omega)
  have h23 : F 2 3 = 0 := h 2 3 (by omega) (by omega)
  have h30 : F 3 0 = 0 := h 3 0 (by omega) (by omega)
  have h31 : F 3 1 = 0 := h 3 1 (by omega) (by omega)
  have h32 : F 3 2 = 0 := h 3 2 (by omega) (by omega)
  have h33 : F 3 3 = 4 := h 3 3 (by omega) (by omega)
  show m4 F 3 3 = 16 * m2 (SI E 6) 1 1
  have s00 : SI E 6 0 0 = E 1 1 := rfl
  have s01 : SI E 6 0 1 = E 1 2 := rfl
  have s10 : SI E 6 1 0 = E 2 1 := rfl
  have s11 : SI E 6 1 1 = E 2 2 := rfl
  rw [m4_e F, m2_e (SI E 6)]
  simp only [h00, h01, h02, h03, h10, h11, h12, h13, h20, h21, h22, h23, h30, h31, h32, h33, s00, s01, s10, s11]
  grind
theorem blk7 {E F : Mi} (h : ∀ i j, i < 4 → j < 4 → F i j = if Nat.testBit 7 i = true ∧ Nat.testBit 7 j = true then E j i else if i = j then 4 else 0) : m4 F 3 3 = 4 * lv (SI E 7) 2 2 2 := by
  have h00 : F 0 0 = E 0 0 := h 0 0 (by omega) (by omega)
  have h01 : F 0 1 = E 1 0 := h 0 1 (by omega) (by omega)
  have h02 : F 0 2 = E 2 0 := h 0 2 (by omega) (by omega)
  have h03 : F 0 3 = 0 := h 0 3 (by omega) (by omega)
  have h10 : F 1 0 = E 0 1 := h 1 0 (by omega) (by omega)
  have h11 : F 1 1 = E 1 1 := h 1 1 (by omega) (by omega)
  have h12 : F 1 2 = E 2 1 := h 1 2 (by omega) (by omega)
  have h13 : F 1 3 = 0 := h 1 3 (by omega) (by omega)
  have h20 : F 2 0 = E 0 2 := h 2 0 (by omega) (by omega)
  have h21 : F 2 1 = E 1 2 := h 2 1 (by omega) (by omega)
  have h22 : F 2 2 = E 2 2 := h 2 2 (by omega) (by omega)
  have h23 : F 2 3 = 0 := h 2 3 (by omega) (by omega)
  have h30 : F 3 0 = 0 := h 3 0 (by omega) (by omega)
  have h31 : F 3 1 = 0 := h 3 1 (by omega) (by omega)
  have h32 : F 3 2 = 0 := h 3 2 (by omega) (by omega)
  have h33 : F 3 3 = 4 := h 3 3 (by omega) (by omega)
  show m4 F 3 3 = 4 * m3 (SI E 7) 2 2
  have s00 : SI E 7 0 0 = E 0 0 := rfl
  have s01 : SI E 7 0 1 = E 0 1 := rfl
  have s02 : SI E 7 0 2 = E 0 2 := rfl
  have s10 : SI E 7 1 0 = E 1 0 := rfl
  have s11 : SI E 7 1 1 = E 1 1 := rfl
  have s12 : SI E 7 1 2 = E 1 2 := rfl
  have s20 : SI E 7 2 0 = E 2 0 := rfl
  have s21 : SI E 7 2 1 = E 2 1 := rfl
  have s22 : SI E 7 2 2 = E 2 2 := rfl
  rw [m4_e F, m3_e (SI E 7)]
  simp only [h00, h01, h02, h03, h10, h11, h12, h13, h20, h21, h22, h23, h30, h31, h32, h33, s00, s01, s02, s10, s11, s12, s20, s21, s22]
  grind
theorem blk8 {E F : Mi} (h : ∀ i j, i < 4 → j < 4 → F i j = if Nat.testBit 8 i = true ∧ Nat.testBit 8 j = true then E j i else if i = j then 4 else 0) : m4 F 3 3 = 64 * lv (SI E 8) 0 0 0 := by
  have h00 : F 0 0 = 4 := h 0 0 (by omega) (by omega)
  have h01 : F 0 1 = 0 := h 0 1 (by omega) (by omega)
  have h02 : F 0 2 = 0 := h 0 2 (by omega) (by omega)
  have h03 : F 0 3 = 0 := h 0 3 (by omega) (by omega)
  have h10 : F 1 0 = 0 := h 1 0 (by omega) (by omega)
  have h11 : F 1 1 = 4 := h 1 1 (by omega) (by omega)
  have h12 : F 1 2 = 0 := h 1 2 (by omega) (by omega)
  have h13 : F 1 3 = 0 := h 1 3 (by omega) (by omega)
  have h20 : F 2 0 = 0 := h 2 0 (by omega) (by omega)
  have h21 : F 2 1 = 0 := h 2 1 (by omega) (by omega)
  have h22 : F 2 2 = 4 := h 2 2 (by omega) (by omega)
  have h23 : F 2 3 = 0 := h 2 3 (by omega) (by omega)
  have h30 : F 3 0 = 0 := h 3 0 (by omega) (by omega)
  have h31 : F 3 1 = 0 := h 3 1 (by omega) (by omega)
  have h32 : F 3 2 = 0 := h 3 2 (by omega) (by omega)
  have h33 : F 3 3 = E 3 3 := h 3 3 (by omega) (by omega)
  show m4 F 3 3 = 64 * SI E 8 0 0
  have s00 : SI E 8 0 0 = E 3 3 := rfl
  rw [m4_e F]
  simp only [h00, h01, h02, h03, h10, h11, h12, h13, h20, h21, h22, h23, h30, h31, h32, h33, s00]
  grind
theorem blk9 {E F : Mi} (h : ∀ i j, i < 4 → j < 4 → F i j = if Nat.testBit 9 i = true ∧ Nat.testBit 9 j = true then E j i else if i = j then 4 else 0) : m4 F 3 3 = 16 * lv (SI E 9) 1 1 1 := by
  have h00 : F 0 0 = E 0 0 := h 0 0 (by omega) (by omega)
  have h01 : F 0 1 = 0 := h 0 1 (by omega) (by omega)
  have h02 : F 0 2 = 0 := h 0 2 (by omega) (by omega)
  have h03 : F 0 3 = E 3 0 := h 0 3 (by omega) (by omega)
  have h10 : F 1 0 = 0 := h 1 0 (by omega) (by omega)
  have h11 : F 1 1 = 4 := h 1 1 (by omega) (by omega)
  have h12 : F 1 2 = 0 := h 1 2 (by omega) (by omega)
  have h13 : F 1 3 = 0 := h 1 3 (by omega) (by omega)
  have h20 : F 2 0 = 0 := h 2 0 (by omega) (by omega)
  have h21 : F 2 1 = 0 := h 2 1 (by omega) (by omega)
  have h22 : F 2 2 = 4 := h 2 2 (by omega) (by omega)
  have h23 : F 2 3 = 0 := h 2 3 (by omega) (by omega)
  have h30 : F 3 0 = E 0 3 := h 3 0 (by omega) (by omega)
  have h31 : F 3 1 = 0 := h 3 1 (by omega) (by omega)
  have h32 : F 3 2 = 0 := h 3 2 (by omega) (by omega)
  have h33 : F 3 3 = E 3 3 := h 3 3 (by omega) (by omega)
  show m4 F 3 3 = 16 * m2 (SI E 9) 1 1
  have s00 : SI E 9 0 0 = E 0 0 := rfl
  have s01 : SI E 9 0 1 = E 0 3 := rfl
  have s10 : SI E 9 1 0 = E 3 0 := rfl
  have s11 : SI E 9 1 1 = E 3 3 := rfl
  rw [m4_e F, m2_e (SI E 9)]
  simp only [h00, h01, h02, h03, h10, h11, h12, h13, h20, h21, h22, h23, h30, h31, h32, h33, s00, s01, s10, s11]
  grind
theorem blk10 {E F : Mi} (h : ∀ i j, i < 4 → j < 4 → F i j = if Nat.testBit 10 i = true ∧ Nat.testBit 10 j = true then E j i else if i = j then 4 else 0) : m4 F 3 3 = 16 * lv (SI E 10) 1 1 1 := by
  have h00 : F 0 0 = 4 := h 0 0 (by omega) (by omega)
  have h01 : F 0 1 = 0 := h 0 1 (by omega) (by omega)
  have h02 : F 0 2 = 0 := h 0 2 (by omega) (by omega)
  have h03 : F 0 3 = 0 := h 0 3 (by omega) (by omega)
  have h10 : F 1 0 = 0 := h 1 0 (by omega) (by omega)
  have h11 : F 1 1 = E 1 1 := h 1 1 (by omega) (by omega)
  have h12 : F 1 2 = 0 := h 1 2 (by omega) (by omega)
  have h13 : F 1 3 = E 3 1 := h 1 3 (by omega) (by omega)
  have h20 : F 2 0 = 0 := h 2 0 (by omega) (by omega)
  have h21 : F 2 1 = 0 := h 2 1 (by omega) (by omega)
  have h22 : F 2 2 = 4 := h 2 2 (by omega) (by omega)
  have h23 : F 2 3 = 0 := h 2 3 (by omega) (by omega)
  have h30 : F 3 0 = 0 := h 3 0 (by omega) (by omega)
  have h31 : F 3 1 = E 1 3 := h 3 1 (by omega) (by omega)
  have h32 : F 3 2 = 0 := h 3 2 (by omega) (by omega)
  have h33 : F 3 3 = E 3 3 := h 3 3 (by omega) (by omega)
  show m4 F 3 3 = 16 * m2 (SI E 10) 1 1
  have s00 : SI E 10 0 0 = E 1 1 := rfl
  have s01 : SI E 10 0 1 = E 1 3 := rfl
  have s10 : SI E 10 1 0 = E 3 1 := rfl
  have s11 : SI E 10 1 1 = E 3 3 := rfl
  rw [m4_e F, m2_e (SI E 10)]
  simp only [h00, h01, h02, h03, h10, h11, h12, h13, h20, h21, h22, h23, h30, h31, h32, h33, s00, s01, s10, s11]
  grind
theorem blk11 {E F : Mi} (h : ∀ i j, i < 4 → j < 4 → F i j = if Nat.testBit 11 i = true ∧ Nat.testBit 11 j = true then E j i else if i = j then 4 else 0) : m4 F 3 3 = 4 * lv (SI E 11) 2 2 2 := by
  have h00 : F 0 0 = E 0 0 := h 0 0 (by omega) (by omega)
  have h01 : F 0 1 = E 1 0 := h 0 1 (by omega) (by omega)
  have h02 : F 0 2 = 0 := h 0 2 (by omega) (by omega)
  have h03 : F 0 3 = E 3 0 := h 0 3 (by omega) (by omega)
  have h10 : F 1 0 = E 0 1 := h 1 0 (by omega) (by omega)
  have h11 : F 1 1 = E 1 1 := h 1 1 (by omega) (by omega)
  have h12 : F 1 2 = 0 := h 1 2 (by omega) (by omega)
  have h13 : F 1 3 = E 3 1 := h 1 3 (by omega) (by omega)
  have h20 : F 2 0 = 0 := h 2 0 (by omega) (by omega)
  have h21 : F 2 1 = 0 := h 2 1 (by omega) (by omega)
  have h22 : F 2 2 = 4 := h 2 2 (by omega) (by omega)
  have h23 : F 2 3 = 0 := h 2 3 (by omega) (by omega)
  have h30 : F 3 0 = E 0 3 := h 3 0 (by omega) (by omega)
  have h31 : F 3 1 = E 1 3 := h 3 1 (by omega) (by omega)
  have h32 : F 3 2 = 0 := h 3 2 (by omega) (by omega)
  have h33 : F 3 3 = E 3 3 := h 3 3 (by omega) (by omega)
  show m4 F 3 3 = 4 * m3 (SI E 11) 2 2
  have s00 : SI E 11 0 0 = E 0 0 := rfl
  have s01 : SI E 11 0 1 = E 0 1 := rfl
  have s02 : SI E 11 0 2 = E 0 3 := rfl
  have s10 : SI E 11 1 0 = E 1 0 := rfl
  have s11 : SI E 11 1 1 = E 1 1 := rfl
  have s12 : SI E 11 1 2 = E 1 3 := rfl
  have s20 : SI E 11 2 0 = E 3 0 := rfl
  have s21 : SI E 11 2 1 = E 3 1 := rfl
  have s22 : SI E 11 2 2 = E 3 3 := rfl
  rw [m4_e F, m3_e (SI E 11)]
  simp only [h00, h01, h02, h03, h10, h11, h12, h13, h20, h21, h22, h23, h30, h31, h32, h33, s00, s01, s02, s10, s11, s12, s20, s21, s22]
  grind
theorem blk12 {E F : Mi} (h : ∀ i j, i < 4 → j < 4 → F i j = if Nat.testBit 12 i = true ∧ Nat.testBit 12 j = true then E j i else if i = j then 4 else 0) : m4 F 3 3 = 16 * lv (SI E 12) 1 1 1 := by
  have h00 : F 0 0 = 4 := h 0 0 (by omega) (by omega)
  have h01 : F 0 1 = 0 := h 0 1 (by omega) (by omega)
  have h02 : F 0 2 = 0 := h 0 2 (by omega) (by omega)
  have h03 : F 0 3 = 0 := h 0 3 (by omega) (by omega)
  have h10 : F 1 0 = 0 := h 1 0 (by omega) (by omega)
  have h11 : F 1 1 = 4 := h 1 1 (by omega) (by omega)
  have h12 : F 1 2 = 0 := h 1 2 (by omega) (by omega)
  have h13 : F 1 3 = 0 := h 1 3 (by omega) (by omega)
  have h20 : F 2 0 = 0 := h 2 0 (by omega) (by omega)
  have h21 : F 2 1 = 0 := h 2 1 (by omega) (by omega)
  have h22 : F 2 2 = E 2 2 := h 2 2 (by omega) (by omega)
  have h23 : F 2 3 = E 3 2 := h 2 3 (by omega) (by omega)
  have h30 : F 3 0 = 0 := h 3 0 (by omega) (by omega)
  have h31 : F 3 1 = 0 := h 3 1 (by omega) (by omega)
  have h32 : F 3 2 = E 2 3 := h 3 2 (by omega) (by omega)
  have h33 : F 3 3 = E 3 3 := h 3 3 (by omega) (by omega)
  show m4 F 3 3 = 16 * m2 (SI E 12) 1 1
  have s00 : SI E 12 0 0 = E 2 2 := rfl
  have s01 : SI E 12 0 1 = E 2 3 := rfl
  have s10 : SI E 12 1 0 = E 3 2 := rfl
  have s11 : SI E 12 1 1 = E 3 3 := rfl
  rw [m4_e F, m2_e (SI E 12)]
  simp only [h00, h01, h02, h03, h10, h11, h12, h13, h20, h21, h22, h23, h30, h31, h32, h33, s00, s01, s10, s11]
  grind
theorem blk13 {E F : Mi} (h : ∀ i j, i < 4 → j < 4 → F i j = if Nat.testBit 13 i = true ∧ Nat.testBit 13 j = true then E j i else if i = j then 4 else 0) : m4 F 3 3 = 4 * lv (SI E 13) 2 2 2 := by
  have h00 : F 0 0 = E 0 0 := h 0 0 (by omega) (by omega)
  have h01 : F 0 1 = 0 := h 0 1 (by omega) (by omega)
  have h02 : F 0 2 = E 2 0 := h 0 2 (by omega) (by omega)
  have h03 : F 0 3 = E 3 0 := h 0 3 (by omega) (by omega)
  have h10 : F 1 0 = 0 := h 1 0 (by omega) (by omega)
  have h11 : F 1 1 = 4 := h 1 1 (by omega) (by omega)
  have h12 : F 1 2 = 0 := h 1 2 (by omega) (by omega)
  have h13 : F 1 3 = 0 := h 1 3 (by omega) (by omega)
  have h20 : F 2 0 = E 0 2 := h 2 0 (by omega) (by omega)
  have h21 : F 2 1 = 0 := h 2 1 (by omega) (by omega)
  have h22 : F 2 2 = E 2 2 := h 2 2 (by omega) (by omega)
  have h23 : F 2 3 = E 3 2 := h 2 3 (by omega) (by omega)
  have h30 : F 3 0 = E 0 3 := h 3 0 (by omega) (by omega)
  have h31 : F 3 1 = 0 := h 3 1 (by omega) (by omega)
  have h32 : F 3 2 = E 2 3 := h 3 2 (by omega) (by omega)
  have h33 : F 3 3 = E 3 3 := h 3 3 (by omega) (by omega)
  show m4 F 3 3 = 4 * m3 (SI E 13) 2 2
  have s00 : SI E 13 0 0 = E 0 0 := rfl
  have s01 : SI E 13 0 1 = E 0 2 := rfl
  have s02 : SI E 13 0 2 = E 0 3 := rfl
  have s10 : SI E 13 1 0 = E 2 0 := rfl
  have s11 : SI E 13 1 1 = E 2 2 := rfl
  have s12 : SI E 13 1 2 = E 2 3 := rfl
  have s20 : SI E 13 2 0 = E 3 0 := rfl
  have s21 : SI E 13 2 1 = E 3 2 := rfl
  have s22 : SI E 13 2 2 = E 3 3 := rfl
  rw [m4_e F, m3_e (SI E 13)]
  simp only [h00, h01, h02, h03, h10, h11, h12, h13, h20, h21, h22, h23, h30, h31, h32, h33, s00, s01, s02, s10, s11, s12, s20, s21, s22]
  grind
theorem blk14 {E F : Mi} (h : ∀ i j, i < 4 → j < 4 → F i j = if Nat.testBit 14 i = true ∧ Nat.testBit 14 j = true then E j i else if i = j then 4 else 0) : m4 F 3 3 = 4 * lv (SI E 14) 2 2 2 := by
  have h00 : F 0 0 = 4 := h 0 0 (by omega) (by omega)
  have h01 : F 0 1 = 0 := h 0 1 (by omega) (by omega)
  have h02 : F 0 2 = 0 := h 0 2 (by omega) (by omega)
  have h03 : F 0 3 = 0 := h 0 3 (by omega) (by omega)
  have h10 : F 1 0 = 0 := h 1 0 (by omega) (by omega)
  have h11 : F 1 1 = E 1 1 := h 1 1 (by omega) (by omega)
  have h12 : F 1 2 = E 2 1 := h 1 2 (by omega) (by omega)
  have h13 : F 1 3 = E 3 1 := h 1 3 (by omega) (by omega)
  have h20 : F 2 0 = 0 := h 2 0 (by omega) (by omega)
  have h21 : F 2 1 = E 1 2 := h 2 1 (by omega) (by omega)
  have h22 : F 2 2 = E 2 2 := h 2 2 (by omega) (by omega)
  have h23 : F 2 3 = E 3 2 := h 2 3 (by omega) (by omega)
  have h30 : F 3 0 = 0 := h 3 0 (by omega) (by omega)
  have h31 : F 3 1 = E 1 3 := h 3 1 (by omega) (by omega)
  have h32 : F 3 2 = E 2 3 := h 3 2 (by omega) (by omega)
  have h33 : F 3 3 = E 3 3 := h 3 3 (by omega) (by omega)
  show m4 F 3 3 = 4 * m3 (SI E 14) 2 2
  have s00 : SI E 14 0 0 = E 1 1 := rfl
  have s01 : SI E 14 0 1 = E 1 2 := rfl
  have s02 : SI E 14 0 2 = E 1 3 := rfl
  have s10 : SI E 14 1 0 = E 2 1 := rfl
  have s11 : SI E 14 1 1 = E 2 2 := rfl
  have s12 : SI E 14 1 2 = E 2 3 := rfl
  have s20 : SI E 14 2 0 = E 3 1 := rfl
  have s21 : SI E 14 2 1 = E 3 2 := rfl
  have s22 : SI E 14 2 2 = E 3 3 := rfl
  rw [m4_e F, m3_e (SI E 14)]
  simp only [h00, h01, h02, h03, h10, h11, h12, h13, h20, h21, h22, h23, h30, h31, h32, h33, s00, s01, s02, s10, s11, s12, s20, s21, s22]
  grind
theorem blk15 {E F : Mi} (h : ∀ i j, i < 4 → j < 4 → F i j = if Nat.testBit 15 i = true ∧ Nat.testBit 15 j = true then E j i else if i = j then 4 else 0) : m4 F 3 3 = 1 * lv (SI E 15) 3 3 3 := by
  have h00 : F 0 0 = E 0 0 := h 0 0 (by omega) (by omega)
  have h01 : F 0 1 = E 1 0 := h 0 1 (by omega) (by omega)
  have h02 : F 0 2 = E 2 0 := h 0 2 (by omega) (by omega)
  have h03 : F 0 3 = E 3 0 := h 0 3 (by omega) (by omega)
  have h10 : F 1 0 = E 0 1 := h 1 0 (by omega) (by omega)
  have h11 : F 1 1 = E 1 1 := h 1 1 (by omega) (by omega)
  have h12 : F 1 2 = E 2 1 := h 1 2 (by omega) (by omega)
  have h13 : F 1 3 = E 3 1 := h 1 3 (by omega) (by omega)
  have h20 : F 2 0 = E 0 2 := h 2 0 (by omega) (by omega)
  have h21 : F 2 1 = E 1 2 := h 2 1 (by omega) (by omega)
  have h22 : F 2 2 = E 2 2 := h 2 2 (by omega) (by omega)
  have h23 : F 2 3 = E 3 2 := h 2 3 (by omega) (by omega)
  have h30 : F 3 0 = E 0 3 := h 3 0 (by omega) (by omega)
  have h31 : F 3 1 = E 1 3 := h 3 1 (by omega) (by omega)
  have h32 : F 3 2 = E 2 3 := h 3 2 (by omega) (by omega)
  have h33 : F 3 3 = E 3 3 := h 3 3 (by omega) (by omega)
  show m4 F 3 3 = 1 * m4 (SI E 15) 3 3
  have s00 : SI E 15 0 0 = E 0 0 := rfl
  have s01 : SI E 15 0 1 = E 0 1 := rfl
  have s02 : SI E 15 0 2 = E 0 2 := rfl
  have s03 : SI E 15 0 3 = E 0 3 := rfl
  have s10 : SI E 15 1 0 = E 1 0 := rfl
  have s11 : SI E 15 1 1 = E 1 1 := rfl
  have s12 : SI E 15 1 2 = E 1 2 := rfl
  have s13 : SI E 15 1 3 = E 1 3 := rfl
  have s20 : SI E 15 2 0 = E 2 0 := rfl
  have s21 : SI E 15 2 1 = E 2 1 := rfl
  have s22 : SI E 15 2 2 = E 2 2 := rfl
  have s23 : SI E 15 2 3 = E 2 3 := rfl
  have s30 : SI E 15 3 0 = E 3 0 := rfl
  have s31 : SI E 15 3 1 = E 3 1 := rfl
  have s32 : SI E 15 3 2 = E 3 2 := rfl
  have s33 : SI E 15 3 3 = E 3 3 := rfl
  rw [m4_e F, m4_e (SI E 15)]
  simp only [h00, h01, h02, h03, h10, h11, h12, h13, h20, h21, h22, h23, h30, h31, h32, h33, s00, s01, s02, s03, s10, s11, s12, s13, s20, s21, s22, s23, s30, s31, s32, s33]
  grind
theorem blk {v : Nat} (hv : v < 16) (h0 : v ≠ 0) {E F : Mi} (h : ∀ i j, i < 4 → j < 4 → F i j = if v.testBit i = true ∧ v.testBit j = true then E j i else if i = j then 4 else 0) : m4 F 3 3 = k4 (bc v 4) * lv (SI E v) (bc v 4 - 1) (bc v 4 - 1) (bc v 4 - 1) := by
  have : v = 1 ∨ v = 2 ∨ v = 3 ∨ v = 4 ∨ v = 5 ∨ v = 6 ∨ v = 7 ∨ v = 8 ∨ v = 9 ∨ v = 10 ∨ v = 11 ∨ v = 12 ∨ v = 13 ∨ v = 14 ∨ v = 15 := by omega
  rcases this with rfl | rfl | rfl | rfl | rfl | rfl | rfl | rfl | rfl | rfl | rfl | rfl | rfl | rfl | rfl
  · exact blk1 h
  · exact blk2 h
  · exact blk3 h
  · exact blk4 h
  · exact blk5 h
  · exact blk6 h
  · exact blk7 h
  · exact blk8 h
  · exact blk9 h
  · exact blk10 h
  · exact blk11 h
  · exact blk12 h
  · exact blk13 h
  · exact blk14 h
  · exact blk15 h

/-! minors: elimination without fractions is exact -/
abbrev Mi : Type := Nat → Nat → Int
def D2 (O : Mi) (a b : Nat) : Int := O 0 a * O 1 b - O 0 b * O 1 a
def D3 (O : Mi) (a b c : Nat) : Int := O 2 c * D2 O a b - O 2 b * D2 O a c + O 2 a * D2 O b c
def D4 (O : Mi) (a b c d : Nat) : Int := O 3 d * D3 O a b c - O 3 c * D3 O a b d + O 3 b * D3 O a c d - O 3 a * D3 O b c d
def m2 (O : Mi) (i j : Nat) : Int := O i j * O 0 0 - O i 0 * O 0 j
def m3 (O : Mi) (i j : Nat) : Int := O i j * D2 O 0 1 - O i 1 * D2 O 0 j + O i 0 * D2 O 1 j
def m4 (O : Mi) (i j : Nat) : Int := O i j * D3 O 0 1 2 - O i 2 * D3 O 0 1 j + O i 1 * D3 O 0 2 j - O i 0 * D3 O 1 2 j
def m5 (O : Mi) (i j : Nat) : Int := O i j * D4 O 0 1 2 3 - O i 3 * D4 O 0 1 2 j + O i 2 * D4 O 0 1 3 j - O i 1 * D4 O 0 2 3 j + O i 0 * D4 O 1 2 3 j
theorem m2_11 (O : Mi) : m2 O 1 1 = D2 O 0 1 := by unfold m2 D2; grind
theorem m3_22 (O : Mi) : m3 O 2 2 = D3 O 0 1 2 := by unfold m3 D3; grind
theorem m4_33 (O : Mi) : m4 O 3 3 = D4 O 0 1 2 3 := by unfold m4 D4; grind
theorem B3 (O : Mi) (i j : Nat) : m2 O i j * m2 O 1 1 - m2 O i 1 * m2 O 1 j = O 0 0 * m3 O i j := by
  unfold m3 m2 D2
  grind
theorem B4 (O : Mi) (i j : Nat) : m3 O i j * m3 O 2 2 - m3 O i 2 * m3 O 2 j = m2 O 1 1 * m4 O i j := by
  have e := m3_22 O
  have e2 : m3 O 2 j = D3 O 0 1 j := by unfold m3 D3; grind
  rw [m2_11, e, e2]
  unfold m4 m3 D3 D2
  grind
theorem P3 (O : Mi) (a b c d e : Nat) : D3 O a b d * D3 O a c e - D3 O a b e * D3 O a c d = D3 O a b c * D3 O a d e := by
  unfold D3 D2
  grind
theorem P3b (O : Mi) (a b c d e : Nat) : D3 O a b c * D3 O b d e - D3 O a b d * D3 O b c e + D3 O a b e * D3 O b c d = 0 := by
  unfold D3 D2
  grind
set_option maxHeartbeats 4000000 in
theorem B5 (O : Mi) (i j : Nat) : m4 O i j * m4 O 3 3 - m4 O i 3 * m4 O 3 j = m3 O 2 2 * m5 O i j := by
  have e2 : m4 O 3 j = D4 O 0 1 2 j := by unfold m4 D4; grind
  rw [m3_22, m4_33, e2]
  unfold m5 m4 D4
  have p1 := P3 O 0 1 2 3 j
  have p2 := P3 O 1 0 2 3 j
  have p3 := P3 O 2 0 1 3 j
  have s1 : ∀ a b c, D3 O a b c = - D3 O b a c := fun a b c => by unfold D3 D2; grind
  have s2 : ∀ a b c, D3 O a b c = - D3 O a c b := fun a b c => by unfold D3 D2; grind
  rw [s1 1 0 3, s1 1 0 j, s1 1 0 2] at p2
  rw [s1 2 0 3, s1 2 1 j, s2 1 2 j, s1 2 0 j, s1 2 1 3, s1 2 0 1, s2 0 2 1] at p3
  grind

/-! the pure memory: ints and longs by the number of the cell and the place in it; which cells there are, and what refers to what, is fixed -/
abbrev Mm : Type := (Nat → Nat → Int32) × (Nat → Nat → Int64)
def mI (M : Mm) (a k : Nat) : Int32 := M.1 a k
def mJ (M : Mm) (a k : Nat) : Int64 := M.2 a k
def sI (M : Mm) (a k : Nat) (v : Int32) : Mm := (fun b j => if b = a ∧ j = k then v else M.1 b j, M.2)
def sJ (M : Mm) (a k : Nat) (v : Int64) : Mm := (M.1, fun b j => if b = a ∧ j = k then v else M.2 b j)
/-- n ints of the cell a from i on come to the cell b from j on -/
def sC (M : Mm) (a i b j n : Nat) : Mm := (fun d k => if d = b then va_cpy (M.1 a) (M.1 b) i j n k else M.1 d k, M.2)
def wn_sh : List Nat := [8, 9, 14, 106, 4, 5, 3, 2, 2, 2, 6, 6, 6, 6, 6, 6, 140, 140, 140, 140, 140, 140, 13, 1, 1, 1, 1, 104, 104, 104, 104, 0, 0, 15, 15, 106, 106, 7, 7, 7, 16, 16, 16, 1006, 1006, 1006, 1006, 1006, 1006, 1006, 1006, 1006, 1006, 1006, 1006, 1006, 1006, 1006, 1006, 1006, 1006, 106, 106, 106, 106, 106, 106, 106, 106, 106, 106, 106, 106, 1004, 104, 104, 104, 1004, 17, 104, 104, 104, 104, 104, 106, 106, 340, 140, 2004, 104, 104, 104, 104, 104, 116, 1036, 106, 1036, 1004, 104, 140]
def shp (k : Nat) : Nat := wn_sh.getD k 99
def fld (a k : Nat) : Nat := if a = 0 ∧ k = 0 then 2 else
  if a = 0 ∧ k = 1 then 4 else
  if a = 0 ∧ k = 2 then 5 else
  if a = 0 ∧ k = 3 then 32 else
  if a = 0 ∧ k = 4 then 6 else
  if a = 0 ∧ k = 5 then 7 else
  if a = 0 ∧ k = 6 then 3 else
  if a = 1 ∧ k = 1 then 84 else
  if a = 1 ∧ k = 5 then 85 else
  if a = 1 ∧ k = 6 then 86 else
  if a = 1 ∧ k = 7 then 87 else
  if a = 1 ∧ k = 8 then 88 else
  if a = 1 ∧ k = 9 then 89 else
  if a = 1 ∧ k = 10 then 90 else
  if a = 1 ∧ k = 11 then 91 else
  if a = 1 ∧ k = 12 then 92 else
  if a = 1 ∧ k = 13 then 93 else
  if a = 1 ∧ k = 14 then 94 else
  if a = 1 ∧ k = 15 then 95 else
  if a = 1 ∧ k = 16 then 96 else
  if a = 1 ∧ k = 17 then 97 else
  if a = 1 ∧ k = 20 then 98 else
  if a = 1 ∧ k = 21 then 99 else
  if a = 1 ∧ k = 24 then 100 else
  if a = 4 ∧ k = 0 then 22 else
  if a = 4 ∧ k = 1 then 31 else
  if a = 4 ∧ k = 2 then 39 else
  if a = 4 ∧ k = 3 then 8 else
  if a = 4 ∧ k = 4 then 9 else
  if a = 5 ∧ k = 0 then 73 else
  if a = 5 ∧ k = 1 then 74 else
  if a = 5 ∧ k = 2 then 75 else
  if a = 5 ∧ k = 3 then 76 else
  if a = 5 ∧ k = 4 then 77 else
  if a = 5 ∧ k = 5 then 78 else
  if a = 5 ∧ k = 6 then 83 else
  if a = 10 ∧ k = 0 then 16 else
  if a = 11 ∧ k = 0 then 17 else
  if a = 12 ∧ k = 0 then 18 else
  if a = 13 ∧ k = 0 then 19 else
  if a = 14 ∧ k = 0 then 20 else
  if a = 15 ∧ k = 0 then 21 else
  if a = 23 ∧ k = 0 then 27 else
  if a = 24 ∧ k = 0 then 28 else
  if a = 25 ∧ k = 0 then 29 else
  if a = 26 ∧ k = 0 then 30 else
  if a = 31 ∧ k = 0 then 33 else
  if a = 31 ∧ k = 1 then 35 else
  if a = 31 ∧ k = 2 then 37 else
  if a = 32 ∧ k = 0 then 34 else
  if a = 32 ∧ k = 1 then 36 else
  if a = 32 ∧ k = 2 then 38 else
  if a = 37 ∧ k = 0 then 40 else
  if a = 38 ∧ k = 0 then 41 else
  if a = 39 ∧ k = 0 then 42 else 0
def elm (a i : Nat) : Nat := if a = 2 then 10 + i else if a = 22 then 23 + i else if a = 33 then 61 + i else if a = 34 then 67 + i else if a = 40 then 43 + i else if a = 41 then 49 + i else if a = 42 then 55 + i else if a = 78 then 79 + i else 0
theorem shp_lt {k t : Nat} (h : shp k = t) (ht : t ≠ 99) : k < 101 := by
  rcases Nat.lt_or_ge k 101 with h1 | h1
  · exact h1
  · exfalso
    apply ht
    rw [← h]
    show wn_sh.getD k 99 = 99
    rw [List.getD_eq_getElem?_getD, List.getElem?_eq_none (by exact h1)]
    rfl
theorem sh_0_0 {a : Nat} (h : shp a = 0) : shp (fld a 0) = 15 := (show ∀ a, a < 101 → shp a = 0 → shp (fld a 0) = 15 by decide +kernel) a (shp_lt h (by decide)) h
theorem sh_0_1 {a : Nat} (h : shp a = 0) : shp (fld a 1) = 106 := (show ∀ a, a < 101 → shp a = 0 → shp (fld a 1) = 106 by decide +kernel) a (shp_lt h (by decide)) h
theorem sh_0_2 {a : Nat} (h : shp a = 0) : shp (fld a 2) = 7 := (show ∀ a, a < 101 → shp a = 0 → shp (fld a 2) = 7 by decide +kernel) a (shp_lt h (by decide)) h
theorem sh_1_0 {a : Nat} (h : shp a = 1) : shp (fld a 0) = 104 := (show ∀ a, a < 101 → shp a = 1 → shp (fld a 0) = 104 by decide +kernel) a (shp_lt h (by decide)) h
theorem sh_4_0 {a : Nat} (h : shp a = 4) : shp (fld a 0) = 13 := (show ∀ a, a < 101 → shp a = 4 → shp (fld a 0) = 13 by decide +kernel) a (shp_lt h (by decide)) h
theorem sh_4_1 {a : Nat} (h : shp a = 4) : shp (fld a 1) = 0 := (show ∀ a, a < 101 → shp a = 4 → shp (fld a 1) = 0 by decide +kernel) a (shp_lt h (by decide)) h
theorem sh_4_2 {a : Nat} (h : shp a = 4) : shp (fld a 2) = 7 := (show ∀ a, a < 101 → shp a = 4 → shp (fld a 2) = 7 by decide +kernel) a (shp_lt h (by decide)) h
theorem sh_4_3 {a : Nat} (h : shp a = 4) : shp (fld a 3) = 2 := (show ∀ a, a < 101 → shp a = 4 → shp (fld a 3) = 2 by decide +kernel) a (shp_lt h (by decide)) h
theorem sh_4_4 {a : Nat} (h : shp a = 4) : shp (fld a 4) = 2 := (show ∀ a, a < 101 → shp a = 4 → shp (fld a 4) = 2 by decide +kernel) a (shp_lt h (by decide)) h
theorem sh_5_0 {a : Nat} (h : shp a = 5) : shp (fld a 0) = 1004 := (show ∀ a, a < 101 → shp a = 5 → shp (fld a 0) = 1004 by decide +kernel) a (shp_lt h (by decide)) h
theorem sh_5_1 {a : Nat} (h : shp a = 5) : shp (fld a 1) = 104 := (show ∀ a, a < 101 → shp a = 5 → shp (fld a 1) = 104 by decide +kernel) a (shp_lt h (by decide)) h
theorem sh_5_2 {a : Nat} (h : shp a = 5) : shp (fld a 2) = 104 := (show ∀ a, a < 101 → shp a = 5 → shp (fld a 2) = 104 by decide +kernel) a (shp_lt h (by decide)) h
theorem sh_5_3 {a : Nat} (h : shp a = 5) : shp (fld a 3) = 104 := (show ∀ a, a < 101 → shp a = 5 → shp (fld a 3) = 104 by decide +kernel) a (shp_lt h (by decide)) h
theorem sh_5_4 {a : Nat} (h : shp a = 5) : shp (fld a 4) = 1004 := (show ∀ a, a < 101 → shp a = 5 → shp (fld a 4) = 1004 by decide +kernel) a (shp_lt h (by decide)) h
theorem sh_5_5 {a : Nat} (h : shp a = 5) : shp (fld a 5) = 17 := (show ∀ a, a < 101 → shp a = 5 → shp (fld a 5) = 17 by decide +kernel) a (shp_lt h (by decide)) h
theorem sh_5_6 {a : Nat} (h : shp a = 5) : shp (fld a 6) = 104 := (show ∀ a, a < 101 → shp a = 5 → shp (fld a 6) = 104 by decide +kernel) a (shp_lt h (by decide)) h
theorem sh_6_0 {a : Nat} (h : shp a = 6) : shp (fld a 0) = 140 := (show ∀ a, a < 101 → shp a = 6 → shp (fld a 0) = 140 by decide +kernel) a (shp_lt h (by decide)) h
theorem sh_7_0 {a : Nat} (h : shp a = 7) : shp (fld a 0) = 16 := (show ∀ a, a < 101 → shp a = 7 → shp (fld a 0) = 16 by decide +kernel) a (shp_lt h (by decide)) h
theorem sh_8_0 {a : Nat} (h : shp a = 8) : shp (fld a 0) = 14 := (show ∀ a, a < 101 → shp a = 8 → shp (fld a 0) = 14 by decide +kernel) a (shp_lt h (by decide)) h
theorem sh_8_1 {a : Nat} (h : shp a = 8) : shp (fld a 1) = 4 := (show ∀ a, a < 101 → shp a = 8 → shp (fld a 1) = 4 by decide +kernel) a (shp_lt h (by decide)) h
theorem sh_8_2 {a : Nat} (h : shp a = 8) : shp (fld a 2) = 5 := (show ∀ a, a < 101 → shp a = 8 → shp (fld a 2) = 5 by decide +kernel) a (shp_lt h (by decide)) h
theorem sh_8_3 {a : Nat} (h : shp a = 8) : shp (fld a 3) = 0 := (show ∀ a, a < 101 → shp a = 8 → shp (fld a 3) = 0 by decide +kernel) a (shp_lt h (by decide)) h
theorem sh_8_4 {a : Nat} (h : shp a = 8) : shp (fld a 4) = 3 := (show ∀ a, a < 101 → shp a = 8 → shp (fld a 4) = 3 by decide +kernel) a (shp_lt h (by decide)) h
theorem sh_8_5 {a : Nat} (h : shp a = 8) : shp (fld a 5) = 2 := (show ∀ a, a < 101 → shp a = 8 → shp (fld a 5) = 2 by decide +kernel) a (shp_lt h (by decide)) h
theorem sh_8_6 {a : Nat} (h : shp a = 8) : shp (fld a 6) = 106 := (show ∀ a, a < 101 → shp a = 8 → shp (fld a 6) = 106 by decide +kernel) a (shp_lt h (by decide)) h
theorem sh_9_1 {a : Nat} (h : shp a = 9) : shp (fld a 1) = 106 := (show ∀ a, a < 101 → shp a = 9 → shp (fld a 1) = 106 by decide +kernel) a (shp_lt h (by decide)) h
theorem sh_9_5 {a : Nat} (h : shp a = 9) : shp (fld a 5) = 106 := (show ∀ a, a < 101 → shp a = 9 → shp (fld a 5) = 106 by decide +kernel) a (shp_lt h (by decide)) h
theorem sh_9_6 {a : Nat} (h : shp a = 9) : shp (fld a 6) = 340 := (show ∀ a, a < 101 → shp a = 9 → shp (fld a 6) = 340 by decide +kernel) a (shp_lt h (by decide)) h
theorem sh_9_7 {a : Nat} (h : shp a = 9) : shp (fld a 7) = 140 := (show ∀ a, a < 101 → shp a = 9 → shp (fld a 7) = 140 by decide +kernel) a (shp_lt h (by decide)) h
theorem sh_9_8 {a : Nat} (h : shp a = 9) : shp (fld a 8) = 2004 := (show ∀ a, a < 101 → shp a = 9 → shp (fld a 8) = 2004 by decide +kernel) a (shp_lt h (by decide)) h
theorem sh_9_9 {a : Nat} (h : shp a = 9) : shp (fld a 9) = 104 := (show ∀ a, a < 101 → shp a = 9 → shp (fld a 9) = 104 by decide +kernel) a (shp_lt h (by decide)) h
theorem sh_9_10 {a : Nat} (h : shp a = 9) : shp (fld a 10) = 104 := (show ∀ a, a < 101 → shp a = 9 → shp (fld a 10) = 104 by decide +kernel) a (shp_lt h (by decide)) h
theorem sh_9_11 {a : Nat} (h : shp a = 9) : shp (fld a 11) = 104 := (show ∀ a, a < 101 → shp a = 9 → shp (fld a 11) = 104 by decide +kernel) a (shp_lt h (by decide)) h
theorem sh_9_12 {a : Nat} (h : shp a = 9) : shp (fld a 12) = 104 := (show ∀ a, a < 101 → shp a = 9 → shp (fld a 12) = 104 by decide +kernel) a (shp_lt h (by decide)) h
theorem sh_9_13 {a : Nat} (h : shp a = 9) : shp (fld a 13) = 104 := (show ∀ a, a < 101 → shp a = 9 → shp (fld a 13) = 104 by decide +kernel) a (shp_lt h (by decide)) h
theorem sh_9_14 {a : Nat} (h : shp a = 9) : shp (fld a 14) = 116 := (show ∀ a, a < 101 → shp a = 9 → shp (fld a 14) = 116 by decide +kernel) a (shp_lt h (by decide)) h
theorem sh_9_15 {a : Nat} (h : shp a = 9) : shp (fld a 15) = 1036 := (show ∀ a, a < 101 → shp a = 9 → shp (fld a 15) = 1036 by decide +kernel) a (shp_lt h (by decide)) h
theorem sh_9_16 {a : Nat} (h : shp a = 9) : shp (fld a 16) = 106 := (show ∀ a, a < 101 → shp a = 9 → shp (fld a 16) = 106 by decide +kernel) a (shp_lt h (by decide)) h
theorem sh_9_17 {a : Nat} (h : shp a = 9) : shp (fld a 17) = 1036 := (show ∀ a, a < 101 → shp a = 9 → shp (fld a 17) = 1036 by decide +kernel) a (shp_lt h (by decide)) h
theorem sh_9_20 {a : Nat} (h : shp a = 9) : shp (fld a 20) = 1004 := (show ∀ a, a < 101 → shp a = 9 → shp (fld a 20) = 1004 by decide +kernel) a (shp_lt h (by decide)) h
theorem sh_9_21 {a : Nat} (h : shp a = 9) : shp (fld a 21) = 104 := (show ∀ a, a < 101 → shp a = 9 → shp (fld a 21) = 104 by decide +kernel) a (shp_lt h (by decide)) h
theorem sh_9_24 {a : Nat} (h : shp a = 9) : shp (fld a 24) = 140 := (show ∀ a, a < 101 → shp a = 9 → shp (fld a 24) = 140 by decide +kernel) a (shp_lt h (by decide)) h
theorem se_13 {a : Nat} {i : Int32} (h : shp a = 13) (hi : vp_in i 4) : shp (elm a i.toNatClampNeg) = 1 := (show ∀ a, a < 101 → shp a = 13 → ∀ i, i < 4 → shp (elm a i) = 1 by decide +kernel) a (shp_lt h (by decide)) h _ (Nat.not_le.mp fun q => hi (Or.inr q))
theorem se_14 {a : Nat} {i : Int32} (h : shp a = 14) (hi : vp_in i 6) : shp (elm a i.toNatClampNeg) = 6 := (show ∀ a, a < 101 → shp a = 14 → ∀ i, i < 6 → shp (elm a i) = 6 by decide +kernel) a (shp_lt h (by decide)) h _ (Nat.not_le.mp fun q => hi (Or.inr q))
theorem se_15 {a : Nat} {i : Int32} (h : shp a = 15) (hi : vp_in i 6) : shp (elm a i.toNatClampNeg) = 106 := (show ∀ a, a < 101 → shp a = 15 → ∀ i, i < 6 → shp (elm a i) = 106 by decide +kernel) a (shp_lt h (by decide)) h _ (Nat.not_le.mp fun q => hi (Or.inr q))
theorem se_16 {a : Nat} {i : Int32} (h : shp a = 16) (hi : vp_in i 6) : shp (elm a i.toNatClampNeg) = 1006 := (show ∀ a, a < 101 → shp a = 16 → ∀ i, i < 6 → shp (elm a i) = 1006 by decide +kernel) a (shp_lt h (by decide)) h _ (Nat.not_le.mp fun q => hi (Or.inr q))
theorem se_17 {a : Nat} {i : Int32} (h : shp a = 17) (hi : vp_in i 4) : shp (elm a i.toNatClampNeg) = 104 := (show ∀ a, a < 101 → shp a = 17 → ∀ i, i < 4 → shp (elm a i) = 104 by decide +kernel) a (shp_lt h (by decide)) h _ (Nat.not_le.mp fun q => hi (Or.inr q))
def cel (cy : Nat → ClassId) (ad : Nat → Nat) (M : Mm) (k : Nat) : va_E :=
  if shp k = 0 then .inr (0, [.ref (ad (fld k 0)), .ref (ad (fld k 1)), .ref (ad (fld k 2)), .int (mI M k 3)]) else
  if shp k = 1 then .inr (1, [.ref (ad (fld k 0)), .int (mI M k 1), .int (mI M k 2), .int (mI M k 3), .int (mI M k 4), .int (mI M k 5)]) else
  if shp k = 2 then .inr (2, [.long (mJ M k 0), .long (mJ M k 1)]) else
  if shp k = 3 then .inr (3, [.int (mI M k 0), .int (mI M k 1), .int (mI M k 2)]) else
  if shp k = 4 then .inr (4, [.ref (ad (fld k 0)), .ref (ad (fld k 1)), .ref (ad (fld k 2)), .ref (ad (fld k 3)), .ref (ad (fld k 4))]) else
  if shp k = 5 then .inr (5, [.ref (ad (fld k 0)), .ref (ad (fld k 1)), .ref (ad (fld k 2)), .ref (ad (fld k 3)), .ref (ad (fld k 4)), .ref (ad (fld k 5)), .ref (ad (fld k 6))]) else
  if shp k = 6 then .inr (6, [.ref (ad (fld k 0)), .int (mI M k 1)]) else
  if shp k = 7 then .inr (7, [.ref (ad (fld k 0)), .int (mI M k 1)]) else
  if shp k = 8 then .inr (8, [.ref (ad (fld k 0)), .ref (ad (fld k 1)), .ref (ad (fld k 2)), .ref (ad (fld k 3)), .ref (ad (fld k 4)), .ref (ad (fld k 5)), .ref (ad (fld k 6)), .int (mI M k 7), .int (mI M k 8)]) else
  if shp k = 9 then .inr (9, [.int (mI M k 0), .ref (ad (fld k 1)), .int (mI M k 2), .long (mJ M k 3), .long (mJ M k 4), .ref (ad (fld k 5)), .ref (ad (fld k 6)), .ref (ad (fld k 7)), .ref (ad (fld k 8)), .ref (ad (fld k 9)), .ref (ad (fld k 10)), .ref (ad (fld k 11)), .ref (ad (fld k 12)), .ref (ad (fld k 13)), .ref (ad (fld k 14)), .ref (ad (fld k 15)), .ref (ad (fld k 16)), .ref (ad (fld k 17)), .long (mJ M k 18), .long (mJ M k 19), .ref (ad (fld k 20)), .ref (ad (fld k 21)), .int (mI M k 22), .int (mI M k 23), .ref (ad (fld k 24)), .long (mJ M k 25)]) else
  if shp k = 13 then .inl (cy 3, 4, .inr (.inr (.inr (.inr (fun i => some (ad (elm k i))))))) else
  if shp k = 14 then .inl (cy 4, 6, .inr (.inr (.inr (.inr (fun i => some (ad (elm k i))))))) else
  if shp k = 15 then .inl (cy 5, 6, .inr (.inr (.inr (.inr (fun i => some (ad (elm k i))))))) else
  if shp k = 16 then .inl (cy 6, 6, .inr (.inr (.inr (.inr (fun i => some (ad (elm k i))))))) else
  if shp k = 17 then .inl (cy 5, 4, .inr (.inr (.inr (.inr (fun i => some (ad (elm k i))))))) else
  if shp k < 1000 then .inl (cy 0, shp k - 100, .inl (mI M k)) else
  if shp k < 2000 then .inl (cy 1, shp k - 1000, .inr (.inl (mJ M k))) else
  .inl (cy 2, shp k - 2000, .inl (mI M k))
theorem ce_0 {cy : Nat → ClassId} {ad : Nat → Nat} {M : Mm} {k : Nat} (h : shp k = 0) : cel cy ad M k = .inr (0, [.ref (ad (fld k 0)), .ref (ad (fld k 1)), .ref (ad (fld k 2)), .int (mI M k 3)]) := by simp [cel, h]
theorem ce_1 {cy : Nat → ClassId} {ad : Nat → Nat} {M : Mm} {k : Nat} (h : shp k = 1) : cel cy ad M k = .inr (1, [.ref (ad (fld k 0)), .int (mI M k 1), .int (mI M k 2), .int (mI M k 3), .int (mI M k 4), .int (mI M k 5)]) := by simp [cel, h]
theorem ce_2 {cy : Nat → ClassId} {ad : Nat → Nat} {M : Mm} {k : Nat} (h : shp k = 2) : cel cy ad M k = .inr (2, [.long (mJ M k 0), .long (mJ M k 1)]) := by simp [cel, h]
theorem ce_3 {cy : Nat → ClassId} {ad : Nat → Nat} {M : Mm} {k : Nat} (h : shp k = 3) : cel cy ad M k = .inr (3, [.int (mI M k 0), .int (mI M k 1), .int (mI M k 2)]) := by simp [cel, h]
theorem ce_4 {cy : Nat → ClassId} {ad : Nat → Nat} {M : Mm} {k : Nat} (h : shp k = 4) : cel cy ad M k = .inr (4, [.ref (ad (fld k 0)), .ref (ad (fld k 1)), .ref (ad (fld k 2)), .ref (ad (fld k 3)), .ref (ad (fld k 4))]) := by simp [cel, h]
theorem ce_5 {cy : Nat → ClassId} {ad : Nat → Nat} {M : Mm} {k : Nat} (h : shp k = 5) : cel cy ad M k = .inr (5, [.ref (ad (fld k 0)), .ref (ad (fld k 1)), .ref (ad (fld k 2)), .ref (ad (fld k 3)), .ref (ad (fld k 4)), .ref (ad (fld k 5)), .ref (ad (fld k 6))]) := by simp [cel, h]
theorem ce_6 {cy : Nat → ClassId} {ad : Nat → Nat} {M : Mm} {k : Nat} (h : shp k = 6) : cel cy ad M k = .inr (6, [.ref (ad (fld k 0)), .int (mI M k 1)]) := by simp [cel, h]
theorem ce_7 {cy : Nat → ClassId} {ad : Nat → Nat} {M : Mm} {k : Nat} (h : shp k = 7) : cel cy ad M k = .inr (7, [.ref (ad (fld k 0)), .int (mI M k 1)]) := by simp [cel, h]
theorem ce_8 {cy : Nat → ClassId} {ad : Nat → Nat} {M : Mm} {k : Nat} (h : shp k = 8) : cel cy ad M k = .inr (8, [.ref (ad (fld k 0)), .ref (ad (fld k 1)), .ref (ad (fld k 2)), .ref (ad (fld k 3)), .ref (ad (fld k 4)), .ref (ad (fld k 5)), .ref (ad (fld k 6)), .int (mI M k 7), .int (mI M k 8)]) := by simp [cel, h]
theorem ce_9 {cy : Nat → ClassId} {ad : Nat → Nat} {M : Mm} {k : Nat} (h : shp k = 9) : cel cy ad M k = .inr (9, [.int (mI M k 0), .ref (ad (fld k 1)), .int (mI M k 2), .long (mJ M k 3), .long (mJ M k 4), .ref (ad (fld k 5)), .ref (ad (fld k 6)), .ref (ad (fld k 7)), .ref (ad (fld k 8)), .ref (ad (fld k 9)), .ref (ad (fld k 10)), .ref (ad (fld k 11)), .ref (ad (fld k 12)), .ref (ad (fld k 13)), .ref (ad (fld k 14)), .ref (ad (fld k 15)), .ref (ad (fld k 16)), .ref (ad (fld k 17)), .long (mJ M k 18), .long (mJ M k 19), .ref (ad (fld k 20)), .ref (ad (fld k 21)), .int (mI M k 22), .int (mI M k 23), .ref (ad (fld k 24)), .long (mJ M k 25)]) := by simp [cel, h]
theorem ce_13 {cy : Nat → ClassId} {ad : Nat → Nat} {M : Mm} {k : Nat} (h : shp k = 13) : cel cy ad M k = .inl (cy 3, 4, .inr (.inr (.inr (.inr (fun i => some (ad (elm k i))))))) := by simp [cel, h]
theorem ce_14 {cy : Nat → ClassId} {ad : Nat → Nat} {M : Mm} {k : Nat} (h : shp k = 14) : cel cy ad M k = .inl (cy 4, 6, .inr (.inr (.inr (.inr (fun i => some (ad (elm k i))))))) := by simp [cel, h]
theorem ce_15 {cy : Nat → ClassId} {ad : Nat → Nat} {M : Mm} {k : Nat} (h : shp k = 15) : cel cy ad M k = .inl (cy 5, 6, .inr (.inr (.inr (.inr (fun i => some (ad (elm k i))))))) := by simp [cel, h]
theorem ce_16 {cy : Nat → ClassId} {ad : Nat → Nat} {M : Mm} {k : Nat} (h : shp k = 16) : cel cy ad M k = .inl (cy 6, 6, .inr (.inr (.inr (.inr (fun i => some (ad (elm k i))))))) := by simp [cel, h]
theorem ce_17 {cy : Nat → ClassId} {ad : Nat → Nat} {M : Mm} {k : Nat} (h : shp k = 17) : cel cy ad M k = .inl (cy 5, 4, .inr (.inr (.inr (.inr (fun i => some (ad (elm k i))))))) := by simp [cel, h]
theorem ce_104 {cy : Nat → ClassId} {ad : Nat → Nat} {M : Mm} {k : Nat} (h : shp k = 104) : cel cy ad M k = .inl (cy 0, 4, .inl (mI M k)) := by simp [cel, h]
theorem ce_106 {cy : Nat → ClassId} {ad : Nat → Nat} {M : Mm} {k : Nat} (h : shp k = 106) : cel cy ad M k = .inl (cy 0, 6, .inl (mI M k)) := by simp [cel, h]
theorem ce_116 {cy : Nat → ClassId} {ad : Nat → Nat} {M : Mm} {k : Nat} (h : shp k = 116) : cel cy ad M k = .inl (cy 0, 16, .inl (mI M k)) := by simp [cel, h]
theorem ce_140 {cy : Nat → ClassId} {ad : Nat → Nat} {M : Mm} {k : Nat} (h : shp k = 140) : cel cy ad M k = .inl (cy 0, 40, .inl (mI M k)) := by simp [cel, h]
theorem ce_340 {cy : Nat → ClassId} {ad : Nat → Nat} {M : Mm} {k : Nat} (h : shp k = 340) : cel cy ad M k = .inl (cy 0, 240, .inl (mI M k)) := by simp [cel, h]
theorem ce_1004 {cy : Nat → ClassId} {ad : Nat → Nat} {M : Mm} {k : Nat} (h : shp k = 1004) : cel cy ad M k = .inl (cy 1, 4, .inr (.inl (mJ M k))) := by simp [cel, h]
theorem ce_1006 {cy : Nat → ClassId} {ad : Nat → Nat} {M : Mm} {k : Nat} (h : shp k = 1006) : cel cy ad M k = .inl (cy 1, 6, .inr (.inl (mJ M k))) := by simp [cel, h]
theorem ce_1036 {cy : Nat → ClassId} {ad : Nat → Nat} {M : Mm} {k : Nat} (h : shp k = 1036) : cel cy ad M k = .inl (cy 1, 36, .inr (.inl (mJ M k))) := by simp [cel, h]
theorem ce_2004 {cy : Nat → ClassId} {ad : Nat → Nat} {M : Mm} {k : Nat} (h : shp k = 2004) : cel cy ad M k = .inl (cy 2, 4, .inl (mI M k)) := by simp [cel, h]
theorem ce_far {cy : Nat → ClassId} {ad : Nat → Nat} {M M1 : Mm} {j : Nat} (h1 : M1.1 j = M.1 j) (h2 : M1.2 j = M.2 j) : cel cy ad M1 j = cel cy ad M j := by
  have e1 : mI M1 j = mI M j := funext fun k => congrFun h1 k
  have e2 : mJ M1 j = mJ M j := funext fun k => congrFun h2 k
  simp only [cel, e1, e2]
def wn_W (cy : Nat → ClassId) (ad : Nat → Nat) (M : Mm) : va_W := (List.range 101).map (fun k => (ad k, cel cy ad M k))
theorem wn_at {cy : Nat → ClassId} {ad : Nat → Nat} {M : Mm} {k : Nat} (h : k < 101) : (wn_W cy ad M)[k]? = some (ad k, cel cy ad M k) := by
  unfold wn_W
  rw [List.getElem?_map, List.getElem?_range h]
  rfl
theorem wn_set {cy : Nat → ClassId} {ad : Nat → Nat} {M M1 : Mm} {k : Nat} {x : va_E} (hx : cel cy ad M1 k = x) (ho : ∀ j, j ≠ k → M1.1 j = M.1 j ∧ M1.2 j = M.2 j) : (wn_W cy ad M).set k (ad k, x) = wn_W cy ad M1 := by
  unfold wn_W
  apply List.ext_getElem?
  intro i
  rw [List.getElem?_set]
  by_cases hi : k = i
  · subst hi
    simp only [if_true, List.length_map, List.length_range]
    by_cases hk : k < 101
    · rw [if_pos hk, List.getElem?_map, List.getElem?_range hk, ← hx]
      rfl
    · rw [if_neg hk, List.getElem?_map, List.getElem?_eq_none (by simp; omega)]
      rfl
  · rw [if_neg hi, List.getElem?_map, List.getElem?_map]
    by_cases hk : i < 101
    · rw [List.getElem?_range hk]
      simp only [Option.map_some, ce_far (ho i (fun q => hi q.symm)).1 (ho i (fun q => hi q.symm)).2]
    · rw [List.getElem?_eq_none (by simp; omega)]
      rfl


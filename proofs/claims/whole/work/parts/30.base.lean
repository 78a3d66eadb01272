/-! pure base: rewriting rows -/
theorem nm_q {α β : Type} (a : α) (f : α → β) : nm a f = f a := rfl
theorem bd_s {α β : Type} (a : α) (f : α → Option β) : bd (some a) f = f a := rfl
theorem bd_n {α β : Type} (f : α → Option β) : bd none f = none := rfl
theorem mI_sI (M : Mm) (a k b j : Nat) (v : Int32) : mI (sI M a k v) b j = if b = a ∧ j = k then v else mI M b j := rfl
theorem mJ_sJ (M : Mm) (a k b j : Nat) (v : Int64) : mJ (sJ M a k v) b j = if b = a ∧ j = k then v else mJ M b j := rfl
theorem mI_sJ (M : Mm) (a k b j : Nat) (v : Int64) : mI (sJ M a k v) b j = mI M b j := rfl
theorem mJ_sI (M : Mm) (a k b j : Nat) (v : Int32) : mJ (sI M a k v) b j = mJ M b j := rfl
theorem ck_ok {α : Type} {i : Int32} {n : Nat} {x : Option α} (h : vp_in i n) : ck i n x = x := if_neg h
theorem ck_k {α : Type} {k n : Nat} {x : Option α} (h : k < n) (hn : n < 1000) : ck (nI k) n x = x := if_neg (vp_in_nI h (by omega))
theorem nI_cl {k : Nat} (h : k < 2 ^ 31) : Int32.toNatClampNeg (nI k) = k := nI_clamp h
theorem bz_0 {α : Type} (x : Option α) : bz 0 x = x := rfl
theorem bz_1 {α : Type} (x : Option α) : bz 1 x = x := rfl
theorem dvI_ok {α : Type} {b : Int32} {x : Option α} (h : ¬ b = 0) : dvI b x = x := if_neg h
theorem dvJ_ok {α : Type} {b : Int64} {x : Option α} (h : ¬ b = 0) : dvJ b x = x := if_neg h

theorem fld_0_0 : fld 0 0 = 2 := by decide
theorem fld_0_1 : fld 0 1 = 4 := by decide
theorem fld_0_2 : fld 0 2 = 5 := by decide
theorem fld_0_3 : fld 0 3 = 32 := by decide
theorem fld_0_4 : fld 0 4 = 6 := by decide
theorem fld_0_5 : fld 0 5 = 7 := by decide
theorem fld_0_6 : fld 0 6 = 3 := by decide
theorem fld_1_1 : fld 1 1 = 84 := by decide
theorem fld_1_5 : fld 1 5 = 85 := by decide
theorem fld_1_6 : fld 1 6 = 86 := by decide
theorem fld_1_7 : fld 1 7 = 87 := by decide
theorem fld_1_8 : fld 1 8 = 88 := by decide
theorem fld_1_9 : fld 1 9 = 89 := by decide
theorem fld_1_10 : fld 1 10 = 90 := by decide
theorem fld_1_11 : fld 1 11 = 91 := by decide
theorem fld_1_12 : fld 1 12 = 92 := by decide
theorem fld_1_13 : fld 1 13 = 93 := by decide
theorem fld_1_14 : fld 1 14 = 94 := by decide
theorem fld_1_15 : fld 1 15 = 95 := by decide
theorem fld_1_16 : fld 1 16 = 96 := by decide
theorem fld_1_17 : fld 1 17 = 97 := by decide
theorem fld_1_20 : fld 1 20 = 98 := by decide
theorem fld_1_21 : fld 1 21 = 99 := by decide
theorem fld_1_24 : fld 1 24 = 100 := by decide
theorem fld_4_0 : fld 4 0 = 22 := by decide
theorem fld_4_1 : fld 4 1 = 31 := by decide
theorem fld_4_2 : fld 4 2 = 39 := by decide
theorem fld_4_3 : fld 4 3 = 8 := by decide
theorem fld_4_4 : fld 4 4 = 9 := by decide
theorem fld_5_0 : fld 5 0 = 73 := by decide
theorem fld_5_1 : fld 5 1 = 74 := by decide
theorem fld_5_2 : fld 5 2 = 75 := by decide
theorem fld_5_3 : fld 5 3 = 76 := by decide
theorem fld_5_4 : fld 5 4 = 77 := by decide
theorem fld_5_5 : fld 5 5 = 78 := by decide
theorem fld_5_6 : fld 5 6 = 83 := by decide
theorem fld_10_0 : fld 10 0 = 16 := by decide
theorem fld_11_0 : fld 11 0 = 17 := by decide
theorem fld_12_0 : fld 12 0 = 18 := by decide
theorem fld_13_0 : fld 13 0 = 19 := by decide
theorem fld_14_0 : fld 14 0 = 20 := by decide
theorem fld_15_0 : fld 15 0 = 21 := by decide
theorem fld_23_0 : fld 23 0 = 27 := by decide
theorem fld_24_0 : fld 24 0 = 28 := by decide
theorem fld_25_0 : fld 25 0 = 29 := by decide
theorem fld_26_0 : fld 26 0 = 30 := by decide
theorem fld_31_0 : fld 31 0 = 33 := by decide
theorem fld_31_1 : fld 31 1 = 35 := by decide
theorem fld_31_2 : fld 31 2 = 37 := by decide
theorem fld_32_0 : fld 32 0 = 34 := by decide
theorem fld_32_1 : fld 32 1 = 36 := by decide
theorem fld_32_2 : fld 32 2 = 38 := by decide
theorem fld_37_0 : fld 37 0 = 40 := by decide
theorem fld_38_0 : fld 38 0 = 41 := by decide
theorem fld_39_0 : fld 39 0 = 42 := by decide
theorem elm_2 (i : Nat) : elm 2 i = 10 + i := rfl
theorem elm_22 (i : Nat) : elm 22 i = 23 + i := rfl
theorem elm_33 (i : Nat) : elm 33 i = 61 + i := rfl
theorem elm_34 (i : Nat) : elm 34 i = 67 + i := rfl
theorem elm_40 (i : Nat) : elm 40 i = 43 + i := rfl
theorem elm_41 (i : Nat) : elm 41 i = 49 + i := rfl
theorem elm_42 (i : Nat) : elm 42 i = 55 + i := rfl
theorem elm_78 (i : Nat) : elm 78 i = 79 + i := rfl
theorem fld_row {r : Nat} (h : r < 6) : fld (10 + r) 0 = 16 + r := (show ∀ r, r < 6 → fld (10 + r) 0 = 16 + r by decide) r h
theorem fld_cnt {c : Nat} (h : c < 4) : fld (23 + c) 0 = 27 + c := (show ∀ c, c < 4 → fld (23 + c) 0 = 27 + c by decide) c h
theorem i_lt (a b : Int32) : a < b ↔ a.toInt < b.toInt := Int32.lt_iff_toInt_lt
theorem i_le (a b : Int32) : a ≤ b ↔ a.toInt ≤ b.toInt := Int32.le_iff_toInt_le
theorem i_eq (a b : Int32) : a = b ↔ a.toInt = b.toInt := Int32.toInt_inj.symm
theorem l_lt (a b : Int64) : a < b ↔ a.toInt < b.toInt := Int64.lt_iff_toInt_lt
theorem l_le (a b : Int64) : a ≤ b ↔ a.toInt ≤ b.toInt := Int64.le_iff_toInt_le
theorem l_eq (a b : Int64) : a = b ↔ a.toInt = b.toInt := Int64.toInt_inj.symm
theorem lit (n : Nat) (h : n < 2 ^ 31) : (OfNat.ofNat n : Int32) = nI n := rfl
theorem in_iff {x : Int32} {n : Nat} : vp_in x n ↔ 0 ≤ x.toInt ∧ x.toInt < n := vp_in_iff
theorem x_of {x : Int32} {n : Nat} (h : vp_in x n) (hn : n < 1000) : ∃ k, k < n ∧ x = nI k := vp_in_of h (by omega)
theorem li_m9 : (-9 : Int32).toInt = -9 := by decide
theorem li_m4 : (-4 : Int32).toInt = -4 := by decide
theorem li_m3 : (-3 : Int32).toInt = -3 := by decide
theorem li_m2 : (-2 : Int32).toInt = -2 := by decide
theorem li_m1 : (-1 : Int32).toInt = -1 := by decide
theorem li_0 : (0 : Int32).toInt = 0 := by decide
theorem li_1 : (1 : Int32).toInt = 1 := by decide
theorem li_2 : (2 : Int32).toInt = 2 := by decide
theorem li_3 : (3 : Int32).toInt = 3 := by decide
theorem li_4 : (4 : Int32).toInt = 4 := by decide
theorem li_5 : (5 : Int32).toInt = 5 := by decide
theorem li_6 : (6 : Int32).toInt = 6 := by decide
theorem li_7 : (7 : Int32).toInt = 7 := by decide
theorem li_8 : (8 : Int32).toInt = 8 := by decide
theorem li_9 : (9 : Int32).toInt = 9 := by decide
theorem li_10 : (10 : Int32).toInt = 10 := by decide
theorem li_11 : (11 : Int32).toInt = 11 := by decide
theorem li_12 : (12 : Int32).toInt = 12 := by decide
theorem li_13 : (13 : Int32).toInt = 13 := by decide
theorem li_16 : (16 : Int32).toInt = 16 := by decide
theorem li_24 : (24 : Int32).toInt = 24 := by decide
theorem li_25 : (25 : Int32).toInt = 25 := by decide
theorem li_31 : (31 : Int32).toInt = 31 := by decide
theorem li_36 : (36 : Int32).toInt = 36 := by decide
theorem li_40 : (40 : Int32).toInt = 40 := by decide
theorem li_125 : (125 : Int32).toInt = 125 := by decide
theorem li_200 : (200 : Int32).toInt = 200 := by decide
theorem li_240 : (240 : Int32).toInt = 240 := by decide
theorem li_625 : (625 : Int32).toInt = 625 := by decide
theorem li_1000 : (1000 : Int32).toInt = 1000 := by decide
theorem li_100000 : (100000 : Int32).toInt = 100000 := by decide
theorem li_1000000 : (1000000 : Int32).toInt = 1000000 := by decide
/-- tests of numbers -/
theorem s_isRowNumber (x : Int32) (M : Mm) : f_X8_isRowNumber x M = some (if 0 ≤ x.toInt ∧ x.toInt < 6 then 1 else 0, M) := by
  unfold f_X8_isRowNumber
  simp only [i_lt, i_le, li_m9, li_m4, li_m3, li_m2, li_m1, li_0, li_1, li_2, li_3, li_4, li_5, li_6, li_7, li_8, li_9, li_10, li_11, li_12, li_13, li_16, li_24, li_25, li_31, li_36, li_40, li_125, li_200, li_240, li_625, li_1000, li_100000, li_1000000]
  repeat' split
  all_goals first | rfl | (exfalso; omega)
theorem ad_0 : (0 : Int32) + 1 = 1 := rfl
theorem ad_1 : (1 : Int32) + 1 = 2 := rfl
theorem ad_2 : (2 : Int32) + 1 = 3 := rfl
theorem ad_3 : (3 : Int32) + 1 = 4 := rfl
theorem ad_4 : (4 : Int32) + 1 = 5 := rfl
theorem ad_5 : (5 : Int32) + 1 = 6 := rfl

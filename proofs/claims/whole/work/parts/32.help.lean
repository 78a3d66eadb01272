/-! small helpers of both sides -/
theorem b_if {p : Prop} [Decidable p] : ((if p then (1 : Int32) else 0) = 0) ↔ ¬ p := by
  by_cases h : p <;> simp [h]
theorem bz_if {α : Type} {p : Prop} [Decidable p] (x : Option α) : bz (if p then (1 : Int32) else 0) x = x := by
  by_cases h : p <;> simp [h, bz]
theorem s_isCounterNumber (x : Int32) (M : Mm) : f_X8_isCounterNumber x M = some (if 0 ≤ x.toInt ∧ x.toInt < 4 then 1 else 0, M) := by
  unfold f_X8_isCounterNumber
  simp only [i_lt, i_le, li_m9, li_m4, li_m3, li_m2, li_m1, li_0, li_1, li_2, li_3, li_4, li_5, li_6, li_7, li_8, li_9, li_10, li_11, li_12, li_13, li_16, li_24, li_25, li_31, li_36, li_40, li_125, li_200, li_240, li_625, li_1000, li_100000, li_1000000]
  repeat' split
  all_goals first | rfl | (exfalso; omega)
theorem s_isThings (x : Int32) (M : Mm) : f_X8_isThings x M = some (if 1 ≤ x.toInt ∧ x.toInt ≤ 4 then 1 else 0, M) := by
  unfold f_X8_isThings
  simp only [i_lt, i_le, li_m9, li_m4, li_m3, li_m2, li_m1, li_0, li_1, li_2, li_3, li_4, li_5, li_6, li_7, li_8, li_9, li_10, li_11, li_12, li_13, li_16, li_24, li_25, li_31, li_36, li_40, li_125, li_200, li_240, li_625, li_1000, li_100000, li_1000000]
  repeat' split
  all_goals first | rfl | (exfalso; omega)
theorem s_isComing (x : Int32) (M : Mm) : f_X8_isComing x M = some (if 0 ≤ x.toInt ∧ x.toInt ≤ 9 then 1 else 0, M) := by
  unfold f_X8_isComing
  simp only [i_lt, i_le, li_m9, li_m4, li_m3, li_m2, li_m1, li_0, li_1, li_2, li_3, li_4, li_5, li_6, li_7, li_8, li_9, li_10, li_11, li_12, li_13, li_16, li_24, li_25, li_31, li_36, li_40, li_125, li_200, li_240, li_625, li_1000, li_100000, li_1000000]
  repeat' split
  all_goals first | rfl | (exfalso; omega)
theorem s_isRate (x : Int32) (M : Mm) : f_X8_isRate x M = some (if x.toInt = 1 ∨ x.toInt = 2 ∨ x.toInt = 3 ∨ x.toInt = 4 ∨ x.toInt = 6 ∨ x.toInt = 12 then 1 else 0, M) := by
  unfold f_X8_isRate
  simp only [i_eq, li_m9, li_m4, li_m3, li_m2, li_m1, li_0, li_1, li_2, li_3, li_4, li_5, li_6, li_7, li_8, li_9, li_10, li_11, li_12, li_13, li_16, li_24, li_25, li_31, li_36, li_40, li_125, li_200, li_240, li_625, li_1000, li_100000, li_1000000]
  repeat' split
  all_goals first | rfl | (exfalso; omega)
theorem s_in (x a b : Int32) (M : Mm) : f_X9_in x a b M = some (if a.toInt ≤ x.toInt ∧ x.toInt ≤ b.toInt then 1 else 0, M) := by
  unfold f_X9_in
  simp only [i_lt, i_le]
  repeat' split
  all_goals first | rfl | (exfalso; omega)
theorem s_isRow (x : Int32) (M : Mm) : f_X9_isRow x M = some (if 0 ≤ x.toInt ∧ x.toInt < 6 then 1 else 0, M) := by
  unfold f_X9_isRow
  simp only [s_in, nm_q, bd_s, li_m9, li_m4, li_m3, li_m2, li_m1, li_0, li_1, li_2, li_3, li_4, li_5, li_6, li_7, li_8, li_9, li_10, li_11, li_12, li_13, li_16, li_24, li_25, li_31, li_36, li_40, li_125, li_200, li_240, li_625, li_1000, li_100000, li_1000000, bz_if]
  repeat' split
  all_goals first | rfl | (exfalso; omega)
theorem s_isCounter (x : Int32) (M : Mm) : f_X9_isCounter x M = some (if 0 ≤ x.toInt ∧ x.toInt < 4 then 1 else 0, M) := by
  unfold f_X9_isCounter
  simp only [s_in, nm_q, bd_s, li_m9, li_m4, li_m3, li_m2, li_m1, li_0, li_1, li_2, li_3, li_4, li_5, li_6, li_7, li_8, li_9, li_10, li_11, li_12, li_13, li_16, li_24, li_25, li_31, li_36, li_40, li_125, li_200, li_240, li_625, li_1000, li_100000, li_1000000, bz_if]
  repeat' split
  all_goals first | rfl | (exfalso; omega)
theorem s_isMany (x : Int32) (M : Mm) : f_X9_isMany x M = some (if 1 ≤ x.toInt ∧ x.toInt ≤ 4 then 1 else 0, M) := by
  unfold f_X9_isMany
  simp only [s_in, nm_q, bd_s, li_m9, li_m4, li_m3, li_m2, li_m1, li_0, li_1, li_2, li_3, li_4, li_5, li_6, li_7, li_8, li_9, li_10, li_11, li_12, li_13, li_16, li_24, li_25, li_31, li_36, li_40, li_125, li_200, li_240, li_625, li_1000, li_100000, li_1000000, bz_if]
/-- an index is of the range, as a number, or it is not -/
theorem x_split (x : Int32) (n : Nat) (hn : n < 1000) : (∃ k, k < n ∧ x = nI k) ∨ ¬ (0 ≤ x.toInt ∧ x.toInt < n) := by
  by_cases h : 0 ≤ x.toInt ∧ x.toInt < n
  · exact Or.inl (x_of (in_iff.mpr h) hn)
  · exact Or.inr h
theorem x_split4 (x : Int32) : (∃ k, k < 4 ∧ x = nI k) ∨ ¬ (0 ≤ x.toInt ∧ x.toInt < 4) := x_split x 4 (by omega)
theorem x_split6 (x : Int32) : (∃ k, k < 6 ∧ x = nI k) ∨ ¬ (0 ≤ x.toInt ∧ x.toInt < 6) := x_split x 6 (by omega)
theorem nr_RF {kd rt hd rm cm : Nf} {wy : Nat → Nf} {M : Mm} {f : Nat} (n : NetR kd rt hd rm cm wy M) : NetR kd rt hd rm cm wy (RF M f) := n.sc (fun a k p => by unfold RF; rw [mI_sI, if_neg (by unfold pR at p; omega), mI_sI, if_neg (by unfold pR at p; omega)])
theorem rr_RF {sz : Nf} {pl : Nat → Nat → Int32} {M : Mm} {f : Nat} (n : RowR sz pl M) : RowR sz pl (RF M f) := n.sc (fun a k p => by unfold RF; rw [mI_sI, if_neg (by unfold pR at p; omega), mI_sI, if_neg (by unfold pR at p; omega)])
theorem nr_sI {kd rt hd rm cm : Nf} {wy : Nat → Nf} {M : Mm} {a k : Nat} {v : Int32} (n : NetR kd rt hd rm cm wy M) (h : a ≠ 1 ∧ a < 84) : NetR kd rt hd rm cm wy (sI M a k v) := n.sc (fun b j p => by rw [mI_sI, if_neg (by unfold pR at p; omega)])
theorem rr_sI {sz : Nf} {pl : Nat → Nat → Int32} {M : Mm} {a k : Nat} {v : Int32} (n : RowR sz pl M) (h : a ≠ 1 ∧ a < 84) : RowR sz pl (sI M a k v) := n.sc (fun b j p => by rw [mI_sI, if_neg (by unfold pR at p; omega)])
theorem s_ref1 (M : Mm) : f_X8_refuse 0 1 M = some (-3, RF M 1) := s_refuse (f := 1) M (by omega) (by omega)
theorem s_ref2 (M : Mm) : f_X8_refuse 0 2 M = some (-3, RF M 2) := s_refuse (f := 2) M (by omega) (by omega)
theorem s_ref3 (M : Mm) : f_X8_refuse 0 3 M = some (-3, RF M 3) := s_refuse (f := 3) M (by omega) (by omega)
theorem s_ref4 (M : Mm) : f_X8_refuse 0 4 M = some (-3, RF M 4) := s_refuse (f := 4) M (by omega) (by omega)
theorem s_ref5 (M : Mm) : f_X8_refuse 0 5 M = some (-3, RF M 5) := s_refuse (f := 5) M (by omega) (by omega)
theorem s_met1 (M : Mm) : f_X9_meets 1 1 M = some (-3, RM M 1) := s_meets (f := 1) M (by omega) (by omega)
theorem s_met2 (M : Mm) : f_X9_meets 1 2 M = some (-3, RM M 2) := s_meets (f := 2) M (by omega) (by omega)
theorem s_met3 (M : Mm) : f_X9_meets 1 3 M = some (-3, RM M 3) := s_meets (f := 3) M (by omega) (by omega)
theorem s_met4 (M : Mm) : f_X9_meets 1 4 M = some (-3, RM M 4) := s_meets (f := 4) M (by omega) (by omega)
theorem s_met5 (M : Mm) : f_X9_meets 1 5 M = some (-3, RM M 5) := s_meets (f := 5) M (by omega) (by omega)
theorem t_nI {k : Nat} (h : k < 2 ^ 31) : (nI k).toInt = (k : Int) := nI_toInt h
theorem kd_eq {kd : Nf} {c : Nat} {j : Nat} (h : kd c ≤ 5 ∨ kd c = 9) (hj : j ≤ 5) : ((if kd c = 9 then (-1 : Int32) else nI (kd c)) = nI j) ↔ kd c = j := by
  rw [i_eq]
  split
  · rw [t_nI (by omega), li_m1]; omega
  · rw [t_nI (by omega), t_nI (by omega)]; omega
theorem kd_m1 {kd : Nf} {c : Nat} (h : kd c ≤ 5 ∨ kd c = 9) : ((if kd c = 9 then (-1 : Int32) else nI (kd c)) = -1) ↔ kd c = 9 := by
  rw [i_eq]
  split
  · rw [li_m1]; omega
  · rw [t_nI (by omega), li_m1]; omega
theorem s_has_bad {x : Int32} {M : Mm} (h : ¬ (0 ≤ x.toInt ∧ x.toInt < 4)) : f_X4_has 4 x M = some (0, M) := by
  unfold f_X4_has
  simp only [i_lt, i_le, li_m9, li_m4, li_m3, li_m2, li_m1, li_0, li_1, li_2, li_3, li_4, li_5, li_6, li_7, li_8, li_9, li_10, li_11, li_12, li_13, li_16, li_24, li_25, li_31, li_36, li_40, li_125, li_200, li_240, li_625, li_1000, li_100000, li_1000000]
  by_cases h1 : x.toInt < 0
  · rw [if_pos h1]
  · rw [if_neg h1, if_pos (by omega)]
theorem s_cntThere {c : Nat} {M : Mm} {kd rt hd rm cm : Nf} {wy : Nat → Nf} (n : NetC kd rt hd rm cm wy M) (w : wfN kd rt hd rm cm wy) (hc : c < 4) : f_X1_isThere (23 + c) M = some (if kd c = 9 then 0 else 1, M) := by
  unfold f_X1_isThere
  rw [(n.1 c hc).1]
  simp only [kd_m1 (w c hc).1]
  split <;> rfl
theorem s_has {c : Nat} {M : Mm} {kd rt hd rm cm : Nf} {wy : Nat → Nf} (n : NetC kd rt hd rm cm wy M) (w : wfN kd rt hd rm cm wy) (hc : c < 4) : f_X4_has 4 (nI c) M = some (if kd c = 9 then 0 else 1, M) := by
  have t : (nI c).toInt = (c : Int) := nI_toInt (by omega)
  unfold f_X4_has
  simp only [i_lt, i_le, t, li_m9, li_m4, li_m3, li_m2, li_m1, li_0, li_1, li_2, li_3, li_4, li_5, li_6, li_7, li_8, li_9, li_10, li_11, li_12, li_13, li_16, li_24, li_25, li_31, li_36, li_40, li_125, li_200, li_240, li_625, li_1000, li_100000, li_1000000, nm_q, bd_s, fld_4_0, elm_22, nI_cl (show c < 2 ^ 31 by omega), ck_k hc (by omega), s_cntThere n w hc]
  rw [if_neg (by omega), if_neg (by omega)]
  by_cases h : kd c = 9 <;> simp [h]
theorem s_askedFor_bad {x : Int32} {M : Mm} (h : ¬ (0 ≤ x.toInt ∧ x.toInt < 4)) : f_X9_askedFor 1 x M = some (-1, M) := by
  unfold f_X9_askedFor
  simp only [s_isCounter, nm_q, bd_s, if_neg h]
  rfl
theorem s_askedFor {c : Nat} {M : Mm} {kd rt hd rm cm : Nf} {wy : Nat → Nf} (n : NetR kd rt hd rm cm wy M) (hc : c < 4) : f_X9_askedFor 1 (nI c) M = some (if kd c = 9 then (-3, RM M 1) else (0, M)) := by
  have t : (nI c).toInt = (c : Int) := nI_toInt (by omega)
  unfold f_X9_askedFor
  simp only [s_isCounter, t, nm_q, bd_s, if_pos (show (0 : Int) ≤ c ∧ (c : Int) < 4 by omega), fld_1_8, nI_cl (show c < 2 ^ 31 by omega), ck_k hc (by omega), (n.1 c hc).1]
  by_cases h : kd c = 9
  · simp only [h, if_true]
    have := s_meets (f := 1) M (by omega) (by omega)
    simp only [show (nI 1) = 1 from rfl] at this
    simp [this, bd_s]
  · simp [h]
theorem s_askedRow_bad {x : Int32} {M : Mm} (h : ¬ (0 ≤ x.toInt ∧ x.toInt < 6)) : f_X9_askedRow 1 x M = some (-1, M) := by
  unfold f_X9_askedRow
  simp only [s_isRow, nm_q, bd_s, if_neg h]
  rfl
theorem s_askedRow {r : Nat} {M : Mm} {sz : Nf} {pl : Nat → Nat → Int32} (n : RowR sz pl M) (w : wfR sz) (hr : r < 6) : f_X9_askedRow 1 (nI r) M = some (if sz r = 41 then (-3, RM M 1) else (0, M)) := by
  have t : (nI r).toInt = (r : Int) := nI_toInt (by omega)
  have hw := w r hr
  unfold f_X9_askedRow
  simp only [s_isRow, t, nm_q, bd_s, if_pos (show (0 : Int) ≤ r ∧ (r : Int) < 6 by omega), fld_1_5, nI_cl (show r < 2 ^ 31 by omega), ck_k hr (by omega), (n r hr).1]
  have := s_meets (f := 1) M (by omega) (by omega)
  simp only [show (nI 1) = 1 from rfl] at this
  by_cases h : sz r = 41
  · simp [h, this, bd_s]
  · have t2 : (nI (sz r)).toInt = (sz r : Int) := nI_toInt (by omega)
    simp only [h, if_false, i_le, i_lt, t2, li_m9, li_m4, li_m3, li_m2, li_m1, li_0, li_1, li_2, li_3, li_4, li_5, li_6, li_7, li_8, li_9, li_10, li_11, li_12, li_13, li_16, li_24, li_25, li_31, li_36, li_40, li_125, li_200, li_240, li_625, li_1000, li_100000, li_1000000]
    simp only [if_pos (show (0 : Int) ≤ sz r by omega), if_neg (show ¬ (sz r : Int) < 0 by omega)]
    simp
theorem s_rowThere {r : Nat} {M : Mm} {sz : Nf} {pl : Nat → Nat → Int32} (n : RowC sz pl M) (w : wfR sz) (hr : r < 6) : f_X6_isThere (10 + r) M = some (if sz r = 41 then 0 else 1, M) := by
  have hw := w r hr
  unfold f_X6_isThere
  rw [(n r hr).1]
  by_cases h : sz r = 41
  · simp [h]
  · have t2 : (nI (sz r)).toInt = (sz r : Int) := nI_toInt (by omega)
    simp only [h, if_false, i_lt, i_le, t2, li_m9, li_m4, li_m3, li_m2, li_m1, li_0, li_1, li_2, li_3, li_4, li_5, li_6, li_7, li_8, li_9, li_10, li_11, li_12, li_13, li_16, li_24, li_25, li_31, li_36, li_40, li_125, li_200, li_240, li_625, li_1000, li_100000, li_1000000]
    split
    · exfalso; omega
    · rfl

/-! loops over the counters; told, findings and the like -/
theorem ck_l0 {α : Type} (x : Option α) : ck 0 4 x = x := rfl
theorem ck_l1 {α : Type} (x : Option α) : ck 1 4 x = x := rfl
theorem ck_l2 {α : Type} (x : Option α) : ck 2 4 x = x := rfl
theorem ck_l3 {α : Type} (x : Option α) : ck 3 4 x = x := rfl
theorem ck_m0 {α : Type} (x : Option α) : ck 0 6 x = x := rfl
theorem ck_m1 {α : Type} (x : Option α) : ck 1 6 x = x := rfl
theorem ck_m2 {α : Type} (x : Option α) : ck 2 6 x = x := rfl
theorem ck_m3 {α : Type} (x : Option α) : ck 3 6 x = x := rfl
theorem ck_m4 {α : Type} (x : Option α) : ck 4 6 x = x := rfl
theorem ck_m5 {α : Type} (x : Option α) : ck 5 6 x = x := rfl
theorem cl_0 : Int32.toNatClampNeg 0 = 0 := rfl
theorem cl_1 : Int32.toNatClampNeg 1 = 1 := rfl
theorem cl_2 : Int32.toNatClampNeg 2 = 2 := rfl
theorem cl_3 : Int32.toNatClampNeg 3 = 3 := rfl
theorem cl_4 : Int32.toNatClampNeg 4 = 4 := rfl
theorem cl_5 : Int32.toNatClampNeg 5 = 5 := rfl
theorem fu : fuel = 980 + 20 := rfl
theorem nI_subs {a b c d : Nat} (h : a + b + c + d ≤ 4) : (4 : Int32) - nI a - nI b - nI c - nI d = nI (4 - (a + b + c + d)) := by
  rw [show (4 : Int32) = nI 4 from rfl, pk_sub (by omega), pk_sub (by omega), pk_sub (by omega), pk_sub (by omega)]
  congr 1
  omega
theorem s_leaving {c : Nat} {M : Mm} {kd rt hd rm cm : Nf} {wy : Nat → Nf} (n : NetC kd rt hd rm cm wy M) (w : wfN kd rt hd rm cm wy) (hc : c < 4) : f_X1_leaving (23 + c) M = some (nI (4 - (wy c 0 + wy c 1 + wy c 2 + wy c 3)), M) := by
  rw [← nI_subs (w c hc).2.2.2.2.2.2]
  unfold f_X1_leaving
  rw [fu]
  iterate 5 (rw [f_X1_leaving_b4_s]; unfold f_X1_leaving_b4B; simp (decide := true) only [fld_cnt hc, nm_q, bd_s, ck_l0, ck_l1, ck_l2, ck_l3, cl_0, cl_1, cl_2, cl_3, cl_4, cl_5, n.2 c 0 hc (by omega), n.2 c 1 hc (by omega), n.2 c 2 hc (by omega), n.2 c 3 hc (by omega), if_false, if_true, ad_0, ad_1, ad_2, ad_3, ad_4, ad_5])
theorem nI_sums {a b c d : Nat} : (0 : Int32) + nI a + nI b + nI c + nI d = nI (a + b + c + d) := by
  rw [show (0 : Int32) = nI 0 from rfl, nI_add, nI_add, nI_add, nI_add]
  congr 1
  omega
theorem ck_w {α : Type} {c k : Nat} (hc : c < 4) (hk : k < 4) (x : Option α) : ck ((4 * nI c) + nI k) 16 x = x := by
  rw [show (4 : Int32) = nI 4 from rfl, pk_mul, nI_add]
  exact ck_k (by omega) (by omega)
theorem cl_w {c k : Nat} (hc : c < 4) (hk : k < 4) : Int32.toNatClampNeg ((4 * nI c) + nI k) = 4 * c + k := by
  rw [show (4 : Int32) = nI 4 from rfl, pk_mul, nI_add]
  exact nI_cl (by omega)
theorem n_0 : (0 : Int32) = nI 0 := rfl
theorem n_1 : (1 : Int32) = nI 1 := rfl
theorem n_2 : (2 : Int32) = nI 2 := rfl
theorem n_3 : (3 : Int32) = nI 3 := rfl
theorem s_outOf {c : Nat} {M : Mm} {kd rt hd rm cm : Nf} {wy : Nat → Nf} (n : NetR kd rt hd rm cm wy M) (hc : c < 4) : f_X9_outOf 1 (nI c) M = some (nI (wy c 0 + wy c 1 + wy c 2 + wy c 3), M) := by
  have e0 := n.2 c 0 hc (by omega)
  have e1 := n.2 c 1 hc (by omega)
  have e2 := n.2 c 2 hc (by omega)
  have e3 := n.2 c 3 hc (by omega)
  have k0 : ∀ {α : Type} (x : Option α), ck ((4 * nI c) + 0) 16 x = x := fun x => ck_w (k := 0) hc (by omega) x
  have k1 : ∀ {α : Type} (x : Option α), ck ((4 * nI c) + 1) 16 x = x := fun x => ck_w (k := 1) hc (by omega) x
  have k2 : ∀ {α : Type} (x : Option α), ck ((4 * nI c) + 2) 16 x = x := fun x => ck_w (k := 2) hc (by omega) x
  have k3 : ∀ {α : Type} (x : Option α), ck ((4 * nI c) + 3) 16 x = x := fun x => ck_w (k := 3) hc (by omega) x
  have c0 : Int32.toNatClampNeg ((4 * nI c) + 0) = 4 * c + 0 := cl_w (k := 0) hc (by omega)
  have c1 : Int32.toNatClampNeg ((4 * nI c) + 1) = 4 * c + 1 := cl_w (k := 1) hc (by omega)
  have c2 : Int32.toNatClampNeg ((4 * nI c) + 2) = 4 * c + 2 := cl_w (k := 2) hc (by omega)
  have c3 : Int32.toNatClampNeg ((4 * nI c) + 3) = 4 * c + 3 := cl_w (k := 3) hc (by omega)
  rw [← nI_sums]
  unfold f_X9_outOf
  rw [fu]
  iterate 5 (rw [f_X9_outOf_b4_s]; unfold f_X9_outOf_b4B; simp (decide := true) only [fld_1_14, nm_q, bd_s, k0, k1, k2, k3, c0, c1, c2, c3, e0, e1, e2, e3, if_false, if_true, ad_0, ad_1, ad_2, ad_3, ad_4, ad_5])
theorem inv_ask {M Ma : Mm} {v : Int32} (h : Inv M) (hs : Sc (sI M 0 8 v) Ma) : Inv (sI Ma 1 2 v) := by
  obtain ⟨⟨kd, rt, hd, rm, cm, wy, w, n1, n2⟩, ⟨sz, pl, w2, r1, r2⟩, ⟨ff, fn, as, up, lo, f1, f2⟩⟩ := h
  have ex : ∀ b j, pX b → mI (sI Ma 1 2 v) b j = if b = 0 ∧ j = 8 then v else mI M b j := fun b j p => by
    rw [mI_sI, if_neg (by unfold pX at p; omega), hs.1 b j (Or.inl p), mI_sI]
  have er : ∀ b j, pR b j → mI (sI Ma 1 2 v) b j = if b = 1 ∧ j = 2 then v else mI M b j := fun b j p => by
    rw [mI_sI, hs.1 b j (Or.inr p), mI_sI, if_neg (show ¬ (b = 0 ∧ j = 8) by unfold pR at p; omega)]
  refine ⟨⟨kd, rt, hd, rm, cm, wy, w, ⟨fun d hd9 => ?_, fun d j hd9 hj => ?_⟩, ⟨fun d hd9 => ?_, fun d j hd9 hj => ?_⟩⟩, ⟨sz, pl, w2, fun r hr => ⟨?_, fun hn i hi => ?_⟩, fun r hr => ⟨?_, fun hn i hi => ?_⟩⟩, ⟨ff, fn, v, up, lo, ⟨fun g g1 g5 => ?_, ?_, ?_, ?_, ?_⟩, ⟨fun g g1 g5 => ?_, ?_, ?_, ?_, ?_⟩⟩⟩
  · have p : pX (23 + d) := by unfold pX; omega
    rw [ex _ _ p, ex _ _ p, ex _ _ p, ex _ _ p, ex _ _ p]
    simp only [show ¬ (23 + d = 0) by omega, false_and, if_false]
    exact n1.1 d hd9
  · rw [ex _ _ (by unfold pX; omega), if_neg (by omega)]; exact n1.2 d j hd9 hj
  · rw [er 88 d (by unfold pR; omega), er 89 d (by unfold pR; omega), er 90 d (by unfold pR; omega), er 91 d (by unfold pR; omega), er 92 d (by unfold pR; omega), er 93 d (by unfold pR; omega)]
    exact n2.1 d hd9
  · rw [er _ _ (by unfold pR; omega), if_neg (by omega)]; exact n2.2 d j hd9 hj
  · rw [ex _ _ (by unfold pX; omega), if_neg (by omega)]; exact (r1 r hr).1
  · rw [ex _ _ (by unfold pX; omega), if_neg (by omega)]; exact (r1 r hr).2 hn i hi
  · rw [er _ _ (by unfold pR; omega), if_neg (by omega)]; exact (r2 r hr).1
  · rw [er _ _ (by unfold pR; omega), if_neg (by omega)]; exact (r2 r hr).2 hn i hi
  · rw [ex _ _ (by unfold pX; omega), if_neg (by omega)]; exact f1.1 g g1 g5
  · rw [ex _ _ (by unfold pX; omega), if_neg (by omega)]; exact f1.2.1
  · rw [ex _ _ (by unfold pX; omega), if_pos (by omega)]
  · show mJ Ma 7 0 = up
    rw [hs.2.1]; exact f1.2.2.2.1
  · show mJ Ma 7 1 = lo
    rw [hs.2.1]; exact f1.2.2.2.2
  · rw [er _ _ (by unfold pR; omega), if_neg (by omega)]; exact f2.1 g g1 g5
  · rw [er _ _ (by unfold pR; omega), if_neg (by omega)]; exact f2.2.1
  · rw [er _ _ (by unfold pR; omega), if_pos (by omega)]
  · show mJ Ma 1 3 = up
    rw [hs.2.2 3 (Or.inl rfl)]; exact f2.2.2.2.1
  · show mJ Ma 1 4 = lo
    rw [hs.2.2 4 (Or.inr rfl)]; exact f2.2.2.2.2
/-- the number that told() tells -/
def toldV (kd rt hd cm : Nf) (wy : Nat → Nf) (c j : Nat) : Nat := if j = 0 then kd c else if j = 1 then rt c else if j = 2 then hd c else if j = 3 then cm c else 4 - (wy c 0 + wy c 1 + wy c 2 + wy c 3)
theorem s_fact {c j : Nat} {M : Mm} {kd rt hd rm cm : Nf} {wy : Nat → Nf} (n : NetC kd rt hd rm cm wy M) (w : wfN kd rt hd rm cm wy) (hc : c < 4) (hk : kd c ≠ 9) (hj : j ≤ 4) : f_X1_fact (23 + c) (nI j) M = some (nI (toldV kd rt hd cm wy c j), M) := by
  unfold f_X1_fact toldV
  simp only [n.1 c hc, hk, if_false, s_leaving n w hc, nm_q, bd_s]
  have : j = 0 ∨ j = 1 ∨ j = 2 ∨ j = 3 ∨ j = 4 := by omega
  rcases this with rfl | rfl | rfl | rfl | rfl <;> rfl
theorem s_tells {c j : Nat} {M : Mm} {kd rt hd rm cm : Nf} {wy : Nat → Nf} (n : NetR kd rt hd rm cm wy M) (w : wfN kd rt hd rm cm wy) (hc : c < 4) (hk : kd c ≠ 9) (hj : j ≤ 4) : f_X9_tells 1 (nI c) (nI j) M = some (nI (toldV kd rt hd cm wy c j), M) := by
  have q := (n.1 c hc).2.1 hk
  have hs := (w c hc).2.2.2.2.2.2
  unfold f_X9_tells toldV
  simp only [s_outOf n hc, nm_q, bd_s, nI_cl (show c < 2 ^ 31 by omega), ck_k hc (by omega), fld_1_9, fld_1_10, fld_1_11, fld_1_13, q, (n.1 c hc).2.2]
  rw [show (4 : Int32) - nI (wy c 0 + wy c 1 + wy c 2 + wy c 3) = nI (4 - (wy c 0 + wy c 1 + wy c 2 + wy c 3)) by rw [show (4 : Int32) = nI 4 from rfl, pk_sub (by omega)]]
  have : j = 0 ∨ j = 1 ∨ j = 2 ∨ j = 3 ∨ j = 4 := by omega
  rcases this with rfl | rfl | rfl | rfl | rfl <;> rfl
theorem al_told (x v : Int32) : Alike (f_X8_told 0 x v) (f_X9_told 1 x v) := by
  intro M h
  obtain ⟨⟨kd, rt, hd, rm, cm, wy, w, n1, n2⟩, hrow, hflg⟩ := id h
  by_cases hv : 0 ≤ v.toInt ∧ v.toInt ≤ 4
  · obtain ⟨j, hj, rfl⟩ := x_of (x := v) (n := 5) (in_iff.mpr (by omega)) (by omega)
    have tj : (nI j).toInt = (j : Int) := t_nI (by omega)
    rw [tj] at hv
    rcases x_split4 x with ⟨c, hc, rfl⟩ | hx
    · have tc : (nI c).toInt = (c : Int) := t_nI (by omega)
      by_cases e : kd c = 9
      · refine ⟨-3, RF M 1, RM (RF M 1) 1, ?_, ?_, inv_ref h (by omega) (by omega) (Sc.rf _) (Sc.rf _)⟩
        · unfold f_X8_told
          simp only [s_isCounterNumber, i_lt, i_le, tc, tj, li_m9, li_m4, li_m3, li_m2, li_m1, li_0, li_1, li_2, li_3, li_4, li_5, li_6, li_7, li_8, li_9, li_10, li_11, li_12, li_13, li_16, li_24, li_25, li_31, li_36, li_40, li_125, li_200, li_240, li_625, li_1000, li_100000, li_1000000, nm_q, bd_s, if_pos (show (0 : Int) ≤ c ∧ (c : Int) < 4 by omega), fld_0_1, s_has n1 w hc, s_ref1, if_neg (show ¬ (j : Int) < 0 by omega), if_pos (show (j : Int) ≤ 4 by omega), e]
          rfl
        · unfold f_X9_told
          simp only [s_in, li_m9, li_m4, li_m3, li_m2, li_m1, li_0, li_1, li_2, li_3, li_4, li_5, li_6, li_7, li_8, li_9, li_10, li_11, li_12, li_13, li_16, li_24, li_25, li_31, li_36, li_40, li_125, li_200, li_240, li_625, li_1000, li_100000, li_1000000, tj, nm_q, bd_s, if_pos hv, s_askedFor (nr_RF n2) hc, e]
          rfl
      · refine ⟨1, sI M 0 8 (nI (toldV kd rt hd cm wy c j)), sI (sI M 0 8 (nI (toldV kd rt hd cm wy c j))) 1 2 (nI (toldV kd rt hd cm wy c j)), ?_, ?_, inv_ask h (Sc.rf _)⟩
        · unfold f_X8_told
          simp only [s_isCounterNumber, i_lt, i_le, tc, tj, li_m9, li_m4, li_m3, li_m2, li_m1, li_0, li_1, li_2, li_3, li_4, li_5, li_6, li_7, li_8, li_9, li_10, li_11, li_12, li_13, li_16, li_24, li_25, li_31, li_36, li_40, li_125, li_200, li_240, li_625, li_1000, li_100000, li_1000000, nm_q, bd_s, if_pos (show (0 : Int) ≤ c ∧ (c : Int) < 4 by omega), fld_0_1, fld_4_0, elm_22, s_has n1 w hc, if_neg (show ¬ (j : Int) < 0 by omega), if_pos (show (j : Int) ≤ 4 by omega), e, if_false, nI_cl (show c < 2 ^ 31 by omega), ck_k hc (by omega), s_fact n1 w hc e (show j ≤ 4 by omega)]
          rfl
        · unfold f_X9_told
          simp only [s_in, li_m9, li_m4, li_m3, li_m2, li_m1, li_0, li_1, li_2, li_3, li_4, li_5, li_6, li_7, li_8, li_9, li_10, li_11, li_12, li_13, li_16, li_24, li_25, li_31, li_36, li_40, li_125, li_200, li_240, li_625, li_1000, li_100000, li_1000000, tj, nm_q, bd_s, if_pos hv, s_askedFor (nr_sI n2 (show 0 ≠ 1 ∧ 0 < 84 by omega)) hc, e, if_false, s_tells (nr_sI n2 (show 0 ≠ 1 ∧ 0 < 84 by omega)) w hc e (show j ≤ 4 by omega)]
          rfl
    · refine ⟨-1, M, M, ?_, ?_, h⟩
      · unfold f_X8_told
        simp only [s_isCounterNumber, nm_q, bd_s, if_neg hx]
        rfl
      · unfold f_X9_told
        simp only [s_in, li_m9, li_m4, li_m3, li_m2, li_m1, li_0, li_1, li_2, li_3, li_4, li_5, li_6, li_7, li_8, li_9, li_10, li_11, li_12, li_13, li_16, li_24, li_25, li_31, li_36, li_40, li_125, li_200, li_240, li_625, li_1000, li_100000, li_1000000, tj, nm_q, bd_s, if_pos hv, s_askedFor_bad hx]
        rfl
  · refine ⟨-1, M, M, ?_, ?_, h⟩
    · unfold f_X8_told
      simp only [s_isCounterNumber, nm_q, bd_s, i_lt, i_le, li_m9, li_m4, li_m3, li_m2, li_m1, li_0, li_1, li_2, li_3, li_4, li_5, li_6, li_7, li_8, li_9, li_10, li_11, li_12, li_13, li_16, li_24, li_25, li_31, li_36, li_40, li_125, li_200, li_240, li_625, li_1000, li_100000, li_1000000]
      by_cases q : 0 ≤ x.toInt ∧ x.toInt < 4
      · by_cases q2 : v.toInt < 0
        · simp [q, q2]
        · simp only [q, q2, if_neg (show ¬ v.toInt ≤ 4 by omega)]
          simp
      · simp [q]
    · unfold f_X9_told
      simp only [s_in, li_m9, li_m4, li_m3, li_m2, li_m1, li_0, li_1, li_2, li_3, li_4, li_5, li_6, li_7, li_8, li_9, li_10, li_11, li_12, li_13, li_16, li_24, li_25, li_31, li_36, li_40, li_125, li_200, li_240, li_625, li_1000, li_100000, li_1000000, nm_q, bd_s, if_neg hv]
      rfl
theorem al_asked : Alike (f_X8_asked 0) (f_X9_asked 1) := by
  intro M h
  obtain ⟨-, -, ⟨ff, fn, as, up, lo, f1, f2⟩⟩ := id h
  exact ⟨as, M, M, by unfold f_X8_asked; rw [f1.2.2.1], by unfold f_X9_asked; rw [f2.2.2.1], h⟩
theorem al_finding : Alike (f_X8_finding 0) (f_X9_finding 1) := by
  intro M h
  obtain ⟨-, -, ⟨ff, fn, as, up, lo, f1, f2⟩⟩ := id h
  exact ⟨fn, M, M, by unfold f_X8_finding; rw [f1.2.1], by unfold f_X9_finding; rw [f2.2.1], h⟩
theorem al_upper : AlikeL (f_X8_upper 0) (f_X9_upper 1) := by
  intro M h
  obtain ⟨-, -, ⟨ff, fn, as, up, lo, f1, f2⟩⟩ := id h
  exact ⟨up, M, M, by unfold f_X8_upper; rw [fld_0_5, f1.2.2.2.1], by unfold f_X9_upper; rw [f2.2.2.2.1], h⟩
theorem al_lower : AlikeL (f_X8_lower 0) (f_X9_lower 1) := by
  intro M h
  obtain ⟨-, -, ⟨ff, fn, as, up, lo, f1, f2⟩⟩ := id h
  exact ⟨lo, M, M, by unfold f_X8_lower; rw [fld_0_5, f1.2.2.2.2], by unfold f_X9_lower; rw [f2.2.2.2.2], h⟩
theorem al_findings (x : Int32) : Alike (f_X8_findings 0 x) (f_X9_findings 1 x) := by
  intro M h
  obtain ⟨-, -, ⟨ff, fn, as, up, lo, f1, f2⟩⟩ := id h
  by_cases hv : 1 ≤ x.toInt ∧ x.toInt ≤ 5
  · obtain ⟨j, hj, rfl⟩ := x_of (x := x) (n := 6) (in_iff.mpr (by omega)) (by omega)
    have tj : (nI j).toInt = (j : Int) := t_nI (by omega)
    rw [tj] at hv
    refine ⟨ff j, M, M, ?_, ?_, h⟩
    · unfold f_X8_findings
      simp only [i_lt, i_le, tj, li_m9, li_m4, li_m3, li_m2, li_m1, li_0, li_1, li_2, li_3, li_4, li_5, li_6, li_7, li_8, li_9, li_10, li_11, li_12, li_13, li_16, li_24, li_25, li_31, li_36, li_40, li_125, li_200, li_240, li_625, li_1000, li_100000, li_1000000, if_neg (show ¬ (j : Int) < 1 by omega), if_pos (show (j : Int) ≤ 5 by omega), fld_0_6, nI_cl (show j < 2 ^ 31 by omega), ck_k hj (by omega), f1.1 j (by omega) (by omega)]
    · unfold f_X9_findings
      simp only [s_in, tj, li_m9, li_m4, li_m3, li_m2, li_m1, li_0, li_1, li_2, li_3, li_4, li_5, li_6, li_7, li_8, li_9, li_10, li_11, li_12, li_13, li_16, li_24, li_25, li_31, li_36, li_40, li_125, li_200, li_240, li_625, li_1000, li_100000, li_1000000, nm_q, bd_s, if_pos hv, fld_1_1, nI_cl (show j < 2 ^ 31 by omega), ck_k hj (by omega), f2.1 j (by omega) (by omega)]
      rfl
  · refine ⟨-1, M, M, ?_, ?_, h⟩
    · unfold f_X8_findings
      simp only [i_lt, i_le, li_m9, li_m4, li_m3, li_m2, li_m1, li_0, li_1, li_2, li_3, li_4, li_5, li_6, li_7, li_8, li_9, li_10, li_11, li_12, li_13, li_16, li_24, li_25, li_31, li_36, li_40, li_125, li_200, li_240, li_625, li_1000, li_100000, li_1000000]
      by_cases q : x.toInt < 1
      · simp [q]
      · simp only [q, if_neg (show ¬ x.toInt ≤ 5 by omega)]
        simp
    · unfold f_X9_findings
      simp only [s_in, li_m9, li_m4, li_m3, li_m2, li_m1, li_0, li_1, li_2, li_3, li_4, li_5, li_6, li_7, li_8, li_9, li_10, li_11, li_12, li_13, li_16, li_24, li_25, li_31, li_36, li_40, li_125, li_200, li_240, li_625, li_1000, li_100000, li_1000000, nm_q, bd_s, if_neg hv]
      rfl

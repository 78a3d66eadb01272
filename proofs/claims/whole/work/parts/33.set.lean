/-! calls that set a counter's numbers -/
theorem up_ne {f : Nf} {c d v : Nat} (h : d ≠ c) : (fun j => if j = c then v else f j) d = f d := if_neg h
/-- a counter's number is set on both sides -/
theorem inv_set {M Ma : Mm} {kd rt hd rm cm : Nf} {wy : Nat → Nf} {c k a v : Nat} (h : Inv M) (n1 : NetC kd rt hd rm cm wy M) (n2 : NetR kd rt hd rm cm wy M) {rt2 hd2 rm2 cm2 : Nf} (w : wfN kd rt2 hd2 rm2 cm2 wy) (hc : c < 4) (hth : kd c ≠ 9)
    (ho : (k = 2 ∧ a = 90 ∧ rt2 = (fun j => if j = c then v else rt j) ∧ hd2 = hd ∧ rm2 = rm ∧ cm2 = cm) ∨ (k = 3 ∧ a = 91 ∧ rt2 = rt ∧ hd2 = (fun j => if j = c then v else hd j) ∧ rm2 = rm ∧ cm2 = cm) ∨ (k = 4 ∧ a = 92 ∧ rt2 = rt ∧ hd2 = hd ∧ rm2 = (fun j => if j = c then v else rm j) ∧ cm2 = cm) ∨ (k = 5 ∧ a = 93 ∧ rt2 = rt ∧ hd2 = hd ∧ rm2 = rm ∧ cm2 = (fun j => if j = c then v else cm j)))
    (hs : Sc (sI M (23 + c) k (nI v)) Ma) : Inv (sI Ma a c (nI v)) := by
  obtain ⟨-, ⟨sz, pl, w2, r1, r2⟩, ⟨ff, fn, as, up, lo, f1, f2⟩⟩ := h
  have ha : k = 2 ∧ a = 90 ∨ k = 3 ∧ a = 91 ∨ k = 4 ∧ a = 92 ∨ k = 5 ∧ a = 93 := by omega
  have ex : ∀ b j, pX b → mI (sI Ma a c (nI v)) b j = if b = 23 + c ∧ j = k then nI v else mI M b j := fun b j p => by
    rw [mI_sI, if_neg (by unfold pX at p; omega), hs.1 b j (Or.inl p), mI_sI]
  have er : ∀ b j, pR b j → mI (sI Ma a c (nI v)) b j = if b = a ∧ j = c then nI v else mI M b j := fun b j p => by
    rw [mI_sI, hs.1 b j (Or.inr p), mI_sI, if_neg (show ¬ (b = 23 + c ∧ j = k) by unfold pR at p; omega)]
  refine ⟨⟨kd, rt2, hd2, rm2, cm2, wy, w, ⟨fun d hd9 => ?_, fun d j hd9 hj => ?_⟩, ⟨fun d hd9 => ?_, fun d j hd9 hj => ?_⟩⟩, ⟨sz, pl, w2, fun r hr => ⟨?_, fun hn i hi => ?_⟩, fun r hr => ⟨?_, fun hn i hi => ?_⟩⟩, ⟨ff, fn, as, up, lo, ⟨fun g g1 g5 => ?_, ?_, ?_, ?_, ?_⟩, ⟨fun g g1 g5 => ?_, ?_, ?_, ?_, ?_⟩⟩⟩
  · have p : pX (23 + d) := by unfold pX; omega
    have q := n1.1 d hd9
    rw [ex _ _ p, ex _ _ p, ex _ _ p, ex _ _ p, ex _ _ p]
    by_cases e : d = c
    · subst e
      rcases ho with ⟨rfl, rfl, rfl, rfl, rfl, rfl⟩ | ⟨rfl, rfl, rfl, rfl, rfl, rfl⟩ | ⟨rfl, rfl, rfl, rfl, rfl, rfl⟩ | ⟨rfl, rfl, rfl, rfl, rfl, rfl⟩ <;> simp [q]
    · have e2 : ¬ 23 + d = 23 + c := by omega
      rcases ho with ⟨rfl, rfl, rfl, rfl, rfl, rfl⟩ | ⟨rfl, rfl, rfl, rfl, rfl, rfl⟩ | ⟨rfl, rfl, rfl, rfl, rfl, rfl⟩ | ⟨rfl, rfl, rfl, rfl, rfl, rfl⟩ <;> simp [q, e, e2]
  · rw [ex _ _ (by unfold pX; omega), if_neg (by omega)]; exact n1.2 d j hd9 hj
  · have q := n2.1 d hd9
    rw [er 88 d (by unfold pR; omega), er 89 d (by unfold pR; omega), er 90 d (by unfold pR; omega), er 91 d (by unfold pR; omega), er 92 d (by unfold pR; omega), er 93 d (by unfold pR; omega)]
    by_cases e : d = c
    · subst e
      rcases ho with ⟨rfl, rfl, rfl, rfl, rfl, rfl⟩ | ⟨rfl, rfl, rfl, rfl, rfl, rfl⟩ | ⟨rfl, rfl, rfl, rfl, rfl, rfl⟩ | ⟨rfl, rfl, rfl, rfl, rfl, rfl⟩ <;> simp [q, hth]
    · rcases ho with ⟨rfl, rfl, rfl, rfl, rfl, rfl⟩ | ⟨rfl, rfl, rfl, rfl, rfl, rfl⟩ | ⟨rfl, rfl, rfl, rfl, rfl, rfl⟩ | ⟨rfl, rfl, rfl, rfl, rfl, rfl⟩ <;> simp [q, e] <;> exact q.2.1
  · rw [er _ _ (by unfold pR; omega), if_neg (by omega)]; exact n2.2 d j hd9 hj
  · rw [ex _ _ (by unfold pX; omega), if_neg (by omega)]; exact (r1 r hr).1
  · rw [ex _ _ (by unfold pX; omega), if_neg (by omega)]; exact (r1 r hr).2 hn i hi
  · rw [er _ _ (by unfold pR; omega), if_neg (by omega)]; exact (r2 r hr).1
  · rw [er _ _ (by unfold pR; omega), if_neg (by omega)]; exact (r2 r hr).2 hn i hi
  · rw [ex _ _ (by unfold pX; omega), if_neg (by omega)]; exact f1.1 g g1 g5
  · rw [ex _ _ (by unfold pX; omega), if_neg (by omega)]; exact f1.2.1
  · rw [ex _ _ (by unfold pX; omega), if_neg (by omega)]; exact f1.2.2.1
  · show mJ Ma 7 0 = up
    rw [hs.2.1]; exact f1.2.2.2.1
  · show mJ Ma 7 1 = lo
    rw [hs.2.1]; exact f1.2.2.2.2
  · rw [er _ _ (by unfold pR; omega), if_neg (by omega)]; exact f2.1 g g1 g5
  · rw [er _ _ (by unfold pR; omega), if_neg (by omega)]; exact f2.2.1
  · rw [er _ _ (by unfold pR; omega), if_neg (by omega)]; exact f2.2.2.1
  · show mJ Ma 1 3 = up
    rw [hs.2.2 3 (Or.inl rfl)]; exact f2.2.2.2.1
  · show mJ Ma 1 4 = lo
    rw [hs.2.2 4 (Or.inr rfl)]; exact f2.2.2.2.2
theorem wf_set {kd rt hd rm cm : Nf} {wy : Nat → Nf} (w : wfN kd rt hd rm cm wy) {c : Nat} {rt2 hd2 rm2 cm2 : Nf} (hth : kd c ≠ 9) (h : ∀ d, d < 4 → (d ≠ c → rt2 d = rt d ∧ hd2 d = hd d ∧ rm2 d = rm d ∧ cm2 d = cm d) ∧ (d = c → (rt2 d = 1 ∨ rt2 d = 2 ∨ rt2 d = 3 ∨ rt2 d = 4 ∨ rt2 d = 6 ∨ rt2 d = 12) ∧ (hd2 d = 1 ∨ hd2 d = 2 ∧ kd d = 0) ∧ (1 ≤ rm2 d ∧ rm2 d ≤ 6) ∧ cm2 d ≤ 9)) : wfN kd rt2 hd2 rm2 cm2 wy := by
  intro d hd9
  have q := w d hd9
  by_cases e : d = c
  · subst e
    obtain ⟨a1, a2, a3, a4⟩ := (h d hd9).2 rfl
    exact ⟨q.1, a1, a2, a3, a4, fun z => absurd z hth, q.2.2.2.2.2.2⟩
  · obtain ⟨a1, a2, a3, a4⟩ := (h d hd9).1 e
    rw [a1, a2, a3, a4]
    exact q
theorem al_rate (x v : Int32) : Alike (f_X8_rate 0 x v) (f_X9_rate 1 x v) := by
  intro M h
  obtain ⟨⟨kd, rt, hd, rm, cm, wy, w, n1, n2⟩, hrow, hflg⟩ := id h
  by_cases hv : v.toInt = 1 ∨ v.toInt = 2 ∨ v.toInt = 3 ∨ v.toInt = 4 ∨ v.toInt = 6 ∨ v.toInt = 12
  · obtain ⟨j, hj, rfl⟩ : ∃ j, (j = 1 ∨ j = 2 ∨ j = 3 ∨ j = 4 ∨ j = 6 ∨ j = 12) ∧ v = nI j := by
      obtain ⟨j, hj, rfl⟩ := x_of (x := v) (n := 13) (in_iff.mpr (by omega)) (by omega)
      rw [t_nI (by omega)] at hv
      exact ⟨j, by omega, rfl⟩
    have tj : (nI j).toInt = (j : Int) := t_nI (by omega)
    have dv : ¬ (nI j = 0) ∧ (12 : Int32) - 12 / nI j * nI j = 0 := by
      rcases hj with rfl | rfl | rfl | rfl | rfl | rfl <;> decide
    rcases x_split4 x with ⟨c, hc, rfl⟩ | hx
    · have tc : (nI c).toInt = (c : Int) := t_nI (by omega)
      have eX : f_X8_rate 0 (nI c) (nI j) M = if kd c = 9 then some (-3, RF M 1) else some (nI (rt c), sI M (23 + c) 2 (nI j)) := by
        unfold f_X8_rate
        simp only [s_isCounterNumber, s_isRate, tc, tj, nm_q, bd_s, if_pos (show (0 : Int) ≤ c ∧ (c : Int) < 4 by omega), if_pos hv, fld_0_1, fld_4_0, elm_22, s_has n1 w hc, nI_cl (show c < 2 ^ 31 by omega), ck_k hc (by omega), (n1.1 c hc).2.1]
        have := s_refuse (f := 1) M (by omega) (by omega)
        simp only [show (nI 1) = 1 from rfl] at this
        rw [tj] at hv
        by_cases e : kd c = 9 <;> simp [e, this, bd_s, hv]
      have eR : ∀ Ma, NetR kd rt hd rm cm wy Ma → f_X9_rate 1 (nI c) (nI j) Ma = if kd c = 9 then some (-3, RM Ma 1) else some (nI (rt c), sI Ma 90 c (nI j)) := by
        intro Ma n2
        unfold f_X9_rate
        simp only [s_in, li_m9, li_m4, li_m3, li_m2, li_m1, li_0, li_1, li_2, li_3, li_4, li_5, li_6, li_7, li_8, li_9, li_10, li_11, li_12, li_13, li_16, li_24, li_25, li_31, li_36, li_40, li_125, li_200, li_240, li_625, li_1000, li_100000, li_1000000, tj, nm_q, bd_s, if_pos (show (1 : Int) ≤ j ∧ (j : Int) ≤ 12 by omega), dvI_ok dv.1, dv.2, s_askedFor n2 hc, fld_1_10, nI_cl (show c < 2 ^ 31 by omega), ck_k hc (by omega)]
        by_cases e : kd c = 9
        · simp [e]
        · simp [e, ((n2.1 c hc).2.1 e).2.1]
      by_cases e : kd c = 9
      · rw [if_pos e] at eX
        have eR2 := eR (RF M 1) (n2.sc (fun a k p => by unfold RF; rw [mI_sI, if_neg (by unfold pR at p; omega), mI_sI, if_neg (by unfold pR at p; omega)]))
        rw [if_pos e] at eR2
        exact ⟨_, _, _, eX, eR2, inv_ref h (by omega) (by omega) (Sc.rf _) (Sc.rf _)⟩
      · rw [if_neg e] at eX
        have eR2 := eR (sI M (23 + c) 2 (nI j)) (n2.sc (fun a k p => by rw [mI_sI, if_neg (by unfold pR at p; omega)]))
        rw [if_neg e] at eR2
        exact ⟨_, _, _, eX, eR2, inv_set h n1 n2 (wf_set w e (c := c) (fun d _ => ⟨fun q => ⟨if_neg q, rfl, rfl, rfl⟩, fun q => by subst q; rw [if_pos rfl]; exact ⟨hj, (w d hc).2.2.1, (w d hc).2.2.2.1, (w d hc).2.2.2.2.1⟩⟩)) hc e (Or.inl ⟨rfl, rfl, rfl, rfl, rfl, rfl⟩) (Sc.rf _)⟩
    · refine ⟨-1, M, M, ?_, ?_, h⟩
      · unfold f_X8_rate
        simp only [s_isCounterNumber, nm_q, bd_s, if_neg hx]
        rfl
      · unfold f_X9_rate
        simp only [s_in, li_m9, li_m4, li_m3, li_m2, li_m1, li_0, li_1, li_2, li_3, li_4, li_5, li_6, li_7, li_8, li_9, li_10, li_11, li_12, li_13, li_16, li_24, li_25, li_31, li_36, li_40, li_125, li_200, li_240, li_625, li_1000, li_100000, li_1000000, tj, nm_q, bd_s, if_pos (show (1 : Int) ≤ j ∧ (j : Int) ≤ 12 by omega), dvI_ok dv.1, dv.2, s_askedFor_bad hx]
        rfl
  · refine ⟨-1, M, M, ?_, ?_, h⟩
    · unfold f_X8_rate
      simp only [s_isCounterNumber, s_isRate, nm_q, bd_s, if_neg hv]
      by_cases q : 0 ≤ x.toInt ∧ x.toInt < 4 <;> simp [q]
    · unfold f_X9_rate
      simp only [s_in, li_m9, li_m4, li_m3, li_m2, li_m1, li_0, li_1, li_2, li_3, li_4, li_5, li_6, li_7, li_8, li_9, li_10, li_11, li_12, li_13, li_16, li_24, li_25, li_31, li_36, li_40, li_125, li_200, li_240, li_625, li_1000, li_100000, li_1000000, nm_q, bd_s]
      by_cases q : 1 ≤ v.toInt ∧ v.toInt ≤ 12
      · obtain ⟨j, hj, rfl⟩ := x_of (x := v) (n := 13) (in_iff.mpr (by omega)) (by omega)
        rw [t_nI (by omega)] at hv q
        have dv : ¬ (nI j = 0) ∧ ¬ (12 : Int32) - 12 / nI j * nI j = 0 := by
          have : j = 5 ∨ j = 7 ∨ j = 8 ∨ j = 9 ∨ j = 10 ∨ j = 11 := by omega
          rcases this with rfl | rfl | rfl | rfl | rfl | rfl <;> decide
        simp [t_nI (show j < 2 ^ 31 by omega), q, dvI_ok dv.1, dv.2]
      · simp [q]

theorem al_hands (x v : Int32) : Alike (f_X8_hands 0 x v) (f_X9_hands 1 x v) := by
  intro M h
  obtain ⟨⟨kd, rt, hd, rm, cm, wy, w, n1, n2⟩, hrow, hflg⟩ := id h
  by_cases hv : 1 ≤ v.toInt ∧ v.toInt ≤ 2
  · obtain ⟨j, hj, rfl⟩ := x_of (x := v) (n := 3) (in_iff.mpr (by omega)) (by omega)
    have tj : (nI j).toInt = (j : Int) := t_nI (by omega)
    rw [tj] at hv
    rcases x_split4 x with ⟨c, hc, rfl⟩ | hx
    · have tc : (nI c).toInt = (c : Int) := t_nI (by omega)
      have eX : f_X8_hands 0 (nI c) (nI j) M = if kd c = 9 then some (-3, RF M 1) else if kd c ≠ 0 then some (-3, RF M 3) else some (nI (hd c), sI M (23 + c) 3 (nI j)) := by
        unfold f_X8_hands
        simp only [s_isCounterNumber, i_lt, i_le, tc, tj, li_m9, li_m4, li_m3, li_m2, li_m1, li_0, li_1, li_2, li_3, li_4, li_5, li_6, li_7, li_8, li_9, li_10, li_11, li_12, li_13, li_16, li_24, li_25, li_31, li_36, li_40, li_125, li_200, li_240, li_625, li_1000, li_100000, li_1000000, nm_q, bd_s, if_pos (show (0 : Int) ≤ c ∧ (c : Int) < 4 by omega), fld_0_1, fld_4_0, elm_22, s_has n1 w hc, nI_cl (show c < 2 ^ 31 by omega), ck_k hc (by omega), n1.1 c hc, s_ref1, s_ref3, if_neg (show ¬ (j : Int) < 1 by omega), if_pos (show (j : Int) ≤ 2 by omega)]
        by_cases e : kd c = 9
        · simp [e]
        · have q := kd_eq (kd := kd) (c := c) (j := 0) (w c hc).1 (by omega)
          rw [if_neg e] at q
          have q2 : nI (kd c) = 0 ↔ kd c = 0 := q
          simp only [e, if_false, show ¬ ((1 : Int32) = 0) by decide]
          by_cases e0 : kd c = 0 <;> simp [e0, q2, show nI 0 = 0 from rfl, show nI 5 = 5 from rfl]
      have eR : ∀ Ma, NetR kd rt hd rm cm wy Ma → f_X9_hands 1 (nI c) (nI j) Ma = if kd c = 9 then some (-3, RM Ma 1) else if kd c ≠ 0 then some (-3, RM Ma 3) else some (nI (hd c), sI Ma 91 c (nI j)) := by
        intro Ma n2
        unfold f_X9_hands
        simp only [s_in, li_m9, li_m4, li_m3, li_m2, li_m1, li_0, li_1, li_2, li_3, li_4, li_5, li_6, li_7, li_8, li_9, li_10, li_11, li_12, li_13, li_16, li_24, li_25, li_31, li_36, li_40, li_125, li_200, li_240, li_625, li_1000, li_100000, li_1000000, tj, nm_q, bd_s, if_pos hv, s_askedFor n2 hc, fld_1_11, fld_1_9, nI_cl (show c < 2 ^ 31 by omega), ck_k hc (by omega), s_met3, (n2.1 c hc).2.2]
        by_cases e : kd c = 9
        · simp [e]
        · have q := kd_eq (kd := kd) (c := c) (j := 0) (w c hc).1 (by omega)
          rw [if_neg e] at q
          have q2 : nI (kd c) = 0 ↔ kd c = 0 := q
          by_cases e0 : kd c = 0 <;> simp [e, e0, (n2.1 c hc).2.1 e, q2, show nI 0 = 0 from rfl, show nI 5 = 5 from rfl]
      by_cases e : kd c = 9
      · rw [if_pos e] at eX
        have eR2 := eR (RF M 1) (nr_RF n2)
        rw [if_pos e] at eR2
        exact ⟨_, _, _, eX, eR2, inv_ref h (by omega) (by omega) (Sc.rf _) (Sc.rf _)⟩
      · rw [if_neg e] at eX
        by_cases e0 : kd c ≠ 0
        · rw [if_pos e0] at eX
          have eR2 := eR (RF M 3) (nr_RF n2)
          rw [if_neg e, if_pos e0] at eR2
          exact ⟨_, _, _, eX, eR2, inv_ref h (by omega) (by omega) (Sc.rf _) (Sc.rf _)⟩
        · rw [if_neg e0] at eX
          have eR2 := eR (sI M (23 + c) 3 (nI j)) (nr_sI n2 (by omega))
          rw [if_neg e, if_neg e0] at eR2
          exact ⟨_, _, _, eX, eR2, inv_set h n1 n2 (wf_set w e (c := c) (fun d _ => ⟨fun q => ⟨rfl, if_neg q, rfl, rfl⟩, fun q => by subst q; rw [if_pos rfl]; exact ⟨(w d hc).2.1, by omega, (w d hc).2.2.2.1, (w d hc).2.2.2.2.1⟩⟩)) hc e (Or.inr (Or.inl ⟨rfl, rfl, rfl, rfl, rfl, rfl⟩)) (Sc.rf _)⟩
    · refine ⟨-1, M, M, ?_, ?_, h⟩
      · unfold f_X8_hands
        simp only [s_isCounterNumber, nm_q, bd_s, if_neg hx]
        rfl
      · unfold f_X9_hands
        simp only [s_in, li_m9, li_m4, li_m3, li_m2, li_m1, li_0, li_1, li_2, li_3, li_4, li_5, li_6, li_7, li_8, li_9, li_10, li_11, li_12, li_13, li_16, li_24, li_25, li_31, li_36, li_40, li_125, li_200, li_240, li_625, li_1000, li_100000, li_1000000, tj, nm_q, bd_s, if_pos hv, s_askedFor_bad hx]
        rfl
  · refine ⟨-1, M, M, ?_, ?_, h⟩
    · unfold f_X8_hands
      simp only [s_isCounterNumber, nm_q, bd_s, i_lt, i_le, li_m9, li_m4, li_m3, li_m2, li_m1, li_0, li_1, li_2, li_3, li_4, li_5, li_6, li_7, li_8, li_9, li_10, li_11, li_12, li_13, li_16, li_24, li_25, li_31, li_36, li_40, li_125, li_200, li_240, li_625, li_1000, li_100000, li_1000000]
      by_cases q : 0 ≤ x.toInt ∧ x.toInt < 4
      · by_cases q2 : v.toInt < 1
        · simp [q, q2]
        · simp only [q, q2, if_neg (show ¬ v.toInt ≤ 2 by omega)]
          simp
      · simp [q]
    · unfold f_X9_hands
      simp only [s_in, li_m9, li_m4, li_m3, li_m2, li_m1, li_0, li_1, li_2, li_3, li_4, li_5, li_6, li_7, li_8, li_9, li_10, li_11, li_12, li_13, li_16, li_24, li_25, li_31, li_36, li_40, li_125, li_200, li_240, li_625, li_1000, li_100000, li_1000000, nm_q, bd_s, if_neg hv]
      rfl

theorem al_room (x v : Int32) : Alike (f_X8_room 0 x v) (f_X9_room 1 x v) := by
  intro M h
  obtain ⟨⟨kd, rt, hd, rm, cm, wy, w, n1, n2⟩, hrow, hflg⟩ := id h
  by_cases hv : 1 ≤ v.toInt ∧ v.toInt ≤ 6
  · obtain ⟨j, hj, rfl⟩ := x_of (x := v) (n := 7) (in_iff.mpr (by omega)) (by omega)
    have tj : (nI j).toInt = (j : Int) := t_nI (by omega)
    rw [tj] at hv
    rcases x_split4 x with ⟨c, hc, rfl⟩ | hx
    · have tc : (nI c).toInt = (c : Int) := t_nI (by omega)
      have eX : f_X8_room 0 (nI c) (nI j) M = if kd c = 9 then some (-3, RF M 1) else if kd c ≠ 5 then some (-3, RF M 3) else some (nI (rm c), sI M (23 + c) 4 (nI j)) := by
        unfold f_X8_room
        simp only [s_isCounterNumber, i_lt, i_le, tc, tj, li_m9, li_m4, li_m3, li_m2, li_m1, li_0, li_1, li_2, li_3, li_4, li_5, li_6, li_7, li_8, li_9, li_10, li_11, li_12, li_13, li_16, li_24, li_25, li_31, li_36, li_40, li_125, li_200, li_240, li_625, li_1000, li_100000, li_1000000, nm_q, bd_s, if_pos (show (0 : Int) ≤ c ∧ (c : Int) < 4 by omega), fld_0_1, fld_4_0, elm_22, s_has n1 w hc, nI_cl (show c < 2 ^ 31 by omega), ck_k hc (by omega), n1.1 c hc, s_ref1, s_ref3, if_neg (show ¬ (j : Int) < 1 by omega), if_pos (show (j : Int) ≤ 6 by omega)]
        by_cases e : kd c = 9
        · simp [e]
        · have q := kd_eq (kd := kd) (c := c) (j := 5) (w c hc).1 (by omega)
          rw [if_neg e] at q
          have q2 : nI (kd c) = 5 ↔ kd c = 5 := q
          simp only [e, if_false, show ¬ ((1 : Int32) = 0) by decide]
          by_cases e0 : kd c = 5 <;> simp [e0, q2, show nI 0 = 0 from rfl, show nI 5 = 5 from rfl]
      have eR : ∀ Ma, NetR kd rt hd rm cm wy Ma → f_X9_room 1 (nI c) (nI j) Ma = if kd c = 9 then some (-3, RM Ma 1) else if kd c ≠ 5 then some (-3, RM Ma 3) else some (nI (rm c), sI Ma 92 c (nI j)) := by
        intro Ma n2
        unfold f_X9_room
        simp only [s_in, li_m9, li_m4, li_m3, li_m2, li_m1, li_0, li_1, li_2, li_3, li_4, li_5, li_6, li_7, li_8, li_9, li_10, li_11, li_12, li_13, li_16, li_24, li_25, li_31, li_36, li_40, li_125, li_200, li_240, li_625, li_1000, li_100000, li_1000000, tj, nm_q, bd_s, if_pos hv, s_askedFor n2 hc, fld_1_12, fld_1_9, nI_cl (show c < 2 ^ 31 by omega), ck_k hc (by omega), s_met3, (n2.1 c hc).2.2]
        by_cases e : kd c = 9
        · simp [e]
        · have q := kd_eq (kd := kd) (c := c) (j := 5) (w c hc).1 (by omega)
          rw [if_neg e] at q
          have q2 : nI (kd c) = 5 ↔ kd c = 5 := q
          by_cases e0 : kd c = 5 <;> simp [e, e0, (n2.1 c hc).2.1 e, q2, show nI 0 = 0 from rfl, show nI 5 = 5 from rfl]
      by_cases e : kd c = 9
      · rw [if_pos e] at eX
        have eR2 := eR (RF M 1) (nr_RF n2)
        rw [if_pos e] at eR2
        exact ⟨_, _, _, eX, eR2, inv_ref h (by omega) (by omega) (Sc.rf _) (Sc.rf _)⟩
      · rw [if_neg e] at eX
        by_cases e0 : kd c ≠ 5
        · rw [if_pos e0] at eX
          have eR2 := eR (RF M 3) (nr_RF n2)
          rw [if_neg e, if_pos e0] at eR2
          exact ⟨_, _, _, eX, eR2, inv_ref h (by omega) (by omega) (Sc.rf _) (Sc.rf _)⟩
        · rw [if_neg e0] at eX
          have eR2 := eR (sI M (23 + c) 4 (nI j)) (nr_sI n2 (by omega))
          rw [if_neg e, if_neg e0] at eR2
          exact ⟨_, _, _, eX, eR2, inv_set h n1 n2 (wf_set w e (c := c) (fun d _ => ⟨fun q => ⟨rfl, rfl, if_neg q, rfl⟩, fun q => by subst q; rw [if_pos rfl]; exact ⟨(w d hc).2.1, (w d hc).2.2.1, by omega, (w d hc).2.2.2.2.1⟩⟩)) hc e (Or.inr (Or.inr (Or.inl ⟨rfl, rfl, rfl, rfl, rfl, rfl⟩))) (Sc.rf _)⟩
    · refine ⟨-1, M, M, ?_, ?_, h⟩
      · unfold f_X8_room
        simp only [s_isCounterNumber, nm_q, bd_s, if_neg hx]
        rfl
      · unfold f_X9_room
        simp only [s_in, li_m9, li_m4, li_m3, li_m2, li_m1, li_0, li_1, li_2, li_3, li_4, li_5, li_6, li_7, li_8, li_9, li_10, li_11, li_12, li_13, li_16, li_24, li_25, li_31, li_36, li_40, li_125, li_200, li_240, li_625, li_1000, li_100000, li_1000000, tj, nm_q, bd_s, if_pos hv, s_askedFor_bad hx]
        rfl
  · refine ⟨-1, M, M, ?_, ?_, h⟩
    · unfold f_X8_room
      simp only [s_isCounterNumber, nm_q, bd_s, i_lt, i_le, li_m9, li_m4, li_m3, li_m2, li_m1, li_0, li_1, li_2, li_3, li_4, li_5, li_6, li_7, li_8, li_9, li_10, li_11, li_12, li_13, li_16, li_24, li_25, li_31, li_36, li_40, li_125, li_200, li_240, li_625, li_1000, li_100000, li_1000000]
      by_cases q : 0 ≤ x.toInt ∧ x.toInt < 4
      · by_cases q2 : v.toInt < 1
        · simp [q, q2]
        · simp only [q, q2, if_neg (show ¬ v.toInt ≤ 6 by omega)]
          simp
      · simp [q]
    · unfold f_X9_room
      simp only [s_in, li_m9, li_m4, li_m3, li_m2, li_m1, li_0, li_1, li_2, li_3, li_4, li_5, li_6, li_7, li_8, li_9, li_10, li_11, li_12, li_13, li_16, li_24, li_25, li_31, li_36, li_40, li_125, li_200, li_240, li_625, li_1000, li_100000, li_1000000, nm_q, bd_s, if_neg hv]
      rfl

theorem al_comes (x v : Int32) : Alike (f_X8_comes 0 x v) (f_X9_comes 1 x v) := by
  intro M h
  obtain ⟨⟨kd, rt, hd, rm, cm, wy, w, n1, n2⟩, hrow, hflg⟩ := id h
  by_cases hv : 0 ≤ v.toInt ∧ v.toInt ≤ 9
  · obtain ⟨j, hj, rfl⟩ := x_of (x := v) (n := 10) (in_iff.mpr (by omega)) (by omega)
    have tj : (nI j).toInt = (j : Int) := t_nI (by omega)
    rw [tj] at hv
    rcases x_split4 x with ⟨c, hc, rfl⟩ | hx
    · have tc : (nI c).toInt = (c : Int) := t_nI (by omega)
      have eX : f_X8_comes 0 (nI c) (nI j) M = if kd c = 9 then some (-3, RF M 1) else some (nI (cm c), sI M (23 + c) 5 (nI j)) := by
        unfold f_X8_comes
        simp only [s_isCounterNumber, i_lt, i_le, tc, tj, li_m9, li_m4, li_m3, li_m2, li_m1, li_0, li_1, li_2, li_3, li_4, li_5, li_6, li_7, li_8, li_9, li_10, li_11, li_12, li_13, li_16, li_24, li_25, li_31, li_36, li_40, li_125, li_200, li_240, li_625, li_1000, li_100000, li_1000000, nm_q, bd_s, if_pos (show (0 : Int) ≤ c ∧ (c : Int) < 4 by omega), fld_0_1, fld_4_0, elm_22, s_has n1 w hc, nI_cl (show c < 2 ^ 31 by omega), ck_k hc (by omega), n1.1 c hc, s_ref1, s_ref3, if_neg (show ¬ (j : Int) < 0 by omega), if_pos (show (j : Int) ≤ 9 by omega)]
        by_cases e : kd c = 9
        · simp [e]
        · skip
          skip
          skip
          simp only [e, if_false, show ¬ ((1 : Int32) = 0) by decide]
          skip
      have eR : ∀ Ma, NetR kd rt hd rm cm wy Ma → f_X9_comes 1 (nI c) (nI j) Ma = if kd c = 9 then some (-3, RM Ma 1) else some (nI (cm c), sI Ma 93 c (nI j)) := by
        intro Ma n2
        unfold f_X9_comes
        simp only [s_in, li_m9, li_m4, li_m3, li_m2, li_m1, li_0, li_1, li_2, li_3, li_4, li_5, li_6, li_7, li_8, li_9, li_10, li_11, li_12, li_13, li_16, li_24, li_25, li_31, li_36, li_40, li_125, li_200, li_240, li_625, li_1000, li_100000, li_1000000, tj, nm_q, bd_s, if_pos hv, s_askedFor n2 hc, fld_1_13, fld_1_9, nI_cl (show c < 2 ^ 31 by omega), ck_k hc (by omega), s_met3, (n2.1 c hc).2.2]
        by_cases e : kd c = 9
        · simp [e]
        · skip
          skip
          skip
          simp [e, (n2.1 c hc).2.2]
      by_cases e : kd c = 9
      · rw [if_pos e] at eX
        have eR2 := eR (RF M 1) (nr_RF n2)
        rw [if_pos e] at eR2
        exact ⟨_, _, _, eX, eR2, inv_ref h (by omega) (by omega) (Sc.rf _) (Sc.rf _)⟩
      · rw [if_neg e] at eX
        have eR2 := eR (sI M (23 + c) 5 (nI j)) (nr_sI n2 (by omega))
        rw [if_neg e] at eR2
        exact ⟨_, _, _, eX, eR2, inv_set h n1 n2 (wf_set w e (c := c) (fun d _ => ⟨fun q => ⟨rfl, rfl, rfl, if_neg q⟩, fun q => by subst q; rw [if_pos rfl]; exact ⟨(w d hc).2.1, (w d hc).2.2.1, (w d hc).2.2.2.1, by omega⟩⟩)) hc e (Or.inr (Or.inr (Or.inr ⟨rfl, rfl, rfl, rfl, rfl, rfl⟩))) (Sc.rf _)⟩
    · refine ⟨-1, M, M, ?_, ?_, h⟩
      · unfold f_X8_comes
        simp only [s_isCounterNumber, nm_q, bd_s, if_neg hx]
        rfl
      · unfold f_X9_comes
        simp only [s_in, li_m9, li_m4, li_m3, li_m2, li_m1, li_0, li_1, li_2, li_3, li_4, li_5, li_6, li_7, li_8, li_9, li_10, li_11, li_12, li_13, li_16, li_24, li_25, li_31, li_36, li_40, li_125, li_200, li_240, li_625, li_1000, li_100000, li_1000000, tj, nm_q, bd_s, if_pos hv, s_askedFor_bad hx]
        rfl
  · refine ⟨-1, M, M, ?_, ?_, h⟩
    · unfold f_X8_comes
      simp only [s_isCounterNumber, nm_q, bd_s, i_lt, i_le, li_m9, li_m4, li_m3, li_m2, li_m1, li_0, li_1, li_2, li_3, li_4, li_5, li_6, li_7, li_8, li_9, li_10, li_11, li_12, li_13, li_16, li_24, li_25, li_31, li_36, li_40, li_125, li_200, li_240, li_625, li_1000, li_100000, li_1000000]
      by_cases q : 0 ≤ x.toInt ∧ x.toInt < 4
      · by_cases q2 : v.toInt < 0
        · simp [q, q2]
        · simp only [q, q2, if_neg (show ¬ v.toInt ≤ 9 by omega)]
          simp
      · simp [q]
    · unfold f_X9_comes
      simp only [s_in, li_m9, li_m4, li_m3, li_m2, li_m1, li_0, li_1, li_2, li_3, li_4, li_5, li_6, li_7, li_8, li_9, li_10, li_11, li_12, li_13, li_16, li_24, li_25, li_31, li_36, li_40, li_125, li_200, li_240, li_625, li_1000, li_100000, li_1000000, nm_q, bd_s, if_neg hv]
      rfl

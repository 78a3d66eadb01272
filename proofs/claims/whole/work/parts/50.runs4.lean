/-! waited, seen: the calls -/
theorem jr_bad {M : Mm} {x1 x2 x3 : Int32} (h : ¬ ((0 ≤ x1.toInt ∧ x1.toInt < 4) ∧ (0 ≤ x2.toInt ∧ x2.toInt < 6) ∧ (0 ≤ x3.toInt ∧ x3.toInt < 6))) : f_X8_judgeRun 0 x1 x2 x3 M = some (-1, M) := by
  unfold f_X8_judgeRun
  simp only [s_isCounterNumber, s_isRowNumber, nm_q, bd_s]
  by_cases q : 0 ≤ x1.toInt ∧ x1.toInt < 4
  · by_cases q2 : 0 ≤ x2.toInt ∧ x2.toInt < 6
    · by_cases q3 : 0 ≤ x3.toInt ∧ x3.toInt < 6
      · exact absurd ⟨q, q2, q3⟩ h
      · simp [q, q2, q3]
    · simp [q, q2]
  · simp [q]
theorem ar_bad {M : Mm} {x1 x2 x3 : Int32} (h : ¬ ((0 ≤ x1.toInt ∧ x1.toInt < 4) ∧ (0 ≤ x2.toInt ∧ x2.toInt < 6) ∧ (0 ≤ x3.toInt ∧ x3.toInt < 6))) : f_X9_askedRun 1 x1 x2 x3 M = some (-1, M) := by
  unfold f_X9_askedRun
  simp only [s_isCounter, s_isRow, nm_q, bd_s]
  by_cases q : 0 ≤ x1.toInt ∧ x1.toInt < 4
  · by_cases q2 : 0 ≤ x2.toInt ∧ x2.toInt < 6
    · by_cases q3 : 0 ≤ x3.toInt ∧ x3.toInt < 6
      · exact absurd ⟨q, q2, q3⟩ h
      · simp [q, q2, q3]
    · simp [q, q2]
  · simp [q]
theorem nr_LM {kd rt hd rm cm : Nf} {wy : Nat → Nf} {M : Mm} {a b : Int32} {t : Bool} (n : NetR kd rt hd rm cm wy M) : NetR kd rt hd rm cm wy (LM M a b t) := n.sc (fun d k p => by rw [mI_LM, if_neg (by unfold pR at p; omega), if_neg (by unfold pR at p; omega), if_neg (by unfold pR at p; omega)])
theorem rr_LM {sz : Nf} {pl : Nat → Nat → Int32} {M : Mm} {a b : Int32} {t : Bool} (n : RowR sz pl M) : RowR sz pl (LM M a b t) := n.sc (fun d k p => by rw [mI_LM, if_neg (by unfold pR at p; omega), if_neg (by unfold pR at p; omega), if_neg (by unfold pR at p; omega)])
theorem Sc_wt (M : Mm) (a b v : Int32) (t : Bool) (f : Nat → Int32) (k : Nat) : Sc (sI M 0 8 v) (WM (sI (LM M a b t) 0 8 v) f k) := by
  have hS : Sc (sI M 0 8 v) (sI (LM M a b t) 0 8 v) := by
   refine ⟨fun d j p => ?_, fun _ => rfl, fun _ _ => rfl⟩
   rw [mI_sI, mI_sI]
   by_cases e : d = 0 ∧ j = 8
   · rw [if_pos e, if_pos e]
   · rw [if_neg e, if_neg e, mI_LM, if_neg (by unfold pX pR at p; omega), if_neg (by unfold pX pR at p; omega), if_neg (by unfold pX pR at p; omega)]
  exact Sc_WM hS f k
/-- the cases that both judge alike -/
theorem run_split {M : Mm} (h : Inv M) (x1 x2 x3 : Int32) : (f_X8_judgeRun 0 x1 x2 x3 M = some (-1, M) ∧ f_X9_askedRun 1 x1 x2 x3 M = some (-1, M)) ∨ (∃ f, 1 ≤ f ∧ f ≤ 5 ∧ f_X8_judgeRun 0 x1 x2 x3 M = some (-3, RF M f) ∧ f_X9_askedRun 1 x1 x2 x3 (RF M f) = some (-3, RM (RF M f) f)) ∨ ∃ (c r s : Nat) (kd rt hd rm cm : Nf) (wy : Nat → Nf) (sz : Nf) (pl : Nat → Nat → Int32), c < 4 ∧ r < 6 ∧ s < 6 ∧ x1 = nI c ∧ x2 = nI r ∧ x3 = nI s ∧ wfN kd rt hd rm cm wy ∧ NetC kd rt hd rm cm wy M ∧ NetR kd rt hd rm cm wy M ∧ wfR sz ∧ RowC sz pl M ∧ RowR sz pl M ∧ kd c ≠ 9 ∧ sz r ≠ 41 ∧ sz r = sz s ∧ f_X8_judgeRun 0 x1 x2 x3 M = some (0, M) ∧ ∀ Ma, NetR kd rt hd rm cm wy Ma → RowR sz pl Ma → f_X9_askedRun 1 x1 x2 x3 Ma = some (nI (sz r), WM Ma (rnW (decide (hd c = 2)) (pl r) (pl s)) (sz r)) := by
  by_cases hb : (0 ≤ x1.toInt ∧ x1.toInt < 4) ∧ (0 ≤ x2.toInt ∧ x2.toInt < 6) ∧ (0 ≤ x3.toInt ∧ x3.toInt < 6)
  · obtain ⟨b1, b2, b3⟩ := hb
    rcases x_split4 x1 with ⟨c, hc, rfl⟩ | hx
    · rcases x_split6 x2 with ⟨r, hr, rfl⟩ | hx
      · rcases x_split6 x3 with ⟨s, hs, rfl⟩ | hx
        · obtain ⟨⟨kd, rt, hd, rm, cm, wy, w, n1, n2⟩, ⟨sz, pl, w2, r1, r2⟩, -⟩ := h
          have j := s_judgeRun n1 w r1 w2 hc hr hs
          have a := fun (Ma : Mm) (n2 : NetR kd rt hd rm cm wy Ma) (r2 : RowR sz pl Ma) => s_askedRun n2 w r2 w2 hc hr hs
          by_cases e1 : kd c = 9 ∨ sz r = 41 ∨ sz s = 41
          · simp only [if_pos e1] at j a
            exact Or.inr (Or.inl ⟨1, by omega, by omega, j, a _ (nr_RF n2) (rr_RF r2)⟩)
          · simp only [if_neg e1] at j a
            by_cases e2 : sz r ≠ sz s
            · simp only [if_pos e2] at j a
              exact Or.inr (Or.inl ⟨5, by omega, by omega, j, a _ (nr_RF n2) (rr_RF r2)⟩)
            · simp only [if_neg e2] at j a
              by_cases e3 : kd c = 0 ∧ gdB (pl r) (pl s) 0 (sz r) 0 = true
              · simp only [if_pos e3] at j a
                exact Or.inr (Or.inr ⟨c, r, s, kd, rt, hd, rm, cm, wy, sz, pl, hc, hr, hs, rfl, rfl, rfl, w, n1, n2, w2, r1, r2, by omega, by omega, by omega, j, a⟩)
              · simp only [if_neg e3] at j a
                exact Or.inr (Or.inl ⟨3, by omega, by omega, j, a _ (nr_RF n2) (rr_RF r2)⟩)
        · exact absurd b3 hx
      · exact absurd b2 hx
    · exact absurd b1 hx
  · exact Or.inl ⟨jr_bad hb, ar_bad hb⟩
theorem al_waited (x1 x2 x3 x4 : Int32) : Alike (f_X8_waited 0 x1 x2 x3 x4) (f_X9_waited 1 x1 x2 x3 x4) := by
  intro M h
  rcases run_split h x1 x2 x3 with ⟨e1, e2⟩ | ⟨f, f1, f5, e1, e2⟩ | ⟨c, r, s, kd, rt, hd, rm, cm, wy, sz, pl, hc, hr, hs, rfl, rfl, rfl, w, n1, n2, w2, r1, r2, e9, er, eq, e1, e2⟩
  · refine ⟨-1, M, M, ?_, ?_, h⟩
    · unfold f_X8_waited
      simp only [e1, nm_q, bd_s, show ¬ ((-1 : Int32) = 0) by decide, if_false]
    · unfold f_X9_waited
      simp only [e2, nm_q, bd_s, show ¬ ((0 : Int32) ≤ -1) by decide, if_false]
  · refine ⟨-3, RF M f, RM (RF M f) f, ?_, ?_, inv_ref h f1 f5 (Sc.rf _) (Sc.rf _)⟩
    · unfold f_X8_waited
      simp only [e1, nm_q, bd_s, show ¬ ((-3 : Int32) = 0) by decide, if_false]
    · unfold f_X9_waited
      simp only [e2, nm_q, bd_s, show ¬ ((0 : Int32) ≤ -3) by decide, if_false]
  · have hwr := w2 r hr
    have p0 : 0 ≤ nI (sz r) := by rw [i_le, li_0, t_nI (by omega)]; omega
    have wc := w c hc
    have k2 : nI (hd c) = 2 ↔ decide (hd c = 2) = true := by rw [decide_eq_true_eq, i_eq, t_nI (by omega), li_2]; omega
    have tn : (nI (sz r) - 1).toInt = (sz r : Int) - 1 := by rw [i_sub (by rw [t_nI (by omega), li_1]; omega) (by rw [t_nI (by omega), li_1]; omega), t_nI (by omega), li_1]
    by_cases hb : 0 ≤ x4.toInt ∧ x4.toInt < (sz r : Int)
    · obtain ⟨i, hi, rfl⟩ := x_of (x := x4) (n := sz r) (in_iff.mpr hb) (by omega)
      have l := s_waitX r1 w2 hr hs er eq (decide (hd c = 2)) hi (i + 1) 0 fuel (by omega) (by show i + 1 < 1000; omega)
      rw [if_pos rfl] at l
      refine ⟨1, sI (LM M (rnS (decide (hd c = 2)) (pl r) (pl s) (i + 1)).1 (rnS (decide (hd c = 2)) (pl r) (pl s) (i + 1)).2 (decide (hd c = 2))) 0 8 (rnW (decide (hd c = 2)) (pl r) (pl s) i), _, ?_, ?_, inv_ask h (Sc_wt M (rnS (decide (hd c = 2)) (pl r) (pl s) (i + 1)).1 (rnS (decide (hd c = 2)) (pl r) (pl s) (i + 1)).2 (rnW (decide (hd c = 2)) (pl r) (pl s) i) (decide (hd c = 2)) (rnW (decide (hd c = 2)) (pl r) (pl s)) (sz r))⟩
      · unfold f_X8_waited
        simp only [e1, nm_q, bd_s, if_true, fld_0_0, fld_0_1, fld_0_4, fld_4_0, elm_2, elm_22, nI_cl (show c < 2 ^ 31 by omega), nI_cl (show r < 2 ^ 31 by omega), ck_k hc (show 4 < 1000 by omega), ck_k hr (show 6 < 1000 by omega), s_rhas r1 w2 hr er, n1.1 c hc, s_lbegin M (decide (hd c = 2)) k2, if_pos (show 0 ≤ (nI i).toInt ∧ (nI i).toInt < (sz r : Int) by rw [t_nI (by omega)]; omega)]
        exact l
      · unfold f_X9_waited f_X9_ask
        have q := e2 (sI (LM M (rnS (decide (hd c = 2)) (pl r) (pl s) (i + 1)).1 (rnS (decide (hd c = 2)) (pl r) (pl s) (i + 1)).2 (decide (hd c = 2))) 0 8 (rnW (decide (hd c = 2)) (pl r) (pl s) i)) (nr_sI (nr_LM n2) (by omega)) (rr_sI (rr_LM r2) (by omega))
        simp only [q, nm_q, bd_s, s_in, p0, if_true, li_0, tn, if_pos (show 0 ≤ (nI i).toInt ∧ (nI i).toInt ≤ (sz r : Int) - 1 by rw [t_nI (by omega)]; omega), ck_k (show i < 40 by omega) (show 40 < 1000 by omega), nI_cl (show i < 2 ^ 31 by omega), fld_1_24, mI_WM, show (True ∧ i < sz r) = True by simp [hi], if_true]
        rfl
    · refine ⟨-3, RF M 2, RM (WM (RF M 2) (rnW (decide (hd c = 2)) (pl r) (pl s)) (sz r)) 2, ?_, ?_, inv_ref h (by omega) (by omega) (Sc.rf _) (Sc_WM (Sc.rf _) _ _)⟩
      · unfold f_X8_waited
        simp only [e1, nm_q, bd_s, if_true, fld_0_0, elm_2, nI_cl (show r < 2 ^ 31 by omega), ck_k hr (show 6 < 1000 by omega), s_rhas r1 w2 hr er, if_neg hb, s_ref2]
      · unfold f_X9_waited
        simp only [e2 _ (nr_RF n2) (rr_RF r2), nm_q, bd_s, s_in, p0, if_true, li_0, tn, if_neg (show ¬ (0 ≤ x4.toInt ∧ x4.toInt ≤ (sz r : Int) - 1) by omega), s_met2]
theorem al_seen (x1 x2 x3 : Int32) : Alike (f_X8_seen 0 x1 x2 x3) (f_X9_seen 1 x1 x2 x3) := by
  intro M h
  rcases run_split h x1 x2 x3 with ⟨e1, e2⟩ | ⟨f, f1, f5, e1, e2⟩ | ⟨c, r, s, kd, rt, hd, rm, cm, wy, sz, pl, hc, hr, hs, rfl, rfl, rfl, w, n1, n2, w2, r1, r2, e9, er, eq, e1, e2⟩
  · refine ⟨-1, M, M, ?_, ?_, h⟩
    · unfold f_X8_seen
      simp only [e1, nm_q, bd_s, show ¬ ((-1 : Int32) = 0) by decide, if_false]
    · unfold f_X9_seen
      simp only [e2, nm_q, bd_s, show ¬ ((0 : Int32) ≤ -1) by decide, if_false]
  · refine ⟨-3, RF M f, RM (RF M f) f, ?_, ?_, inv_ref h f1 f5 (Sc.rf _) (Sc.rf _)⟩
    · unfold f_X8_seen
      simp only [e1, nm_q, bd_s, show ¬ ((-3 : Int32) = 0) by decide, if_false]
    · unfold f_X9_seen
      simp only [e2, nm_q, bd_s, show ¬ ((0 : Int32) ≤ -3) by decide, if_false]
  · have hwr := w2 r hr
    have p0 : 0 ≤ nI (sz r) := by rw [i_le, li_0, t_nI (by omega)]; omega
    have wc := w c hc
    have k2 : nI (hd c) = 2 ↔ decide (hd c = 2) = true := by rw [decide_eq_true_eq, i_eq, t_nI (by omega), li_2]; omega
    have sr : ∀ Ma, _ := fun Ma : Mm => s_seenR (M := WM Ma (rnW (decide (hd c = 2)) (pl r) (pl s)) (sz r)) (n := sz r) (f := rnW (decide (hd c = 2)) (pl r) (pl s)) (by omega) (fun j hj => by rw [mI_WM, if_pos ⟨rfl, hj⟩]) (sz r) 0 fuel (by omega) (by show sz r < 1000; omega)
    by_cases z : sz r = 0
    · refine ⟨-3, RF M 4, RM (WM (RF M 4) (rnW (decide (hd c = 2)) (pl r) (pl s)) (sz r)) 4, ?_, ?_, inv_ref h (by omega) (by omega) (Sc.rf _) (Sc_WM (Sc.rf _) _ _)⟩
      · unfold f_X8_seen
        simp only [e1, nm_q, bd_s, if_true, fld_0_0, elm_2, nI_cl (show r < 2 ^ 31 by omega), ck_k hr (show 6 < 1000 by omega), (r1 r hr).1, if_neg er, if_neg (show ¬ (0 : Int32) < nI (sz r) by rw [z]; decide), s_ref4]
      · unfold f_X9_seen
        have q := sr (RF M 4)
        rw [if_pos z] at q
        simp only [e2 _ (nr_RF n2) (rr_RF r2), nm_q, bd_s, p0, if_true]
        exact q
    · have b := is_bd (rnW (decide (hd c = 2)) (pl r) (pl s)) (sz r) (by omega)
      have u1 : (isum (rnW (decide (hd c = 2)) (pl r) (pl s)) (sz r)).toInt ≠ -9223372036854775808 := by omega
      have tl : (Int32.toInt64 (nI (sz r))).toInt = (sz r : Int) := by rw [i2l, t_nI (by omega)]
      have l := s_seenX r1 w2 hr hs er eq (decide (hd c = 2)) (fun Ma => some (nI (sz r), sJ (sJ Ma 7 0 (frU (isum (rnW (decide (hd c = 2)) (pl r) (pl s)) (sz r)) (Int32.toInt64 (nI (sz r))))) 7 1 (frL (isum (rnW (decide (hd c = 2)) (pl r) (pl s)) (sz r)) (Int32.toInt64 (nI (sz r)))))) (fun Ma => by rw [s_set Ma u1 (by rw [tl]; omega) (by rw [tl]; omega)]; rfl) (sz r) 0 fuel (by omega) (by show sz r < 1000; omega)
      refine ⟨nI (sz r), sJ (sJ (LM M (rnS (decide (hd c = 2)) (pl r) (pl s) (sz r)).1 (rnS (decide (hd c = 2)) (pl r) (pl s) (sz r)).2 (decide (hd c = 2))) 7 0 (frU (isum (rnW (decide (hd c = 2)) (pl r) (pl s)) (sz r)) (Int32.toInt64 (nI (sz r))))) 7 1 (frL (isum (rnW (decide (hd c = 2)) (pl r) (pl s)) (sz r)) (Int32.toInt64 (nI (sz r)))), _, ?_, ?_, inv_frac (U := frU (isum (rnW (decide (hd c = 2)) (pl r) (pl s)) (sz r)) (Int32.toInt64 (nI (sz r)))) (L := frL (isum (rnW (decide (hd c = 2)) (pl r) (pl s)) (sz r)) (Int32.toInt64 (nI (sz r)))) h (Sc_LM (Sc.rf M) (rnS (decide (hd c = 2)) (pl r) (pl s) (sz r)).1 (rnS (decide (hd c = 2)) (pl r) (pl s) (sz r)).2 (decide (hd c = 2))) (Sc_WM (Sc.rf _) (rnW (decide (hd c = 2)) (pl r) (pl s)) (sz r))⟩
      · unfold f_X8_seen
        simp only [e1, nm_q, bd_s, if_true, fld_0_0, fld_0_1, fld_0_4, fld_4_0, elm_2, elm_22, nI_cl (show c < 2 ^ 31 by omega), nI_cl (show r < 2 ^ 31 by omega), ck_k hc (show 4 < 1000 by omega), ck_k hr (show 6 < 1000 by omega), (r1 r hr).1, if_neg er, if_pos (show (0 : Int32) < nI (sz r) by rw [i_lt, li_0, t_nI (by omega)]; omega), n1.1 c hc, s_lbegin M (decide (hd c = 2)) k2]
        exact l
      · have q := sr (sJ (sJ (LM M (rnS (decide (hd c = 2)) (pl r) (pl s) (sz r)).1 (rnS (decide (hd c = 2)) (pl r) (pl s) (sz r)).2 (decide (hd c = 2))) 7 0 (frU (isum (rnW (decide (hd c = 2)) (pl r) (pl s)) (sz r)) (Int32.toInt64 (nI (sz r))))) 7 1 (frL (isum (rnW (decide (hd c = 2)) (pl r) (pl s)) (sz r)) (Int32.toInt64 (nI (sz r)))))
        rw [if_neg z, s_share _ u1 (by rw [tl]; omega) (by rw [tl]; omega)] at q
        unfold f_X9_seen
        have q2 := e2 (sJ (sJ (LM M (rnS (decide (hd c = 2)) (pl r) (pl s) (sz r)).1 (rnS (decide (hd c = 2)) (pl r) (pl s) (sz r)).2 (decide (hd c = 2))) 7 0 (frU (isum (rnW (decide (hd c = 2)) (pl r) (pl s)) (sz r)) (Int32.toInt64 (nI (sz r))))) 7 1 (frL (isum (rnW (decide (hd c = 2)) (pl r) (pl s)) (sz r)) (Int32.toInt64 (nI (sz r))))) ((nr_LM n2).sc (fun _ _ _ => rfl)) ((rr_LM r2).sc (fun _ _ _ => rfl))
        simp only [q2, nm_q, bd_s, p0, if_true]
        exact q

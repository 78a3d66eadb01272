/-! what both judge of an open and of a closed net -/
def kpM (kd cm : Nf) (wy : Nat → Nf) : Nat := mk (fun c => (RC kd cm wy).testBit c && decide (RR (pw wy) 4 c &&& mk (ouB kd wy) 4 = 0)) 4
def clP (kd cm : Nf) (wy : Nat → Nf) : Prop := tbN kd 4 ≠ 0 ∧ gF kd 4 0 = true ∧ AF (cPA kd cm wy) 4 0 = true ∧ AF (cPB kd wy) 4 0 = true
theorem kp0 (kd cm : Nf) (wy : Nat → Nf) : nI (kpM kd cm wy) = 0 ↔ kpM kd cm wy = 0 := by
  have : kpM kd cm wy < 2 ^ 4 := mk_lt _ _
  rw [show (0 : Int32) = nI 0 from rfl, n_inj (by omega) (by omega)]
theorem fl_split {M : Mm} (h : Inv M) (x : Int32) : (f_X8_judgeFlow 0 x M = some (-1, M) ∧ f_X9_askedFlow 1 x M = some (-1, M)) ∨ (f_X8_judgeFlow 0 x M = some (-3, RF M 1) ∧ f_X9_askedFlow 1 x (RF M 1) = some (-3, RM (RF M 1) 1)) ∨ ∃ (c : Nat) (kd rr hd rm cm : Nf) (wy : Nat → Nf) (M1 : Mm), c < 4 ∧ x = nI c ∧ wfN kd rr hd rm cm wy ∧ NetC kd rr hd rm cm wy M ∧ NetR kd rr hd rm cm wy M ∧ kd c ≠ 9 ∧ Sc M M1 ∧ M1.2 = M.2 ∧ f_X8_judgeFlow 0 x M = some (if kpM kd cm wy = 0 then 0 else -4, M1) ∧ ∀ Ma, NetR kd rr hd rm cm wy Ma → f_X9_askedFlow 1 x Ma = if kpM kd cm wy = 0 then bd (f_X9_setFlow 1 x Ma) fun M5 => some (0, M5) else some (-4, Ma) := by
  rcases x_split4 x with ⟨c, hc, rfl⟩ | hx
  · obtain ⟨⟨kd, rr, hd, rm, cm, wy, w, n1, n2⟩, -, -⟩ := id h
    have tc : (nI c).toInt = (c : Int) := t_nI (by omega)
    by_cases e : kd c = 9
    · refine Or.inr (Or.inl ⟨?_, ?_⟩)
      · unfold f_X8_judgeFlow
        simp only [s_isCounterNumber, tc, nm_q, bd_s, if_pos (show (0 : Int) ≤ c ∧ (c : Int) < 4 by omega), show ¬ ((1 : Int32) = 0) by decide, if_false, fld_0_1, s_has n1 w hc, if_pos e, if_true, s_ref1]
      · unfold f_X9_askedFlow
        simp only [s_askedFor (nr_RF n2) hc, if_pos e, nm_q, bd_s, show ¬ (0 : Int32) ≤ -3 by decide, if_false]
    · obtain ⟨M1, e1, e2, e3⟩ := s_keptX n1 w
      refine Or.inr (Or.inr ⟨c, kd, rr, hd, rm, cm, wy, M1, hc, rfl, w, n1, n2, e, e2, e3, ?_, fun Ma n2 => ?_⟩)
      · have e1 : f_X4_keptBits 4 M = some (nI (kpM kd cm wy), M1) := e1
        unfold f_X8_judgeFlow
        simp only [s_isCounterNumber, tc, nm_q, bd_s, if_pos (show (0 : Int) ≤ c ∧ (c : Int) < 4 by omega), show ¬ ((1 : Int32) = 0) by decide, if_false, fld_0_1, s_has n1 w hc, if_neg e, e1, kp0]
        by_cases q : kpM kd cm wy = 0
        · rw [if_pos q, if_pos q]
        · rw [if_neg q, if_neg q]
      · have e4 : f_X9_keptOf 1 Ma = some (nI (kpM kd cm wy), Ma) := s_keptR n2 w
        unfold f_X9_askedFlow
        simp only [s_askedFor n2 hc, if_neg e, nm_q, bd_s, show (0 : Int32) ≤ 0 by decide, if_true, e4, kp0]
  · refine Or.inl ⟨?_, ?_⟩
    · unfold f_X8_judgeFlow
      simp only [s_isCounterNumber, nm_q, bd_s, if_neg hx]
      rfl
    · unfold f_X9_askedFlow
      simp only [s_askedFor_bad hx, nm_q, bd_s, show ¬ (0 : Int32) ≤ -1 by decide, if_false]
theorem rd_split {M : Mm} (h : Inv M) (x y : Int32) (hy : 1 ≤ y.toInt ∧ y.toInt ≤ 4) : (f_X8_judgeRound 0 x y M = some (-1, M) ∧ f_X9_askedClosed 1 x M = some (-1, M)) ∨ (f_X8_judgeRound 0 x y M = some (-3, RF M 1) ∧ f_X9_askedClosed 1 x (RF M 1) = some (-3, RM (RF M 1) 1)) ∨ ∃ (c : Nat) (kd rr hd rm cm : Nf) (wy : Nat → Nf) (M1 : Mm), c < 4 ∧ x = nI c ∧ wfN kd rr hd rm cm wy ∧ NetC kd rr hd rm cm wy M ∧ NetR kd rr hd rm cm wy M ∧ kd c ≠ 9 ∧ Sc M M1 ∧ M1.2 = M.2 ∧ ((¬ clP kd cm wy ∧ f_X8_judgeRound 0 x y M = some (-4, M1) ∧ ∀ Ma, NetR kd rr hd rm cm wy Ma → f_X9_askedClosed 1 x Ma = some (-4, Ma)) ∨ (clP kd cm wy ∧ f_X8_judgeRound 0 x y M = some (0, M1) ∧ ∀ Ma, NetR kd rr hd rm cm wy Ma → f_X9_askedClosed 1 x Ma = bd (f_X9_setVisits 1 Ma) fun M5 => some (0, M5))) := by
  rcases x_split4 x with ⟨c, hc, rfl⟩ | hx
  · obtain ⟨⟨kd, rr, hd, rm, cm, wy, w, n1, n2⟩, -, -⟩ := id h
    have tc : (nI c).toInt = (c : Int) := t_nI (by omega)
    by_cases e : kd c = 9
    · refine Or.inr (Or.inl ⟨?_, ?_⟩)
      · unfold f_X8_judgeRound
        simp only [s_isCounterNumber, s_isThings, tc, nm_q, bd_s, if_pos (show (0 : Int) ≤ c ∧ (c : Int) < 4 by omega), if_pos hy, show ¬ ((1 : Int32) = 0) by decide, if_false, fld_0_1, s_has n1 w hc, if_pos e, if_true, s_ref1]
      · unfold f_X9_askedClosed
        simp only [s_askedFor (nr_RF n2) hc, if_pos e, nm_q, bd_s, show ¬ (0 : Int32) ≤ -3 by decide, if_false]
    · obtain ⟨M1, e1, e2, e3⟩ := s_closedX n1 w
      refine Or.inr (Or.inr ⟨c, kd, rr, hd, rm, cm, wy, M1, hc, rfl, w, n1, n2, e, e2, e3, ?_⟩)
      by_cases q : tbN kd 4 ≠ 0 ∧ gF kd 4 0 = true ∧ AF (cPA kd cm wy) 4 0 = true ∧ AF (cPB kd wy) 4 0 = true
      · refine Or.inr ⟨q, ?_, fun Ma n2 => ?_⟩
        · rw [if_pos q] at e1
          unfold f_X8_judgeRound
          simp only [s_isCounterNumber, s_isThings, tc, nm_q, bd_s, if_pos (show (0 : Int) ≤ c ∧ (c : Int) < 4 by omega), if_pos hy, show ¬ ((1 : Int32) = 0) by decide, if_false, fld_0_1, s_has n1 w hc, if_neg e, e1]
        · have e4 := s_closedR n2 w
          rw [if_pos q] at e4
          unfold f_X9_askedClosed
          simp only [s_askedFor n2 hc, if_neg e, nm_q, bd_s, show (0 : Int32) ≤ 0 by decide, if_true, e4, show ¬ ((1 : Int32) = 0) by decide, if_false]
      · refine Or.inl ⟨q, ?_, fun Ma n2 => ?_⟩
        · rw [if_neg q] at e1
          unfold f_X8_judgeRound
          simp only [s_isCounterNumber, s_isThings, tc, nm_q, bd_s, if_pos (show (0 : Int) ≤ c ∧ (c : Int) < 4 by omega), if_pos hy, show ¬ ((1 : Int32) = 0) by decide, if_false, fld_0_1, s_has n1 w hc, if_neg e, e1, if_true]
        · have e4 := s_closedR n2 w
          rw [if_neg q] at e4
          unfold f_X9_askedClosed
          simp only [s_askedFor n2 hc, if_neg e, nm_q, bd_s, show (0 : Int32) ≤ 0 by decide, if_true, e4]
  · refine Or.inl ⟨?_, ?_⟩
    · unfold f_X8_judgeRound
      simp only [s_isCounterNumber, nm_q, bd_s, if_neg hx]
      rfl
    · unfold f_X9_askedClosed
      simp only [s_askedFor_bad hx, nm_q, bd_s, show ¬ (0 : Int32) ≤ -1 by decide, if_false]

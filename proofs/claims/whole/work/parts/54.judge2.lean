theorem al_judge (x1 x2 : Int32) : Alike (f_X8_judge 0 x1 x2) (f_X9_judge 1 x1 x2) := by
  intro M h
  rcases x_split6 x1 with ⟨r, hr, rfl⟩ | hx
  · rcases x_split6 x2 with ⟨t, ht, rfl⟩ | hx
    · obtain ⟨-, ⟨sz, pl, w, r1, r2⟩, -⟩ := id h
      have hwr := w r hr
      have hwt := w t ht
      have tr : (nI r).toInt = (r : Int) := t_nI (by omega)
      have tt : (nI t).toInt = (t : Int) := t_nI (by omega)
      have fR : ∀ {f : Nat}, f_X9_judge 1 (nI r) (nI t) (RF M f) = some (-3, RM (RF M f) f) → f_X8_judge 0 (nI r) (nI t) M = some (-3, RF M f) → 1 ≤ f → f ≤ 5 → ∃ (q : Int32) (M1 M2 : Mm), f_X8_judge 0 (nI r) (nI t) M = some (q, M1) ∧ f_X9_judge 1 (nI r) (nI t) M1 = some (q, M2) ∧ Inv M2 := fun a b c d => ⟨-3, _, _, b, a, inv_ref h c d (Sc.rf _) (Sc.rf _)⟩
      have nl : ∀ k, k < 42 → ¬ nI k < 0 := fun k hk => by rw [i_lt, t_nI (by omega), li_0]; omega
      have nl2 : ∀ k, k < 42 → 0 ≤ nI k := fun k hk => by rw [i_le, t_nI (by omega), li_0]; omega
      by_cases er : sz r = 41
      · refine fR (f := 1) ?_ ?_ (by omega) (by omega)
        · unfold f_X9_judge f_X9_judge_b34
          simp only [s_isRow, tr, tt, nm_q, bd_s, if_pos (show (0 : Int) ≤ r ∧ (r : Int) < 6 by omega), if_pos (show (0 : Int) ≤ t ∧ (t : Int) < 6 by omega), show ¬ ((1 : Int32) = 0) by decide, if_false, fld_1_5, nI_cl (show r < 2 ^ 31 by omega), ck_k hr (show 6 < 1000 by omega), ((rr_RF r2) r hr).1, if_pos er, show (-9 : Int32) < 0 by decide, if_true, s_met1]
        · unfold f_X8_judge f_X8_judge_b46
          simp only [s_isRowNumber, tr, tt, nm_q, bd_s, if_pos (show (0 : Int) ≤ r ∧ (r : Int) < 6 by omega), if_pos (show (0 : Int) ≤ t ∧ (t : Int) < 6 by omega), show ¬ ((1 : Int32) = 0) by decide, if_false, fld_0_0, elm_2, nI_cl (show r < 2 ^ 31 by omega), nI_cl (show t < 2 ^ 31 by omega), ck_k hr (show 6 < 1000 by omega), ck_k ht (show 6 < 1000 by omega), s_rowThere r1 w hr, if_pos er, if_true, s_ref1]
      · by_cases et : sz t = 41
        · refine fR (f := 1) ?_ ?_ (by omega) (by omega)
          · unfold f_X9_judge f_X9_judge_b34
            simp only [s_isRow, tr, tt, nm_q, bd_s, if_pos (show (0 : Int) ≤ r ∧ (r : Int) < 6 by omega), if_pos (show (0 : Int) ≤ t ∧ (t : Int) < 6 by omega), show ¬ ((1 : Int32) = 0) by decide, if_false, fld_1_5, nI_cl (show r < 2 ^ 31 by omega), nI_cl (show t < 2 ^ 31 by omega), ck_k hr (show 6 < 1000 by omega), ck_k ht (show 6 < 1000 by omega), ((rr_RF r2) r hr).1, ((rr_RF r2) t ht).1, if_neg er, if_pos et, nl (sz r) (by omega), show ¬ (0 : Int32) ≤ -9 by decide, s_met1]
          · unfold f_X8_judge f_X8_judge_b46
            simp only [s_isRowNumber, tr, tt, nm_q, bd_s, if_pos (show (0 : Int) ≤ r ∧ (r : Int) < 6 by omega), if_pos (show (0 : Int) ≤ t ∧ (t : Int) < 6 by omega), show ¬ ((1 : Int32) = 0) by decide, if_false, fld_0_0, elm_2, nI_cl (show r < 2 ^ 31 by omega), nI_cl (show t < 2 ^ 31 by omega), ck_k hr (show 6 < 1000 by omega), ck_k ht (show 6 < 1000 by omega), s_rowThere r1 w hr, s_rowThere r1 w ht, if_neg er, if_pos et, if_true, s_ref1]
        · have eX : ∀ q, (if sdN (sz r) = 0 then some (-3, RF M 5) else if sz t = sdN (sz r) then (if okT (pl r) (sdN (sz r)) 0 then (if wiB (pl t) 0 1000000 (sz t) 0 = true then (if isum (pl t) (sz t) = 0 then some (nI (sdN (sz r)), M) else bd (f_X0_load 32 (10 + r) M) fun M23 => bd (f_X0_firstUneven 32 (10 + t) M23) fun q24 => some (q24.1, q24.2)) else some (-3, RF M 3)) else some (-3, RF M 3)) else some (-3, RF M 5)) = q → f_X8_judge 0 (nI r) (nI t) M = q := by
            intro q hq
            have hsd := sd_le (sz r)
            have k0 : nI (sdN (sz r)) = 0 ↔ sdN (sz r) = 0 := by rw [i_eq, t_nI (by omega), li_0]; omega
            have k1 : nI (sz t) = nI (sdN (sz r)) ↔ sz t = sdN (sz r) := by rw [i_eq, t_nI (by omega), t_nI (by omega)]; omega
            have ww := s_within (lo := 0) (hi := 1000000) r1 w ht et (sz t) 0 fuel (by omega) (by show sz t < 1000; omega)
            have ww : f_X6_isWithin (10 + t) 0 1000000 M = _ := ww
            rw [← hq]
            unfold f_X8_judge f_X8_judge_b73 f_X8_judge_b100
            simp only [s_isRowNumber, tr, tt, nm_q, bd_s, if_pos (show (0 : Int) ≤ r ∧ (r : Int) < 6 by omega), if_pos (show (0 : Int) ≤ t ∧ (t : Int) < 6 by omega), show ¬ ((1 : Int32) = 0) by decide, if_false, fld_0_0, fld_0_3, elm_2, nI_cl (show r < 2 ^ 31 by omega), nI_cl (show t < 2 ^ 31 by omega), ck_k hr (show 6 < 1000 by omega), ck_k ht (show 6 < 1000 by omega), s_rowThere r1 w hr, s_rowThere r1 w ht, if_neg er, if_neg et, s_side r1 w hr er, k0, k1, (r1 t ht).1, s_ref5, s_ref3]
            by_cases z0 : sdN (sz r) = 0
            · rw [if_pos z0, if_pos z0]
            · rw [if_neg z0, if_neg z0]
              by_cases z1 : sz t = sdN (sz r)
              · rw [if_pos z1, if_pos z1]
                simp only [s_holds r1 w hr er (show sdN (sz r) ≤ 6 by omega) (by omega), nm_q, bd_s, ww, s_rsum r1 w ht et, lg_cmp_eq]
                by_cases z2 : okT (pl r) (sdN (sz r)) 0
                · by_cases z3 : wiB (pl t) 0 1000000 (sz t) 0 = true
                  · simp [z2, z3]
                  · simp [z2, z3]
                · simp [z2]
              · rw [if_neg z1, if_neg z1]
          have eR : ∀ (Ma : Mm), RowR sz pl Ma → f_X9_judge 1 (nI r) (nI t) Ma = some (if sdN (sz r) = 0 then (-3, RM Ma 5) else if sz t = sdN (sz r) then (if okT (pl r) (sdN (sz r)) 0 ∧ wiB (pl t) 0 1000000 (sz t) 0 = true then (if isum (pl t) (sz t) = 0 then nI (sdN (sz r)) else unB (pl t) (pl r) (sdN (sz r)) (sdN (sz r)) 0, Ma) else (-3, RM Ma 3)) else (-3, RM Ma 5)) := by
            intro Ma r2
            have hsd := sd_le (sz r)
            have k1 : nI (sz t) = nI (sdN (sz r)) ↔ sz t = sdN (sz r) := by rw [i_eq, t_nI (by omega), t_nI (by omega)]; omega
            unfold f_X9_judge
            simp only [s_isRow, tr, tt, nm_q, bd_s, if_pos (show (0 : Int) ≤ r ∧ (r : Int) < 6 by omega), if_pos (show (0 : Int) ≤ t ∧ (t : Int) < 6 by omega), show ¬ ((1 : Int32) = 0) by decide, if_false, fld_1_5, nI_cl (show r < 2 ^ 31 by omega), nI_cl (show t < 2 ^ 31 by omega), ck_k hr (show 6 < 1000 by omega), ck_k ht (show 6 < 1000 by omega), (r2 r hr).1, (r2 t ht).1, if_neg er, if_neg et, nl (sz r) (by omega), nl2 (sz t) (by omega), if_true, s_askedChain r2 w hr er]
            by_cases z0 : sdN (sz r) = 0
            · simp only [if_pos z0, show ¬ (0 : Int32) ≤ -3 by decide, if_false]
            · simp only [if_neg z0, nl2 (sdN (sz r)) (by omega), if_true, (r2 t ht).1, if_neg et, k1, s_met5, nm_q, bd_s]
              by_cases z1 : sz t = sdN (sz r)
              · rw [if_pos z1, if_pos z1]
                have l1 := s_jl r2 w hr ht er (by omega) (show sdN (sz r) ≤ 6 by omega) z1 (sdN (sz r)) 0 fuel (if okT (pl r) (sdN (sz r)) 0 then 1 else 0) (by by_cases z : okT (pl r) (sdN (sz r)) 0 <;> simp [z]) (by omega) (by show sdN (sz r) < 1000; omega)
                rw [s_areRates r2 w hr er (show sdN (sz r) ≤ 6 by omega) (by omega), bd_s]
                refine l1.trans ?_
                rw [z1]
                by_cases z2 : okT (pl r) (sdN (sz r)) 0
                · rw [if_pos z2]
                  by_cases z3 : wiB (pl t) 0 1000000 (sdN (sz r)) 0 = true
                  · rw [if_pos (show (1 : Int32) = 1 ∧ wiB (pl t) 0 1000000 (sdN (sz r)) 0 = true from ⟨rfl, z3⟩), if_pos (show okT (pl r) (sdN (sz r)) 0 ∧ wiB (pl t) 0 1000000 (sdN (sz r)) 0 = true from ⟨z2, z3⟩)]
                  · rw [if_neg (fun z => z3 z.2), if_neg (fun z => z3 z.2)]
                · simp [z2]
              · rw [if_neg z1, if_neg z1]
          have hsd := sd_le (sz r)
          by_cases z0 : sdN (sz r) = 0
          · refine fR (f := 5) ?_ (eX _ (by rw [if_pos z0])) (by omega) (by omega)
            rw [eR _ (rr_RF r2), if_pos z0]
          · by_cases z1 : sz t = sdN (sz r)
            · by_cases z2 : okT (pl r) (sdN (sz r)) 0
              · by_cases z3 : wiB (pl t) 0 1000000 (sz t) 0 = true
                · by_cases z4 : isum (pl t) (sz t) = 0
                  · refine ⟨_, M, M, eX _ (by rw [if_neg z0, if_pos z1, if_pos z2, if_pos z3, if_pos z4]), ?_, h⟩
                    rw [eR _ r2, if_neg z0, if_pos z1, if_pos ⟨z2, z3⟩, if_pos z4]
                  · obtain ⟨M1, l1, l2, l3, l4⟩ := s_load r1 w hr er z0
                    have r1' : RowC sz pl M1 := r1.sc (fun a k q => l3.1 a k (Or.inl q))
                    have r2' : RowR sz pl M1 := r2.sc (fun a k q => l3.1 a k (Or.inr q))
                    refine ⟨_, M1, M1, eX _ (by rw [if_neg z0, if_pos z1, if_pos z2, if_pos z3, if_neg z4, l1, bd_s, s_uneven r1' w ht z1 (by omega) l2.1]; rfl), ?_, h.sc l3⟩
                    rw [eR _ r2', if_neg z0, if_pos z1, if_pos ⟨z2, z3⟩, if_neg z4]
                · refine fR (f := 3) ?_ (eX _ (by rw [if_neg z0, if_pos z1, if_pos z2, if_neg z3])) (by omega) (by omega)
                  rw [eR _ (rr_RF r2), if_neg z0, if_pos z1, if_neg (fun z => z3 z.2)]
              · refine fR (f := 3) ?_ (eX _ (by rw [if_neg z0, if_pos z1, if_neg z2])) (by omega) (by omega)
                rw [eR _ (rr_RF r2), if_neg z0, if_pos z1, if_neg (fun z => z2 z.1)]
            · refine fR (f := 5) ?_ (eX _ (by rw [if_neg z0, if_neg z1])) (by omega) (by omega)
              rw [eR _ (rr_RF r2), if_neg z0, if_neg z1]
    · have tr : (nI r).toInt = (r : Int) := t_nI (by omega)
      refine ⟨-1, M, M, ?_, ?_, h⟩
      · unfold f_X8_judge
        simp only [s_isRowNumber, tr, nm_q, bd_s, if_pos (show (0 : Int) ≤ r ∧ (r : Int) < 6 by omega), if_neg hx]
        rfl
      · unfold f_X9_judge
        simp only [s_isRow, tr, nm_q, bd_s, if_pos (show (0 : Int) ≤ r ∧ (r : Int) < 6 by omega), if_neg hx]
        rfl
  · refine ⟨-1, M, M, ?_, ?_, h⟩
    · unfold f_X8_judge
      simp only [s_isRowNumber, nm_q, bd_s, if_neg hx]
      rfl
    · unfold f_X9_judge
      simp only [s_isRow, nm_q, bd_s, if_neg hx]
      rfl

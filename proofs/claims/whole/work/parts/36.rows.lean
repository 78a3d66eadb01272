/-! the calls on rows -/
theorem sI_comm {M : Mm} {a k b j : Nat} {v u : Int32} (h : a ≠ b) : sI (sI M a k v) b j u = sI (sI M b j u) a k v := by
  unfold sI
  refine Prod.ext ?_ rfl
  funext d i
  show (if d = b ∧ i = j then u else if d = a ∧ i = k then v else M.1 d i) = (if d = a ∧ i = k then v else if d = b ∧ i = j then u else M.1 d i)
  by_cases h1 : d = b ∧ i = j
  · have h2 : ¬ (d = a ∧ i = k) := fun q => h (q.1.symm.trans h1.1)
    rw [if_pos h1, if_neg h2, if_pos h1]
  · rw [if_neg h1, if_neg h1]
def rowA (a : Nat) : Prop := (10 ≤ a ∧ a ≤ 21) ∨ a = 85 ∨ a = 86
theorem inv_row {M M2 : Mm} (h : Inv M) (s : ∀ a k, pX a ∨ pR a k → ¬ rowA a → mI M2 a k = mI M a k) (hj : ∀ k, mJ M2 7 k = mJ M 7 k) (hj1 : ∀ k, k = 3 ∨ k = 4 → mJ M2 1 k = mJ M 1 k) (hr : RowI M2) : Inv M2 := by
  obtain ⟨⟨kd, rt, hd, rm, cm, wy, w, n1, n2⟩, -, ⟨ff, fn, as, up, lo, f1, f2⟩⟩ := h
  refine ⟨⟨kd, rt, hd, rm, cm, wy, w, ⟨fun d hd9 => ?_, fun d j hd9 hj => ?_⟩, ⟨fun d hd9 => ?_, fun d j hd9 hj => ?_⟩⟩, hr, ⟨ff, fn, as, up, lo, ⟨fun g g1 g5 => ?_, ?_, ?_, ?_, ?_⟩, ⟨fun g g1 g5 => ?_, ?_, ?_, ?_, ?_⟩⟩⟩
  · have p : pX (23 + d) := by unfold pX; omega
    have q : ¬ rowA (23 + d) := by unfold rowA; omega
    rw [s _ _ (Or.inl p) q, s _ _ (Or.inl p) q, s _ _ (Or.inl p) q, s _ _ (Or.inl p) q, s _ _ (Or.inl p) q]
    exact n1.1 d hd9
  · rw [s _ _ (Or.inl (by unfold pX; omega)) (by unfold rowA; omega)]; exact n1.2 d j hd9 hj
  · rw [s 88 d (Or.inr (by unfold pR; omega)) (by unfold rowA; omega), s 89 d (Or.inr (by unfold pR; omega)) (by unfold rowA; omega), s 90 d (Or.inr (by unfold pR; omega)) (by unfold rowA; omega), s 91 d (Or.inr (by unfold pR; omega)) (by unfold rowA; omega), s 92 d (Or.inr (by unfold pR; omega)) (by unfold rowA; omega), s 93 d (Or.inr (by unfold pR; omega)) (by unfold rowA; omega)]
    exact n2.1 d hd9
  · rw [s _ _ (Or.inr (by unfold pR; omega)) (by unfold rowA; omega)]; exact n2.2 d j hd9 hj
  · rw [s _ _ (Or.inl (by unfold pX; omega)) (by unfold rowA; omega)]; exact f1.1 g g1 g5
  · rw [s _ _ (Or.inl (by unfold pX; omega)) (by unfold rowA; omega)]; exact f1.2.1
  · rw [s _ _ (Or.inl (by unfold pX; omega)) (by unfold rowA; omega)]; exact f1.2.2.1
  · rw [hj]; exact f1.2.2.2.1
  · rw [hj]; exact f1.2.2.2.2
  · rw [s _ _ (Or.inr (by unfold pR; omega)) (by unfold rowA; omega)]; exact f2.1 g g1 g5
  · rw [s _ _ (Or.inr (by unfold pR; omega)) (by unfold rowA; omega)]; exact f2.2.1
  · rw [s _ _ (Or.inr (by unfold pR; omega)) (by unfold rowA; omega)]; exact f2.2.2.1
  · rw [hj1 3 (Or.inl rfl)]; exact f2.2.2.2.1
  · rw [hj1 4 (Or.inr rfl)]; exact f2.2.2.2.2
theorem s_rhas {r : Nat} {x : Int32} {M : Mm} {sz : Nf} {pl : Nat → Nat → Int32} (n : RowC sz pl M) (w : wfR sz) (hr : r < 6) (hs : sz r ≠ 41) : f_X6_has (10 + r) x M = some (if 0 ≤ x.toInt ∧ x.toInt < sz r then 1 else 0, M) := by
  have hw := w r hr
  have t2 : (nI (sz r)).toInt = (sz r : Int) := t_nI (by omega)
  unfold f_X6_has
  simp only [(n r hr).1, if_neg hs, i_lt, i_le, t2, li_m9, li_m4, li_m3, li_m2, li_m1, li_0, li_1, li_2, li_3, li_4, li_5, li_6, li_7, li_8, li_9, li_10, li_11, li_12, li_13, li_16, li_24, li_25, li_31, li_36, li_40, li_125, li_200, li_240, li_625, li_1000, li_100000, li_1000000]
  repeat' split
  all_goals first | rfl | (exfalso; omega)
theorem s_rhas41 {r : Nat} {x : Int32} {M : Mm} {sz : Nf} {pl : Nat → Nat → Int32} (n : RowC sz pl M) (hr : r < 6) (hs : sz r = 41) : f_X6_has (10 + r) x M = some (0, M) := by
  unfold f_X6_has
  simp only [(n r hr).1, if_pos hs, i_lt, i_le, li_m9, li_m4, li_m3, li_m2, li_m1, li_0, li_1, li_2, li_3, li_4, li_5, li_6, li_7, li_8, li_9, li_10, li_11, li_12, li_13, li_16, li_24, li_25, li_31, li_36, li_40, li_125, li_200, li_240, li_625, li_1000, li_100000, li_1000000]
  repeat' split
  all_goals first | rfl | (exfalso; omega)
theorem s_rat {r i : Nat} {M : Mm} {sz : Nf} {pl : Nat → Nat → Int32} (n : RowC sz pl M) (w : wfR sz) (hr : r < 6) (hs : sz r ≠ 41) (hi : i < sz r) : f_X6_at (10 + r) (nI i) M = some (pl r i, M) := by
  have hw := w r hr
  have ti : (nI i).toInt = (i : Int) := t_nI (by omega)
  unfold f_X6_at
  simp only [s_rhas n w hr hs, ti, nm_q, bd_s, if_pos (show (0 : Int) ≤ i ∧ (i : Int) < sz r by omega), fld_row hr, nI_cl (show i < 2 ^ 31 by omega), ck_k (show i < 40 by omega) (by omega), (n r hr).2 hs i hi]
  rfl
theorem s_rput {r i : Nat} {v : Int32} {M : Mm} {sz : Nf} {pl : Nat → Nat → Int32} (n : RowC sz pl M) (w : wfR sz) (hr : r < 6) (hs : sz r ≠ 41) (hi : i < sz r) : f_X6_put (10 + r) (nI i) v M = some (sI M (16 + r) i v) := by
  have hw := w r hr
  have ti : (nI i).toInt = (i : Int) := t_nI (by omega)
  unfold f_X6_put
  simp only [s_rhas n w hr hs, ti, nm_q, bd_s, if_pos (show (0 : Int) ≤ i ∧ (i : Int) < sz r by omega), fld_row hr, nI_cl (show i < 2 ^ 31 by omega), ck_k (show i < 40 by omega) (by omega)]
  rfl
theorem al_tear (x : Int32) : Alike (f_X8_tear 0 x) (f_X9_tear 1 x) := by
  intro M h
  obtain ⟨hnet, ⟨sz, pl, w, r1, r2⟩, hflg⟩ := id h
  rcases x_split6 x with ⟨r, hr, rfl⟩ | hx
  · have tc : (nI r).toInt = (r : Int) := t_nI (by omega)
    by_cases e : sz r = 41
    · refine ⟨-3, RF M 1, RM (RF M 1) 1, ?_, ?_, inv_ref h (by omega) (by omega) (Sc.rf _) (Sc.rf _)⟩
      · unfold f_X8_tear
        simp only [s_isRowNumber, tc, nm_q, bd_s, if_pos (show (0 : Int) ≤ r ∧ (r : Int) < 6 by omega), fld_0_0, elm_2, nI_cl (show r < 2 ^ 31 by omega), ck_k hr (by omega), s_rowThere r1 w hr, e, s_ref1]
        rfl
      · unfold f_X9_tear
        simp only [s_askedRow (rr_RF r2) w hr, nm_q, bd_s, e]
        rfl
    · refine ⟨1, sI M (10 + r) 1 (-1), sI (sI M (10 + r) 1 (-1)) 85 r (-9), ?_, ?_, ?_⟩
      · unfold f_X8_tear f_X6_end
        simp only [s_isRowNumber, tc, nm_q, bd_s, if_pos (show (0 : Int) ≤ r ∧ (r : Int) < 6 by omega), fld_0_0, elm_2, nI_cl (show r < 2 ^ 31 by omega), ck_k hr (by omega), s_rowThere r1 w hr, e]
        rfl
      · unfold f_X9_tear
        simp only [s_askedRow (rr_sI r2 (show 10 + r ≠ 1 ∧ 10 + r < 84 by omega)) w hr, nm_q, bd_s, e, fld_1_5, nI_cl (show r < 2 ^ 31 by omega), ck_k hr (by omega)]
        rfl
      · refine inv_row h (fun a k p q => ?_) (fun k => rfl) (fun k _ => rfl) ⟨fun j => if j = r then 41 else sz j, pl, fun j hj => ?_, fun j hj => ⟨?_, fun hn i hi => ?_⟩, fun j hj => ⟨?_, fun hn i hi => ?_⟩⟩
        · rw [mI_sI, if_neg (by unfold rowA at q; omega), mI_sI, if_neg (by unfold rowA at q; omega)]
        · dsimp only
          split
          · omega
          · exact w j hj
        · rw [mI_sI, if_neg (by omega), mI_sI]
          by_cases q : j = r
          · subst q; simp
          · rw [if_neg (by omega), (r1 j hj).1]; simp [q]
        · have q : j ≠ r := fun q => hn (by simp [q])
          simp only [q, if_false] at hn hi
          rw [mI_sI, if_neg (by omega), mI_sI, if_neg (by omega)]
          exact (r1 j hj).2 hn i hi
        · rw [mI_sI]
          by_cases q : j = r
          · subst q; simp
          · rw [if_neg (by omega), mI_sI, if_neg (by omega), (r2 j hj).1]; simp [q]
        · have q : j ≠ r := fun q => hn (by simp [q])
          simp only [q, if_false] at hn hi
          rw [mI_sI, if_neg (by omega), mI_sI, if_neg (by omega)]
          exact (r2 j hj).2 hn i hi
  · refine ⟨-1, M, M, ?_, ?_, h⟩
    · unfold f_X8_tear
      simp only [s_isRowNumber, nm_q, bd_s, if_neg hx]
      rfl
    · unfold f_X9_tear
      simp only [s_askedRow_bad hx, nm_q, bd_s]
      rfl
theorem ck_p {α : Type} {r i : Nat} (hr : r < 6) (hi : i < 40) (x : Option α) : ck ((40 * nI r) + nI i) 240 x = x := by
  rw [show (40 : Int32) = nI 40 from rfl, pk_mul, nI_add]
  exact ck_k (by omega) (by omega)
theorem cl_p {r i : Nat} (hr : r < 6) (hi : i < 40) : Int32.toNatClampNeg ((40 * nI r) + nI i) = 40 * r + i := by
  rw [show (40 : Int32) = nI 40 from rfl, pk_mul, nI_add]
  exact nI_cl (by omega)
theorem rc_sI {sz : Nf} {pl : Nat → Nat → Int32} {M : Mm} {a k : Nat} {v : Int32} (n : RowC sz pl M) (h : a < 10 ∨ 21 < a) : RowC sz pl (sI M a k v) := by
  intro r hr
  refine ⟨?_, fun hn i hi => ?_⟩
  · rw [mI_sI, if_neg (by omega)]; exact (n r hr).1
  · rw [mI_sI, if_neg (by omega)]; exact (n r hr).2 hn i hi
theorem al_lay (x y v : Int32) : Alike (f_X8_lay 0 x y v) (f_X9_lay 1 x y v) := by
  intro M h
  obtain ⟨hnet, ⟨sz, pl, w, r1, r2⟩, hflg⟩ := id h
  rcases x_split6 x with ⟨r, hr, rfl⟩ | hx
  · have tc : (nI r).toInt = (r : Int) := t_nI (by omega)
    have hw := w r hr
    by_cases e : sz r = 41
    · refine ⟨-3, RF M 1, RM (RF M 1) 1, ?_, ?_, inv_ref h (by omega) (by omega) (Sc.rf _) (Sc.rf _)⟩
      · unfold f_X8_lay
        simp only [s_isRowNumber, tc, nm_q, bd_s, if_pos (show (0 : Int) ≤ r ∧ (r : Int) < 6 by omega), fld_0_0, elm_2, nI_cl (show r < 2 ^ 31 by omega), ck_k hr (by omega), s_rowThere r1 w hr, e, s_ref1]
        rfl
      · unfold f_X9_lay
        simp only [s_askedRow (rr_RF r2) w hr, nm_q, bd_s, e]
        rfl
    · have ts : (nI (sz r)).toInt = (sz r : Int) := t_nI (by omega)
      have ts1 : (nI (sz r) - 1).toInt = (sz r : Int) - 1 := by rw [i_sub (by rw [ts, li_1]; omega) (by rw [ts, li_1]; omega), ts, li_1]
      by_cases hy : 0 ≤ y.toInt ∧ y.toInt < sz r
      · obtain ⟨i, hi, rfl⟩ := x_of (x := y) (n := sz r) (in_iff.mpr hy) (by omega)
        have ti : (nI i).toInt = (i : Int) := t_nI (by omega)
        have r1' : RowC sz pl (sI M 0 8 (pl r i)) := rc_sI r1 (by omega)
        have r2' : RowR sz pl (sI (sI M 0 8 (pl r i)) (16 + r) i v) := rr_sI (rr_sI r2 (by omega)) (by omega)
        refine ⟨1, sI (sI M 0 8 (pl r i)) (16 + r) i v, sI (sI (sI (sI M 0 8 (pl r i)) (16 + r) i v) 1 2 (pl r i)) 86 (40 * r + i) v, ?_, ?_, ?_⟩
        · unfold f_X8_lay
          simp only [s_isRowNumber, tc, nm_q, bd_s, if_pos (show (0 : Int) ≤ r ∧ (r : Int) < 6 by omega), fld_0_0, elm_2, nI_cl (show r < 2 ^ 31 by omega), ck_k hr (by omega), s_rowThere r1 w hr, e, if_false, s_rhas r1 w hr e, if_pos hy, s_rat r1 w hr e hi, s_rput r1' w hr e hi]
          rfl
        · unfold f_X9_lay
          simp only [s_askedRow r2' w hr, nm_q, bd_s, e, if_false, fld_1_5, fld_1_6, nI_cl (show r < 2 ^ 31 by omega), ck_k hr (by omega), (r2' r hr).1, s_in, ts1, ti, li_m9, li_m4, li_m3, li_m2, li_m1, li_0, li_1, li_2, li_3, li_4, li_5, li_6, li_7, li_8, li_9, li_10, li_11, li_12, li_13, li_16, li_24, li_25, li_31, li_36, li_40, li_125, li_200, li_240, li_625, li_1000, li_100000, li_1000000, if_pos (show (0 : Int) ≤ i ∧ (i : Int) ≤ (sz r : Int) - 1 by omega), ck_p hr (show i < 40 by omega), cl_p hr (show i < 40 by omega), (r2' r hr).2 e i hi]
          rfl
        · rw [sI_comm (show 16 + r ≠ 1 by omega)]
          have h2 := inv_ask (v := pl r i) h (Sc.rf _)
          refine inv_row h2 (fun a k p q => ?_) (fun k => rfl) (fun k _ => rfl) ⟨sz, fun a j => if a = r ∧ j = i then v else pl a j, w, fun j hj => ⟨?_, fun hn b hb => ?_⟩, fun j hj => ⟨?_, fun hn b hb => ?_⟩⟩
          · rw [mI_sI, if_neg (by unfold rowA at q; omega), mI_sI, if_neg (by unfold rowA at q; omega)]
          · rw [mI_sI, if_neg (by omega), mI_sI, if_neg (by omega), mI_sI, if_neg (by omega), mI_sI, if_neg (by omega)]; exact (r1 j hj).1
          · show _ = if j = r ∧ b = i then v else pl j b
            rw [mI_sI, if_neg (by omega), mI_sI]
            by_cases q : j = r ∧ b = i
            · rw [if_pos (by omega), if_pos q]
            · rw [if_neg (by omega), if_neg q, mI_sI, if_neg (by omega), mI_sI, if_neg (by omega)]; exact (r1 j hj).2 hn b hb
          · rw [mI_sI, if_neg (by omega), mI_sI, if_neg (by omega), mI_sI, if_neg (by omega), mI_sI, if_neg (by omega)]; exact (r2 j hj).1
          · have := w j hj
            show _ = if j = r ∧ b = i then v else pl j b
            rw [mI_sI]
            by_cases q : j = r ∧ b = i
            · rw [if_pos (by omega), if_pos q]
            · rw [if_neg (by omega), if_neg q, mI_sI, if_neg (by omega), mI_sI, if_neg (by omega), mI_sI, if_neg (by omega)]; exact (r2 j hj).2 hn b hb
      · refine ⟨-3, RF M 2, RM (RF M 2) 2, ?_, ?_, inv_ref h (by omega) (by omega) (Sc.rf _) (Sc.rf _)⟩
        · unfold f_X8_lay
          simp only [s_isRowNumber, tc, nm_q, bd_s, if_pos (show (0 : Int) ≤ r ∧ (r : Int) < 6 by omega), fld_0_0, elm_2, nI_cl (show r < 2 ^ 31 by omega), ck_k hr (by omega), s_rowThere r1 w hr, e, if_false, s_rhas r1 w hr e, if_neg hy, s_ref2]
          rfl
        · unfold f_X9_lay
          simp only [s_askedRow (rr_RF r2) w hr, nm_q, bd_s, e, if_false, fld_1_5, nI_cl (show r < 2 ^ 31 by omega), ck_k hr (by omega), (rr_RF r2 r hr).1, s_in, ts1, li_m9, li_m4, li_m3, li_m2, li_m1, li_0, li_1, li_2, li_3, li_4, li_5, li_6, li_7, li_8, li_9, li_10, li_11, li_12, li_13, li_16, li_24, li_25, li_31, li_36, li_40, li_125, li_200, li_240, li_625, li_1000, li_100000, li_1000000, if_neg (show ¬ ((0 : Int) ≤ y.toInt ∧ y.toInt ≤ (sz r : Int) - 1) by omega), s_met2]
          rfl
  · refine ⟨-1, M, M, ?_, ?_, h⟩
    · unfold f_X8_lay
      simp only [s_isRowNumber, nm_q, bd_s, if_neg hx]
      rfl
    · unfold f_X9_lay
      simp only [s_askedRow_bad hx, nm_q, bd_s]
      rfl

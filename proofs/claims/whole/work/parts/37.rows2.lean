/-- the places from lo up to hi of the cell a are 0 -/
def zr (M : Mm) (a lo hi : Nat) : Mm := (fun b j => if b = a ∧ lo ≤ j ∧ j < hi then 0 else M.1 b j, M.2)
theorem mI_zr (M : Mm) (a lo hi b j : Nat) : mI (zr M a lo hi) b j = if b = a ∧ lo ≤ j ∧ j < hi then 0 else mI M b j := rfl
theorem zr_step {M : Mm} {a lo hi : Nat} (h : lo < hi) : zr (sI M a lo 0) a (lo + 1) hi = zr M a lo hi := by
  unfold zr sI
  refine Prod.ext ?_ rfl
  funext b j
  show (if b = a ∧ lo + 1 ≤ j ∧ j < hi then (0 : Int32) else if b = a ∧ j = lo then 0 else M.1 b j) = if b = a ∧ lo ≤ j ∧ j < hi then 0 else M.1 b j
  by_cases h1 : b = a ∧ lo ≤ j ∧ j < hi
  · rw [if_pos h1]
    by_cases h2 : b = a ∧ lo + 1 ≤ j ∧ j < hi
    · rw [if_pos h2]
    · rw [if_neg h2, if_pos (by omega)]
  · rw [if_neg h1, if_neg (by omega), if_neg (by omega)]
theorem zr_nil {M : Mm} {a hi : Nat} : zr M a hi hi = M := by
  unfold zr
  refine Prod.ext ?_ rfl
  funext b j
  show (if b = a ∧ hi ≤ j ∧ j < hi then (0 : Int32) else M.1 b j) = M.1 b j
  rw [if_neg (by omega)]
theorem s_begin_l {r n : Nat} (hr : r < 6) (hn : n ≤ 40) : ∀ (k i m : Nat) (M : Mm), i + k = n → k < m → mI M (10 + r) 1 = nI n → f_X6_begin_b16 (10 + r) m (nI i) M = some (zr M (16 + r) i n) := by
  intro k
  induction k with
  | zero =>
    intro i m M h1 h2 h3
    obtain ⟨m, rfl⟩ : ∃ j, m = j + 1 := ⟨m - 1, by omega⟩
    rw [f_X6_begin_b16_s]
    unfold f_X6_begin_b16B
    rw [h3, if_pos (by rw [show i = n by omega]; exact Int32.le_refl _), show i = n by omega, zr_nil]
  | succ k ih =>
    intro i m M h1 h2 h3
    obtain ⟨m, rfl⟩ : ∃ j, m = j + 1 := ⟨m - 1, by omega⟩
    rw [f_X6_begin_b16_s]
    unfold f_X6_begin_b16B
    rw [h3, if_neg (by rw [i_le, t_nI (by omega), t_nI (by omega)]; omega)]
    simp only [ck_k (show i < 40 by omega) (by omega), nm_q, bd_s, fld_row hr, nI_cl (show i < 2 ^ 31 by omega), nI_1]
    rw [ih (i + 1) m (sI M (16 + r) i 0) (by omega) (by omega) (by rw [mI_sI, if_neg (by omega)]; exact h3), zr_step (by omega)]
theorem s_row9_l {r : Nat} {v : Int32} (hr : r < 6) : ∀ (k i m : Nat) (M : Mm), i + k = 40 → k < m → f_X9_row_b34 1 m (nI r) v (nI i) M = some (v, zr M 86 (40 * r + i) (40 * r + 40)) := by
  intro k
  induction k with
  | zero =>
    intro i m M h1 h2
    obtain ⟨m, rfl⟩ : ∃ j, m = j + 1 := ⟨m - 1, by omega⟩
    rw [f_X9_row_b34_s]
    unfold f_X9_row_b34B
    rw [if_pos (by rw [i_le, t_nI (by omega), li_40]; omega), show i = 40 by omega, zr_nil]
  | succ k ih =>
    intro i m M h1 h2
    obtain ⟨m, rfl⟩ : ∃ j, m = j + 1 := ⟨m - 1, by omega⟩
    rw [f_X9_row_b34_s]
    unfold f_X9_row_b34B
    rw [if_neg (by rw [i_le, t_nI (by omega), li_40]; omega)]
    simp only [ck_p hr (show i < 40 by omega), cl_p hr (show i < 40 by omega), nm_q, bd_s, fld_1_6, nI_1]
    rw [ih (i + 1) m _ (by omega) (by omega), show 40 * r + (i + 1) = 40 * r + i + 1 by omega, zr_step (by omega)]
theorem al_row (x y : Int32) : Alike (f_X8_row 0 x y) (f_X9_row 1 x y) := by
  intro M h
  obtain ⟨hnet, ⟨sz, pl, w, r1, r2⟩, hflg⟩ := id h
  rcases x_split6 x with ⟨r, hr, rfl⟩ | hx
  · have tc : (nI r).toInt = (r : Int) := t_nI (by omega)
    by_cases h40 : y.toInt ≤ 40
    · by_cases h0 : 0 ≤ y.toInt
      · obtain ⟨n, hn, rfl⟩ := x_of (x := y) (n := 41) (in_iff.mpr (by omega)) (by omega)
        have tn : (nI n).toInt = (n : Int) := t_nI (by omega)
        have ev : (if 0 < (if 40 < nI n then 40 else nI n) then (if 40 < nI n then 40 else nI n) else 0) = nI n := by
          rw [if_neg (show ¬ (40 : Int32) < nI n by rw [i_lt, tn, li_40]; omega)]
          by_cases q : n = 0
          · subst q; rfl
          · rw [if_pos (by rw [i_lt, tn, li_0]; omega)]
        have e1 : f_X6_begin (10 + r) (nI n) M = some (zr (sI M (10 + r) 1 (nI n)) (16 + r) 0 n) := by
          unfold f_X6_begin
          rw [ev, nm_q]
          have := s_begin_l hr (show n ≤ 40 by omega) n 0 fuel (sI M (10 + r) 1 (nI n)) (by omega) (by show n < 1000; omega) (by rw [mI_sI, if_pos ⟨rfl, rfl⟩])
          exact this
        refine ⟨nI n, zr (sI M (10 + r) 1 (nI n)) (16 + r) 0 n, zr (sI (zr (sI M (10 + r) 1 (nI n)) (16 + r) 0 n) 85 r (nI n)) 86 (40 * r + 0) (40 * r + 40), ?_, ?_, ?_⟩
        · unfold f_X8_row
          simp only [s_isRowNumber, tc, nm_q, bd_s, if_pos (show (0 : Int) ≤ r ∧ (r : Int) < 6 by omega), i_le, tn, li_m9, li_m4, li_m3, li_m2, li_m1, li_0, li_1, li_2, li_3, li_4, li_5, li_6, li_7, li_8, li_9, li_10, li_11, li_12, li_13, li_16, li_24, li_25, li_31, li_36, li_40, li_125, li_200, li_240, li_625, li_1000, li_100000, li_1000000, if_pos (show (n : Int) ≤ 40 by omega), if_pos (show (0 : Int) ≤ n by omega), fld_0_0, elm_2, nI_cl (show r < 2 ^ 31 by omega), ck_k hr (by omega), e1]
          rfl
        · unfold f_X9_row
          simp only [s_isRow, tc, nm_q, bd_s, if_pos (show (0 : Int) ≤ r ∧ (r : Int) < 6 by omega), i_le, tn, li_m9, li_m4, li_m3, li_m2, li_m1, li_0, li_1, li_2, li_3, li_4, li_5, li_6, li_7, li_8, li_9, li_10, li_11, li_12, li_13, li_16, li_24, li_25, li_31, li_36, li_40, li_125, li_200, li_240, li_625, li_1000, li_100000, li_1000000, if_pos (show (n : Int) ≤ 40 by omega), if_pos (show (0 : Int) ≤ n by omega), fld_1_5, nI_cl (show r < 2 ^ 31 by omega), ck_k hr (by omega)]
          have := s_row9_l (v := nI n) hr 40 0 fuel (sI (zr (sI M (10 + r) 1 (nI n)) (16 + r) 0 n) 85 r (nI n)) (by omega) (by show 40 < 1000; omega)
          rw [if_neg (by decide)]
          exact this
        · refine inv_row h (fun a k p q => ?_) (fun k => rfl) (fun k _ => rfl) ⟨fun j => if j = r then n else sz j, fun a j => if a = r then 0 else pl a j, fun j hj => ?_, fun j hj => ⟨?_, fun hq i hi => ?_⟩, fun j hj => ⟨?_, fun hq i hi => ?_⟩⟩
          · rw [mI_zr, if_neg (by unfold rowA at q; omega), mI_sI, if_neg (by unfold rowA at q; omega), mI_zr, if_neg (by unfold rowA at q; omega), mI_sI, if_neg (by unfold rowA at q; omega)]
          · dsimp only
            split
            · omega
            · exact w j hj
          · rw [mI_zr, if_neg (by omega), mI_sI, if_neg (by omega), mI_zr, if_neg (by omega), mI_sI]
            by_cases q : j = r
            · subst q
              rw [if_pos ⟨rfl, rfl⟩]
              simp [show n ≠ 41 by omega]
            · rw [if_neg (by omega), (r1 j hj).1]; simp [q]
          · dsimp only at hq hi ⊢
            rw [mI_zr, if_neg (by omega), mI_sI, if_neg (by omega), mI_zr]
            by_cases q : j = r
            · subst q
              rw [if_pos rfl] at hi
              rw [if_pos (by omega), if_pos rfl]
            · simp only [q, if_false] at hq hi ⊢
              rw [if_neg (by omega), mI_sI, if_neg (by omega)]; exact (r1 j hj).2 hq i hi
          · rw [mI_zr, if_neg (by omega), mI_sI]
            by_cases q : j = r
            · subst q
              rw [if_pos ⟨rfl, rfl⟩]
              simp [show n ≠ 41 by omega]
            · rw [if_neg (by omega), mI_zr, if_neg (by omega), mI_sI, if_neg (by omega), (r2 j hj).1]; simp [q]
          · dsimp only at hq hi ⊢
            rw [mI_zr]
            by_cases q : j = r
            · subst q
              rw [if_pos rfl] at hi
              rw [if_pos (by omega), if_pos rfl]
            · simp only [q, if_false] at hq hi ⊢
              have := w j hj
              rw [if_neg (by omega), mI_sI, if_neg (by omega), mI_zr, if_neg (by omega), mI_sI, if_neg (by omega)]; exact (r2 j hj).2 hq i hi
      · refine ⟨-3, RF M 5, RM (RF M 5) 5, ?_, ?_, inv_ref h (by omega) (by omega) (Sc.rf _) (Sc.rf _)⟩
        · unfold f_X8_row
          simp only [s_isRowNumber, tc, nm_q, bd_s, if_pos (show (0 : Int) ≤ r ∧ (r : Int) < 6 by omega), i_le, li_m9, li_m4, li_m3, li_m2, li_m1, li_0, li_1, li_2, li_3, li_4, li_5, li_6, li_7, li_8, li_9, li_10, li_11, li_12, li_13, li_16, li_24, li_25, li_31, li_36, li_40, li_125, li_200, li_240, li_625, li_1000, li_100000, li_1000000, if_pos h40, if_neg h0, s_ref5]
          rfl
        · unfold f_X9_row
          simp only [s_isRow, tc, nm_q, bd_s, if_pos (show (0 : Int) ≤ r ∧ (r : Int) < 6 by omega), i_le, li_m9, li_m4, li_m3, li_m2, li_m1, li_0, li_1, li_2, li_3, li_4, li_5, li_6, li_7, li_8, li_9, li_10, li_11, li_12, li_13, li_16, li_24, li_25, li_31, li_36, li_40, li_125, li_200, li_240, li_625, li_1000, li_100000, li_1000000, if_pos h40, if_neg h0, s_met5]
          rfl
    · refine ⟨-1, M, M, ?_, ?_, h⟩
      · unfold f_X8_row
        simp only [s_isRowNumber, tc, nm_q, bd_s, if_pos (show (0 : Int) ≤ r ∧ (r : Int) < 6 by omega), i_le, li_m9, li_m4, li_m3, li_m2, li_m1, li_0, li_1, li_2, li_3, li_4, li_5, li_6, li_7, li_8, li_9, li_10, li_11, li_12, li_13, li_16, li_24, li_25, li_31, li_36, li_40, li_125, li_200, li_240, li_625, li_1000, li_100000, li_1000000, if_neg h40]
        rfl
      · unfold f_X9_row
        simp only [s_isRow, tc, nm_q, bd_s, if_pos (show (0 : Int) ≤ r ∧ (r : Int) < 6 by omega), i_le, li_m9, li_m4, li_m3, li_m2, li_m1, li_0, li_1, li_2, li_3, li_4, li_5, li_6, li_7, li_8, li_9, li_10, li_11, li_12, li_13, li_16, li_24, li_25, li_31, li_36, li_40, li_125, li_200, li_240, li_625, li_1000, li_100000, li_1000000, if_neg h40]
        rfl
  · refine ⟨-1, M, M, ?_, ?_, h⟩
    · unfold f_X8_row
      simp only [s_isRowNumber, nm_q, bd_s, if_neg hx]
      rfl
    · unfold f_X9_row
      simp only [s_isRow, nm_q, bd_s, if_neg hx]
      rfl
/-- the sum of the first n places -/
def isum (f : Nat → Int32) : Nat → Int64
  | 0 => 0
  | n + 1 => isum f n + Int32.toInt64 (f n)
theorem s_rsum_l {r : Nat} {M : Mm} {sz : Nf} {pl : Nat → Nat → Int32} (n : RowC sz pl M) (w : wfR sz) (hr : r < 6) (hs : sz r ≠ 41) : ∀ (k i m : Nat), i + k = sz r → k < m → f_X6_sum_b4 (10 + r) m (isum (pl r) i) (nI i) M = some (isum (pl r) (sz r), M) := by
  have hw := w r hr
  intro k
  induction k with
  | zero =>
    intro i m h1 h2
    obtain ⟨m, rfl⟩ : ∃ j, m = j + 1 := ⟨m - 1, by omega⟩
    rw [f_X6_sum_b4_s]
    unfold f_X6_sum_b4B
    rw [(n r hr).1, if_neg hs, if_pos (by rw [show i = sz r by omega]; exact Int32.le_refl _), show i = sz r by omega]
  | succ k ih =>
    intro i m h1 h2
    obtain ⟨m, rfl⟩ : ∃ j, m = j + 1 := ⟨m - 1, by omega⟩
    rw [f_X6_sum_b4_s]
    unfold f_X6_sum_b4B
    rw [(n r hr).1, if_neg hs, if_neg (by rw [i_le, t_nI (by omega), t_nI (by omega)]; omega)]
    simp only [s_rat n w hr hs (show i < sz r by omega), nm_q, bd_s, nI_1]
    exact ih (i + 1) m (by omega) (by omega)
theorem s_rsum {r : Nat} {M : Mm} {sz : Nf} {pl : Nat → Nat → Int32} (n : RowC sz pl M) (w : wfR sz) (hr : r < 6) (hs : sz r ≠ 41) : f_X6_sum (10 + r) M = some (isum (pl r) (sz r), M) := by
  have hw := w r hr
  exact s_rsum_l n w hr hs (sz r) 0 fuel (by omega) (by show sz r < 1000; omega)
theorem s_avg_l {r : Nat} {M : Mm} {sz : Nf} {pl : Nat → Nat → Int32} (n : RowR sz pl M) (w : wfR sz) (hr : r < 6) (hs : sz r ≠ 41) : ∀ (k i m : Nat), i + k = sz r → k < m → f_X9_average_b17 1 m (nI r) (isum (pl r) i) (nI i) M = (if sz r = 0 then some (-3, RM M 4) else some (1, sI M 1 2 (Int64.toInt32 (isum (pl r) (sz r) / Int32.toInt64 (nI (sz r)))))) := by
  have hw := w r hr
  intro k
  induction k with
  | zero =>
    intro i m h1 h2
    obtain ⟨m, rfl⟩ : ∃ j, m = j + 1 := ⟨m - 1, by omega⟩
    rw [f_X9_average_b17_s]
    unfold f_X9_average_b17B f_X9_ask
    have hi : i = sz r := by omega
    simp only [fld_1_5, nI_cl (show r < 2 ^ 31 by omega), ck_k hr (by omega), (n r hr).1, if_neg hs, hi, nm_q, bd_s]
    rw [if_pos (Int32.le_refl _)]
    by_cases q : sz r = 0
    · rw [if_pos (by rw [q]; rfl), if_pos q, s_met4]; rfl
    · have q1 : ¬ nI (sz r) = 0 := by rw [i_eq, t_nI (by omega), li_0]; omega
      have q2 : ¬ Int32.toInt64 (nI (sz r)) = 0 := by rw [l_eq, i2l, t_nI (by omega)]; simp; omega
      rw [if_neg q1, if_neg q, dvJ_ok q2]
  | succ k ih =>
    intro i m h1 h2
    obtain ⟨m, rfl⟩ : ∃ j, m = j + 1 := ⟨m - 1, by omega⟩
    rw [f_X9_average_b17_s]
    unfold f_X9_average_b17B
    simp only [fld_1_5, fld_1_6, nI_cl (show r < 2 ^ 31 by omega), ck_k hr (by omega), (n r hr).1, if_neg hs, nm_q, bd_s]
    rw [if_neg (by rw [i_le, t_nI (by omega), t_nI (by omega)]; omega), ck_p hr (by omega), cl_p hr (by omega), (n r hr).2 hs i (by omega)]
    simp only [nI_1]
    exact ih (i + 1) m (by omega) (by omega)
theorem al_average (x : Int32) : Alike (f_X8_average 0 x) (f_X9_average 1 x) := by
  intro M h
  obtain ⟨hnet, ⟨sz, pl, w, r1, r2⟩, hflg⟩ := id h
  rcases x_split6 x with ⟨r, hr, rfl⟩ | hx
  · have tc : (nI r).toInt = (r : Int) := t_nI (by omega)
    have hw := w r hr
    by_cases e : sz r = 41
    · refine ⟨-3, RF M 1, RM (RF M 1) 1, ?_, ?_, inv_ref h (by omega) (by omega) (Sc.rf _) (Sc.rf _)⟩
      · unfold f_X8_average
        simp only [s_isRowNumber, tc, nm_q, bd_s, if_pos (show (0 : Int) ≤ r ∧ (r : Int) < 6 by omega), fld_0_0, elm_2, nI_cl (show r < 2 ^ 31 by omega), ck_k hr (by omega), s_rowThere r1 w hr, e, s_ref1]
        rfl
      · unfold f_X9_average
        simp only [s_askedRow (rr_RF r2) w hr, nm_q, bd_s, e]
        rfl
    · have ts : (nI (sz r)).toInt = (sz r : Int) := t_nI (by omega)
      by_cases q : sz r = 0
      · refine ⟨-3, RF M 4, RM (RF M 4) 4, ?_, ?_, inv_ref h (by omega) (by omega) (Sc.rf _) (Sc.rf _)⟩
        · unfold f_X8_average
          simp only [s_isRowNumber, tc, nm_q, bd_s, if_pos (show (0 : Int) ≤ r ∧ (r : Int) < 6 by omega), fld_0_0, elm_2, nI_cl (show r < 2 ^ 31 by omega), ck_k hr (by omega), s_rowThere r1 w hr, (r1 r hr).1, q]
          simp [s_ref4, nm_q, bd_s, show nI 0 = 0 from rfl]
        · unfold f_X9_average
          simp only [s_askedRow (rr_RF r2) w hr, nm_q, bd_s, e, if_false]
          have := s_avg_l (rr_RF (f := 4) r2) w hr e (sz r) 0 fuel (by omega) (by show sz r < 1000; omega)
          rw [if_pos q] at this
          exact this
      · have q2 : ¬ Int32.toInt64 (nI (sz r)) = 0 := by rw [l_eq, i2l, t_nI (by omega)]; simp; omega
        have q3 : (0 : Int32) < nI (sz r) := by rw [i_lt, ts, li_0]; omega
        refine ⟨1, sI M 0 8 (Int64.toInt32 (isum (pl r) (sz r) / Int32.toInt64 (nI (sz r)))), sI (sI M 0 8 (Int64.toInt32 (isum (pl r) (sz r) / Int32.toInt64 (nI (sz r))))) 1 2 (Int64.toInt32 (isum (pl r) (sz r) / Int32.toInt64 (nI (sz r)))), ?_, ?_, inv_ask h (Sc.rf _)⟩
        · unfold f_X8_average
          simp only [s_isRowNumber, tc, nm_q, bd_s, if_pos (show (0 : Int) ≤ r ∧ (r : Int) < 6 by omega), fld_0_0, elm_2, nI_cl (show r < 2 ^ 31 by omega), ck_k hr (by omega), s_rowThere r1 w hr, (r1 r hr).1, e, if_false, if_pos q3, s_rsum r1 w hr e, dvJ_ok q2]
          rfl
        · unfold f_X9_average
          have r2' := rr_sI (a := 0) (k := 8) (v := Int64.toInt32 (isum (pl r) (sz r) / Int32.toInt64 (nI (sz r)))) r2 (by omega)
          simp only [s_askedRow r2' w hr, nm_q, bd_s, e, if_false]
          have := s_avg_l r2' w hr e (sz r) 0 fuel (by omega) (by show sz r < 1000; omega)
          rw [if_neg q] at this
          exact this
  · refine ⟨-1, M, M, ?_, ?_, h⟩
    · unfold f_X8_average
      simp only [s_isRowNumber, nm_q, bd_s, if_neg hx]
      rfl
    · unfold f_X9_average
      simp only [s_askedRow_bad hx, nm_q, bd_s]
      rfl

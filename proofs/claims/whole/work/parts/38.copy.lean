/-! copy -/
theorem s_spans {r : Nat} {x y : Int32} {M : Mm} {sz : Nf} {pl : Nat → Nat → Int32} (n : RowC sz pl M) (w : wfR sz) (hr : r < 6) (hs : sz r ≠ 41) : f_X6_spans (10 + r) x y M = some (if 0 ≤ x.toInt ∧ 0 ≤ y.toInt ∧ x.toInt + y.toInt ≤ sz r then 1 else 0, M) := by
  have hw := w r hr
  have t2 : (nI (sz r)).toInt = (sz r : Int) := t_nI (by omega)
  have b1 := i_bd x
  have b2 := i_bd y
  have e : (Int32.toInt64 x + Int32.toInt64 y).toInt = x.toInt + y.toInt := by rw [l_add (by rw [i2l, i2l]; omega) (by rw [i2l, i2l]; omega), i2l, i2l]
  unfold f_X6_spans
  simp only [(n r hr).1, if_neg hs, i_lt (b := 0), i_lt x 0, i_lt y 0, q_gt, e, i2l, t2, li_m9, li_m4, li_m3, li_m2, li_m1, li_0, li_1, li_2, li_3, li_4, li_5, li_6, li_7, li_8, li_9, li_10, li_11, li_12, li_13, li_16, li_24, li_25, li_31, li_36, li_40, li_125, li_200, li_240, li_625, li_1000, li_100000, li_1000000]
  repeat' split
  all_goals first | rfl | (exfalso; omega)
def cp1 (M : Mm) (src lo hi : Nat) : Mm := (fun b q => if b = 87 ∧ lo ≤ q ∧ q < hi then M.1 86 (src + q) else M.1 b q, M.2)
def cp2 (M : Mm) (dst lo hi : Nat) : Mm := (fun b q => if b = 86 ∧ dst + lo ≤ q ∧ q < dst + hi then M.1 87 (q - dst) else M.1 b q, M.2)
theorem mI_cp1 (M : Mm) (src lo hi b q : Nat) : mI (cp1 M src lo hi) b q = if b = 87 ∧ lo ≤ q ∧ q < hi then mI M 86 (src + q) else mI M b q := rfl
theorem mI_cp2 (M : Mm) (dst lo hi b q : Nat) : mI (cp2 M dst lo hi) b q = if b = 86 ∧ dst + lo ≤ q ∧ q < dst + hi then mI M 87 (q - dst) else mI M b q := rfl
theorem mI_sC (M : Mm) (a i b j n d k : Nat) : mI (sC M a i b j n) d k = if d = b then va_cpy (mI M a) (mI M b) i j n k else mI M d k := rfl
theorem cp1_nil {M : Mm} {src hi : Nat} : cp1 M src hi hi = M := by
  unfold cp1
  refine Prod.ext ?_ rfl
  funext b j
  show (if b = 87 ∧ hi ≤ j ∧ j < hi then _ else M.1 b j) = M.1 b j
  rw [if_neg (by omega)]
theorem cp2_nil {M : Mm} {dst hi : Nat} : cp2 M dst hi hi = M := by
  unfold cp2
  refine Prod.ext ?_ rfl
  funext b j
  show (if b = 86 ∧ dst + hi ≤ j ∧ j < dst + hi then _ else M.1 b j) = M.1 b j
  rw [if_neg (by omega)]
theorem cp1_step {M : Mm} {src lo hi : Nat} (h : lo < hi) : cp1 (sI M 87 lo (mI M 86 (src + lo))) src (lo + 1) hi = cp1 M src lo hi := by
  unfold cp1 sI mI
  refine Prod.ext ?_ rfl
  funext b j
  show (if b = 87 ∧ lo + 1 ≤ j ∧ j < hi then (if 86 = 87 ∧ src + j = lo then M.1 86 (src + lo) else M.1 86 (src + j)) else if b = 87 ∧ j = lo then M.1 86 (src + lo) else M.1 b j) = if b = 87 ∧ lo ≤ j ∧ j < hi then M.1 86 (src + j) else M.1 b j
  by_cases h1 : b = 87 ∧ lo ≤ j ∧ j < hi
  · rw [if_pos h1]
    by_cases h2 : b = 87 ∧ lo + 1 ≤ j ∧ j < hi
    · rw [if_pos h2, if_neg (by omega)]
    · rw [if_neg h2, if_pos (by omega), show j = lo by omega]
  · rw [if_neg h1, if_neg (by omega), if_neg (by omega)]
theorem cp2_step {M : Mm} {dst lo hi : Nat} (h : lo < hi) : cp2 (sI M 86 (dst + lo) (mI M 87 lo)) dst (lo + 1) hi = cp2 M dst lo hi := by
  unfold cp2 sI mI
  refine Prod.ext ?_ rfl
  funext b j
  show (if b = 86 ∧ dst + (lo + 1) ≤ j ∧ j < dst + hi then (if 87 = 86 ∧ j - dst = dst + lo then M.1 87 lo else M.1 87 (j - dst)) else if b = 86 ∧ j = dst + lo then M.1 87 lo else M.1 b j) = if b = 86 ∧ dst + lo ≤ j ∧ j < dst + hi then M.1 87 (j - dst) else M.1 b j
  by_cases h1 : b = 86 ∧ dst + lo ≤ j ∧ j < dst + hi
  · rw [if_pos h1]
    by_cases h2 : b = 86 ∧ dst + (lo + 1) ≤ j ∧ j < dst + hi
    · rw [if_pos h2, if_neg (by omega)]
    · rw [if_neg h2, if_pos (by omega), show j - dst = lo by omega]
  · rw [if_neg h1, if_neg (by omega), if_neg (by omega)]
theorem nI_idx {r i k : Nat} : ((40 * nI r) + nI i) + nI k = nI (40 * r + i + k) := by
  rw [show (40 : Int32) = nI 40 from rfl, pk_mul, nI_add, nI_add]
theorem s_copy2 {to j n : Nat} (ht : to < 6) (hj : j + n ≤ 40) : ∀ (k i m : Nat) (M : Mm), i + k = n → k < m → f_X9_copy_b141 1 m (nI to) (nI j) (nI n) (nI i) M = some (1, cp2 M (40 * to + j) i n) := by
  intro k
  induction k with
  | zero =>
    intro i m M h1 h2
    obtain ⟨m, rfl⟩ : ∃ j, m = j + 1 := ⟨m - 1, by omega⟩
    rw [f_X9_copy_b141_s]
    unfold f_X9_copy_b141B
    rw [if_pos (by rw [show i = n by omega]; exact Int32.le_refl _), show i = n by omega, cp2_nil]
  | succ k ih =>
    intro i m M h1 h2
    obtain ⟨m, rfl⟩ : ∃ j, m = j + 1 := ⟨m - 1, by omega⟩
    rw [f_X9_copy_b141_s]
    unfold f_X9_copy_b141B
    rw [if_neg (by rw [i_le, t_nI (by omega), t_nI (by omega)]; omega), nI_idx]
    simp only [ck_k (show i < 40 by omega) (by omega), ck_k (show 40 * to + j + i < 240 by omega) (by omega), nI_cl (show i < 2 ^ 31 by omega), nI_cl (show 40 * to + j + i < 2 ^ 31 by omega), nm_q, bd_s, fld_1_6, fld_1_7, nI_1]
    rw [ih (i + 1) m _ (by omega) (by omega), cp2_step (by omega)]
theorem s_copy1 {r i0 to j n : Nat} (hr : r < 6) (hi : i0 + n ≤ 40) (ht : to < 6) (hj : j + n ≤ 40) : ∀ (k i m : Nat) (M : Mm), i + k = n → k < m → f_X9_copy_b104 1 m (nI r) (nI i0) (nI to) (nI j) (nI n) (nI i) M = some (1, cp2 (cp1 M (40 * r + i0) i n) (40 * to + j) 0 n) := by
  intro k
  induction k with
  | zero =>
    intro i m M h1 h2
    obtain ⟨m, rfl⟩ : ∃ j, m = j + 1 := ⟨m - 1, by omega⟩
    rw [f_X9_copy_b104_s]
    unfold f_X9_copy_b104B
    rw [if_pos (by rw [show i = n by omega]; exact Int32.le_refl _), show i = n by omega, cp1_nil]
    exact s_copy2 ht hj n 0 fuel M (by omega) (by show n < 1000; omega)
  | succ k ih =>
    intro i m M h1 h2
    obtain ⟨m, rfl⟩ : ∃ j, m = j + 1 := ⟨m - 1, by omega⟩
    rw [f_X9_copy_b104_s]
    unfold f_X9_copy_b104B
    rw [if_neg (by rw [i_le, t_nI (by omega), t_nI (by omega)]; omega), nI_idx]
    simp only [ck_k (show i < 40 by omega) (by omega), ck_k (show 40 * r + i0 + i < 240 by omega) (by omega), nI_cl (show i < 2 ^ 31 by omega), nI_cl (show 40 * r + i0 + i < 2 ^ 31 by omega), nm_q, bd_s, fld_1_6, fld_1_7, nI_1]
    rw [ih (i + 1) m _ (by omega) (by omega), cp1_step (by omega)]
theorem al_copy (x1 x2 x3 x4 x5 : Int32) : Alike (f_X8_copy 0 x1 x2 x3 x4 x5) (f_X9_copy 1 x1 x2 x3 x4 x5) := by
  intro M h
  obtain ⟨hnet, ⟨sz, pl, w, r1, r2⟩, hflg⟩ := id h
  rcases x_split6 x1 with ⟨r, hr, rfl⟩ | hx
  · have tr : (nI r).toInt = (r : Int) := t_nI (by omega)
    have hwr := w r hr
    rcases x_split6 x3 with ⟨to, ht, rfl⟩ | hx
    · have tt : (nI to).toInt = (to : Int) := t_nI (by omega)
      have hwt := w to ht
      by_cases h5 : 0 ≤ x5.toInt
      · by_cases e : sz r = 41 ∨ sz to = 41
        · refine ⟨-3, RF M 1, RM (RF M 1) 1, ?_, ?_, inv_ref h (by omega) (by omega) (Sc.rf _) (Sc.rf _)⟩
          · unfold f_X8_copy f_X8_copy_b51
            simp only [s_isRowNumber, tr, tt, nm_q, bd_s, if_pos (show (0 : Int) ≤ r ∧ (r : Int) < 6 by omega), if_pos (show (0 : Int) ≤ to ∧ (to : Int) < 6 by omega), i_le (0) x5, li_m9, li_m4, li_m3, li_m2, li_m1, li_0, li_1, li_2, li_3, li_4, li_5, li_6, li_7, li_8, li_9, li_10, li_11, li_12, li_13, li_16, li_24, li_25, li_31, li_36, li_40, li_125, li_200, li_240, li_625, li_1000, li_100000, li_1000000, if_pos h5, fld_0_0, elm_2, nI_cl (show r < 2 ^ 31 by omega), nI_cl (show to < 2 ^ 31 by omega), ck_k hr (by omega), ck_k ht (by omega), s_rowThere r1 w hr, s_rowThere r1 w ht, s_ref1]
            by_cases e1 : sz r = 41
            · simp [e1]
            · have e2 : sz to = 41 := by omega
              simp [e1, e2]
          · have q2 := rr_RF (f := 1) r2
            unfold f_X9_copy f_X9_copy_b45
            simp only [s_isRow, tr, tt, nm_q, bd_s, if_pos (show (0 : Int) ≤ r ∧ (r : Int) < 6 by omega), if_pos (show (0 : Int) ≤ to ∧ (to : Int) < 6 by omega), i_le (0) x5, li_m9, li_m4, li_m3, li_m2, li_m1, li_0, li_1, li_2, li_3, li_4, li_5, li_6, li_7, li_8, li_9, li_10, li_11, li_12, li_13, li_16, li_24, li_25, li_31, li_36, li_40, li_125, li_200, li_240, li_625, li_1000, li_100000, li_1000000, if_pos h5, fld_1_5, nI_cl (show r < 2 ^ 31 by omega), nI_cl (show to < 2 ^ 31 by omega), ck_k hr (by omega), ck_k ht (by omega), (q2 r hr).1, (q2 to ht).1, s_met1]
            by_cases e1 : sz r = 41
            · simp [e1]
            · have e2 : sz to = 41 := by omega
              have ts : (nI (sz r)).toInt = (sz r : Int) := t_nI (by omega)
              rw [if_neg e1, if_neg (by decide), if_neg (by decide), if_neg (by rw [i_lt, ts, li_0]; omega), if_pos e2, if_neg (by decide)]
        · have e1 : sz r ≠ 41 := by omega
          have e2 : sz to ≠ 41 := by omega
          have ts1 : (nI (sz r)).toInt = (sz r : Int) := t_nI (by omega)
          have ts2 : (nI (sz to)).toInt = (sz to : Int) := t_nI (by omega)
          have b2 := i_bd x2
          have b4 := i_bd x4
          have b5 := i_bd x5
          have a2 : (Int32.toInt64 x2 + Int32.toInt64 x5).toInt = x2.toInt + x5.toInt := by rw [l_add (by rw [i2l, i2l]; omega) (by rw [i2l, i2l]; omega), i2l, i2l]
          have a4 : (Int32.toInt64 x4 + Int32.toInt64 x5).toInt = x4.toInt + x5.toInt := by rw [l_add (by rw [i2l, i2l]; omega) (by rw [i2l, i2l]; omega), i2l, i2l]
          by_cases hin : 0 ≤ x2.toInt ∧ 0 ≤ x4.toInt ∧ x2.toInt + x5.toInt ≤ sz r ∧ x4.toInt + x5.toInt ≤ sz to
          · obtain ⟨i, hi, rfl⟩ := x_of (x := x2) (n := 41) (in_iff.mpr (by omega)) (by omega)
            obtain ⟨j, hj, rfl⟩ := x_of (x := x4) (n := 41) (in_iff.mpr (by omega)) (by omega)
            obtain ⟨n, hn, rfl⟩ := x_of (x := x5) (n := 41) (in_iff.mpr (by omega)) (by omega)
            have ti : (nI i).toInt = (i : Int) := t_nI (by omega)
            have tj : (nI j).toInt = (j : Int) := t_nI (by omega)
            have tn : (nI n).toInt = (n : Int) := t_nI (by omega)
            rw [ti, tn] at a2
            rw [tj, tn] at a4
            rw [ti, tj, tn] at hin
            have hc : f_X6_take (10 + to) (10 + r) (nI i) (nI j) (nI n) M = some (sC M (16 + r) i (16 + to) j n) := by
              unfold f_X6_take cpk
              simp only [s_spans r1 w hr e1, s_spans r1 w ht e2, ti, tj, tn, nm_q, bd_s, if_pos (show (0 : Int) ≤ i ∧ (0 : Int) ≤ n ∧ (i : Int) + n ≤ sz r by omega), if_pos (show (0 : Int) ≤ j ∧ (0 : Int) ≤ n ∧ (j : Int) + n ≤ sz to by omega), i_lt, li_m9, li_m4, li_m3, li_m2, li_m1, li_0, li_1, li_2, li_3, li_4, li_5, li_6, li_7, li_8, li_9, li_10, li_11, li_12, li_13, li_16, li_24, li_25, li_31, li_36, li_40, li_125, li_200, li_240, li_625, li_1000, li_100000, li_1000000, nI_cl (show i < 2 ^ 31 by omega), nI_cl (show j < 2 ^ 31 by omega), nI_cl (show n < 2 ^ 31 by omega), fld_row hr, fld_row ht]
              rw [if_neg (by decide), if_neg (by decide), if_neg (by omega)]
            refine ⟨1, sC M (16 + r) i (16 + to) j n, cp2 (cp1 (sC M (16 + r) i (16 + to) j n) (40 * r + i) 0 n) (40 * to + j) 0 n, ?_, ?_, ?_⟩
            · unfold f_X8_copy
              simp only [s_isRowNumber, tr, tt, nm_q, bd_s, if_pos (show (0 : Int) ≤ r ∧ (r : Int) < 6 by omega), if_pos (show (0 : Int) ≤ to ∧ (to : Int) < 6 by omega), i_le (0) (nI n), tn, li_m9, li_m4, li_m3, li_m2, li_m1, li_0, li_1, li_2, li_3, li_4, li_5, li_6, li_7, li_8, li_9, li_10, li_11, li_12, li_13, li_16, li_24, li_25, li_31, li_36, li_40, li_125, li_200, li_240, li_625, li_1000, li_100000, li_1000000, if_pos (show (0 : Int) ≤ n by omega), fld_0_0, elm_2, nI_cl (show r < 2 ^ 31 by omega), nI_cl (show to < 2 ^ 31 by omega), ck_k hr (by omega), ck_k ht (by omega), s_rowThere r1 w hr, s_rowThere r1 w ht, if_neg e1, if_neg e2, s_spans r1 w hr e1, s_spans r1 w ht e2, ti, tj, if_pos (show (0 : Int) ≤ i ∧ (0 : Int) ≤ n ∧ (i : Int) + n ≤ sz r by omega), if_pos (show (0 : Int) ≤ j ∧ (0 : Int) ≤ n ∧ (j : Int) + n ≤ sz to by omega), hc]
              rfl
            · have q2 : RowR sz pl (sC M (16 + r) i (16 + to) j n) := r2.sc (fun a k p => by
                show (if a = 16 + to then _ else M.1 a k) = M.1 a k
                rw [if_neg (by unfold pR at p; omega)])
              unfold f_X9_copy
              simp only [s_isRow, tr, tt, nm_q, bd_s, if_pos (show (0 : Int) ≤ r ∧ (r : Int) < 6 by omega), if_pos (show (0 : Int) ≤ to ∧ (to : Int) < 6 by omega), i_le (0) (nI n), tn, li_m9, li_m4, li_m3, li_m2, li_m1, li_0, li_1, li_2, li_3, li_4, li_5, li_6, li_7, li_8, li_9, li_10, li_11, li_12, li_13, li_16, li_24, li_25, li_31, li_36, li_40, li_125, li_200, li_240, li_625, li_1000, li_100000, li_1000000, if_pos (show (0 : Int) ≤ n by omega), fld_1_5, nI_cl (show r < 2 ^ 31 by omega), nI_cl (show to < 2 ^ 31 by omega), ck_k hr (by omega), ck_k ht (by omega), (q2 r hr).1, (q2 to ht).1, if_neg e1, if_neg e2, q_gt, q_le, a2, a4, i2l, ts1, ts2]
              rw [if_neg (by decide), if_neg (by decide), if_neg (by rw [i_lt, ts1, li_0]; omega), if_pos (by rw [i_le, ts2, li_0]; omega), if_neg (by rw [i_lt, ti, li_0]; omega), if_neg (by rw [i_lt, tj, li_0]; omega), if_neg (by omega), if_pos (by omega)]
              exact s_copy1 hr (by omega) ht (by omega) n 0 fuel _ (by omega) (by show n < 1000; omega)
            · have ex : ∀ a k, a < 84 → mI (cp2 (cp1 (sC M (16 + r) i (16 + to) j n) (40 * r + i) 0 n) (40 * to + j) 0 n) a k = mI (sC M (16 + r) i (16 + to) j n) a k := fun a k ha => by
                rw [mI_cp2, if_neg (by omega), mI_cp1, if_neg (by omega)]
              have es : ∀ a k, a ≠ 16 + to → mI (sC M (16 + r) i (16 + to) j n) a k = mI M a k := fun a k ha => if_neg ha
              have er : ∀ a k, a ≠ 86 → a ≠ 87 → mI (cp2 (cp1 (sC M (16 + r) i (16 + to) j n) (40 * r + i) 0 n) (40 * to + j) 0 n) a k = mI (sC M (16 + r) i (16 + to) j n) a k := fun a k h1 h2 => by
                rw [mI_cp2, if_neg (by omega), mI_cp1, if_neg (by omega)]
              refine inv_row h (fun a k p q => ?_) (fun k => rfl) (fun k _ => rfl) ⟨sz, fun a b => if a = to ∧ j ≤ b ∧ b < j + n then pl r (i + (b - j)) else pl a b, w, fun a ha => ⟨?_, fun hq b hb => ?_⟩, fun a ha => ⟨?_, fun hq b hb => ?_⟩⟩
              · have h87 : a ≠ 87 := by
                  rcases p with p | p
                  · unfold pX at p; omega
                  · unfold pR at p; omega
                rw [er a k (by unfold rowA at q; omega) h87, es a k (by unfold rowA at q; omega)]
              · rw [ex _ _ (by omega), es _ _ (by omega)]; exact (r1 a ha).1
              · show _ = if a = to ∧ j ≤ b ∧ b < j + n then pl r (i + (b - j)) else pl a b
                rw [ex _ _ (by omega), mI_sC]
                by_cases q : a = to
                · subst q
                  rw [if_pos rfl]
                  unfold va_cpy
                  by_cases q3 : j ≤ b ∧ b < j + n
                  · rw [if_pos q3, if_pos ⟨rfl, q3⟩]; exact (r1 r hr).2 e1 _ (by omega)
                  · rw [if_neg q3, if_neg (by omega)]; exact (r1 a ha).2 hq b hb
                · rw [if_neg (by omega), if_neg (by omega)]; exact (r1 a ha).2 hq b hb
              · rw [er _ _ (by omega) (by omega), es _ _ (by omega)]; exact (r2 a ha).1
              · have hwa := w a ha
                show _ = if a = to ∧ j ≤ b ∧ b < j + n then pl r (i + (b - j)) else pl a b
                rw [mI_cp2, mI_cp1, mI_cp1]
                by_cases q : a = to ∧ j ≤ b ∧ b < j + n
                · obtain ⟨rfl, q1, q2⟩ := q
                  rw [if_pos (by omega), if_pos (by omega), if_pos ⟨rfl, q1, q2⟩, es _ _ (by omega), show 40 * r + i + (40 * a + b - (40 * a + j)) = 40 * r + (i + (b - j)) by omega]
                  exact (r2 r hr).2 e1 _ (by omega)
                · rw [if_neg (by omega), if_neg (by omega), if_neg q, es _ _ (by omega)]; exact (r2 a ha).2 hq b hb
          · refine ⟨-3, RF M 2, RM (RF M 2) 2, ?_, ?_, inv_ref h (by omega) (by omega) (Sc.rf _) (Sc.rf _)⟩
            · unfold f_X8_copy f_X8_copy_b88
              simp only [s_isRowNumber, tr, tt, nm_q, bd_s, if_pos (show (0 : Int) ≤ r ∧ (r : Int) < 6 by omega), if_pos (show (0 : Int) ≤ to ∧ (to : Int) < 6 by omega), i_le (0) x5, li_m9, li_m4, li_m3, li_m2, li_m1, li_0, li_1, li_2, li_3, li_4, li_5, li_6, li_7, li_8, li_9, li_10, li_11, li_12, li_13, li_16, li_24, li_25, li_31, li_36, li_40, li_125, li_200, li_240, li_625, li_1000, li_100000, li_1000000, if_pos h5, fld_0_0, elm_2, nI_cl (show r < 2 ^ 31 by omega), nI_cl (show to < 2 ^ 31 by omega), ck_k hr (by omega), ck_k ht (by omega), s_rowThere r1 w hr, s_rowThere r1 w ht, if_neg e1, if_neg e2, s_spans r1 w hr e1, s_spans r1 w ht e2, s_ref2]
              by_cases q1 : 0 ≤ x2.toInt ∧ 0 ≤ x5.toInt ∧ x2.toInt + x5.toInt ≤ sz r
              · rw [if_pos q1, if_neg (show ¬ (0 ≤ x4.toInt ∧ 0 ≤ x5.toInt ∧ x4.toInt + x5.toInt ≤ sz to) by omega)]
                rfl
              · rw [if_neg q1]
                rfl
            · have q2 := rr_RF (f := 2) r2
              unfold f_X9_copy f_X9_copy_b95
              simp only [s_isRow, tr, tt, nm_q, bd_s, if_pos (show (0 : Int) ≤ r ∧ (r : Int) < 6 by omega), if_pos (show (0 : Int) ≤ to ∧ (to : Int) < 6 by omega), i_le (0) x5, li_m9, li_m4, li_m3, li_m2, li_m1, li_0, li_1, li_2, li_3, li_4, li_5, li_6, li_7, li_8, li_9, li_10, li_11, li_12, li_13, li_16, li_24, li_25, li_31, li_36, li_40, li_125, li_200, li_240, li_625, li_1000, li_100000, li_1000000, if_pos h5, fld_1_5, nI_cl (show r < 2 ^ 31 by omega), nI_cl (show to < 2 ^ 31 by omega), ck_k hr (by omega), ck_k ht (by omega), (q2 r hr).1, (q2 to ht).1, if_neg e1, if_neg e2, q_gt, q_le, a2, a4, i2l, ts1, ts2, s_met2]
              rw [if_neg (by decide), if_neg (by decide), if_neg (by rw [i_lt, ts1, li_0]; omega), if_pos (by rw [i_le, ts2, li_0]; omega)]
              by_cases q1 : x2 < 0
              · rw [if_pos q1]
              · rw [if_neg q1]
                by_cases q3 : x4 < 0
                · rw [if_pos q3]
                · rw [if_neg q3]
                  rw [i_lt, li_0] at q1 q3
                  by_cases q4 : (sz r : Int) < x2.toInt + x5.toInt
                  · rw [if_pos q4]
                  · rw [if_neg q4, if_neg (by omega)]
      · refine ⟨-3, RF M 5, RM (RF M 5) 5, ?_, ?_, inv_ref h (by omega) (by omega) (Sc.rf _) (Sc.rf _)⟩
        · unfold f_X8_copy
          simp only [s_isRowNumber, tr, tt, nm_q, bd_s, if_pos (show (0 : Int) ≤ r ∧ (r : Int) < 6 by omega), if_pos (show (0 : Int) ≤ to ∧ (to : Int) < 6 by omega), i_le (0) x5, li_m9, li_m4, li_m3, li_m2, li_m1, li_0, li_1, li_2, li_3, li_4, li_5, li_6, li_7, li_8, li_9, li_10, li_11, li_12, li_13, li_16, li_24, li_25, li_31, li_36, li_40, li_125, li_200, li_240, li_625, li_1000, li_100000, li_1000000, if_neg h5, s_ref5]
          rfl
        · unfold f_X9_copy
          simp only [s_isRow, tr, tt, nm_q, bd_s, if_pos (show (0 : Int) ≤ r ∧ (r : Int) < 6 by omega), if_pos (show (0 : Int) ≤ to ∧ (to : Int) < 6 by omega), i_le (0) x5, li_m9, li_m4, li_m3, li_m2, li_m1, li_0, li_1, li_2, li_3, li_4, li_5, li_6, li_7, li_8, li_9, li_10, li_11, li_12, li_13, li_16, li_24, li_25, li_31, li_36, li_40, li_125, li_200, li_240, li_625, li_1000, li_100000, li_1000000, if_neg h5, s_met5]
          rfl
    · refine ⟨-1, M, M, ?_, ?_, h⟩
      · unfold f_X8_copy
        simp only [s_isRowNumber, tr, nm_q, bd_s, if_pos (show (0 : Int) ≤ r ∧ (r : Int) < 6 by omega), if_neg hx]
        rfl
      · unfold f_X9_copy
        simp only [s_isRow, tr, nm_q, bd_s, if_pos (show (0 : Int) ≤ r ∧ (r : Int) < 6 by omega), if_neg hx]
        rfl
  · refine ⟨-1, M, M, ?_, ?_, h⟩
    · unfold f_X8_copy
      simp only [s_isRowNumber, nm_q, bd_s, if_neg hx]
      rfl
    · unfold f_X9_copy
      simp only [s_isRow, nm_q, bd_s, if_neg hx]
      rfl

theorem s_run107 {M : Mm} {kd rt hd rm cm : Nf} {wy : Nat → Nf} {sz : Nf} {pl : Nat → Nat → Int32} (n2 : NetR kd rt hd rm cm wy M) (w : wfN kd rt hd rm cm wy) (r2 : RowR sz pl M) (w2 : wfR sz) {c r s : Nat} (hc : c < 4) (h9 : kd c ≠ 9) (hr : r < 6) (hs : s < 6) (er : sz r ≠ 41) (eq : sz r = sz s) : ∀ (k i m : Nat) (v b : Int32), (v = 0 ∨ v = 1) → i + k = sz r → k < m → f_X9_askedRun_b107 1 m (nI c) (nI r) (nI s) (nI (sz r)) v b (nI i) M = some (if v = 1 ∧ gdB (pl r) (pl s) b k i = true then (nI (sz r), WM M (rnW (decide (hd c = 2)) (pl r) (pl s)) (sz r)) else (-3, RM M 3)) := by
  have hwr := w2 r hr
  have h190 : ∀ v : Int32, (v = 0 ∨ v = 1) → f_X9_askedRun_b190 1 (nI c) (nI r) (nI s) (nI (sz r)) v M = some (if v = 1 then (nI (sz r), WM M (rnW (decide (hd c = 2)) (pl r) (pl s)) (sz r)) else (-3, RM M 3)) := by
    intro v hv
    unfold f_X9_askedRun_b190
    rw [s_met3]
    rcases hv with rfl | rfl
    · rfl
    · rw [if_neg (by decide), if_pos rfl]
      have := s_run210 n2 w r2 w2 hc h9 hr hs er eq (sz r) 0 fuel (by omega) (by show sz r < 1000; omega)
      rw [WM_0] at this
      exact this
  intro k
  induction k with
  | zero =>
    intro i m v b hv h1 h2
    obtain ⟨m, rfl⟩ : ∃ j, m = j + 1 := ⟨m - 1, by omega⟩
    rw [f_X9_askedRun_b107_s]
    unfold f_X9_askedRun_b107B gdB
    rw [if_pos (by rw [show i = sz r by omega]; exact Int32.le_refl _), h190 v hv]
    simp
  | succ k ih =>
    intro i m v b hv h1 h2
    obtain ⟨m, rfl⟩ : ∃ j, m = j + 1 := ⟨m - 1, by omega⟩
    have ih1 := ih (i + 1) m 1 (pl r i) (Or.inr rfl) (by omega) (by omega)
    have ih0 := ih (i + 1) m 0 (pl r i) (Or.inl rfl) (by omega) (by omega)
    rw [f_X9_askedRun_b107_s]
    unfold f_X9_askedRun_b107B f_X9_askedRun_b167 f_X9_askedRun_b168 gdB
    rw [if_neg (by rw [i_le, t_nI (by omega), t_nI (by omega)]; omega)]
    rcases hv with rfl | rfl
    · rw [if_pos rfl, h190 0 (Or.inl rfl)]
      simp
    · rw [if_neg (by decide)]
      simp only [ck_p hr (show i < 40 by omega), cl_p hr (show i < 40 by omega), ck_p hs (show i < 40 by omega), cl_p hs (show i < 40 by omega), fld_1_6, (r2 r hr).2 er i (by omega), (r2 s hs).2 (by omega) i (by omega), s_in, li_m9, li_m4, li_m3, li_m2, li_m1, li_0, li_1, li_2, li_3, li_4, li_5, li_6, li_7, li_8, li_9, li_10, li_11, li_12, li_13, li_16, li_24, li_25, li_31, li_36, li_40, li_125, li_200, li_240, li_625, li_1000, li_100000, li_1000000, nm_q, bd_s, nI_1, ih1, ih0]
      have a1 : (b ≤ pl r i) ↔ b.toInt ≤ (pl r i).toInt := i_le _ _
      have a2 : (pl r i ≤ 100000) ↔ (pl r i).toInt ≤ 100000 := by rw [i_le, li_100000]
      have a3 : (1 ≤ pl s i) ↔ 1 ≤ (pl s i).toInt := by rw [i_le, li_1]
      have a4 : (pl s i ≤ 1000) ↔ (pl s i).toInt ≤ 1000 := by rw [i_le, li_1000]
      simp only [a1, a2, a3, a4]
      by_cases q1 : b.toInt ≤ (pl r i).toInt ∧ (pl r i).toInt ≤ 100000
      · by_cases q2 : 1 ≤ (pl s i).toInt ∧ (pl s i).toInt ≤ 1000
        · simp [q1, q2]
        · have : (decide (1 ≤ (pl s i).toInt) && decide ((pl s i).toInt ≤ 1000)) = false := by
            rw [Bool.eq_false_iff]
            simp only [ne_eq, Bool.and_eq_true, decide_eq_true_eq]
            exact q2
          simp [q1, q2, this]
      · have : (decide (b.toInt ≤ (pl r i).toInt) && decide ((pl r i).toInt ≤ 100000)) = false := by
          rw [Bool.eq_false_iff]
          simp only [ne_eq, Bool.and_eq_true, decide_eq_true_eq]
          exact q1
        simp [q1, this]
theorem s_askedRun {M : Mm} {kd rt hd rm cm : Nf} {wy : Nat → Nf} {sz : Nf} {pl : Nat → Nat → Int32} (n2 : NetR kd rt hd rm cm wy M) (w : wfN kd rt hd rm cm wy) (r2 : RowR sz pl M) (w2 : wfR sz) {c r s : Nat} (hc : c < 4) (hr : r < 6) (hs : s < 6) : f_X9_askedRun 1 (nI c) (nI r) (nI s) M = some (if kd c = 9 ∨ sz r = 41 ∨ sz s = 41 then (-3, RM M 1) else if sz r ≠ sz s then (-3, RM M 5) else if kd c = 0 ∧ gdB (pl r) (pl s) 0 (sz r) 0 = true then (nI (sz r), WM M (rnW (decide (hd c = 2)) (pl r) (pl s)) (sz r)) else (-3, RM M 3)) := by
  have tc : (nI c).toInt = (c : Int) := t_nI (by omega)
  have tr : (nI r).toInt = (r : Int) := t_nI (by omega)
  have ts : (nI s).toInt = (s : Int) := t_nI (by omega)
  have hwr := w2 r hr
  have hws := w2 s hs
  have wc := w c hc
  unfold f_X9_askedRun f_X9_askedRun_b50
  simp only [s_isCounter, s_isRow, tc, tr, ts, nm_q, bd_s, if_pos (show (0 : Int) ≤ c ∧ (c : Int) < 4 by omega), if_pos (show (0 : Int) ≤ r ∧ (r : Int) < 6 by omega), if_pos (show (0 : Int) ≤ s ∧ (s : Int) < 6 by omega), fld_1_5, fld_1_8, fld_1_9, nI_cl (show c < 2 ^ 31 by omega), nI_cl (show r < 2 ^ 31 by omega), nI_cl (show s < 2 ^ 31 by omega), ck_k hc (show 4 < 1000 by omega), ck_k hr (show 6 < 1000 by omega), ck_k hs (show 6 < 1000 by omega), (n2.1 c hc).1, (r2 r hr).1, (r2 s hs).1, s_met1, s_met5]
  by_cases e9 : kd c = 9
  · simp [e9]
  · by_cases er : sz r = 41
    · simp [e9, er]
    · have k1 : ¬ nI (sz r) < 0 := by rw [i_lt, t_nI (by omega), li_0]; omega
      by_cases es : sz s = 41
      · simp [e9, er, es, k1]
      · have k2 : 0 ≤ nI (sz s) := by rw [i_le, t_nI (by omega), li_0]; omega
        simp only [e9, er, es, if_false, or_self, show ¬ ((1 : Int32) = 0) by decide, k1, k2, if_true]
        have ke : nI (sz r) = nI (sz s) ↔ sz r = sz s := by rw [i_eq, t_nI (by omega), t_nI (by omega)]; omega
        have k0 : nI (kd c) = 0 ↔ kd c = 0 := by rw [i_eq, t_nI (by omega), li_0]; omega
        by_cases eq : sz r = sz s
        · have l1 := s_run107 n2 w r2 w2 hc e9 hr hs er eq (sz r) 0 fuel 1 0 (Or.inr rfl) (by omega) (by show sz r < 1000; omega)
          have l0 := s_run107 n2 w r2 w2 hc e9 hr hs er eq (sz r) 0 fuel 0 0 (Or.inl rfl) (by omega) (by show sz r < 1000; omega)
          have l1 : f_X9_askedRun_b107 1 fuel (nI c) (nI r) (nI s) (nI (sz r)) 1 0 0 M = _ := l1
          have l0 : f_X9_askedRun_b107 1 fuel (nI c) (nI r) (nI s) (nI (sz r)) 0 0 0 M = _ := l0
          rw [if_pos (ke.mpr eq), if_neg (show ¬ sz r ≠ sz s by omega)]
          simp only [((n2.1 c hc).2.1 e9).1, k0, l1, l0]
          by_cases q0 : kd c = 0
          · simp [q0]
          · simp [q0]
        · rw [if_neg (fun z => eq (ke.mp z)), if_pos eq]
theorem s_waitX {M : Mm} {sz : Nf} {pl : Nat → Nat → Int32} (r1 : RowC sz pl M) (w2 : wfR sz) {r s i : Nat} (hr : r < 6) (hs : s < 6) (er : sz r ≠ 41) (eq : sz r = sz s) (two : Bool) (hi : i < sz r) : ∀ (j k m : Nat), k + j = i + 1 → j < m → f_X8_waited_b62 0 m (nI r) (nI s) (nI i) (if k = 0 then 0 else rnW two (pl r) (pl s) (k - 1)) (nI k) (LM M (rnS two (pl r) (pl s) k).1 (rnS two (pl r) (pl s) k).2 two) = some (1, sI (LM M (rnS two (pl r) (pl s) (i + 1)).1 (rnS two (pl r) (pl s) (i + 1)).2 two) 0 8 (rnW two (pl r) (pl s) i)) := by
  have hwr := w2 r hr
  intro j
  induction j with
  | zero =>
    intro k m h1 h2
    obtain ⟨m, rfl⟩ : ∃ j, m = j + 1 := ⟨m - 1, by omega⟩
    rw [f_X8_waited_b62_s]
    unfold f_X8_waited_b62B
    rw [if_pos (by rw [i_lt, t_nI (by omega), t_nI (by omega)]; omega), show k = i + 1 by omega, if_neg (by omega)]
    rfl
  | succ j ih =>
    intro k m h1 h2
    obtain ⟨m, rfl⟩ : ∃ j, m = j + 1 := ⟨m - 1, by omega⟩
    have hih := ih (k + 1) m (by omega) (by omega)
    rw [if_neg (by omega), Nat.add_sub_cancel] at hih
    rw [f_X8_waited_b62_s]
    unfold f_X8_waited_b62B
    rw [if_neg (by rw [i_lt, t_nI (by omega), t_nI (by omega)]; omega)]
    simp only [ck_k hr (show 6 < 1000 by omega), ck_k hs (show 6 < 1000 by omega), fld_0_0, fld_0_4, elm_2, nI_cl (show r < 2 ^ 31 by omega), nI_cl (show s < 2 ^ 31 by omega), s_rat (rc_LM r1) w2 hr er (show k < sz r by omega), s_rat (rc_LM r1) w2 hs (show sz s ≠ 41 by omega) (show k < sz s by omega), nm_q, bd_s, rn_next, nI_1]
    exact hih
/-- the sum of the waits -/
theorem s_seenX {M : Mm} {sz : Nf} {pl : Nat → Nat → Int32} (r1 : RowC sz pl M) (w2 : wfR sz) {r s : Nat} (hr : r < 6) (hs : s < 6) (er : sz r ≠ 41) (eq : sz r = sz s) (two : Bool) (K : Mm → Option (Int32 × Mm)) (hK : ∀ Ma, bd (f_X2_set 7 (isum (rnW two (pl r) (pl s)) (sz r)) (Int32.toInt64 (nI (sz r))) Ma) (fun M2 => some (nI (sz r), M2)) = K Ma) : ∀ (j k m : Nat), k + j = sz r → j < m → f_X8_seen_b64 0 m (nI r) (nI s) (nI (sz r)) (isum (rnW two (pl r) (pl s)) k) (nI k) (LM M (rnS two (pl r) (pl s) k).1 (rnS two (pl r) (pl s) k).2 two) = K (LM M (rnS two (pl r) (pl s) (sz r)).1 (rnS two (pl r) (pl s) (sz r)).2 two) := by
  have hwr := w2 r hr
  intro j
  induction j with
  | zero =>
    intro k m h1 h2
    obtain ⟨m, rfl⟩ : ∃ j, m = j + 1 := ⟨m - 1, by omega⟩
    rw [f_X8_seen_b64_s]
    unfold f_X8_seen_b64B
    rw [show k = sz r by omega, if_pos (Int32.le_refl _), fld_0_5]
    exact hK _
  | succ j ih =>
    intro k m h1 h2
    obtain ⟨m, rfl⟩ : ∃ j, m = j + 1 := ⟨m - 1, by omega⟩
    have hih := ih (k + 1) m (by omega) (by omega)
    rw [f_X8_seen_b64_s]
    unfold f_X8_seen_b64B
    rw [if_neg (by rw [i_le, t_nI (by omega), t_nI (by omega)]; omega)]
    simp only [ck_k hr (show 6 < 1000 by omega), ck_k hs (show 6 < 1000 by omega), fld_0_0, fld_0_4, elm_2, nI_cl (show r < 2 ^ 31 by omega), nI_cl (show s < 2 ^ 31 by omega), s_rat (rc_LM r1) w2 hr er (show k < sz r by omega), s_rat (rc_LM r1) w2 hs (show sz s ≠ 41 by omega) (show k < sz s by omega), nm_q, bd_s, rn_next, nI_1]
    exact hih
theorem s_seenR {M : Mm} {n : Nat} {f : Nat → Int32} (hn : n ≤ 40) (hf : ∀ j, j < n → mI M 100 j = f j) : ∀ (j k m : Nat), k + j = n → j < m → f_X9_seen_b23 1 m (nI n) (isum f k) (nI k) M = (if n = 0 then some (-3, RM M 4) else bd (f_X9_share 1 (isum f n) (Int32.toInt64 (nI n)) (nI n) M) (fun q3 => some (q3.1, q3.2))) := by
  intro j
  induction j with
  | zero =>
    intro k m h1 h2
    obtain ⟨m, rfl⟩ : ∃ j, m = j + 1 := ⟨m - 1, by omega⟩
    have k0 : nI n = 0 ↔ n = 0 := by rw [i_eq, t_nI (by omega), li_0]; omega
    rw [f_X9_seen_b23_s]
    unfold f_X9_seen_b23B
    rw [show k = n by omega, if_pos (Int32.le_refl _)]
    simp only [k0, s_met4, nm_q, bd_s]
  | succ j ih =>
    intro k m h1 h2
    obtain ⟨m, rfl⟩ : ∃ j, m = j + 1 := ⟨m - 1, by omega⟩
    have hih := ih (k + 1) m (by omega) (by omega)
    rw [f_X9_seen_b23_s]
    unfold f_X9_seen_b23B
    rw [if_neg (by rw [i_le, t_nI (by omega), t_nI (by omega)]; omega)]
    simp only [ck_k (show k < 40 by omega) (show 40 < 1000 by omega), fld_1_24, nI_cl (show k < 2 ^ 31 by omega), hf k (by omega), nm_q, bd_s, nI_1]
    exact hih
theorem Sc_LM {M Ma : Mm} (h : Sc M Ma) (a b : Int32) (t : Bool) : Sc M (LM Ma a b t) := by
  unfold LM
  exact ((h.i (by unfold pX pR; omega)).i (by unfold pX pR; omega)).i (by unfold pX pR; omega)
theorem is_bd (f : Nat → Int32) : ∀ n : Nat, n ≤ 40 → -((n : Int) * 2147483648) ≤ (isum f n).toInt ∧ (isum f n).toInt ≤ (n : Int) * 2147483648
  | 0, _ => by
    show _ ≤ (0 : Int64).toInt ∧ (0 : Int64).toInt ≤ _
    rw [show (0 : Int64).toInt = 0 from rfl]; omega
  | n + 1, h => by
    have := is_bd f n (by omega)
    have hb := i_bd (f n)
    unfold isum
    rw [l_add (by rw [i2l]; omega) (by rw [i2l]; omega), i2l]
    omega

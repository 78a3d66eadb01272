/-! count and digest -/
theorem s_bc : ∀ m, m < 16 → ∀ M : Mm, f_J6_bitCount_0f7a4 (nI m) M = some (nI (cn (fun c => if m.testBit c = true then 1 else 0) 4), M) := by
  intro m hm M
  have : m = 0 ∨ m = 1 ∨ m = 2 ∨ m = 3 ∨ m = 4 ∨ m = 5 ∨ m = 6 ∨ m = 7 ∨ m = 8 ∨ m = 9 ∨ m = 10 ∨ m = 11 ∨ m = 12 ∨ m = 13 ∨ m = 14 ∨ m = 15 := by omega
  rcases this with rfl | rfl | rfl | rfl | rfl | rfl | rfl | rfl | rfl | rfl | rfl | rfl | rfl | rfl | rfl | rfl <;> rfl
theorem s_bits_l {M : Mm} {kd rt hd rm cm : Nf} {wy : Nat → Nf} (n : NetC kd rt hd rm cm wy M) (w : wfN kd rt hd rm cm wy) : ∀ (k i m : Nat), i + k = 4 → k < m → f_X4_bitsThere_b4 4 m (nI (mk (fun c => decide (kd c ≠ 9)) i)) (nI i) M = some (nI (mk (fun c => decide (kd c ≠ 9)) 4), M) := by
  intro k
  induction k with
  | zero =>
    intro i m h1 h2
    obtain ⟨m, rfl⟩ : ∃ j, m = j + 1 := ⟨m - 1, by omega⟩
    rw [f_X4_bitsThere_b4_s]
    unfold f_X4_bitsThere_b4B
    rw [if_pos (by rw [i_le, t_nI (by omega), li_4]; omega), show i = 4 by omega]
  | succ k ih =>
    intro i m h1 h2
    obtain ⟨m, rfl⟩ : ∃ j, m = j + 1 := ⟨m - 1, by omega⟩
    have hih := ih (i + 1) m (by omega) (by omega)
    rw [show mk (fun c => decide (kd c ≠ 9)) (i + 1) = mk (fun c => decide (kd c ≠ 9)) i ||| (if decide (kd i ≠ 9) = true then 2 ^ i else 0) from rfl] at hih
    rw [f_X4_bitsThere_b4_s]
    unfold f_X4_bitsThere_b4B
    rw [if_neg (by rw [i_le, t_nI (by omega), li_4]; omega)]
    simp only [s_has n w (show i < 4 by omega), nm_q, bd_s, sh1 i (by omega), nI_or, nI_1]
    by_cases e : kd i = 9
    · simp only [e, if_true]
      rw [if_neg (by simp [e]), Nat.or_zero] at hih
      exact hih
    · rw [if_neg e, if_neg (by decide)]
      rw [if_pos (by simp [e])] at hih
      exact hih
theorem s_bits {M : Mm} {kd rt hd rm cm : Nf} {wy : Nat → Nf} (n : NetC kd rt hd rm cm wy M) (w : wfN kd rt hd rm cm wy) : f_X4_bitsThere 4 M = some (nI (mk (fun c => decide (kd c ≠ 9)) 4), M) := s_bits_l n w 4 0 fuel (by omega) (by show 4 < 1000; omega)
/-- hands of the first n -/
def hsN (kd hd : Nf) : Nat → Nat
  | 0 => 0
  | n + 1 => hsN kd hd n + (if kd n = 9 ∨ kd n = 3 then 0 else hd n)
theorem s_hands_l {M : Mm} {kd rt hd rm cm : Nf} {wy : Nat → Nf} (n : NetC kd rt hd rm cm wy M) (w : wfN kd rt hd rm cm wy) : ∀ (k i m : Nat), i + k = 4 → k < m → f_X4_handsThere_b4 4 m (nI (hsN kd hd i)) (nI i) M = some (nI (hsN kd hd 4), M) := by
  intro k
  induction k with
  | zero =>
    intro i m h1 h2
    obtain ⟨m, rfl⟩ : ∃ j, m = j + 1 := ⟨m - 1, by omega⟩
    rw [f_X4_handsThere_b4_s]
    unfold f_X4_handsThere_b4B
    rw [if_pos (by rw [i_le, t_nI (by omega), li_4]; omega), show i = 4 by omega]
  | succ k ih =>
    intro i m h1 h2
    obtain ⟨m, rfl⟩ : ∃ j, m = j + 1 := ⟨m - 1, by omega⟩
    have hih := ih (i + 1) m (by omega) (by omega)
    have k3 := kd_eq (kd := kd) (c := i) (j := 3) (w i (by omega)).1 (by omega)
    rw [show nI 3 = 3 from rfl] at k3
    rw [show hsN kd hd (i + 1) = hsN kd hd i + (if kd i = 9 ∨ kd i = 3 then 0 else hd i) from rfl] at hih
    rw [f_X4_handsThere_b4_s]
    unfold f_X4_handsThere_b4B
    rw [if_neg (by rw [i_le, t_nI (by omega), li_4]; omega)]
    simp only [s_has n w (show i < 4 by omega), nm_q, bd_s, ck_k (show i < 4 by omega) (show 4 < 1000 by omega), fld_4_0, elm_22, nI_cl (show i < 2 ^ 31 by omega), n.1 i (by omega), k3, nI_add, nI_1]
    by_cases e : kd i = 9
    · rw [if_pos (Or.inl e)] at hih
      rw [if_pos e]
      exact hih
    · rw [if_neg e, if_neg (by decide)]
      by_cases e3 : kd i = 3
      · rw [if_pos (Or.inr e3)] at hih
        rw [if_pos e3]
        exact hih
      · rw [if_neg (by omega)] at hih
        rw [if_neg e3]
        exact hih
def wsN (wy : Nat → Nf) : Nat → Nat
  | 0 => 0
  | n + 1 => wsN wy n + cn (fun d => wy d n) 4
theorem s_ways_l {M : Mm} {kd rt hd rm cm : Nf} {wy : Nat → Nf} (n : NetC kd rt hd rm cm wy M) (w : wfN kd rt hd rm cm wy) : ∀ (k i m : Nat), i + k = 4 → k < m → f_X4_waysThere_b4 4 m (nI (wsN wy i)) (nI i) M = some (nI (wsN wy 4), M) := by
  intro k
  induction k with
  | zero =>
    intro i m h1 h2
    obtain ⟨m, rfl⟩ : ∃ j, m = j + 1 := ⟨m - 1, by omega⟩
    rw [f_X4_waysThere_b4_s]
    unfold f_X4_waysThere_b4B
    rw [if_pos (by rw [i_le, t_nI (by omega), li_4]; omega), show i = 4 by omega]
  | succ k ih =>
    intro i m h1 h2
    obtain ⟨m, rfl⟩ : ∃ j, m = j + 1 := ⟨m - 1, by omega⟩
    have hih := ih (i + 1) m (by omega) (by omega)
    rw [f_X4_waysThere_b4_s]
    unfold f_X4_waysThere_b4B
    rw [if_neg (by rw [i_le, t_nI (by omega), li_4]; omega)]
    simp only [s_leading n w (show i < 4 by omega), nm_q, bd_s, nI_add, nI_1]
    exact hih
theorem s_rowsN_l {M : Mm} {sz : Nf} {pl : Nat → Nat → Int32} (n : RowC sz pl M) (w : wfR sz) : ∀ (k i m : Nat), i + k = 6 → k < m → f_X8_rowsThere_b4 0 m (nI (cn (fun r => if sz r = 41 then 0 else 1) i)) (nI i) M = some (nI (cn (fun r => if sz r = 41 then 0 else 1) 6), M) := by
  intro k
  induction k with
  | zero =>
    intro i m h1 h2
    obtain ⟨m, rfl⟩ : ∃ j, m = j + 1 := ⟨m - 1, by omega⟩
    rw [f_X8_rowsThere_b4_s]
    unfold f_X8_rowsThere_b4B
    rw [if_pos (by rw [i_le, t_nI (by omega), li_6]; omega), show i = 6 by omega]
  | succ k ih =>
    intro i m h1 h2
    obtain ⟨m, rfl⟩ : ∃ j, m = j + 1 := ⟨m - 1, by omega⟩
    have hih := ih (i + 1) m (by omega) (by omega)
    rw [show cn (fun r => if sz r = 41 then 0 else 1) (i + 1) = cn (fun r => if sz r = 41 then 0 else 1) i + (if (if sz i = 41 then 0 else 1) = 0 then 0 else 1) from rfl] at hih
    rw [f_X8_rowsThere_b4_s]
    unfold f_X8_rowsThere_b4B
    rw [if_neg (by rw [i_le, t_nI (by omega), li_6]; omega)]
    simp only [s_rowThere n w (show i < 6 by omega), nm_q, bd_s, ck_k (show i < 6 by omega) (show 6 < 1000 by omega), fld_0_0, elm_2, nI_cl (show i < 2 ^ 31 by omega), nI_1]
    by_cases e : sz i = 41
    · simp only [e, if_true] at hih ⊢
      exact hih
    · simp only [e, if_false] at hih ⊢
      rw [if_neg (by decide)]
      exact hih
theorem s_cnt3_l {M : Mm} {kd rt hd rm cm : Nf} {wy : Nat → Nf} (n : NetR kd rt hd rm cm wy M) (w : wfN kd rt hd rm cm wy) (x : Int32) (a : Nat) : ∀ (k i m : Nat), i + k = 16 → k < m → f_X9_count_b111 1 m x (nI (a + (if x = 3 then cn (fun q => wy (q / 4) (q % 4)) i else 0))) (nI i) M = some (if 0 ≤ x.toInt ∧ x.toInt ≤ 3 then nI (a + (if x = 3 then cn (fun q => wy (q / 4) (q % 4)) 16 else 0)) else -1, M) := by
  intro k
  induction k with
  | zero =>
    intro i m h1 h2
    obtain ⟨m, rfl⟩ : ∃ j, m = j + 1 := ⟨m - 1, by omega⟩
    rw [f_X9_count_b111_s]
    unfold f_X9_count_b111B
    rw [if_pos (by rw [i_le, t_nI (by omega), li_16]; omega), show i = 16 by omega]
    simp only [s_in, li_m9, li_m4, li_m3, li_m2, li_m1, li_0, li_1, li_2, li_3, li_4, li_5, li_6, li_7, li_8, li_9, li_10, li_11, li_12, li_13, li_16, li_24, li_25, li_31, li_36, li_40, li_125, li_200, li_240, li_625, li_1000, li_100000, li_1000000, nm_q, bd_s]
    by_cases e : 0 ≤ x.toInt ∧ x.toInt ≤ 3 <;> simp [e]
  | succ k ih =>
    intro i m h1 h2
    obtain ⟨m, rfl⟩ : ∃ j, m = j + 1 := ⟨m - 1, by omega⟩
    have hih := ih (i + 1) m (by omega) (by omega)
    have e94 : mI M 94 i = nI (wy (i / 4) (i % 4)) := by
      have := n.2 (i / 4) (i % 4) (by omega) (by omega)
      rw [show 4 * (i / 4) + i % 4 = i by omega] at this
      exact this
    have hw := wy_le w (show i / 4 < 4 by omega) (show i % 4 < 4 by omega)
    rw [show cn (fun q => wy (q / 4) (q % 4)) (i + 1) = cn (fun q => wy (q / 4) (q % 4)) i + (if wy (i / 4) (i % 4) = 0 then 0 else 1) from rfl] at hih
    rw [f_X9_count_b111_s]
    unfold f_X9_count_b111B
    rw [if_neg (by rw [i_le, t_nI (by omega), li_16]; omega)]
    simp only [ck_k (show i < 16 by omega) (show 16 < 1000 by omega), fld_1_14, nI_cl (show i < 2 ^ 31 by omega), e94, n_le0 (show wy (i / 4) (i % 4) < 1000 by omega), nm_q, bd_s, nI_1, Int32.add_zero]
    by_cases e : x = 3
    · simp only [e, if_true] at hih ⊢
      by_cases z : wy (i / 4) (i % 4) = 0
      · simp only [z, if_true, Nat.add_zero] at hih ⊢
        exact hih
      · simp only [z, if_false] at hih ⊢
        rw [← Nat.add_assoc] at hih
        exact hih
    · simp only [e, if_false] at hih ⊢
      exact hih
def cnt2 (kd hd : Nf) (x : Int32) (i : Nat) : Nat := (if x = 1 then cn (fun c => if kd c = 9 then 0 else 1) i else 0) + (if x = 2 then hsN kd hd i else 0)
theorem s_cnt2_l {M : Mm} {kd rt hd rm cm : Nf} {wy : Nat → Nf} (n : NetR kd rt hd rm cm wy M) (w : wfN kd rt hd rm cm wy) (x : Int32) (a : Nat) : ∀ (k i m : Nat), i + k = 4 → k < m → f_X9_count_b39 1 m x (nI (a + cnt2 kd hd x i)) (nI i) M = some (if 0 ≤ x.toInt ∧ x.toInt ≤ 3 then nI (a + cnt2 kd hd x 4 + (if x = 3 then cn (fun q => wy (q / 4) (q % 4)) 16 else 0)) else -1, M) := by
  intro k
  induction k with
  | zero =>
    intro i m h1 h2
    obtain ⟨m, rfl⟩ : ∃ j, m = j + 1 := ⟨m - 1, by omega⟩
    have := s_cnt3_l n w x (a + cnt2 kd hd x 4) 16 0 fuel (by omega) (by show 16 < 1000; omega)
    rw [show cn (fun q => wy (q / 4) (q % 4)) 0 = 0 from rfl, show (if x = 3 then 0 else 0) = 0 by split <;> rfl] at this
    rw [f_X9_count_b39_s]
    unfold f_X9_count_b39B
    rw [if_pos (by rw [i_le, t_nI (by omega), li_4]; omega), show i = 4 by omega]
    exact this
  | succ k ih =>
    intro i m h1 h2
    obtain ⟨m, rfl⟩ : ∃ j, m = j + 1 := ⟨m - 1, by omega⟩
    have hih := ih (i + 1) m (by omega) (by omega)
    have q := n.1 i (by omega)
    have wi := w i (by omega)
    have k12 : x = 1 → ¬ x = 2 := fun h => by subst h; decide
    rw [f_X9_count_b39_s]
    unfold f_X9_count_b39B f_X9_count_b63 f_X9_count_b64
    rw [if_neg (by rw [i_le, t_nI (by omega), li_4]; omega)]
    simp only [ck_k (show i < 4 by omega) (show 4 < 1000 by omega), fld_1_8, fld_1_9, fld_1_11, nI_cl (show i < 2 ^ 31 by omega), q.1, nm_q, bd_s, nI_1, nI_add, Int32.add_zero]
    unfold cnt2 at hih ⊢
    rw [show cn (fun c => if kd c = 9 then 0 else 1) (i + 1) = cn (fun c => if kd c = 9 then 0 else 1) i + (if (if kd i = 9 then 0 else 1) = 0 then 0 else 1) from rfl, show hsN kd hd (i + 1) = hsN kd hd i + (if kd i = 9 ∨ kd i = 3 then 0 else hd i) from rfl] at hih
    by_cases e : kd i = 9
    · simp only [e, if_true, true_or, Nat.add_zero] at hih ⊢
      exact hih
    · have qq := q.2.1 e
      have k3 : nI (kd i) = 3 ↔ kd i = 3 := by rw [i_eq, t_nI (by omega), li_3]; omega
      simp only [e, if_false, false_or, show ¬ ((1 : Int32) = 0) by decide, qq, k3, nI_add] at hih ⊢
      by_cases e1 : x = 1
      · have e2 := k12 e1
        simp only [e1, if_true, show ¬ ((1 : Int32) = 2) by decide, if_false, show ¬ ((1 : Nat) = 0) by decide, Nat.add_zero] at hih ⊢
        rw [← Nat.add_assoc] at hih
        exact hih
      · simp only [e1, if_false, Nat.zero_add] at hih ⊢
        by_cases e2 : x = 2
        · simp only [e2, if_true] at hih ⊢
          by_cases e3 : kd i = 3
          · simp only [e3, if_true, Nat.add_zero] at hih ⊢
            exact hih
          · simp only [e3, if_false] at hih ⊢
            rw [← Nat.add_assoc] at hih
            exact hih
        · simp only [e2, if_false] at hih ⊢
          exact hih
theorem s_cnt1_l {M : Mm} {kd rt hd rm cm : Nf} {wy : Nat → Nf} {sz : Nf} {pl : Nat → Nat → Int32} (n : NetR kd rt hd rm cm wy M) (w : wfN kd rt hd rm cm wy) (r2 : RowR sz pl M) (w2 : wfR sz) (x : Int32) : ∀ (k i m : Nat), i + k = 6 → k < m → f_X9_count_b4 1 m x (nI (if x = 0 then cn (fun r => if sz r = 41 then 0 else 1) i else 0)) (nI i) M = some (if 0 ≤ x.toInt ∧ x.toInt ≤ 3 then nI ((if x = 0 then cn (fun r => if sz r = 41 then 0 else 1) 6 else 0) + cnt2 kd hd x 4 + (if x = 3 then cn (fun q => wy (q / 4) (q % 4)) 16 else 0)) else -1, M) := by
  intro k
  induction k with
  | zero =>
    intro i m h1 h2
    obtain ⟨m, rfl⟩ : ∃ j, m = j + 1 := ⟨m - 1, by omega⟩
    have := s_cnt2_l n w x (if x = 0 then cn (fun r => if sz r = 41 then 0 else 1) 6 else 0) 4 0 fuel (by omega) (by show 4 < 1000; omega)
    rw [show cnt2 kd hd x 0 = 0 by unfold cnt2; rw [show cn (fun c => if kd c = 9 then 0 else 1) 0 = 0 from rfl, show hsN kd hd 0 = 0 from rfl]; split <;> split <;> rfl, Nat.add_zero] at this
    rw [f_X9_count_b4_s]
    unfold f_X9_count_b4B
    rw [if_pos (by rw [i_le, t_nI (by omega), li_6]; omega), show i = 6 by omega]
    exact this
  | succ k ih =>
    intro i m h1 h2
    obtain ⟨m, rfl⟩ : ∃ j, m = j + 1 := ⟨m - 1, by omega⟩
    have hih := ih (i + 1) m (by omega) (by omega)
    have hw := w2 i (by omega)
    rw [show cn (fun r => if sz r = 41 then 0 else 1) (i + 1) = cn (fun r => if sz r = 41 then 0 else 1) i + (if (if sz i = 41 then 0 else 1) = 0 then 0 else 1) from rfl] at hih
    rw [f_X9_count_b4_s]
    unfold f_X9_count_b4B
    rw [if_neg (by rw [i_le, t_nI (by omega), li_6]; omega)]
    simp only [ck_k (show i < 6 by omega) (show 6 < 1000 by omega), fld_1_5, nI_cl (show i < 2 ^ 31 by omega), (r2 i (by omega)).1, nm_q, bd_s, nI_1, Int32.add_zero]
    by_cases e : x = 0
    · simp only [e, if_true] at hih ⊢
      by_cases z : sz i = 41
      · simp only [z, if_true] at hih ⊢
        rw [if_pos (by decide)]
        exact hih
      · simp only [z, if_false] at hih ⊢
        rw [if_neg (by rw [i_lt, t_nI (by omega), li_0]; omega)]
        exact hih
    · simp only [e, if_false] at hih ⊢
      exact hih
theorem al_count (x : Int32) : Alike (f_X8_count 0 x) (f_X9_count 1 x) := by
  intro M h
  obtain ⟨⟨kd, rt, hd, rm, cm, wy, w, n1, n2⟩, ⟨sz, pl, w2, r1, r2⟩, hflg⟩ := id h
  have eR := s_cnt1_l n2 w r2 w2 x 6 0 fuel (by omega) (by show 6 < 1000; omega)
  rw [show cn (fun r => if sz r = 41 then 0 else 1) 0 = 0 from rfl, show (if x = 0 then 0 else 0) = 0 by split <;> rfl] at eR
  have eR : f_X9_count 1 x M = _ := eR
  refine ⟨_, M, M, ?_, eR, h⟩
  unfold f_X8_count cnt2
  by_cases x0 : x = 0
  · subst x0
    have := s_rowsN_l r1 w2 6 0 fuel (by omega) (by show 6 < 1000; omega)
    have this : f_X8_rowsThere 0 M = _ := this
    rw [this]
    rfl
  · by_cases x1 : x = 1
    · subst x1
      simp only [fld_0_1, s_bits n1 w, nm_q, bd_s]
      rw [if_neg (by decide), if_pos trivial, s_bc _ (mk_lt _ 4)]
      simp only [mk_tb]
      have : cn (fun c => if (decide (c < 4) && decide (kd c ≠ 9)) = true then 1 else 0) 4 = cn (fun c => if kd c = 9 then 0 else 1) 4 := by
        simp only [cn]
        by_cases a : kd 0 = 9 <;> by_cases b : kd 1 = 9 <;> by_cases c : kd 2 = 9 <;> by_cases d : kd 3 = 9 <;> simp [a, b, c, d]
      rw [this, bd_s]
      simp
    · by_cases x2 : x = 2
      · subst x2
        have := s_hands_l n1 w 4 0 fuel (by omega) (by show 4 < 1000; omega)
        have this : f_X4_handsThere 4 M = _ := this
        rw [if_neg (by decide), if_neg (by decide), if_pos rfl, fld_0_1, this]
        simp [bd_s]
      · by_cases x3 : x = 3
        · subst x3
          have this : f_X4_waysThere 4 M = _ := s_ways_l n1 w 4 0 fuel (by omega) (by show 4 < 1000; omega)
          rw [if_neg (by decide), if_neg (by decide), if_neg (by decide), if_pos rfl, fld_0_1, this]
          have : wsN wy 4 = cn (fun q => wy (q / 4) (q % 4)) 16 := by
            simp only [wsN, cn]
            simp only [show 0 / 4 = 0 by decide, show 0 % 4 = 0 by decide, show 1 / 4 = 0 by decide, show 1 % 4 = 1 by decide, show 2 / 4 = 0 by decide, show 2 % 4 = 2 by decide, show 3 / 4 = 0 by decide, show 3 % 4 = 3 by decide, show 4 / 4 = 1 by decide, show 4 % 4 = 0 by decide, show 5 / 4 = 1 by decide, show 5 % 4 = 1 by decide, show 6 / 4 = 1 by decide, show 6 % 4 = 2 by decide, show 7 / 4 = 1 by decide, show 7 % 4 = 3 by decide, show 8 / 4 = 2 by decide, show 8 % 4 = 0 by decide, show 9 / 4 = 2 by decide, show 9 % 4 = 1 by decide, show 10 / 4 = 2 by decide, show 10 % 4 = 2 by decide, show 11 / 4 = 2 by decide, show 11 % 4 = 3 by decide, show 12 / 4 = 3 by decide, show 12 % 4 = 0 by decide, show 13 / 4 = 3 by decide, show 13 % 4 = 1 by decide, show 14 / 4 = 3 by decide, show 14 % 4 = 2 by decide, show 15 / 4 = 3 by decide, show 15 % 4 = 3 by decide]
            omega
          rw [bd_s, this]
          simp
        · have z : ¬ (0 ≤ x.toInt ∧ x.toInt ≤ 3) := by
            intro z
            rw [i_eq, li_0] at x0
            rw [i_eq, li_1] at x1
            rw [i_eq, li_2] at x2
            rw [i_eq, li_3] at x3
            omega
          rw [if_neg x0, if_neg x1, if_neg x2, if_neg x3, if_neg z]

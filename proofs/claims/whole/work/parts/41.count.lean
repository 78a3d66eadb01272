/-! bits; mark, count -/
theorem nI_or (a b : Nat) : nI a ||| nI b = nI (a ||| b) := by
  apply Int32.toBitVec_inj.mp
  show (nI a).toBitVec ||| (nI b).toBitVec = (nI (a ||| b)).toBitVec
  unfold nI
  simp only [Int32.toBitVec_ofNat']
  exact (BitVec.ofNat_or).symm
theorem nI_and (a b : Nat) : nI a &&& nI b = nI (a &&& b) := by
  apply Int32.toBitVec_inj.mp
  show (nI a).toBitVec &&& (nI b).toBitVec = (nI (a &&& b)).toBitVec
  unfold nI
  simp only [Int32.toBitVec_ofNat']
  exact (BitVec.ofNat_and).symm
theorem sh1 : ∀ i, i < 6 → (1 : Int32) <<< (nI i &&& 31) = nI (2 ^ i) := by decide +kernel
theorem tb0 : ∀ m, m < 64 → ∀ i, i < 6 → (((nI m >>> (nI i &&& 31)) &&& 1 = 0) ↔ m.testBit i = false) := by decide +kernel
theorem tb1 : ∀ m, m < 64 → ∀ i, i < 6 → (((nI m >>> (nI i &&& 31)) &&& 1 = 1) ↔ m.testBit i = true) := by decide +kernel
/-- a set of the numbers below n, as bits -/
def mk (p : Nat → Bool) : Nat → Nat
  | 0 => 0
  | n + 1 => mk p n ||| (if p n = true then 2 ^ n else 0)
theorem mk_lt (p : Nat → Bool) : ∀ n, mk p n < 2 ^ n
  | 0 => by show 0 < 1; omega
  | n + 1 => by
    unfold mk
    have h := mk_lt p n
    have e : 2 ^ (n + 1) = 2 * 2 ^ n := by rw [Nat.pow_succ, Nat.mul_comm]
    exact Nat.or_lt_two_pow (by omega) (by split <;> omega)
theorem mk_tb (p : Nat → Bool) : ∀ n i, (mk p n).testBit i = (decide (i < n) && p i)
  | 0, i => by simp [mk]
  | n + 1, i => by
    unfold mk
    rw [Nat.testBit_or, mk_tb p n i]
    by_cases hp : p n = true
    · rw [if_pos hp, Nat.testBit_two_pow]
      by_cases h : n = i
      · subst h; simp [hp]
      · by_cases h2 : i < n
        · simp [h2, show i < n + 1 by omega, h]
        · simp [h2, h, show ¬ i < n + 1 by omega]
    · rw [if_neg hp]
      by_cases h : n = i
      · subst h; simp [hp]
      · by_cases h2 : i < n
        · simp [h2, show i < n + 1 by omega]
        · simp [h2, show ¬ i < n + 1 by omega]
/-- how many of the first n are not 0 -/
def cn (f : Nat → Nat) : Nat → Nat
  | 0 => 0
  | n + 1 => cn f n + (if f n = 0 then 0 else 1)
theorem cn_le (f : Nat → Nat) : ∀ n, cn f n ≤ n
  | 0 => Nat.le_refl _
  | n + 1 => by
    unfold cn
    have := cn_le f n
    split <;> omega
theorem n_le0 {a : Nat} (h : a < 1000) : (nI a ≤ 0) ↔ a = 0 := by rw [i_le, t_nI (by omega), li_0]; omega
theorem wy_le {kd rt hd rm cm : Nf} {wy : Nat → Nf} (w : wfN kd rt hd rm cm wy) {a b : Nat} (ha : a < 4) (hb : b < 4) : wy a b ≤ 4 := by
  have := (w a ha).2.2.2.2.2.2
  have : b = 0 ∨ b = 1 ∨ b = 2 ∨ b = 3 := by omega
  rcases this with rfl | rfl | rfl | rfl <;> omega
theorem s_leading_l {M : Mm} {kd rt hd rm cm : Nf} {wy : Nat → Nf} (n : NetC kd rt hd rm cm wy M) (w : wfN kd rt hd rm cm wy) {c : Nat} (hc : c < 4) : ∀ (k i m : Nat), i + k = 4 → k < m → f_X4_leadingTo_b4 4 m (nI c) (nI (cn (fun d => wy d c) i)) (nI i) M = some (nI (cn (fun d => wy d c) 4), M) := by
  intro k
  induction k with
  | zero =>
    intro i m h1 h2
    obtain ⟨m, rfl⟩ : ∃ j, m = j + 1 := ⟨m - 1, by omega⟩
    rw [f_X4_leadingTo_b4_s]
    unfold f_X4_leadingTo_b4B
    rw [if_pos (by rw [i_le, t_nI (by omega), li_4]; omega), show i = 4 by omega]
  | succ k ih =>
    intro i m h1 h2
    obtain ⟨m, rfl⟩ : ∃ j, m = j + 1 := ⟨m - 1, by omega⟩
    have hw := wy_le w (show i < 4 by omega) hc
    have hih := ih (i + 1) m (by omega) (by omega)
    rw [show cn (fun d => wy d c) (i + 1) = cn (fun d => wy d c) i + (if wy i c = 0 then 0 else 1) from rfl] at hih
    rw [f_X4_leadingTo_b4_s]
    unfold f_X4_leadingTo_b4B
    rw [if_neg (by rw [i_le, t_nI (by omega), li_4]; omega)]
    simp only [s_has n w hc, nm_q, bd_s, ck_k (show i < 4 by omega) (show 4 < 1000 by omega), ck_k hc (show 4 < 1000 by omega), fld_4_0, elm_22, nI_cl (show i < 2 ^ 31 by omega), nI_cl (show c < 2 ^ 31 by omega), fld_cnt (show i < 4 by omega), n.2 i c (by omega) hc, n_le0 (show wy i c < 1000 by omega), nI_1]
    by_cases e9 : kd c = 9
    · have z := (((w c hc).2.2.2.2.2.1 e9).2 i (by omega)).2
      rw [if_pos z] at hih
      simp only [e9, if_true]
      exact hih
    · by_cases z : wy i c = 0
      · rw [if_pos z] at hih
        simp only [e9, if_false, z, if_true, show ¬ ((1 : Int32) = 0) by decide]
        exact hih
      · rw [if_neg z] at hih
        simp only [e9, if_false, z, show ¬ ((1 : Int32) = 0) by decide]
        exact hih
theorem s_leading {M : Mm} {kd rt hd rm cm : Nf} {wy : Nat → Nf} (n : NetC kd rt hd rm cm wy M) (w : wfN kd rt hd rm cm wy) {c : Nat} (hc : c < 4) : f_X4_leadingTo 4 (nI c) M = some (nI (cn (fun d => wy d c) 4), M) := s_leading_l n w hc 4 0 fuel (by omega) (by show 4 < 1000; omega)
/-- what mark() tells of a kind -/
def markV (rt rm : Nf) (wy : Nat → Nf) (c j : Nat) : Int32 := if j = 1 then nI (rt c) else if j = 2 then nI (cn (fun d => wy d c) 4) else if j = 3 then 12 / nI (rt c) else if j = 4 then nI (rt c) - 1 else nI (rm c)
theorem s_mark_l {M : Mm} {kd rt hd rm cm : Nf} {wy : Nat → Nf} (n : NetR kd rt hd rm cm wy M) (w : wfN kd rt hd rm cm wy) {c j : Nat} (hc : c < 4) (h9 : kd c ≠ 9) (hj : 1 ≤ j ∧ j ≤ 5) : ∀ (k i m : Nat), i + k = 4 → k < m → f_X9_mark_b64 1 m (nI c) (nI j) (nI (cn (fun d => wy d c) i)) (nI i) M = some (markV rt rm wy c j, M) := by
  intro k
  induction k with
  | zero =>
    intro i m h1 h2
    obtain ⟨m, rfl⟩ : ∃ j, m = j + 1 := ⟨m - 1, by omega⟩
    have q := (n.1 c hc).2.1 h9
    have hrt := (w c hc).2.1
    have nz : ¬ nI (rt c) = 0 := by rw [i_eq, t_nI (by omega), li_0]; omega
    rw [f_X9_mark_b64_s]
    unfold f_X9_mark_b64B markV
    rw [if_pos (by rw [i_le, t_nI (by omega), li_4]; omega), show i = 4 by omega]
    simp only [ck_k hc (show 4 < 1000 by omega), fld_1_10, fld_1_12, nI_cl (show c < 2 ^ 31 by omega), q, dvI_ok nz]
    have : j = 1 ∨ j = 2 ∨ j = 3 ∨ j = 4 ∨ j = 5 := by omega
    rcases this with rfl | rfl | rfl | rfl | rfl <;> rfl
  | succ k ih =>
    intro i m h1 h2
    obtain ⟨m, rfl⟩ : ∃ j, m = j + 1 := ⟨m - 1, by omega⟩
    have hw := wy_le w (show i < 4 by omega) hc
    have hih := ih (i + 1) m (by omega) (by omega)
    rw [show cn (fun d => wy d c) (i + 1) = cn (fun d => wy d c) i + (if wy i c = 0 then 0 else 1) from rfl] at hih
    rw [f_X9_mark_b64_s]
    unfold f_X9_mark_b64B
    rw [if_neg (by rw [i_le, t_nI (by omega), li_4]; omega)]
    simp only [ck_w (show i < 4 by omega) hc, cl_w (show i < 4 by omega) hc, fld_1_14, n.2 i c (by omega) hc, n_le0 (show wy i c < 1000 by omega), nm_q, bd_s, nI_1, Int32.add_zero]
    by_cases z : wy i c = 0
    · rw [if_pos z] at hih
      rw [if_pos z]
      exact hih
    · rw [if_neg z] at hih
      rw [if_neg z]
      exact hih
theorem al_mark (x v : Int32) : Alike (f_X8_mark 0 x v) (f_X9_mark 1 x v) := by
  intro M h
  obtain ⟨⟨kd, rt, hd, rm, cm, wy, w, n1, n2⟩, hrow, hflg⟩ := id h
  by_cases hv : 1 ≤ v.toInt ∧ v.toInt ≤ 5
  · obtain ⟨j, hj, rfl⟩ := x_of (x := v) (n := 6) (in_iff.mpr (by omega)) (by omega)
    have tj : (nI j).toInt = (j : Int) := t_nI (by omega)
    rw [tj] at hv
    rcases x_split4 x with ⟨c, hc, rfl⟩ | hx
    · have tc : (nI c).toInt = (c : Int) := t_nI (by omega)
      have wc := w c hc
      by_cases e : kd c = 9
      · refine ⟨-3, RF M 1, RM (RF M 1) 1, ?_, ?_, inv_ref h (by omega) (by omega) (Sc.rf _) (Sc.rf _)⟩
        · unfold f_X8_mark
          simp only [s_isCounterNumber, i_lt, i_le, tc, tj, li_m9, li_m4, li_m3, li_m2, li_m1, li_0, li_1, li_2, li_3, li_4, li_5, li_6, li_7, li_8, li_9, li_10, li_11, li_12, li_13, li_16, li_24, li_25, li_31, li_36, li_40, li_125, li_200, li_240, li_625, li_1000, li_100000, li_1000000, nm_q, bd_s, if_pos (show (0 : Int) ≤ c ∧ (c : Int) < 4 by omega), fld_0_1, s_has n1 w hc, s_ref1, if_neg (show ¬ (j : Int) ≤ 0 by omega), if_pos (show (j : Int) ≤ 5 by omega), e]
          rfl
        · unfold f_X9_mark
          simp only [s_in, li_m9, li_m4, li_m3, li_m2, li_m1, li_0, li_1, li_2, li_3, li_4, li_5, li_6, li_7, li_8, li_9, li_10, li_11, li_12, li_13, li_16, li_24, li_25, li_31, li_36, li_40, li_125, li_200, li_240, li_625, li_1000, li_100000, li_1000000, tj, nm_q, bd_s, if_pos hv, s_askedFor (nr_RF n2) hc, e]
          rfl
      · have kk : ∀ a, a ≤ 5 → (nI (kd c) = nI a ↔ kd c = a) := fun a ha => by rw [i_eq, t_nI (by omega), t_nI (by omega)]; omega
        have k1 : nI j = 1 ↔ j = 1 := by rw [i_eq, tj, li_1]; omega
        have k2 : nI j = 2 ↔ j = 2 := by rw [i_eq, tj, li_2]; omega
        have hof : f_X1_isOf (23 + c) (nI j) M = some (if kd c = j ∨ (j = 1 ∧ (kd c = 2 ∨ kd c = 3)) then 1 else 0, M) := by
          unfold f_X1_isOf f_X1_isOf_b29
          simp only [n1.1 c hc, if_neg e, kk j (by omega), k1, show nI (kd c) = 2 ↔ kd c = 2 from kk 2 (by omega), show nI (kd c) = 3 ↔ kd c = 3 from kk 3 (by omega)]
          repeat' split
          all_goals first | rfl | (exfalso; omega)
        by_cases eo : kd c = j ∨ (j = 1 ∧ (kd c = 2 ∨ kd c = 3))
        · rw [if_pos eo] at hof
          refine ⟨markV rt rm wy c j, M, M, ?_, ?_, h⟩
          · unfold f_X8_mark
            simp only [s_isCounterNumber, i_lt, i_le, tc, tj, li_m9, li_m4, li_m3, li_m2, li_m1, li_0, li_1, li_2, li_3, li_4, li_5, li_6, li_7, li_8, li_9, li_10, li_11, li_12, li_13, li_16, li_24, li_25, li_31, li_36, li_40, li_125, li_200, li_240, li_625, li_1000, li_100000, li_1000000, nm_q, bd_s, if_pos (show (0 : Int) ≤ c ∧ (c : Int) < 4 by omega), fld_0_1, fld_4_0, elm_22, s_has n1 w hc, if_neg (show ¬ (j : Int) ≤ 0 by omega), if_pos (show (j : Int) ≤ 5 by omega), if_neg e, nI_cl (show c < 2 ^ 31 by omega), ck_k hc (show 4 < 1000 by omega), hof, s_leading n1 w hc, k2]
            rw [if_neg (by decide), if_neg (by decide), if_neg (by decide)]
            unfold f_X1_markOf f_X1_daysOf markV
            simp only [n1.1 c hc, nm_q, bd_s, show nI j = 3 ↔ j = 3 from by rw [i_eq, tj, li_3]; omega, show nI j = 4 ↔ j = 4 from by rw [i_eq, tj, li_4]; omega, show nI j = 5 ↔ j = 5 from by rw [i_eq, tj, li_5]; omega]
            have nz : ¬ nI (rt c) = 0 := by rw [i_eq, t_nI (by omega), li_0]; omega
            have nz2 : ¬ nI (rt c) ≤ 0 := by rw [i_le, t_nI (by omega), li_0]; omega
            rw [if_neg nz2, dvI_ok nz]
            have : j = 1 ∨ j = 2 ∨ j = 3 ∨ j = 4 ∨ j = 5 := by omega
            rcases this with rfl | rfl | rfl | rfl | rfl <;> rfl
          · unfold f_X9_mark
            have hl := s_mark_l n2 w hc e (show 1 ≤ j ∧ j ≤ 5 by omega) 4 0 fuel (by omega) (by show 4 < 1000; omega)
            have hl : f_X9_mark_b64 1 fuel (nI c) (nI j) 0 0 M = some (markV rt rm wy c j, M) := hl
            have q := (n2.1 c hc).2.1 e
            simp only [s_in, li_m9, li_m4, li_m3, li_m2, li_m1, li_0, li_1, li_2, li_3, li_4, li_5, li_6, li_7, li_8, li_9, li_10, li_11, li_12, li_13, li_16, li_24, li_25, li_31, li_36, li_40, li_125, li_200, li_240, li_625, li_1000, li_100000, li_1000000, tj, nm_q, bd_s, if_pos hv, s_askedFor n2 hc, if_neg e, fld_1_9, nI_cl (show c < 2 ^ 31 by omega), ck_k hc (show 4 < 1000 by omega), q.1, kk j (by omega), k1, hl, t_nI (show kd c < 2 ^ 31 by omega)]
            rw [if_neg (by decide), if_pos (by decide)]
            by_cases z : kd c = j
            · rw [if_pos z]
            · rw [if_neg z, if_pos (by omega), if_pos (show (1 : Int) ≤ kd c ∧ (kd c : Int) ≤ 3 by omega)]
              rfl
        · rw [if_neg eo] at hof
          refine ⟨-3, RF M 3, RM (RF M 3) 3, ?_, ?_, inv_ref h (by omega) (by omega) (Sc.rf _) (Sc.rf _)⟩
          · unfold f_X8_mark
            simp only [s_isCounterNumber, i_lt, i_le, tc, tj, li_m9, li_m4, li_m3, li_m2, li_m1, li_0, li_1, li_2, li_3, li_4, li_5, li_6, li_7, li_8, li_9, li_10, li_11, li_12, li_13, li_16, li_24, li_25, li_31, li_36, li_40, li_125, li_200, li_240, li_625, li_1000, li_100000, li_1000000, nm_q, bd_s, if_pos (show (0 : Int) ≤ c ∧ (c : Int) < 4 by omega), fld_0_1, fld_4_0, elm_22, s_has n1 w hc, if_neg (show ¬ (j : Int) ≤ 0 by omega), if_pos (show (j : Int) ≤ 5 by omega), if_neg e, nI_cl (show c < 2 ^ 31 by omega), ck_k hc (show 4 < 1000 by omega), hof, s_ref3]
            rfl
          · have q2 := nr_RF (f := 3) n2
            have q := (q2.1 c hc).2.1 e
            unfold f_X9_mark f_X9_mark_b52
            simp only [s_in, li_m9, li_m4, li_m3, li_m2, li_m1, li_0, li_1, li_2, li_3, li_4, li_5, li_6, li_7, li_8, li_9, li_10, li_11, li_12, li_13, li_16, li_24, li_25, li_31, li_36, li_40, li_125, li_200, li_240, li_625, li_1000, li_100000, li_1000000, tj, nm_q, bd_s, if_pos hv, s_askedFor q2 hc, if_neg e, fld_1_9, nI_cl (show c < 2 ^ 31 by omega), ck_k hc (show 4 < 1000 by omega), q.1, kk j (by omega), k1, t_nI (show kd c < 2 ^ 31 by omega), s_met3]
            rw [if_neg (by decide), if_pos (by decide), if_neg (by omega)]
            by_cases z : j = 1
            · rw [if_pos z, if_neg (show ¬ ((1 : Int) ≤ kd c ∧ (kd c : Int) ≤ 3) by omega)]
              rfl
            · rw [if_neg z]
    · refine ⟨-1, M, M, ?_, ?_, h⟩
      · unfold f_X8_mark
        simp only [s_isCounterNumber, nm_q, bd_s, if_neg hx]
        rfl
      · unfold f_X9_mark
        simp only [s_in, li_m9, li_m4, li_m3, li_m2, li_m1, li_0, li_1, li_2, li_3, li_4, li_5, li_6, li_7, li_8, li_9, li_10, li_11, li_12, li_13, li_16, li_24, li_25, li_31, li_36, li_40, li_125, li_200, li_240, li_625, li_1000, li_100000, li_1000000, tj, nm_q, bd_s, if_pos hv, s_askedFor_bad hx]
        rfl
  · refine ⟨-1, M, M, ?_, ?_, h⟩
    · unfold f_X8_mark
      simp only [s_isCounterNumber, nm_q, bd_s, i_lt, i_le, li_m9, li_m4, li_m3, li_m2, li_m1, li_0, li_1, li_2, li_3, li_4, li_5, li_6, li_7, li_8, li_9, li_10, li_11, li_12, li_13, li_16, li_24, li_25, li_31, li_36, li_40, li_125, li_200, li_240, li_625, li_1000, li_100000, li_1000000]
      by_cases q : 0 ≤ x.toInt ∧ x.toInt < 4
      · by_cases q2 : v.toInt ≤ 0
        · simp [q, q2]
        · simp only [q, q2, if_neg (show ¬ v.toInt ≤ 5 by omega)]
          simp
      · simp [q]
    · unfold f_X9_mark
      simp only [s_in, li_m9, li_m4, li_m3, li_m2, li_m1, li_0, li_1, li_2, li_3, li_4, li_5, li_6, li_7, li_8, li_9, li_10, li_11, li_12, li_13, li_16, li_24, li_25, li_31, li_36, li_40, li_125, li_200, li_240, li_625, li_1000, li_100000, li_1000000, nm_q, bd_s, if_neg hv]
      rfl

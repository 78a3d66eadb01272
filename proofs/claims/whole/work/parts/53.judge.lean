/-! judge -/
def goS (p : Nat → Int32) (s i : Nat) : Nat → Int64
  | 0 => 0
  | k + 1 => if k = i then goS p s i k else goS p s i k + Int32.toInt64 (p (i * s + k))
def cmS (q p : Nat → Int32) (s i : Nat) : Nat → Int64
  | 0 => 0
  | k + 1 => if k = i then cmS q p s i k else cmS q p s i k + Int32.toInt64 (q k) * Int32.toInt64 (p (k * s + i))
def unB (q p : Nat → Int32) (s : Nat) : Nat → Nat → Int32
  | 0, _ => -9
  | k + 1, i => if cmS q p s i s = Int32.toInt64 (q i) * goS p s i s then unB q p s k (i + 1) else nI i
theorem s_going {M : Mm} {p : Nat → Int32} {s i : Nat} (h6 : s ≤ 6) (h : ChR M p s) (hi : i < s) : f_X0_going 32 (nI i) M = some (goS p s i s, M) := by
  have l : ∀ (b j m : Nat), j + b = s → b < m → f_X0_going_b5 32 m (nI i) (goS p s i j) (nI j) M = some (goS p s i s, M) := by
    intro b
    induction b with
    | zero =>
      intro j m g1 g2
      obtain ⟨m, rfl⟩ : ∃ j, m = j + 1 := ⟨m - 1, by omega⟩
      rw [f_X0_going_b5_s]
      unfold f_X0_going_b5B
      rw [h.1, show j = s by omega, if_pos (Int32.le_refl _)]
    | succ b jh =>
      intro j m g1 g2
      obtain ⟨m, rfl⟩ : ∃ j, m = j + 1 := ⟨m - 1, by omega⟩
      have hjh := jh (j + 1) m (by omega) (by omega)
      have ke : nI j = nI i ↔ j = i := by rw [i_eq, t_nI (by omega), t_nI (by omega)]; omega
      rw [show goS p s i (j + 1) = if j = i then goS p s i j else goS p s i j + Int32.toInt64 (p (i * s + j)) from rfl] at hjh
      rw [f_X0_going_b5_s]
      unfold f_X0_going_b5B
      rw [h.1, if_neg (by rw [i_le, t_nI (by omega), t_nI (by omega)]; omega)]
      simp only [ck_k (show i < 6 by omega) (show 6 < 1000 by omega), ck_k (show j < 6 by omega) (show 6 < 1000 by omega), nI_cl (show i < 2 ^ 31 by omega), nI_cl (show j < 2 ^ 31 by omega), fld_32_0, elm_34, h.2 i hi j (by omega), ke, nm_q, bd_s, nI_1]
      by_cases q : j = i
      · rw [if_pos q] at hjh ⊢
        exact hjh
      · rw [if_neg q] at hjh ⊢
        exact hjh
  exact l s 0 fuel (by omega) (by show s < 1000; omega)
theorem s_uneven {M : Mm} {p : Nat → Int32} {s r : Nat} {sz : Nf} {pl : Nat → Nat → Int32} (n : RowC sz pl M) (w : wfR sz) (hr : r < 6) (hs : sz r = s) (h6 : s ≤ 6) (h : ChR M p s) : f_X0_firstUneven 32 (10 + r) M = some (unB (pl r) p s s 0, M) := by
  have l : ∀ (a i m : Nat), i + a = s → a < m → f_X0_firstUneven_b2 32 m (10 + r) (nI i) M = some (unB (pl r) p s a i, M) := by
    intro a
    induction a with
    | zero =>
      intro i m h1 h2
      obtain ⟨m, rfl⟩ : ∃ j, m = j + 1 := ⟨m - 1, by omega⟩
      rw [f_X0_firstUneven_b2_s]
      unfold f_X0_firstUneven_b2B unB
      rw [h.1, show i = s by omega, if_pos (Int32.le_refl _)]
    | succ a ih =>
      intro i m h1 h2
      obtain ⟨m, rfl⟩ : ∃ j, m = j + 1 := ⟨m - 1, by omega⟩
      have hih := ih (i + 1) m (by omega) (by omega)
      rw [f_X0_firstUneven_b2_s]
      unfold f_X0_firstUneven_b2B unB
      rw [h.1, if_neg (by rw [i_le, t_nI (by omega), t_nI (by omega)]; omega)]
      have inner : ∀ (b j m2 : Nat), j + b = s → b < m2 → f_X0_firstUneven_b15 (f_X0_firstUneven_b2 32 m) 32 m2 (10 + r) (nI i) (cmS (pl r) p s i j) (nI j) M = some (if cmS (pl r) p s i s = Int32.toInt64 (pl r i) * goS p s i s then unB (pl r) p s a (i + 1) else nI i, M) := by
        intro b
        induction b with
        | zero =>
          intro j m2 g1 g2
          obtain ⟨m2, rfl⟩ : ∃ j, m2 = j + 1 := ⟨m2 - 1, by omega⟩
          rw [f_X0_firstUneven_b15_s]
          unfold f_X0_firstUneven_b15B
          rw [h.1, show j = s by omega, if_pos (Int32.le_refl _)]
          simp only [s_rat n w hr (show sz r ≠ 41 by omega) (show i < sz r by omega), s_going h6 h (show i < s by omega), nm_q, bd_s, nI_1, hih, lg_cmp_eq]
          by_cases q : cmS (pl r) p s i s = Int32.toInt64 (pl r i) * goS p s i s
          · rw [if_pos q, if_pos q]
          · rw [if_neg q, if_neg q]
        | succ b jh =>
          intro j m2 g1 g2
          obtain ⟨m2, rfl⟩ : ∃ j, m2 = j + 1 := ⟨m2 - 1, by omega⟩
          have hjh := jh (j + 1) m2 (by omega) (by omega)
          have ke : nI j = nI i ↔ j = i := by rw [i_eq, t_nI (by omega), t_nI (by omega)]; omega
          rw [show cmS (pl r) p s i (j + 1) = if j = i then cmS (pl r) p s i j else cmS (pl r) p s i j + Int32.toInt64 (pl r j) * Int32.toInt64 (p (j * s + i)) from rfl] at hjh
          rw [f_X0_firstUneven_b15_s]
          unfold f_X0_firstUneven_b15B
          rw [h.1, if_neg (by rw [i_le, t_nI (by omega), t_nI (by omega)]; omega)]
          simp only [s_rat n w hr (show sz r ≠ 41 by omega) (show j < sz r by omega), ck_k (show i < 6 by omega) (show 6 < 1000 by omega), ck_k (show j < 6 by omega) (show 6 < 1000 by omega), nI_cl (show i < 2 ^ 31 by omega), nI_cl (show j < 2 ^ 31 by omega), fld_32_0, elm_34, h.2 j (by omega) i (by omega), ke, nm_q, bd_s, nI_1]
          by_cases q : j = i
          · rw [if_pos q] at hjh ⊢
            exact hjh
          · rw [if_neg q] at hjh ⊢
            exact hjh
      exact inner s 0 fuel (by omega) (by show s < 1000; omega)
  exact l s 0 fuel (by omega) (by show s < 1000; omega)
theorem s_rateOf {M : Mm} {sz : Nf} {pl : Nat → Nat → Int32} {r s i j : Nat} (n : RowR sz pl M) (w : wfR sz) (hr : r < 6) (hs : sz r ≠ 41) (e : sz r = s * s) (hi : i < s) (hj : j < s) : f_X9_rateOf 1 (nI r) (nI s) (nI i) (nI j) M = some (if i = j then 0 else pl r (i * s + j), M) := by
  have hw := w r hr
  have hlt := ij_lt hi hj
  have hs6 : s < 41 := by
    rcases Nat.lt_or_ge s 41 with q | q
    · exact q
    · have : 41 * 41 ≤ s * s := Nat.mul_le_mul q q
      omega
  have ke : nI i = nI j ↔ i = j := by rw [i_eq, t_nI (by omega), t_nI (by omega)]; omega
  have ea : ((40 : Int32) * nI r) + (nI s * nI i) + nI j = (40 * nI r) + nI (i * s + j) := by
    rw [n_mul, Nat.mul_comm, Int32.add_assoc, nI_add]
  unfold f_X9_rateOf
  simp only [ea, ke, ck_p hr (show i * s + j < 40 by omega), cl_p hr (show i * s + j < 40 by omega), fld_1_6, (n r hr).2 hs (i * s + j) (by omega)]
  by_cases q : i = j
  · rw [if_pos q, if_pos q]
  · rw [if_neg q, if_neg q]
theorem s_ju {M : Mm} {sz : Nf} {pl : Nat → Nat → Int32} {r t s : Nat} (n : RowR sz pl M) (w : wfR sz) (hr : r < 6) (ht : t < 6) (hs : sz r ≠ 41) (e : sz r = s * s) (h6 : s ≤ 6) (et : sz t = s) : ∀ (a i m : Nat), i + a = s → a < m → f_X9_judge_b168 1 m (nI r) (nI t) (nI s) (nI i) M = some (unB (pl t) (pl r) s a i, M) := by
  intro a
  induction a with
  | zero =>
    intro i m h1 h2
    obtain ⟨m, rfl⟩ : ∃ j, m = j + 1 := ⟨m - 1, by omega⟩
    rw [f_X9_judge_b168_s]
    unfold f_X9_judge_b168B unB
    rw [show i = s by omega, if_pos (Int32.le_refl _)]
  | succ a ih =>
    intro i m h1 h2
    obtain ⟨m, rfl⟩ : ∃ j, m = j + 1 := ⟨m - 1, by omega⟩
    have hih := ih (i + 1) m (by omega) (by omega)
    rw [f_X9_judge_b168_s]
    unfold f_X9_judge_b168B unB
    rw [if_neg (by rw [i_le, t_nI (by omega), t_nI (by omega)]; omega)]
    have inner : ∀ (b j m2 : Nat), j + b = s → b < m2 → f_X9_judge_b183 (f_X9_judge_b168 1 m) 1 m2 (nI r) (nI t) (nI s) (nI i) (Int32.toInt64 (pl t i) * goS (pl r) s i j) (cmS (pl t) (pl r) s i j) (nI j) M = some (if cmS (pl t) (pl r) s i s = Int32.toInt64 (pl t i) * goS (pl r) s i s then unB (pl t) (pl r) s a (i + 1) else nI i, M) := by
      intro b
      induction b with
      | zero =>
        intro j m2 g1 g2
        obtain ⟨m2, rfl⟩ : ∃ j, m2 = j + 1 := ⟨m2 - 1, by omega⟩
        rw [f_X9_judge_b183_s]
        unfold f_X9_judge_b183B
        rw [show j = s by omega, if_pos (Int32.le_refl _)]
        simp only [nm_q, bd_s, nI_1, hih, lg_cmp_eq]
        by_cases q : cmS (pl t) (pl r) s i s = Int32.toInt64 (pl t i) * goS (pl r) s i s
        · rw [if_pos q, if_pos q.symm]
        · rw [if_neg q, if_neg (fun z => q z.symm)]
      | succ b jh =>
        intro j m2 g1 g2
        obtain ⟨m2, rfl⟩ : ∃ j, m2 = j + 1 := ⟨m2 - 1, by omega⟩
        have hjh := jh (j + 1) m2 (by omega) (by omega)
        rw [show cmS (pl t) (pl r) s i (j + 1) = if j = i then cmS (pl t) (pl r) s i j else cmS (pl t) (pl r) s i j + Int32.toInt64 (pl t j) * Int32.toInt64 (pl r (j * s + i)) from rfl, show goS (pl r) s i (j + 1) = if j = i then goS (pl r) s i j else goS (pl r) s i j + Int32.toInt64 (pl r (i * s + j)) from rfl] at hjh
        rw [f_X9_judge_b183_s]
        unfold f_X9_judge_b183B
        rw [if_neg (by rw [i_le, t_nI (by omega), t_nI (by omega)]; omega)]
        simp only [ck_p ht (show i < 40 by omega), cl_p ht (show i < 40 by omega), ck_p ht (show j < 40 by omega), cl_p ht (show j < 40 by omega), fld_1_6, (n t ht).2 (by omega) i (by omega), (n t ht).2 (by omega) j (by omega), s_rateOf n w hr hs e (show i < s by omega) (show j < s by omega), s_rateOf n w hr hs e (show j < s by omega) (show i < s by omega), nm_q, bd_s, nI_1]
        by_cases q : j = i
        · rw [if_pos q, if_pos q] at hjh
          rw [if_pos q, if_pos q.symm, show Int32.toInt64 0 = 0 from rfl, Int64.mul_zero, Int64.add_zero, Int64.mul_zero, Int64.add_zero]
          exact hjh
        · rw [if_neg q, if_neg q, Int64.mul_add] at hjh
          rw [if_neg q, if_neg (fun z => q z.symm)]
          exact hjh
    have := inner s 0 fuel (by omega) (by show s < 1000; omega)
    rw [show goS (pl r) s i 0 = 0 from rfl, Int64.mul_zero] at this
    exact this
theorem s_jl {M : Mm} {sz : Nf} {pl : Nat → Nat → Int32} {r t s : Nat} (n : RowR sz pl M) (w : wfR sz) (hr : r < 6) (ht : t < 6) (hs : sz r ≠ 41) (e : sz r = s * s) (h6 : s ≤ 6) (et : sz t = s) : ∀ (a i m : Nat) (v : Int32), (v = 0 ∨ v = 1) → i + a = s → a < m → f_X9_judge_b82 1 m (nI r) (nI t) (nI s) v (isum (pl t) i) (nI i) M = some (if v = 1 ∧ wiB (pl t) 0 1000000 a i = true then (if isum (pl t) s = 0 then nI s else unB (pl t) (pl r) s s 0, M) else (-3, RM M 3)) := by
  intro a
  induction a with
  | zero =>
    intro i m v hv h1 h2
    obtain ⟨m, rfl⟩ : ∃ j, m = j + 1 := ⟨m - 1, by omega⟩
    have l := s_ju n w hr ht hs e h6 et s 0 fuel (by omega) (by show s < 1000; omega)
    rw [f_X9_judge_b82_s]
    unfold f_X9_judge_b82B wiB
    rw [show i = s by omega, if_pos (Int32.le_refl _)]
    simp only [s_met3, nm_q, bd_s, lg_cmp_eq]
    rcases hv with rfl | rfl
    · simp
    · rw [if_neg (show ¬ (1 : Int32) = 0 by decide), if_pos (show (1 : Int32) = 1 ∧ True from ⟨rfl, trivial⟩)]
      by_cases q : isum (pl t) s = 0
      · rw [if_pos q, if_pos q]
      · rw [if_neg q, if_neg q]
        exact l
  | succ a ih =>
    intro i m v hv h1 h2
    obtain ⟨m, rfl⟩ : ∃ j, m = j + 1 := ⟨m - 1, by omega⟩
    have ih1 := ih (i + 1) m 1 (Or.inr rfl) (by omega) (by omega)
    have ih0 := ih (i + 1) m 0 (Or.inl rfl) (by omega) (by omega)
    rw [show isum (pl t) (i + 1) = isum (pl t) i + Int32.toInt64 (pl t i) from rfl] at ih1 ih0
    rw [f_X9_judge_b82_s]
    unfold f_X9_judge_b82B f_X9_judge_b118 f_X9_judge_b119 wiB
    rw [if_neg (by rw [i_le, t_nI (by omega), t_nI (by omega)]; omega)]
    simp only [ck_p ht (show i < 40 by omega), cl_p ht (show i < 40 by omega), fld_1_6, (n t ht).2 (by omega) i (by omega), s_in, li_0, li_1000000, nm_q, bd_s, nI_1, ih1, ih0, i_le]
    rcases hv with rfl | rfl
    · simp
    · rw [if_neg (by decide)]
      by_cases q : 0 ≤ (pl t i).toInt ∧ (pl t i).toInt ≤ 1000000
      · simp [q]
      · have : (decide (0 ≤ (pl t i).toInt) && decide ((pl t i).toInt ≤ 1000000)) = false := by
          rw [Bool.eq_false_iff]
          simp only [ne_eq, Bool.and_eq_true, decide_eq_true_eq]
          exact q
        simp [q, this]

/-! digest -/
/-- h, and n numbers mixed into it -/
def fo (h : Int64) (f : Nat → Int32) : Nat → Int64
  | 0 => h
  | n + 1 => 31 * fo h f n + Int32.toInt64 (f n)
def dC (kd rt hd rm cm : Nf) (wy : Nat → Nf) (h : Int64) (c : Nat) : Int64 := if kd c = 9 then 31 * h + (-1) else fo (if kd c = 5 then 31 * fo h (fun j => nI (toldV kd rt hd cm wy c j)) 5 + Int32.toInt64 (nI (rm c)) else fo h (fun j => nI (toldV kd rt hd cm wy c j)) 5) (fun k => nI (wy c k)) 4
def dR (sz : Nf) (pl : Nat → Nat → Int32) (h : Int64) (r : Nat) : Int64 := if sz r = 41 then 31 * h + (-1) else fo (31 * h + Int32.toInt64 (nI (sz r))) (pl r) (sz r)
def dCs (kd rt hd rm cm : Nf) (wy : Nat → Nf) : Nat → Int64
  | 0 => 17
  | n + 1 => dC kd rt hd rm cm wy (dCs kd rt hd rm cm wy n) n
def dRs (sz : Nf) (pl : Nat → Nat → Int32) (h : Int64) : Nat → Int64
  | 0 => h
  | n + 1 => dR sz pl (dRs sz pl h n) n
theorem s_mixC2 {M : Mm} {kd rt hd rm cm : Nf} {wy : Nat → Nf} (n : NetC kd rt hd rm cm wy M) {c : Nat} (hc : c < 4) (h : Int64) : ∀ (k i m : Nat), i + k = 4 → k < m → f_X1_mixInto_b71 (23 + c) m (fo h (fun k => nI (wy c k)) i) (nI i) M = some (fo h (fun k => nI (wy c k)) 4, M) := by
  intro k
  induction k with
  | zero =>
    intro i m h1 h2
    obtain ⟨m, rfl⟩ : ∃ j, m = j + 1 := ⟨m - 1, by omega⟩
    rw [f_X1_mixInto_b71_s]
    unfold f_X1_mixInto_b71B
    rw [if_pos (by rw [i_le, t_nI (by omega), li_4]; omega), show i = 4 by omega]
  | succ k ih =>
    intro i m h1 h2
    obtain ⟨m, rfl⟩ : ∃ j, m = j + 1 := ⟨m - 1, by omega⟩
    have hih := ih (i + 1) m (by omega) (by omega)
    rw [f_X1_mixInto_b71_s]
    unfold f_X1_mixInto_b71B
    rw [if_neg (by rw [i_le, t_nI (by omega), li_4]; omega)]
    simp only [ck_k (show i < 4 by omega) (show 4 < 1000 by omega), fld_cnt hc, nI_cl (show i < 2 ^ 31 by omega), n.2 c i hc (by omega), nm_q, bd_s, nI_1]
    exact hih
theorem s_mixC1 {M : Mm} {kd rt hd rm cm : Nf} {wy : Nat → Nf} (n : NetC kd rt hd rm cm wy M) (w : wfN kd rt hd rm cm wy) {c : Nat} (hc : c < 4) (h9 : kd c ≠ 9) (h : Int64) : ∀ (k i m : Nat), i + k = 5 → k < m → f_X1_mixInto_b22 (23 + c) m (fo h (fun j => nI (toldV kd rt hd cm wy c j)) i) (nI i) M = some (dC kd rt hd rm cm wy h c, M) := by
  have k5 := kd_eq (kd := kd) (c := c) (j := 5) (w c hc).1 (by omega)
  rw [show nI 5 = 5 from rfl, if_neg h9] at k5
  intro k
  induction k with
  | zero =>
    intro i m h1 h2
    obtain ⟨m, rfl⟩ : ∃ j, m = j + 1 := ⟨m - 1, by omega⟩
    rw [f_X1_mixInto_b22_s]
    unfold f_X1_mixInto_b22B dC
    rw [if_pos (by rw [i_lt, t_nI (by omega), li_4]; omega), show i = 5 by omega]
    simp only [n.1 c hc, k5, nm_q, bd_s, if_neg h9]
    by_cases e : kd c = 5
    · rw [if_pos e, if_pos e]
      exact s_mixC2 n hc _ 4 0 fuel (by omega) (by show 4 < 1000; omega)
    · rw [if_neg e, if_neg e]
      exact s_mixC2 n hc _ 4 0 fuel (by omega) (by show 4 < 1000; omega)
  | succ k ih =>
    intro i m h1 h2
    obtain ⟨m, rfl⟩ : ∃ j, m = j + 1 := ⟨m - 1, by omega⟩
    have hih := ih (i + 1) m (by omega) (by omega)
    rw [f_X1_mixInto_b22_s]
    unfold f_X1_mixInto_b22B
    rw [if_neg (by rw [i_lt, t_nI (by omega), li_4]; omega)]
    simp only [s_fact n w hc h9 (show i ≤ 4 by omega), nm_q, bd_s, nI_1]
    exact hih
theorem s_mixC {M : Mm} {kd rt hd rm cm : Nf} {wy : Nat → Nf} (n : NetC kd rt hd rm cm wy M) (w : wfN kd rt hd rm cm wy) {c : Nat} (hc : c < 4) (h : Int64) : f_X1_mixInto (23 + c) h M = some (dC kd rt hd rm cm wy h c, M) := by
  unfold f_X1_mixInto
  simp only [s_cntThere n w hc, nm_q, bd_s]
  by_cases e : kd c = 9
  · unfold dC
    rw [if_pos e, if_pos rfl, if_pos e]
  · rw [if_neg e, if_neg (by decide)]
    exact s_mixC1 n w hc e h 5 0 fuel (by omega) (by show 5 < 1000; omega)
theorem s_mixR_l {M : Mm} {sz : Nf} {pl : Nat → Nat → Int32} (n : RowC sz pl M) (w : wfR sz) {r : Nat} (hr : r < 6) (hs : sz r ≠ 41) (h : Int64) : ∀ (k i m : Nat), i + k = sz r → k < m → f_X6_mixInto_b15 (10 + r) m (fo h (pl r) i) (nI i) M = some (fo h (pl r) (sz r), M) := by
  have hw := w r hr
  intro k
  induction k with
  | zero =>
    intro i m h1 h2
    obtain ⟨m, rfl⟩ : ∃ j, m = j + 1 := ⟨m - 1, by omega⟩
    rw [f_X6_mixInto_b15_s]
    unfold f_X6_mixInto_b15B
    rw [(n r hr).1, if_neg hs, if_pos (by rw [show i = sz r by omega]; exact Int32.le_refl _), show i = sz r by omega]
  | succ k ih =>
    intro i m h1 h2
    obtain ⟨m, rfl⟩ : ∃ j, m = j + 1 := ⟨m - 1, by omega⟩
    have hih := ih (i + 1) m (by omega) (by omega)
    rw [f_X6_mixInto_b15_s]
    unfold f_X6_mixInto_b15B
    rw [(n r hr).1, if_neg hs, if_neg (by rw [i_le, t_nI (by omega), t_nI (by omega)]; omega)]
    simp only [s_rat n w hr hs (show i < sz r by omega), nm_q, bd_s, nI_1]
    exact hih
theorem s_mixR {M : Mm} {sz : Nf} {pl : Nat → Nat → Int32} (n : RowC sz pl M) (w : wfR sz) {r : Nat} (hr : r < 6) (h : Int64) : f_X6_mixInto (10 + r) h M = some (dR sz pl h r, M) := by
  have hw := w r hr
  unfold f_X6_mixInto dR
  simp only [nm_q, bd_s]
  by_cases e : sz r = 41
  · rw [(n r hr).1, if_pos e, if_pos e, fu, f_X6_mixInto_b15_s]
    unfold f_X6_mixInto_b15B
    rw [(n r hr).1, if_pos e, if_pos (by decide)]
    rfl
  · rw [(n r hr).1, if_neg e, if_neg e]
    exact s_mixR_l n w hr e _ (sz r) 0 fuel (by omega) (by show sz r < 1000; omega)
theorem s_digX2 {M : Mm} {sz : Nf} {pl : Nat → Nat → Int32} (n : RowC sz pl M) (w : wfR sz) (h : Int64) : ∀ (k i m : Nat), i + k = 6 → k < m → f_X8_digest_b33 0 m (dRs sz pl h i) (nI i) M = some (dRs sz pl h 6, M) := by
  intro k
  induction k with
  | zero =>
    intro i m h1 h2
    obtain ⟨m, rfl⟩ : ∃ j, m = j + 1 := ⟨m - 1, by omega⟩
    rw [f_X8_digest_b33_s]
    unfold f_X8_digest_b33B
    rw [if_pos (by rw [i_le, t_nI (by omega), li_6]; omega), show i = 6 by omega]
  | succ k ih =>
    intro i m h1 h2
    obtain ⟨m, rfl⟩ : ∃ j, m = j + 1 := ⟨m - 1, by omega⟩
    have hih := ih (i + 1) m (by omega) (by omega)
    rw [f_X8_digest_b33_s]
    unfold f_X8_digest_b33B
    rw [if_neg (by rw [i_le, t_nI (by omega), li_6]; omega)]
    simp only [ck_k (show i < 6 by omega) (show 6 < 1000 by omega), fld_0_0, elm_2, nI_cl (show i < 2 ^ 31 by omega), s_mixR n w (show i < 6 by omega), nm_q, bd_s, nI_1]
    exact hih
theorem s_digX1 {M : Mm} {kd rt hd rm cm : Nf} {wy : Nat → Nf} {sz : Nf} {pl : Nat → Nat → Int32} (n : NetC kd rt hd rm cm wy M) (w : wfN kd rt hd rm cm wy) (r1 : RowC sz pl M) (w2 : wfR sz) : ∀ (k i m : Nat), i + k = 4 → k < m → f_X8_digest_b6 0 m (dCs kd rt hd rm cm wy i) (nI i) M = some (dRs sz pl (dCs kd rt hd rm cm wy 4) 6, M) := by
  intro k
  induction k with
  | zero =>
    intro i m h1 h2
    obtain ⟨m, rfl⟩ : ∃ j, m = j + 1 := ⟨m - 1, by omega⟩
    rw [f_X8_digest_b6_s]
    unfold f_X8_digest_b6B
    rw [if_pos (by rw [i_le, t_nI (by omega), li_4]; omega), show i = 4 by omega]
    exact s_digX2 r1 w2 _ 6 0 fuel (by omega) (by show 6 < 1000; omega)
  | succ k ih =>
    intro i m h1 h2
    obtain ⟨m, rfl⟩ : ∃ j, m = j + 1 := ⟨m - 1, by omega⟩
    have hih := ih (i + 1) m (by omega) (by omega)
    rw [f_X8_digest_b6_s]
    unfold f_X8_digest_b6B
    rw [if_neg (by rw [i_le, t_nI (by omega), li_4]; omega)]
    simp only [ck_k (show i < 4 by omega) (show 4 < 1000 by omega), fld_0_1, fld_4_0, elm_22, nI_cl (show i < 2 ^ 31 by omega), s_mixC n w (show i < 4 by omega), nm_q, bd_s, nI_1]
    exact hih
/-- the reference keeps h in its own cell -/
def HM (M : Mm) (h : Int64) : Mm := sJ M 1 25 h
theorem HM_2 (M : Mm) (h g : Int64) : sJ (HM M h) 1 25 g = HM M g := by
  unfold HM sJ
  refine Prod.ext rfl ?_
  funext b j
  show (if b = 1 ∧ j = 25 then g else if b = 1 ∧ j = 25 then h else M.2 b j) = if b = 1 ∧ j = 25 then g else M.2 b j
  split <;> rfl
theorem HM_I (M : Mm) (h : Int64) (a k : Nat) : mI (HM M h) a k = mI M a k := rfl
theorem s_mix (M : Mm) (h : Int64) (x : Int32) : f_X9_mix 1 x (HM M h) = some (HM M (31 * h + Int32.toInt64 x)) := by
  unfold f_X9_mix
  rw [nm_q, HM_2]
  congr 2
theorem s_dg76 {M : Mm} {kd rt hd rm cm : Nf} {wy : Nat → Nf} (n : NetR kd rt hd rm cm wy M) {c : Nat} (hc : c < 4) (K : Int32 → Mm → Option (Int64 × Mm)) (h : Int64) : ∀ (k i m : Nat), i + k = 4 → k < m → f_X9_digest_b76 K 1 m (nI c) (nI i) (HM M (fo h (fun k => nI (wy c k)) i)) = K (nI (c + 1)) (HM M (fo h (fun k => nI (wy c k)) 4)) := by
  intro k
  induction k with
  | zero =>
    intro i m h1 h2
    obtain ⟨m, rfl⟩ : ∃ j, m = j + 1 := ⟨m - 1, by omega⟩
    rw [f_X9_digest_b76_s]
    unfold f_X9_digest_b76B
    rw [if_pos (by rw [i_le, t_nI (by omega), li_4]; omega), show i = 4 by omega, nm_q, nI_1]
  | succ k ih =>
    intro i m h1 h2
    obtain ⟨m, rfl⟩ : ∃ j, m = j + 1 := ⟨m - 1, by omega⟩
    have hih := ih (i + 1) m (by omega) (by omega)
    rw [f_X9_digest_b76_s]
    unfold f_X9_digest_b76B
    rw [if_neg (by rw [i_le, t_nI (by omega), li_4]; omega)]
    simp only [ck_w hc (show i < 4 by omega), cl_w hc (show i < 4 by omega), fld_1_14, HM_I, n.2 c i hc (by omega), s_mix, nm_q, bd_s, nI_1]
    exact hih
theorem nrH {M : Mm} {kd rt hd rm cm : Nf} {wy : Nat → Nf} (n : NetR kd rt hd rm cm wy M) (h : Int64) : NetR kd rt hd rm cm wy (HM M h) := n.sc (fun _ _ _ => rfl)
theorem s_dg33 {M : Mm} {kd rt hd rm cm : Nf} {wy : Nat → Nf} (n : NetR kd rt hd rm cm wy M) (w : wfN kd rt hd rm cm wy) {c : Nat} (hc : c < 4) (h9 : kd c ≠ 9) (K : Int32 → Mm → Option (Int64 × Mm)) (h : Int64) : ∀ (k i m : Nat), i + k = 5 → k < m → f_X9_digest_b33 K 1 m (nI c) (nI i) (HM M (fo h (fun j => nI (toldV kd rt hd cm wy c j)) i)) = K (nI (c + 1)) (HM M (dC kd rt hd rm cm wy h c)) := by
  have q := (n.1 c hc).2.1 h9
  have k5 : nI (kd c) = 5 ↔ kd c = 5 := by
    have := (w c hc).1
    rw [i_eq, t_nI (by omega), li_5]; omega
  intro k
  induction k with
  | zero =>
    intro i m h1 h2
    obtain ⟨m, rfl⟩ : ∃ j, m = j + 1 := ⟨m - 1, by omega⟩
    rw [f_X9_digest_b33_s]
    unfold f_X9_digest_b33B dC
    rw [if_pos (by rw [i_lt, t_nI (by omega), li_4]; omega), show i = 5 by omega]
    simp only [ck_k hc (show 4 < 1000 by omega), fld_1_9, fld_1_12, nI_cl (show c < 2 ^ 31 by omega), HM_I, q, k5, s_mix, nm_q, bd_s, if_neg h9]
    by_cases e : kd c = 5
    · rw [if_pos e, if_pos e]
      exact s_dg76 n hc K _ 4 0 fuel (by omega) (by show 4 < 1000; omega)
    · rw [if_neg e, if_neg e]
      exact s_dg76 n hc K _ 4 0 fuel (by omega) (by show 4 < 1000; omega)
  | succ k ih =>
    intro i m h1 h2
    obtain ⟨m, rfl⟩ : ∃ j, m = j + 1 := ⟨m - 1, by omega⟩
    have hih := ih (i + 1) m (by omega) (by omega)
    rw [f_X9_digest_b33_s]
    unfold f_X9_digest_b33B
    rw [if_neg (by rw [i_lt, t_nI (by omega), li_4]; omega)]
    simp only [s_tells (nrH n _) w hc h9 (show i ≤ 4 by omega), s_mix, nm_q, bd_s, nI_1]
    exact hih
theorem s_dg140 {M : Mm} {sz : Nf} {pl : Nat → Nat → Int32} (n : RowR sz pl M) (w : wfR sz) {r : Nat} (hr : r < 6) (hs : sz r ≠ 41) (K : Int32 → Mm → Option (Int64 × Mm)) (h : Int64) : ∀ (k i m : Nat), i + k = sz r → k < m → f_X9_digest_b140 K 1 m (nI r) (nI i) (HM M (fo h (pl r) i)) = K (nI (r + 1)) (HM M (fo h (pl r) (sz r))) := by
  have hw := w r hr
  intro k
  induction k with
  | zero =>
    intro i m h1 h2
    obtain ⟨m, rfl⟩ : ∃ j, m = j + 1 := ⟨m - 1, by omega⟩
    rw [f_X9_digest_b140_s]
    unfold f_X9_digest_b140B
    simp only [ck_k hr (show 6 < 1000 by omega), fld_1_5, nI_cl (show r < 2 ^ 31 by omega), HM_I, (n r hr).1, if_neg hs]
    rw [if_pos (by rw [show i = sz r by omega]; exact Int32.le_refl _), show i = sz r by omega, nm_q, nI_1]
  | succ k ih =>
    intro i m h1 h2
    obtain ⟨m, rfl⟩ : ∃ j, m = j + 1 := ⟨m - 1, by omega⟩
    have hih := ih (i + 1) m (by omega) (by omega)
    rw [f_X9_digest_b140_s]
    unfold f_X9_digest_b140B
    simp only [ck_k hr (show 6 < 1000 by omega), fld_1_5, fld_1_6, nI_cl (show r < 2 ^ 31 by omega), HM_I, (n r hr).1, if_neg hs]
    rw [if_neg (by rw [i_le, t_nI (by omega), t_nI (by omega)]; omega), ck_p hr (by omega), cl_p hr (by omega), (n r hr).2 hs i (by omega)]
    simp only [s_mix, nm_q, bd_s, nI_1]
    exact hih
theorem s_dg109 {M : Mm} {sz : Nf} {pl : Nat → Nat → Int32} (n : RowR sz pl M) (w : wfR sz) (h : Int64) : ∀ (k i m : Nat), i + k = 6 → k < m → f_X9_digest_b109 1 m (nI i) (HM M (dRs sz pl h i)) = some (dRs sz pl h 6, HM M (dRs sz pl h 6)) := by
  intro k
  induction k with
  | zero =>
    intro i m h1 h2
    obtain ⟨m, rfl⟩ : ∃ j, m = j + 1 := ⟨m - 1, by omega⟩
    rw [f_X9_digest_b109_s]
    unfold f_X9_digest_b109B
    rw [if_pos (by rw [i_le, t_nI (by omega), li_6]; omega), show i = 6 by omega]
    rfl
  | succ k ih =>
    intro i m h1 h2
    obtain ⟨m, rfl⟩ : ∃ j, m = j + 1 := ⟨m - 1, by omega⟩
    have hih := ih (i + 1) m (by omega) (by omega)
    have hr : i < 6 := by omega
    have hw := w i hr
    rw [show dRs sz pl h (i + 1) = dR sz pl (dRs sz pl h i) i from rfl] at hih
    rw [f_X9_digest_b109_s]
    unfold f_X9_digest_b109B f_X9_digest_b135
    rw [if_neg (by rw [i_le, t_nI (by omega), li_6]; omega)]
    simp only [ck_k hr (show 6 < 1000 by omega), fld_1_5, nI_cl (show i < 2 ^ 31 by omega), HM_I, (n i hr).1, s_mix, nm_q, bd_s]
    by_cases e : sz i = 41
    · unfold dR at hih
      rw [if_pos e] at hih
      rw [if_pos e, if_neg (by decide), fu, f_X9_digest_b140_s]
      unfold f_X9_digest_b140B
      simp only [ck_k hr (show 6 < 1000 by omega), fld_1_5, nI_cl (show i < 2 ^ 31 by omega), HM_I, (n i hr).1, if_pos e, nm_q, bd_s, nI_1]
      rw [if_pos (by decide)]
      exact hih
    · unfold dR at hih
      rw [if_neg e] at hih
      rw [if_neg e, if_pos (by rw [i_le, t_nI (by omega), li_0]; omega)]
      have := s_dg140 n w hr e (f_X9_digest_b109 1 m) (31 * dRs sz pl h i + Int32.toInt64 (nI (sz i))) (sz i) 0 fuel (by omega) (by show sz i < 1000; omega)
      exact this.trans hih
theorem s_dg9 {M : Mm} {kd rt hd rm cm : Nf} {wy : Nat → Nf} {sz : Nf} {pl : Nat → Nat → Int32} (n : NetR kd rt hd rm cm wy M) (w : wfN kd rt hd rm cm wy) (r2 : RowR sz pl M) (w2 : wfR sz) : ∀ (k i m : Nat), i + k = 4 → k < m → f_X9_digest_b9 1 m (nI i) (HM M (dCs kd rt hd rm cm wy i)) = some (dRs sz pl (dCs kd rt hd rm cm wy 4) 6, HM M (dRs sz pl (dCs kd rt hd rm cm wy 4) 6)) := by
  intro k
  induction k with
  | zero =>
    intro i m h1 h2
    obtain ⟨m, rfl⟩ : ∃ j, m = j + 1 := ⟨m - 1, by omega⟩
    rw [f_X9_digest_b9_s]
    unfold f_X9_digest_b9B
    rw [if_pos (by rw [i_le, t_nI (by omega), li_4]; omega), show i = 4 by omega]
    exact s_dg109 r2 w2 _ 6 0 fuel (by omega) (by show 6 < 1000; omega)
  | succ k ih =>
    intro i m h1 h2
    obtain ⟨m, rfl⟩ : ∃ j, m = j + 1 := ⟨m - 1, by omega⟩
    have hih := ih (i + 1) m (by omega) (by omega)
    have hc : i < 4 := by omega
    rw [show dCs kd rt hd rm cm wy (i + 1) = dC kd rt hd rm cm wy (dCs kd rt hd rm cm wy i) i from rfl] at hih
    rw [f_X9_digest_b9_s]
    unfold f_X9_digest_b9B
    rw [if_neg (by rw [i_le, t_nI (by omega), li_4]; omega)]
    simp only [ck_k hc (show 4 < 1000 by omega), fld_1_8, nI_cl (show i < 2 ^ 31 by omega), HM_I, (n.1 i hc).1, s_mix, nm_q, bd_s, nI_1]
    by_cases e : kd i = 9
    · unfold dC at hih
      rw [if_pos e] at hih
      rw [if_pos e, if_pos rfl]
      exact hih
    · rw [if_neg e, if_neg (by decide)]
      have := s_dg33 n w hc e (f_X9_digest_b9 1 m) (dCs kd rt hd rm cm wy i) 5 0 fuel (by omega) (by show 5 < 1000; omega)
      exact this.trans hih
theorem al_digest : AlikeL (f_X8_digest 0) (f_X9_digest 1) := by
  intro M h
  obtain ⟨⟨kd, rt, hd, rm, cm, wy, w, n1, n2⟩, ⟨sz, pl, w2, r1, r2⟩, hflg⟩ := id h
  refine ⟨_, M, HM M (dRs sz pl (dCs kd rt hd rm cm wy 4) 6), s_digX1 n1 w r1 w2 4 0 fuel (by omega) (by show 4 < 1000; omega), ?_, h.sc ?_⟩
  · unfold f_X9_digest
    rw [nm_q]
    exact s_dg9 n2 w r2 w2 4 0 fuel (by omega) (by show 4 < 1000; omega)
  · exact (Sc.rf M).j (by omega) (by omega)

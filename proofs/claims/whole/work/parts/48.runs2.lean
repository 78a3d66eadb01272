/-! waited, seen -/
def gdP (kd : Nf) (sz : Nf) (pl : Nat → Nat → Int32) (c r s : Nat) : Prop := kd c = 0 ∧ gdB (pl r) (pl s) 0 (sz r) 0 = true
theorem s_judgeRun {M : Mm} {kd rt hd rm cm : Nf} {wy : Nat → Nf} {sz : Nf} {pl : Nat → Nat → Int32} (n1 : NetC kd rt hd rm cm wy M) (w : wfN kd rt hd rm cm wy) (r1 : RowC sz pl M) (w2 : wfR sz) {c r s : Nat} (hc : c < 4) (hr : r < 6) (hs : s < 6) : f_X8_judgeRun 0 (nI c) (nI r) (nI s) M = some (if kd c = 9 ∨ sz r = 41 ∨ sz s = 41 then (-3, RF M 1) else if sz r ≠ sz s then (-3, RF M 5) else if kd c = 0 ∧ gdB (pl r) (pl s) 0 (sz r) 0 = true then (0, M) else (-3, RF M 3)) := by
  have tc : (nI c).toInt = (c : Int) := t_nI (by omega)
  have tr : (nI r).toInt = (r : Int) := t_nI (by omega)
  have ts : (nI s).toInt = (s : Int) := t_nI (by omega)
  have hwr := w2 r hr
  have hws := w2 s hs
  have wc := w c hc
  unfold f_X8_judgeRun f_X8_judgeRun_b58 f_X8_judgeRun_b154 f_X8_judgeRun_b155
  simp only [s_isCounterNumber, s_isRowNumber, tc, tr, ts, nm_q, bd_s, if_pos (show (0 : Int) ≤ c ∧ (c : Int) < 4 by omega), if_pos (show (0 : Int) ≤ r ∧ (r : Int) < 6 by omega), if_pos (show (0 : Int) ≤ s ∧ (s : Int) < 6 by omega), fld_0_0, fld_0_1, fld_4_0, elm_2, elm_22, nI_cl (show c < 2 ^ 31 by omega), nI_cl (show r < 2 ^ 31 by omega), nI_cl (show s < 2 ^ 31 by omega), ck_k hc (show 4 < 1000 by omega), ck_k hr (show 6 < 1000 by omega), ck_k hs (show 6 < 1000 by omega), s_has n1 w hc, s_rowThere r1 w2 hr, s_rowThere r1 w2 hs, s_ref1, s_ref3, s_ref5, n1.1 c hc]
  by_cases e9 : kd c = 9
  · simp [e9]
  · by_cases er : sz r = 41
    · simp [e9, er]
    · by_cases es : sz s = 41
      · simp [e9, er, es]
      · simp only [e9, er, es, if_false, or_self, show ¬ ((1 : Int32) = 0) by decide, (r1 r hr).1, (r1 s hs).1]
        have ke : nI (sz r) = nI (sz s) ↔ sz r = sz s := by rw [i_eq, t_nI (by omega), t_nI (by omega)]; omega
        have k0 : nI (kd c) = 0 ↔ kd c = 0 := by rw [i_eq, t_nI (by omega), li_0]; omega
        by_cases eq : sz r = sz s
        · have ww := s_within (lo := 0) (hi := 100000) r1 w2 hr er (sz r) 0 fuel (by omega) (by show sz r < 1000; omega)
          have wr := s_rising r1 w2 hr er (sz r - 1) 1 fuel (by omega) (by omega) (by show sz r - 1 < 1000; omega)
          have wq := s_within (lo := 1) (hi := 1000) r1 w2 hs es (sz s) 0 fuel (by omega) (by show sz s < 1000; omega)
          have ww : f_X6_isWithin (10 + r) 0 100000 M = _ := ww
          have wr : f_X6_isRising (10 + r) M = _ := wr
          have wq : f_X6_isWithin (10 + s) 1 1000 M = _ := wq
          rw [← eq] at wq
          rw [if_pos (ke.mpr eq), if_neg (show ¬ sz r ≠ sz s by omega), ← gd_eq]
          simp only [k0, ww, wr, wq, nm_q, bd_s]
          by_cases q0 : kd c = 0
          · rw [if_pos q0]
            by_cases q1 : wiB (pl r) 0 100000 (sz r) 0 = true
            · by_cases q2 : riB (pl r) (sz r - 1) 1 = true
              · by_cases q3 : wiB (pl s) 1 1000 (sz r) 0 = true <;> simp [q0, q1, q2, q3]
              · simp [q0, q1, q2]
            · simp [q0, q1]
          · rw [if_neg q0]
            simp [q0]
        · rw [if_neg (fun z => eq (ke.mp z)), if_pos eq]
/-- the reference's row of waits: the first k -/
def WM (M : Mm) (f : Nat → Int32) (k : Nat) : Mm := (fun a j => if a = 100 ∧ j < k then f j else M.1 a j, M.2)
theorem mI_WM (M : Mm) (f : Nat → Int32) (k a j : Nat) : mI (WM M f k) a j = if a = 100 ∧ j < k then f j else mI M a j := rfl
theorem WM_s (M : Mm) (f : Nat → Int32) (k : Nat) : sI (WM M f k) 100 k (f k) = WM M f (k + 1) := by
  unfold WM sI
  refine Prod.ext ?_ rfl
  funext a j
  show (if a = 100 ∧ j = k then f k else if a = 100 ∧ j < k then f j else M.1 a j) = if a = 100 ∧ j < k + 1 then f j else M.1 a j
  by_cases h : a = 100 ∧ j = k
  · rw [if_pos h, if_pos (by omega), h.2]
  · rw [if_neg h]
    by_cases h2 : a = 100 ∧ j < k
    · rw [if_pos h2, if_pos (by omega)]
    · rw [if_neg h2, if_neg (by omega)]
theorem WM_0 (M : Mm) (f : Nat → Int32) : WM M f 0 = M := by
  unfold WM
  refine Prod.ext ?_ rfl
  funext a j
  show (if a = 100 ∧ j < 0 then f j else M.1 a j) = M.1 a j
  rw [if_neg (by omega)]
theorem Sc_WM {M Ma : Mm} (h : Sc M Ma) (f : Nat → Int32) (k : Nat) : Sc M (WM Ma f k) := by
  refine ⟨fun a j p => ?_, h.2.1, h.2.2⟩
  rw [mI_WM, if_neg, h.1 a j p]
  rintro ⟨rfl, -⟩
  rcases p with p | p
  · unfold pX at p; omega
  · unfold pR at p; omega
theorem s_run210 {M : Mm} {kd rt hd rm cm : Nf} {wy : Nat → Nf} {sz : Nf} {pl : Nat → Nat → Int32} (n2 : NetR kd rt hd rm cm wy M) (w : wfN kd rt hd rm cm wy) (r2 : RowR sz pl M) (w2 : wfR sz) {c r s : Nat} (hc : c < 4) (h9 : kd c ≠ 9) (hr : r < 6) (hs : s < 6) (er : sz r ≠ 41) (eq : sz r = sz s) : ∀ (k i m : Nat), i + k = sz r → k < m → f_X9_askedRun_b210 1 m (nI c) (nI r) (nI s) (nI (sz r)) (rnS (decide (hd c = 2)) (pl r) (pl s) i).1 (rnS (decide (hd c = 2)) (pl r) (pl s) i).2 (nI i) (WM M (rnW (decide (hd c = 2)) (pl r) (pl s)) i) = some (nI (sz r), WM M (rnW (decide (hd c = 2)) (pl r) (pl s)) (sz r)) := by
  have hwr := w2 r hr
  have wc := w c hc
  have k2 : nI (hd c) = 2 ↔ hd c = 2 := by rw [i_eq, t_nI (by omega), li_2]; omega
  intro k
  induction k with
  | zero =>
    intro i m h1 h2
    obtain ⟨m, rfl⟩ : ∃ j, m = j + 1 := ⟨m - 1, by omega⟩
    rw [f_X9_askedRun_b210_s]
    unfold f_X9_askedRun_b210B
    rw [if_pos (by rw [show i = sz r by omega]; exact Int32.le_refl _), show i = sz r by omega]
  | succ k ih =>
    intro i m h1 h2
    obtain ⟨m, rfl⟩ : ∃ j, m = j + 1 := ⟨m - 1, by omega⟩
    have hih := ih (i + 1) m (by omega) (by omega)
    have ex : mI (WM M (rnW (decide (hd c = 2)) (pl r) (pl s)) i) 86 (40 * r + i) = pl r i := by rw [mI_WM, if_neg (by omega)]; exact (r2 r hr).2 er i (by omega)
    have ey : ∀ f j, mI (WM M f j) 86 (40 * s + i) = pl s i := fun f j => by rw [mI_WM, if_neg (by omega)]; exact (r2 s hs).2 (by omega) i (by omega)
    have eh : mI (WM M (rnW (decide (hd c = 2)) (pl r) (pl s)) i) 91 c = nI (hd c) := by rw [mI_WM, if_neg (by omega)]; exact ((n2.1 c hc).2.1 h9).2.2.1
    rw [f_X9_askedRun_b210_s]
    unfold f_X9_askedRun_b210B f_X9_askedRun_b252 f_X9_askedRun_b253 f_X9_askedRun_b267 f_X9_askedRun_b283 f_X9_askedRun_b322
    rw [if_neg (by rw [i_le, t_nI (by omega), t_nI (by omega)]; omega)]
    simp only [ck_p hr (show i < 40 by omega), cl_p hr (show i < 40 by omega), ck_p hs (show i < 40 by omega), cl_p hs (show i < 40 by omega), ck_k hc (show 4 < 1000 by omega), ck_k (show i < 40 by omega) (show 40 < 1000 by omega), nI_cl (show c < 2 ^ 31 by omega), nI_cl (show i < 2 ^ 31 by omega), fld_1_6, fld_1_11, fld_1_24, ex, eh, k2, nm_q, bd_s, nI_1]
    rw [show rnS (decide (hd c = 2)) (pl r) (pl s) (i + 1) = if (decide (hd c = 2)) = true ∧ (rnS (decide (hd c = 2)) (pl r) (pl s) i).2 < (rnS (decide (hd c = 2)) (pl r) (pl s) i).1 then ((rnS (decide (hd c = 2)) (pl r) (pl s) i).1, (if pl r i < (rnS (decide (hd c = 2)) (pl r) (pl s) i).2 then (rnS (decide (hd c = 2)) (pl r) (pl s) i).2 else pl r i) + pl s i) else ((if pl r i < (rnS (decide (hd c = 2)) (pl r) (pl s) i).1 then (rnS (decide (hd c = 2)) (pl r) (pl s) i).1 else pl r i) + pl s i, (rnS (decide (hd c = 2)) (pl r) (pl s) i).2) from rfl, ← WM_s] at hih
    have ew : rnW (decide (hd c = 2)) (pl r) (pl s) i = (if (decide (hd c = 2)) = true ∧ (rnS (decide (hd c = 2)) (pl r) (pl s) i).2 < (rnS (decide (hd c = 2)) (pl r) (pl s) i).1 then (if pl r i < (rnS (decide (hd c = 2)) (pl r) (pl s) i).2 then (rnS (decide (hd c = 2)) (pl r) (pl s) i).2 else pl r i) else (if pl r i < (rnS (decide (hd c = 2)) (pl r) (pl s) i).1 then (rnS (decide (hd c = 2)) (pl r) (pl s) i).1 else pl r i)) - pl r i := rfl
    have ez : ∀ v, mI (sI (WM M (rnW (decide (hd c = 2)) (pl r) (pl s)) i) 100 i v) 86 (40 * s + i) = pl s i := fun v => by rw [mI_sI, if_neg (by omega)]; exact ey _ _
    generalize hA : (rnS (decide (hd c = 2)) (pl r) (pl s) i).1 = A at hih ew ⊢
    generalize hB : (rnS (decide (hd c = 2)) (pl r) (pl s) i).2 = B at hih ew ⊢
    have mx : ∀ (x y : Int32) (f : Int32 → Option (Int32 × Mm)), (if y ≤ x then f x else f y) = f (if x < y then y else x) := fun x y f => by
      by_cases z : x < y
      · rw [if_pos z, if_neg (by rw [i_le]; rw [i_lt] at z; omega)]
      · rw [if_neg z, if_pos (by rw [i_le]; rw [i_lt] at z; omega)]
    by_cases z2 : hd c = 2
    · rw [if_pos z2]
      simp only [z2, decide_true, true_and] at hih ew
      by_cases z : B < A
      · rw [if_neg (by rw [i_le]; rw [i_lt] at z; omega)]
        simp only [if_pos z] at hih ew
        simp only [show ¬ ((1 : Int32) = 0) by decide, if_false, ez]
        rw [ew] at hih
        simp only [z2, decide_true] at hih ⊢
        by_cases z3 : pl r i < B
        · simp only [z3, if_true] at hih
          rw [if_neg (by rw [i_le]; rw [i_lt] at z3; omega)]
          exact hih
        · simp only [z3, if_false] at hih
          rw [if_pos (by rw [i_le]; rw [i_lt] at z3; omega)]
          exact hih
      · rw [if_pos (by rw [i_le]; rw [i_lt] at z; omega)]
        simp only [if_neg z] at hih ew
        simp only [if_true, ez]
        rw [ew] at hih
        simp only [z2, decide_true] at hih ⊢
        by_cases z3 : pl r i < A
        · simp only [z3, if_true] at hih
          rw [if_neg (by rw [i_le]; rw [i_lt] at z3; omega)]
          exact hih
        · simp only [z3, if_false] at hih
          rw [if_pos (by rw [i_le]; rw [i_lt] at z3; omega)]
          exact hih
    · rw [if_neg z2]
      simp only [z2, decide_false, Bool.false_eq_true, false_and, if_false] at hih ew
      simp only [if_true, ez]
      rw [ew] at hih
      simp only [z2, decide_false] at hih ⊢
      by_cases z3 : pl r i < A
      · simp only [z3, if_true] at hih
        rw [if_neg (by rw [i_le]; rw [i_lt] at z3; omega)]
        exact hih
      · simp only [z3, if_false] at hih
        rw [if_pos (by rw [i_le]; rw [i_lt] at z3; omega)]
        exact hih

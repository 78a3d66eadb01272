/-! chains: laid and noted -/
def LD (M : Mm) (p : Nat → Int32) (s i j : Nat) : Mm := (fun a k => if a = 32 ∧ k = 3 then nI s else if 67 ≤ a ∧ a < 73 ∧ k < s ∧ (a < 67 + i ∨ (a = 67 + i ∧ k < j)) then p ((a - 67) * s + k) else M.1 a k, M.2)
theorem mI_LD (M : Mm) (p : Nat → Int32) (s i j a k : Nat) : mI (LD M p s i j) a k = if a = 32 ∧ k = 3 then nI s else if 67 ≤ a ∧ a < 73 ∧ k < s ∧ (a < 67 + i ∨ (a = 67 + i ∧ k < j)) then p ((a - 67) * s + k) else mI M a k := rfl
theorem LD_0 (M : Mm) (p : Nat → Int32) (s : Nat) : LD M p s 0 0 = sI M 32 3 (nI s) := by
  unfold LD sI
  refine Prod.ext ?_ rfl
  funext a k
  show (if a = 32 ∧ k = 3 then nI s else if 67 ≤ a ∧ a < 73 ∧ k < s ∧ (a < 67 + 0 ∨ (a = 67 + 0 ∧ k < 0)) then p ((a - 67) * s + k) else M.1 a k) = if a = 32 ∧ k = 3 then nI s else M.1 a k
  by_cases h : a = 32 ∧ k = 3
  · rw [if_pos h, if_pos h]
  · rw [if_neg h, if_neg h, if_neg (by omega)]
theorem LD_s (M : Mm) (p : Nat → Int32) {s i j : Nat} (hi : i < 6) (hj : j < s) : sI (LD M p s i j) (67 + i) j (p (i * s + j)) = LD M p s i (j + 1) := by
  unfold LD sI
  refine Prod.ext ?_ rfl
  funext a k
  show (if a = 67 + i ∧ k = j then p (i * s + j) else if a = 32 ∧ k = 3 then nI s else if 67 ≤ a ∧ a < 73 ∧ k < s ∧ (a < 67 + i ∨ (a = 67 + i ∧ k < j)) then p ((a - 67) * s + k) else M.1 a k) = if a = 32 ∧ k = 3 then nI s else if 67 ≤ a ∧ a < 73 ∧ k < s ∧ (a < 67 + i ∨ (a = 67 + i ∧ k < j + 1)) then p ((a - 67) * s + k) else M.1 a k
  by_cases h : a = 67 + i ∧ k = j
  · rw [if_pos h, if_neg (by omega), if_pos (by omega), h.1, h.2, Nat.add_sub_cancel_left]
  · rw [if_neg h]
    by_cases h2 : a = 32 ∧ k = 3
    · rw [if_pos h2, if_pos h2]
    · rw [if_neg h2, if_neg h2]
      by_cases h3 : 67 ≤ a ∧ a < 73 ∧ k < s ∧ (a < 67 + i ∨ (a = 67 + i ∧ k < j))
      · rw [if_pos h3, if_pos (by omega)]
      · rw [if_neg h3, if_neg (by omega)]
theorem LD_n (M : Mm) (p : Nat → Int32) {s i : Nat} : LD M p s i s = LD M p s (i + 1) 0 := by
  unfold LD
  refine Prod.ext ?_ rfl
  funext a k
  show (if a = 32 ∧ k = 3 then nI s else if 67 ≤ a ∧ a < 73 ∧ k < s ∧ (a < 67 + i ∨ (a = 67 + i ∧ k < s)) then p ((a - 67) * s + k) else M.1 a k) = if a = 32 ∧ k = 3 then nI s else if 67 ≤ a ∧ a < 73 ∧ k < s ∧ (a < 67 + (i + 1) ∨ (a = 67 + (i + 1) ∧ k < 0)) then p ((a - 67) * s + k) else M.1 a k
  by_cases h2 : a = 32 ∧ k = 3
  · rw [if_pos h2, if_pos h2]
  · rw [if_neg h2, if_neg h2]
    by_cases h3 : 67 ≤ a ∧ a < 73 ∧ k < s ∧ (a < 67 + i ∨ (a = 67 + i ∧ k < s))
    · rw [if_pos h3, if_pos (by omega)]
    · rw [if_neg h3, if_neg (by omega)]
theorem Sc_LD (M : Mm) (p : Nat → Int32) (s i j : Nat) : Sc M (LD M p s i j) := by
  refine ⟨fun a k h => ?_, fun _ => rfl, fun _ _ => rfl⟩
  rw [mI_LD, if_neg (by unfold pX pR at h; omega), if_neg (by unfold pX pR at h; omega)]
/-- which lead at once -/
def ld (p : Nat → Int32) (s i j : Nat) : Bool := decide (i ≠ j) && decide (0 < (p (i * s + j)).toInt)
def NL (M : Mm) (p : Nat → Int32) (s i : Nat) : Mm := (fun a k => if a = 36 ∧ k < i then nI (mk (ld p s k) s) else M.1 a k, M.2)
theorem mI_NL (M : Mm) (p : Nat → Int32) (s i a k : Nat) : mI (NL M p s i) a k = if a = 36 ∧ k < i then nI (mk (ld p s k) s) else mI M a k := rfl
theorem NL_0 (M : Mm) (p : Nat → Int32) (s : Nat) : NL M p s 0 = M := by
  unfold NL
  refine Prod.ext ?_ rfl
  funext a k
  show (if a = 36 ∧ k < 0 then _ else M.1 a k) = M.1 a k
  rw [if_neg (by omega)]
theorem NL_s (M : Mm) (p : Nat → Int32) (s i : Nat) : sI (NL M p s i) 36 i (nI (mk (ld p s i) s)) = NL M p s (i + 1) := by
  unfold NL sI
  refine Prod.ext ?_ rfl
  funext a k
  show (if a = 36 ∧ k = i then nI (mk (ld p s i) s) else if a = 36 ∧ k < i then nI (mk (ld p s k) s) else M.1 a k) = if a = 36 ∧ k < i + 1 then nI (mk (ld p s k) s) else M.1 a k
  by_cases h : a = 36 ∧ k = i
  · rw [if_pos h, if_pos (by omega), h.2]
  · rw [if_neg h]
    by_cases h2 : a = 36 ∧ k < i
    · rw [if_pos h2, if_pos (by omega)]
    · rw [if_neg h2, if_neg (by omega)]
theorem sI_sI (M : Mm) (a k : Nat) (u v : Int32) : sI (sI M a k u) a k v = sI M a k v := by
  unfold sI
  refine Prod.ext ?_ rfl
  funext b j
  show (if b = a ∧ j = k then v else if b = a ∧ j = k then u else M.1 b j) = if b = a ∧ j = k then v else M.1 b j
  by_cases h : b = a ∧ j = k
  · rw [if_pos h, if_pos h]
  · rw [if_neg h, if_neg h, if_neg h]
/-- a chain of s states with the rates p -/
def ChR (M : Mm) (p : Nat → Int32) (s : Nat) : Prop := mI M 32 3 = nI s ∧ ∀ i, i < s → ∀ j, j < s → mI M (67 + i) j = p (i * s + j)
def ChC (M : Mm) (p : Nat → Int32) (s : Nat) : Prop := ChR M p s ∧ ∀ i, i < s → mI M 36 i = nI (mk (ld p s i) s)
theorem ChR_LD (M : Mm) (p : Nat → Int32) {s : Nat} (h6 : s ≤ 6) : ChR (LD M p s s 0) p s := by
  refine ⟨by rw [mI_LD, if_pos ⟨rfl, rfl⟩], fun i hi j hj => ?_⟩
  rw [mI_LD, if_neg (by omega), if_pos (by omega), Nat.add_sub_cancel_left]
theorem ChR_i {M : Mm} {p : Nat → Int32} {s : Nat} {v : Int32} {k : Nat} (h6 : s ≤ 6) (h : ChR M p s) : ChR (sI M 36 k v) p s := by
  refine ⟨by rw [mI_sI, if_neg (by omega)]; exact h.1, fun i hi j hj => ?_⟩
  rw [mI_sI, if_neg (by omega)]
  exact h.2 i hi j hj
theorem ChR_NL {M : Mm} {p : Nat → Int32} {s : Nat} {k : Nat} (h6 : s ≤ 6) (h : ChR M p s) : ChR (NL M p s k) p s := by
  refine ⟨by rw [mI_NL, if_neg (by omega)]; exact h.1, fun i hi j hj => ?_⟩
  rw [mI_NL, if_neg (by omega)]
  exact h.2 i hi j hj
theorem s_nl {M : Mm} {p : Nat → Int32} {s : Nat} (h6 : s ≤ 6) (h : ChR M p s) : ∀ (a i m : Nat), i + a = s → a < m → f_X0_noteLeads_b2 32 m (nI i) (NL M p s i) = some (NL M p s s) := by
  intro a
  induction a with
  | zero =>
    intro i m h1 h2
    obtain ⟨m, rfl⟩ : ∃ j, m = j + 1 := ⟨m - 1, by omega⟩
    rw [f_X0_noteLeads_b2_s]
    unfold f_X0_noteLeads_b2B
    rw [(ChR_NL h6 h).1, show i = s by omega, if_pos (Int32.le_refl _)]
  | succ a ih =>
    intro i m h1 h2
    obtain ⟨m, rfl⟩ : ∃ j, m = j + 1 := ⟨m - 1, by omega⟩
    have hih := ih (i + 1) m (by omega) (by omega)
    rw [f_X0_noteLeads_b2_s]
    unfold f_X0_noteLeads_b2B
    rw [(ChR_NL h6 h).1, if_neg (by rw [i_le, t_nI (by omega), t_nI (by omega)]; omega), ck_k (show i < 6 by omega) (by omega), nI_cl (by omega), nm_q, fld_32_1]
    have inner : ∀ (b j m2 : Nat), j + b = s → b < m2 → f_X0_noteLeads_b19 (f_X0_noteLeads_b2 32 m) 32 m2 (nI i) (nI j) (sI (NL M p s i) 36 i (nI (mk (ld p s i) j))) = some (NL M p s s) := by
      intro b
      induction b with
      | zero =>
        intro j m2 g1 g2
        obtain ⟨m2, rfl⟩ : ∃ j, m2 = j + 1 := ⟨m2 - 1, by omega⟩
        rw [f_X0_noteLeads_b19_s]
        unfold f_X0_noteLeads_b19B
        rw [(ChR_i h6 (ChR_NL h6 h)).1, show j = s by omega, if_pos (Int32.le_refl _), NL_s, nm_q, nI_1]
        exact hih
      | succ b jh =>
        intro j m2 g1 g2
        obtain ⟨m2, rfl⟩ : ∃ j, m2 = j + 1 := ⟨m2 - 1, by omega⟩
        have hjh := jh (j + 1) m2 (by omega) (by omega)
        rw [show mk (ld p s i) (j + 1) = mk (ld p s i) j ||| (if ld p s i j = true then 2 ^ j else 0) from rfl] at hjh
        have ke : nI i = nI j ↔ i = j := by rw [i_eq, t_nI (by omega), t_nI (by omega)]; omega
        rw [f_X0_noteLeads_b19_s]
        unfold f_X0_noteLeads_b19B
        rw [(ChR_i h6 (ChR_NL h6 h)).1, if_neg (by rw [i_le, t_nI (by omega), t_nI (by omega)]; omega)]
        simp only [ck_k (show i < 6 by omega) (show 6 < 1000 by omega), ck_k (show j < 6 by omega) (show 6 < 1000 by omega), nI_cl (show i < 2 ^ 31 by omega), nI_cl (show j < 2 ^ 31 by omega), fld_32_0, fld_32_1, elm_34, (ChR_i h6 (ChR_NL h6 h)).2 i (by omega) j (by omega), sh1 j (by omega), ke, nm_q, bd_s, nI_1, i_le, li_0, mI_sI (NL M p s i) 36 i 36 i, true_and, if_true, and_self, sI_sI, nI_or]
        by_cases q : i = j
        · rw [if_pos q]
          rw [show ld p s i j = false by unfold ld; simp [q]] at hjh
          simp only [Bool.false_eq_true, if_false, Nat.or_zero] at hjh
          exact hjh
        · rw [if_neg q]
          by_cases q2 : (p (i * s + j)).toInt ≤ 0
          · rw [if_pos q2]
            rw [show ld p s i j = false by unfold ld; simp [q]; omega] at hjh
            simp only [Bool.false_eq_true, if_false, Nat.or_zero] at hjh
            exact hjh
          · rw [if_neg q2]
            rw [show ld p s i j = true by unfold ld; simp [q]; omega] at hjh
            simp only [if_true] at hjh
            exact hjh
    exact inner s 0 fuel (by omega) (by show s < 1000; omega)
theorem s_ld {r : Nat} {M : Mm} {sz : Nf} {pl : Nat → Nat → Int32} (n : RowC sz pl M) (w : wfR sz) (hr : r < 6) (hs : sz r ≠ 41) {s : Nat} (h6 : s ≤ 6) (e : sz r = s * s) : ∀ (a i m : Nat), i + a = s → a < m → f_X0_load_b10 32 m (10 + r) (nI i) (LD M (pl r) s i 0) = some (NL (LD M (pl r) s s 0) (pl r) s s) := by
  have h3 : ∀ i j, mI (LD M (pl r) s i j) 32 3 = nI s := fun i j => by rw [mI_LD, if_pos ⟨rfl, rfl⟩]
  have n' : ∀ i j, RowC sz pl (LD M (pl r) s i j) := fun i j => n.sc (fun a k q => (Sc_LD M (pl r) s i j).1 a k (Or.inl q))
  intro a
  induction a with
  | zero =>
    intro i m h1 h2
    obtain ⟨m, rfl⟩ : ∃ j, m = j + 1 := ⟨m - 1, by omega⟩
    rw [f_X0_load_b10_s]
    unfold f_X0_load_b10B f_X0_noteLeads
    rw [h3, show i = s by omega, if_pos (Int32.le_refl _)]
    have := s_nl h6 (ChR_LD M (pl r) h6) s 0 fuel (by omega) (by show s < 1000; omega)
    rw [NL_0] at this
    rw [show (0 : Int32) = nI 0 from rfl, this]
    rfl
  | succ a ih =>
    intro i m h1 h2
    obtain ⟨m, rfl⟩ : ∃ j, m = j + 1 := ⟨m - 1, by omega⟩
    have hih := ih (i + 1) m (by omega) (by omega)
    rw [f_X0_load_b10_s]
    unfold f_X0_load_b10B
    rw [h3, if_neg (by rw [i_le, t_nI (by omega), t_nI (by omega)]; omega)]
    have inner : ∀ (b j m2 : Nat), j + b = s → b < m2 → f_X0_load_b20 (f_X0_load_b10 32 m) 32 m2 (10 + r) (nI i) (nI j) (LD M (pl r) s i j) = some (NL (LD M (pl r) s s 0) (pl r) s s) := by
      intro b
      induction b with
      | zero =>
        intro j m2 g1 g2
        obtain ⟨m2, rfl⟩ : ∃ j, m2 = j + 1 := ⟨m2 - 1, by omega⟩
        rw [f_X0_load_b20_s]
        unfold f_X0_load_b20B
        rw [h3, show j = s by omega, if_pos (Int32.le_refl _), LD_n, nm_q, nI_1]
        exact hih
      | succ b jh =>
        intro j m2 g1 g2
        obtain ⟨m2, rfl⟩ : ∃ j, m2 = j + 1 := ⟨m2 - 1, by omega⟩
        have hjh := jh (j + 1) m2 (by omega) (by omega)
        have hlt : i * s + j < s * s := ij_lt (by omega) (by omega)
        rw [f_X0_load_b20_s]
        unfold f_X0_load_b20B
        rw [h3, if_neg (by rw [i_le, t_nI (by omega), t_nI (by omega)]; omega)]
        simp only [n_mul, nI_add, ck_k (show i < 6 by omega) (show 6 < 1000 by omega), ck_k (show j < 6 by omega) (show 6 < 1000 by omega), nI_cl (show i < 2 ^ 31 by omega), nI_cl (show j < 2 ^ 31 by omega), fld_32_0, elm_34, s_rat (n' i j) w hr hs (show i * s + j < sz r by omega), nm_q, bd_s, nI_1, LD_s M (pl r) (show i < 6 by omega) (show j < s by omega)]
        exact hjh
    exact inner s 0 fuel (by omega) (by show s < 1000; omega)
theorem s_load {r : Nat} {M : Mm} {sz : Nf} {pl : Nat → Nat → Int32} (n : RowC sz pl M) (w : wfR sz) (hr : r < 6) (hs : sz r ≠ 41) (h0 : sdN (sz r) ≠ 0) : ∃ M1, f_X0_load 32 (10 + r) M = some M1 ∧ ChC M1 (pl r) (sdN (sz r)) ∧ Sc M M1 ∧ M1.2 = M.2 := by
  have hsd := sd_le (sz r)
  have e : sz r = sdN (sz r) * sdN (sz r) := by omega
  refine ⟨NL (LD M (pl r) (sdN (sz r)) (sdN (sz r)) 0) (pl r) (sdN (sz r)) (sdN (sz r)), ?_, ⟨ChR_NL (by omega) (ChR_LD M (pl r) (by omega)), fun i hi => ?_⟩, ?_, rfl⟩
  · unfold f_X0_load
    rw [s_side n w hr hs, bd_s, nm_q]
    have := s_ld n w hr hs (s := sdN (sz r)) (by omega) e (sdN (sz r)) 0 fuel (by omega) (by show sdN (sz r) < 1000; omega)
    rw [LD_0] at this
    exact this
  · rw [mI_NL, if_pos ⟨rfl, hi⟩]
  · refine Sc.tr (Sc_LD M (pl r) (sdN (sz r)) (sdN (sz r)) 0) ⟨fun a k h => ?_, fun _ => rfl, fun _ _ => rfl⟩
    rw [mI_NL, if_neg (by unfold pX pR at h; omega)]

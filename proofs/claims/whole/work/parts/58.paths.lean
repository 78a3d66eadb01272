/-! the paths of a net: as a chain's, in its own cells -/
def NLq (M : Mm) (p : Nat → Int32) (s i : Nat) : Mm := (fun a k => if a = 35 ∧ k < i then nI (mk (ld p s k) s) else M.1 a k, M.2)
theorem mI_NLq (M : Mm) (p : Nat → Int32) (s i a k : Nat) : mI (NLq M p s i) a k = if a = 35 ∧ k < i then nI (mk (ld p s k) s) else mI M a k := rfl
theorem NL_0q (M : Mm) (p : Nat → Int32) (s : Nat) : NLq M p s 0 = M := by
  unfold NLq
  refine Prod.ext ?_ rfl
  funext a k
  show (if a = 35 ∧ k < 0 then _ else M.1 a k) = M.1 a k
  rw [if_neg (by omega)]
theorem NL_sq (M : Mm) (p : Nat → Int32) (s i : Nat) : sI (NLq M p s i) 35 i (nI (mk (ld p s i) s)) = NLq M p s (i + 1) := by
  unfold NLq sI
  refine Prod.ext ?_ rfl
  funext a k
  show (if a = 35 ∧ k = i then nI (mk (ld p s i) s) else if a = 35 ∧ k < i then nI (mk (ld p s k) s) else M.1 a k) = if a = 35 ∧ k < i + 1 then nI (mk (ld p s k) s) else M.1 a k
  by_cases h : a = 35 ∧ k = i
  · rw [if_pos h, if_pos (by omega), h.2]
  · rw [if_neg h]
    by_cases h2 : a = 35 ∧ k < i
    · rw [if_pos h2, if_pos (by omega)]
    · rw [if_neg h2, if_neg (by omega)]
/-- a chain of s states with the rates p -/
def ChRq (M : Mm) (p : Nat → Int32) (s : Nat) : Prop := mI M 31 3 = nI s ∧ ∀ i, i < s → ∀ j, j < s → mI M (61 + i) j = p (i * s + j)
def ChCq (M : Mm) (p : Nat → Int32) (s : Nat) : Prop := ChRq M p s ∧ ∀ i, i < s → mI M 35 i = nI (mk (ld p s i) s)
theorem ChR_iq {M : Mm} {p : Nat → Int32} {s : Nat} {v : Int32} {k : Nat} (h6 : s ≤ 6) (h : ChRq M p s) : ChRq (sI M 35 k v) p s := by
  refine ⟨by rw [mI_sI, if_neg (by omega)]; exact h.1, fun i hi j hj => ?_⟩
  rw [mI_sI, if_neg (by omega)]
  exact h.2 i hi j hj
theorem ChR_NLq {M : Mm} {p : Nat → Int32} {s : Nat} {k : Nat} (h6 : s ≤ 6) (h : ChRq M p s) : ChRq (NLq M p s k) p s := by
  refine ⟨by rw [mI_NLq, if_neg (by omega)]; exact h.1, fun i hi j hj => ?_⟩
  rw [mI_NLq, if_neg (by omega)]
  exact h.2 i hi j hj
theorem s_nlq {M : Mm} {p : Nat → Int32} {s : Nat} (h6 : s ≤ 6) (h : ChRq M p s) : ∀ (a i m : Nat), i + a = s → a < m → f_X0_noteLeads_b2 31 m (nI i) (NLq M p s i) = some (NLq M p s s) := by
  intro a
  induction a with
  | zero =>
    intro i m h1 h2
    obtain ⟨m, rfl⟩ : ∃ j, m = j + 1 := ⟨m - 1, by omega⟩
    rw [f_X0_noteLeads_b2_s]
    unfold f_X0_noteLeads_b2B
    rw [(ChR_NLq h6 h).1, show i = s by omega, if_pos (Int32.le_refl _)]
  | succ a ih =>
    intro i m h1 h2
    obtain ⟨m, rfl⟩ : ∃ j, m = j + 1 := ⟨m - 1, by omega⟩
    have hih := ih (i + 1) m (by omega) (by omega)
    rw [f_X0_noteLeads_b2_s]
    unfold f_X0_noteLeads_b2B
    rw [(ChR_NLq h6 h).1, if_neg (by rw [i_le, t_nI (by omega), t_nI (by omega)]; omega), ck_k (show i < 6 by omega) (by omega), nI_cl (by omega), nm_q, fld_31_1]
    have inner : ∀ (b j m2 : Nat), j + b = s → b < m2 → f_X0_noteLeads_b19 (f_X0_noteLeads_b2 31 m) 31 m2 (nI i) (nI j) (sI (NLq M p s i) 35 i (nI (mk (ld p s i) j))) = some (NLq M p s s) := by
      intro b
      induction b with
      | zero =>
        intro j m2 g1 g2
        obtain ⟨m2, rfl⟩ : ∃ j, m2 = j + 1 := ⟨m2 - 1, by omega⟩
        rw [f_X0_noteLeads_b19_s]
        unfold f_X0_noteLeads_b19B
        rw [(ChR_iq h6 (ChR_NLq h6 h)).1, show j = s by omega, if_pos (Int32.le_refl _), NL_sq, nm_q, nI_1]
        exact hih
      | succ b jh =>
        intro j m2 g1 g2
        obtain ⟨m2, rfl⟩ : ∃ j, m2 = j + 1 := ⟨m2 - 1, by omega⟩
        have hjh := jh (j + 1) m2 (by omega) (by omega)
        rw [show mk (ld p s i) (j + 1) = mk (ld p s i) j ||| (if ld p s i j = true then 2 ^ j else 0) from rfl] at hjh
        have ke : nI i = nI j ↔ i = j := by rw [i_eq, t_nI (by omega), t_nI (by omega)]; omega
        rw [f_X0_noteLeads_b19_s]
        unfold f_X0_noteLeads_b19B
        rw [(ChR_iq h6 (ChR_NLq h6 h)).1, if_neg (by rw [i_le, t_nI (by omega), t_nI (by omega)]; omega)]
        simp only [ck_k (show i < 6 by omega) (show 6 < 1000 by omega), ck_k (show j < 6 by omega) (show 6 < 1000 by omega), nI_cl (show i < 2 ^ 31 by omega), nI_cl (show j < 2 ^ 31 by omega), fld_31_0, fld_31_1, elm_33, (ChR_iq h6 (ChR_NLq h6 h)).2 i (by omega) j (by omega), sh1 j (by omega), ke, nm_q, bd_s, nI_1, i_le, li_0, mI_sI (NLq M p s i) 35 i 35 i, true_and, if_true, and_self, sI_sI, nI_or]
        by_cases q : i = j
        · rw [if_pos q]
          rw [show ld p s i j = false by unfold ld; simp [q]] at hjh
          simp only [Bool.false_eq_true, if_false, Nat.or_zero] at hjh
          exact hjh
        · rw [if_neg q]
          by_cases q2 : (p (i * s + j)).toInt ≤ 0
          · rw [if_pos q2]
            rw [show ld p s i j = false by unfold ld; simp [q]; omega] at hjh
            simp only [Bool.false_eq_true, if_false, Nat.or_zero] at hjh
            exact hjh
          · rw [if_neg q2]
            rw [show ld p s i j = true by unfold ld; simp [q]; omega] at hjh
            simp only [if_true] at hjh
            exact hjh
    exact inner s 0 fuel (by omega) (by show s < 1000; omega)
theorem s_reachedq {M : Mm} {p : Nat → Int32} {s : Nat} (h6 : s ≤ 6) (h : ChCq M p s) {v : Nat} (hv : v < 2 ^ s) : f_X0_reachedFrom 31 (nI v) M = some (nI (rt p s s v), M) := by
  have h64 := p2_le h6
  have l : ∀ (a t m v : Nat), t + a = s → a < m → v < 2 ^ s → f_X0_reachedFrom_b4 31 m (nI v) (nI t) M = some (nI (rt p s a v), M) := by
    intro a
    induction a with
    | zero =>
      intro t m v h1 h2 hv
      obtain ⟨m, rfl⟩ : ∃ j, m = j + 1 := ⟨m - 1, by omega⟩
      rw [f_X0_reachedFrom_b4_s]
      unfold f_X0_reachedFrom_b4B rt
      rw [h.1.1, show t = s by omega, if_pos (Int32.le_refl _)]
    | succ a ih =>
      intro t m v h1 h2 hv
      obtain ⟨m, rfl⟩ : ∃ j, m = j + 1 := ⟨m - 1, by omega⟩
      rw [f_X0_reachedFrom_b4_s]
      unfold f_X0_reachedFrom_b4B rt
      rw [h.1.1, if_neg (by rw [i_le, t_nI (by omega), t_nI (by omega)]; omega)]
      have inner : ∀ (b i m2 v : Nat), i + b = s → b < m2 → v < 2 ^ s → f_X0_reachedFrom_b15 (f_X0_reachedFrom_b4 31 m) 31 m2 (nI v) (nI t) (nI i) M = some (nI (rt p s a (rp p s b i v)), M) := by
        intro b
        induction b with
        | zero =>
          intro i m2 v g1 g2 hv
          obtain ⟨m2, rfl⟩ : ∃ j, m2 = j + 1 := ⟨m2 - 1, by omega⟩
          rw [f_X0_reachedFrom_b15_s]
          unfold f_X0_reachedFrom_b15B rp
          rw [h.1.1, show i = s by omega, if_pos (Int32.le_refl _), nm_q, nI_1]
          exact ih (t + 1) m v (by omega) (by omega) hv
        | succ b jh =>
          intro i m2 v g1 g2 hv
          obtain ⟨m2, rfl⟩ : ∃ j, m2 = j + 1 := ⟨m2 - 1, by omega⟩
          have hjh := jh (i + 1) m2 (st1 p s v i) (by omega) (by omega) (st_lt i hv)
          rw [f_X0_reachedFrom_b15_s]
          unfold f_X0_reachedFrom_b15B rp
          rw [h.1.1, if_neg (by rw [i_le, t_nI (by omega), t_nI (by omega)]; omega)]
          simp only [tb0 v (by omega) i (by omega), ck_k (show i < 6 by omega) (show 6 < 1000 by omega), nI_cl (show i < 2 ^ 31 by omega), fld_31_1, h.2 i (by omega), nm_q, bd_s, nI_1, nI_or]
          rw [← hjh]
          unfold st1
          by_cases q : v.testBit i = true
          · rw [if_neg (by rw [q]; decide), if_pos q]
          · rw [if_pos (by simpa using q), if_neg q]
      exact inner s 0 fuel v (by omega) (by show s < 1000; omega) hv
  exact l s 0 fuel v (by omega) (by show s < 1000; omega) hv

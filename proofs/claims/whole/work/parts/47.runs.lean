/-! runs: waited, seen -/
def wiB (f : Nat → Int32) (lo hi : Int32) : Nat → Nat → Bool
  | 0, _ => true
  | k + 1, i => (decide (lo ≤ f i) && decide (f i ≤ hi)) && wiB f lo hi k (i + 1)
def riB (f : Nat → Int32) : Nat → Nat → Bool
  | 0, _ => true
  | k + 1, i => decide (f (i - 1) ≤ f i) && riB f k (i + 1)
def gdB (p q : Nat → Int32) : Int32 → Nat → Nat → Bool
  | _, 0, _ => true
  | b, k + 1, i => ((decide (b ≤ p i) && decide (p i ≤ 100000)) && (decide (1 ≤ q i) && decide (q i ≤ 1000))) && gdB p q (p i) k (i + 1)
theorem wiB_iff {f : Nat → Int32} {lo hi : Int32} : ∀ k i, wiB f lo hi k i = true ↔ ∀ j, i ≤ j → j < i + k → lo ≤ f j ∧ f j ≤ hi
  | 0, i => by simp [wiB]; intro j h1 h2; omega
  | k + 1, i => by
    unfold wiB
    rw [Bool.and_eq_true, wiB_iff k (i + 1)]
    simp only [Bool.and_eq_true, decide_eq_true_eq]
    constructor
    · intro h j h1 h2
      by_cases e : j = i
      · subst e; exact h.1
      · exact h.2 j (by omega) (by omega)
    · intro h
      exact ⟨h i (by omega) (by omega), fun j h1 h2 => h j (by omega) (by omega)⟩
theorem riB_iff {f : Nat → Int32} : ∀ k i, riB f k i = true ↔ ∀ j, i ≤ j → j < i + k → f (j - 1) ≤ f j
  | 0, i => by simp [riB]; intro j h1 h2; omega
  | k + 1, i => by
    unfold riB
    rw [Bool.and_eq_true, riB_iff k (i + 1)]
    simp only [decide_eq_true_eq]
    constructor
    · intro h j h1 h2
      by_cases e : j = i
      · subst e; exact h.1
      · exact h.2 j (by omega) (by omega)
    · intro h
      exact ⟨h i (by omega) (by omega), fun j h1 h2 => h j (by omega) (by omega)⟩
theorem gdB_iff {p q : Nat → Int32} : ∀ k b i, gdB p q b k i = true ↔ ∀ j, i ≤ j → j < i + k → ((if j = i then b else p (j - 1)) ≤ p j ∧ p j ≤ 100000) ∧ 1 ≤ q j ∧ q j ≤ 1000
  | 0, b, i => by simp [gdB]; intro j h1 h2; omega
  | k + 1, b, i => by
    unfold gdB
    rw [Bool.and_eq_true, gdB_iff k (p i) (i + 1)]
    simp only [Bool.and_eq_true, decide_eq_true_eq]
    constructor
    · intro h j h1 h2
      by_cases e : j = i
      · subst e; rw [if_pos rfl]; exact h.1
      · have := h.2 j (by omega) (by omega)
        rw [if_neg e]
        by_cases e2 : j = i + 1
        · subst e2
          rw [if_pos rfl] at this
          exact this
        · rw [if_neg e2] at this
          exact this
    · intro h
      refine ⟨?_, fun j h1 h2 => ?_⟩
      · have := h i (by omega) (by omega)
        rw [if_pos rfl] at this
        exact this
      · have := h j (by omega) (by omega)
        rw [if_neg (by omega)] at this
        by_cases e2 : j = i + 1
        · subst e2
          rw [if_pos rfl]
          exact this
        · rw [if_neg e2]
          exact this
theorem gd_eq {p q : Nat → Int32} (n : Nat) : (wiB p 0 100000 n 0 && riB p (n - 1) 1 && wiB q 1 1000 n 0) = gdB p q 0 n 0 := by
  rw [Bool.eq_iff_iff, Bool.and_eq_true, Bool.and_eq_true, wiB_iff, riB_iff, wiB_iff, gdB_iff]
  constructor
  · intro ⟨⟨h1, h2⟩, h3⟩ j j1 j2
    refine ⟨⟨?_, (h1 j j1 j2).2⟩, h3 j j1 j2⟩
    by_cases e : j = 0
    · rw [if_pos e]; exact (h1 j j1 j2).1
    · rw [if_neg e]; exact h2 j (by omega) (by omega)
  · intro h
    have hp : ∀ j, j < n → 0 ≤ p j := by
      intro j
      induction j with
      | zero =>
        intro hj
        have := (h 0 (by omega) (by omega)).1.1
        rw [if_pos rfl] at this
        exact this
      | succ j ih =>
        intro hj
        have := (h (j + 1) (by omega) (by omega)).1.1
        rw [if_neg (by omega)] at this
        exact Int32.le_trans (ih (by omega)) this
    refine ⟨⟨fun j j1 j2 => ⟨hp j (by omega), (h j j1 j2).1.2⟩, fun j j1 j2 => ?_⟩, fun j j1 j2 => (h j j1 j2).2⟩
    have := (h j (by omega) (by omega)).1.1
    rw [if_neg (by omega)] at this
    exact this
theorem s_within {r : Nat} {M : Mm} {sz : Nf} {pl : Nat → Nat → Int32} {lo hi : Int32} (n : RowC sz pl M) (w : wfR sz) (hr : r < 6) (hs : sz r ≠ 41) : ∀ (k i m : Nat), i + k = sz r → k < m → f_X6_isWithin_b2 (10 + r) m lo hi (nI i) M = some (if wiB (pl r) lo hi k i = true then 1 else 0, M) := by
  have hw := w r hr
  intro k
  induction k with
  | zero =>
    intro i m h1 h2
    obtain ⟨m, rfl⟩ : ∃ j, m = j + 1 := ⟨m - 1, by omega⟩
    rw [f_X6_isWithin_b2_s]
    unfold f_X6_isWithin_b2B wiB
    rw [(n r hr).1, if_neg hs, if_pos (by rw [show i = sz r by omega]; exact Int32.le_refl _), if_pos rfl]
  | succ k ih =>
    intro i m h1 h2
    obtain ⟨m, rfl⟩ : ∃ j, m = j + 1 := ⟨m - 1, by omega⟩
    have hih := ih (i + 1) m (by omega) (by omega)
    rw [f_X6_isWithin_b2_s]
    unfold f_X6_isWithin_b2B wiB
    rw [(n r hr).1, if_neg hs, if_neg (by rw [i_le, t_nI (by omega), t_nI (by omega)]; omega)]
    simp only [s_rat n w hr hs (show i < sz r by omega), nm_q, bd_s, nI_1, hih]
    by_cases q1 : lo ≤ pl r i
    · rw [if_neg (by rw [i_lt]; rw [i_le] at q1; omega)]
      by_cases q2 : pl r i ≤ hi
      · rw [if_pos q2]; simp [q1, q2]
      · rw [if_neg q2]; simp [q2]
    · rw [if_pos (by rw [i_lt]; rw [i_le] at q1; omega)]; simp [q1]
theorem s_rising {r : Nat} {M : Mm} {sz : Nf} {pl : Nat → Nat → Int32} (n : RowC sz pl M) (w : wfR sz) (hr : r < 6) (hs : sz r ≠ 41) : ∀ (k i m : Nat), 1 ≤ i → (i + k = sz r ∨ (k = 0 ∧ sz r ≤ i ∧ i < 100)) → k < m → f_X6_isRising_b2 (10 + r) m (nI i) M = some (if riB (pl r) k i = true then 1 else 0, M) := by
  have hw := w r hr
  intro k
  induction k with
  | zero =>
    intro i m h0 h1 h2
    obtain ⟨m, rfl⟩ : ∃ j, m = j + 1 := ⟨m - 1, by omega⟩
    rw [f_X6_isRising_b2_s]
    unfold f_X6_isRising_b2B riB
    rw [(n r hr).1, if_neg hs, if_pos (by rw [i_le, t_nI (by omega), t_nI (by omega)]; omega), if_pos rfl]
  | succ k ih =>
    intro i m h0 h1 h2
    obtain ⟨m, rfl⟩ : ∃ j, m = j + 1 := ⟨m - 1, by omega⟩
    have hih := ih (i + 1) m (by omega) (by omega) (by omega)
    rw [f_X6_isRising_b2_s]
    unfold f_X6_isRising_b2B riB
    rw [(n r hr).1, if_neg hs, if_neg (by rw [i_le, t_nI (by omega), t_nI (by omega)]; omega)]
    rw [show nI i - 1 = nI (i - 1) by rw [show (1 : Int32) = nI 1 from rfl, pk_sub (by omega)]]
    simp only [s_rat n w hr hs (show i < sz r by omega), s_rat n w hr hs (show i - 1 < sz r by omega), nm_q, bd_s, nI_1, hih]
    by_cases q1 : pl r (i - 1) ≤ pl r i
    · rw [if_pos q1]; simp [q1]
    · rw [if_neg q1]; simp [q1]
/-- a run: when the hands are free, behind i things -/
def rnS (two : Bool) (p q : Nat → Int32) : Nat → Int32 × Int32
  | 0 => (0, 0)
  | i + 1 =>
    if two = true ∧ (rnS two p q i).2 < (rnS two p q i).1 then ((rnS two p q i).1, (if p i < (rnS two p q i).2 then (rnS two p q i).2 else p i) + q i)
    else ((if p i < (rnS two p q i).1 then (rnS two p q i).1 else p i) + q i, (rnS two p q i).2)
def rnW (two : Bool) (p q : Nat → Int32) (i : Nat) : Int32 :=
  (if two = true ∧ (rnS two p q i).2 < (rnS two p q i).1 then (if p i < (rnS two p q i).2 then (rnS two p q i).2 else p i) else (if p i < (rnS two p q i).1 then (rnS two p q i).1 else p i)) - p i
/-- the line's cell -/
def LM (M : Mm) (a b : Int32) (t : Bool) : Mm := sI (sI (sI M 6 0 a) 6 1 b) 6 2 (if t = true then 1 else 0)
theorem mI_LM (M : Mm) (a b : Int32) (t : Bool) (d k : Nat) : mI (LM M a b t) d k = if d = 6 ∧ k = 2 then (if t = true then 1 else 0) else if d = 6 ∧ k = 1 then b else if d = 6 ∧ k = 0 then a else mI M d k := rfl
theorem LM_0 (M : Mm) (a b c : Int32) (t : Bool) : sI (LM M a b t) 6 0 c = LM M c b t := by
  unfold LM sI
  refine Prod.ext ?_ rfl
  funext d k
  show (if d = 6 ∧ k = 0 then c else if d = 6 ∧ k = 2 then (if t = true then 1 else 0) else if d = 6 ∧ k = 1 then b else if d = 6 ∧ k = 0 then a else M.1 d k) = (if d = 6 ∧ k = 2 then (if t = true then (1 : Int32) else 0) else if d = 6 ∧ k = 1 then b else if d = 6 ∧ k = 0 then c else M.1 d k)
  by_cases h0 : d = 6 ∧ k = 0
  · rw [if_pos h0, if_neg (by omega), if_neg (by omega), if_pos h0]
  · rw [if_neg h0, if_neg h0, if_neg h0]
theorem LM_1 (M : Mm) (a b c : Int32) (t : Bool) : sI (LM M a b t) 6 1 c = LM M a c t := by
  unfold LM sI
  refine Prod.ext ?_ rfl
  funext d k
  show (if d = 6 ∧ k = 1 then c else if d = 6 ∧ k = 2 then (if t = true then 1 else 0) else if d = 6 ∧ k = 1 then b else if d = 6 ∧ k = 0 then a else M.1 d k) = (if d = 6 ∧ k = 2 then (if t = true then (1 : Int32) else 0) else if d = 6 ∧ k = 1 then c else if d = 6 ∧ k = 0 then a else M.1 d k)
  by_cases h1 : d = 6 ∧ k = 1
  · rw [if_pos h1, if_neg (by omega), if_pos h1]
  · rw [if_neg h1, if_neg h1, if_neg h1]
theorem s_serve (M : Mm) (a b x y : Int32) (t : Bool) : f_X3_serve 6 x y (LM M a b t) = some ((if t = true ∧ b < a then (if x < b then b else x) else (if x < a then a else x)) - x, if t = true ∧ b < a then LM M a ((if x < b then b else x) + y) t else LM M ((if x < a then a else x) + y) b t) := by
  unfold f_X3_serve f_X3_serve_b22 f_X3_serve_b23 f_X3_serve_b40
  simp only [mI_LM, nm_q, bd_s]
  have hn : ¬ (b < a) ↔ a ≤ b := by rw [i_lt, i_le]; omega
  cases t with
  | false =>
    simp [LM_0]
  | true =>
    by_cases q : b < a
    · have q2 : ¬ a ≤ b := by rw [← hn]; exact fun z => z q
      simp [q, q2, LM_1]
    · have q2 := hn.mp q
      simp [q, q2, LM_0]
theorem s_lbegin (M : Mm) {x : Int32} (t : Bool) (h : x = 2 ↔ t = true) : f_X3_begin 6 x M = some (LM M 0 0 t) := by
  unfold f_X3_begin f_X3_begin_b21
  simp only [nm_q, bd_s, h]
  cases t <;> rfl
theorem rc_LM {sz : Nf} {pl : Nat → Nat → Int32} {M : Mm} {a b : Int32} {t : Bool} (n : RowC sz pl M) : RowC sz pl (LM M a b t) := rc_sI (rc_sI (rc_sI n (by omega)) (by omega)) (by omega)
theorem rn_next (M : Mm) (two : Bool) (p q : Nat → Int32) (i : Nat) : f_X3_serve 6 (p i) (q i) (LM M (rnS two p q i).1 (rnS two p q i).2 two) = some (rnW two p q i, LM M (rnS two p q (i + 1)).1 (rnS two p q (i + 1)).2 two) := by
  rw [s_serve]
  unfold rnW
  rw [show rnS two p q (i + 1) = if two = true ∧ (rnS two p q i).2 < (rnS two p q i).1 then ((rnS two p q i).1, (if p i < (rnS two p q i).2 then (rnS two p q i).2 else p i) + q i) else ((if p i < (rnS two p q i).1 then (rnS two p q i).1 else p i) + q i, (rnS two p q i).2) from rfl]
  by_cases h : two = true ∧ (rnS two p q i).2 < (rnS two p q i).1
  · rw [if_pos h, if_pos h, if_pos h]
  · rw [if_neg h, if_neg h, if_neg h]

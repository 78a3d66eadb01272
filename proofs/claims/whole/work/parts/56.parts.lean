/-! the parts of a chain -/
def poB (R : Nat → Nat) (s i j : Nat) : Bool := decide (∀ u, u < s → j ≤ u → (R i).testBit u = true → i ≤ u ∧ R u = R i)
def clB (R : Nat → Nat) (s i j : Nat) : Bool := decide (∀ u, u < s → j ≤ u → (R i).testBit u = true → R u = R i)
def pn (R : Nat → Nat) (s : Nat) : Nat → Nat
  | 0 => 0
  | k + 1 => if poB R s k 0 = true then pn R s k + 1 else pn R s k
def ff (R : Nat → Nat) (s : Nat) : Nat → Nat
  | 0 => 0
  | k + 1 => if pn R s k = 0 then (if poB R s k 0 = true then R k else 0) else ff R s k
def un (R : Nat → Nat) (s : Nat) : Nat → Nat
  | 0 => 0
  | k + 1 => if poB R s k 0 = true then un R s k ||| R k else un R s k
theorem po_iff {R : Nat → Nat} {s i j : Nat} : poB R s i j = true ↔ ∀ u, u < s → j ≤ u → (R i).testBit u = true → i ≤ u ∧ R u = R i := by unfold poB; rw [decide_eq_true_eq]
theorem cl_iff {R : Nat → Nat} {s i j : Nat} : clB R s i j = true ↔ ∀ u, u < s → j ≤ u → (R i).testBit u = true → R u = R i := by unfold clB; rw [decide_eq_true_eq]
theorem un_iff {R : Nat → Nat} {s j : Nat} : ∀ i, (un R s i).testBit j = true ↔ ∃ k, k < i ∧ poB R s k 0 = true ∧ (R k).testBit j = true
  | 0 => by simp [un]
  | i + 1 => by
    unfold un
    by_cases h : poB R s i 0 = true
    · rw [if_pos h, Nat.testBit_or, Bool.or_eq_true, un_iff i]
      constructor
      · rintro (⟨k, a, b, c⟩ | c)
        · exact ⟨k, by omega, b, c⟩
        · exact ⟨i, by omega, h, c⟩
      · rintro ⟨k, a, b, c⟩
        by_cases e : k = i
        · subst e; exact Or.inr c
        · exact Or.inl ⟨k, by omega, b, c⟩
    · rw [if_neg h, un_iff i]
      constructor
      · rintro ⟨k, a, b, c⟩
        exact ⟨k, by omega, b, c⟩
      · rintro ⟨k, a, b, c⟩
        by_cases e : k = i
        · subst e; exact absurd b h
        · exact ⟨k, by omega, b, c⟩
theorem po_un {R : Nat → Nat} {s i : Nat} (hR : ∀ i, i < s → (R i).testBit i = true) (hi : i < s) : poB R s i 0 = true ↔ (un R s i).testBit i = false ∧ clB R s i 0 = true := by
  constructor
  · intro h
    have h' := po_iff.mp h
    refine ⟨?_, cl_iff.mpr fun u a b c => (h' u a b c).2⟩
    rw [Bool.eq_false_iff]
    intro q
    obtain ⟨k, a, b, c⟩ := (un_iff i).mp q
    have e := (po_iff.mp b i hi (by omega) c).2
    have := (h' k (by omega) (by omega) (by rw [e]; exact hR k (by omega))).1
    omega
  · intro ⟨h1, h2⟩
    have h2' := cl_iff.mp h2
    have key : ∀ m, m < i → (R i).testBit m = true → (∀ u, u < m → (R i).testBit u = false) → False := by
      intro m hm hb hl
      have e := h2' m (by omega) (by omega) hb
      have pm : poB R s m 0 = true := by
        refine po_iff.mpr fun u a b c => ?_
        rw [e] at c
        refine ⟨?_, by rw [e]; exact h2' u a b c⟩
        rcases Nat.lt_or_ge u m with q | q
        · rw [hl u q] at c; exact absurd c (by decide)
        · exact q
      have : (un R s i).testBit i = true := (un_iff i).mpr ⟨m, hm, pm, by rw [e]; exact hR i hi⟩
      rw [h1] at this
      exact absurd this (by decide)
    have none : ∀ m, m ≤ i → ∀ u, u < m → (R i).testBit u = false := by
      intro m
      induction m with
      | zero => intro _ u hu; omega
      | succ m ih =>
        intro hm u hu
        by_cases e : u = m
        · subst e
          rw [Bool.eq_false_iff]
          intro q
          exact key u (by omega) q (ih (by omega))
        · exact ih (by omega) u (by omega)
    refine po_iff.mpr fun u a b c => ⟨?_, h2' u a b c⟩
    rcases Nat.lt_or_ge u i with q | q
    · rw [none i (Nat.le_refl _) u q] at c; exact absurd c (by decide)
    · exact q
theorem pn_le {R : Nat → Nat} {s : Nat} : ∀ k, pn R s k ≤ k
  | 0 => Nat.le_refl _
  | k + 1 => by
    have := pn_le (R := R) (s := s) k
    unfold pn
    split <;> omega
theorem ff_c {R : Nat → Nat} {s i : Nat} (h : pn R s i ≠ 0) : ∀ d, pn R s (i + d) ≠ 0 ∧ ff R s (i + d) = ff R s i
  | 0 => ⟨h, rfl⟩
  | d + 1 => by
    have q := ff_c h d
    refine ⟨?_, ?_⟩
    · rw [show i + (d + 1) = (i + d) + 1 by omega]
      unfold pn
      split
      · omega
      · exact q.1
    · rw [show i + (d + 1) = (i + d) + 1 by omega, show ff R s (i + d + 1) = if pn R s (i + d) = 0 then (if poB R s (i + d) 0 = true then R (i + d) else 0) else ff R s (i + d) from rfl, if_neg q.1]
      exact q.2
theorem ff_z {R : Nat → Nat} {s : Nat} : ∀ k, pn R s k = 0 → ff R s k = 0
  | 0, _ => rfl
  | k + 1, h => by
    unfold pn at h
    by_cases q : poB R s k 0 = true
    · rw [if_pos q] at h; omega
    · rw [if_neg q] at h
      unfold ff
      rw [if_pos h, if_neg q]
theorem un_lt {R : Nat → Nat} {s : Nat} (hR : ∀ i, i < s → R i < 2 ^ s) : ∀ i, i ≤ s → un R s i < 2 ^ s
  | 0, _ => Nat.pow_pos (by omega)
  | i + 1, h => by
    have := un_lt hR i (by omega)
    unfold un
    split
    · exact Nat.or_lt_two_pow this (hR i (by omega))
    · exact this
theorem po_s1 {R : Nat → Nat} {s i j : Nat} (h : (R i).testBit j = false) : poB R s i j = true ↔ poB R s i (j + 1) = true := by
  rw [po_iff, po_iff]
  constructor
  · intro q u a b c; exact q u a (by omega) c
  · intro q u a b c
    by_cases e : u = j
    · subst e; rw [h] at c; exact absurd c (by decide)
    · exact q u a (by omega) c
theorem po_s2 {R : Nat → Nat} {s i j : Nat} (hj : j < s) (h : (R i).testBit j = true) : poB R s i j = true ↔ (i ≤ j ∧ R j = R i) ∧ poB R s i (j + 1) = true := by
  rw [po_iff, po_iff]
  constructor
  · intro q; exact ⟨q j hj (by omega) h, fun u a b c => q u a (by omega) c⟩
  · intro ⟨q1, q⟩ u a b c
    by_cases e : u = j
    · subst e; exact q1
    · exact q u a (by omega) c
theorem cl_s1 {R : Nat → Nat} {s i j : Nat} (h : (R i).testBit j = false) : clB R s i j = true ↔ clB R s i (j + 1) = true := by
  rw [cl_iff, cl_iff]
  constructor
  · intro q u a b c; exact q u a (by omega) c
  · intro q u a b c
    by_cases e : u = j
    · subst e; rw [h] at c; exact absurd c (by decide)
    · exact q u a (by omega) c
theorem cl_s2 {R : Nat → Nat} {s i j : Nat} (hj : j < s) (h : (R i).testBit j = true) : clB R s i j = true ↔ R j = R i ∧ clB R s i (j + 1) = true := by
  rw [cl_iff, cl_iff]
  constructor
  · intro q; exact ⟨q j hj (by omega) h, fun u a b c => q u a (by omega) c⟩
  · intro ⟨q1, q⟩ u a b c
    by_cases e : u = j
    · subst e; exact q1
    · exact q u a (by omega) c
/-- reached from one -/
def RR (p : Nat → Int32) (s i : Nat) : Nat := rt p s s (2 ^ i)
theorem RR_lt {p : Nat → Int32} {s i : Nat} (h : i < s) : RR p s i < 2 ^ s := rt_lt s _ (Nat.pow_lt_pow_right (by omega) h)
theorem st_up {p : Nat → Int32} {s v i u : Nat} (h : v.testBit u = true) : (st1 p s v i).testBit u = true := by
  unfold st1
  split
  · rw [Nat.testBit_or, h]; rfl
  · exact h
theorem rp_up {p : Nat → Int32} {s u : Nat} : ∀ k i v, v.testBit u = true → (rp p s k i v).testBit u = true
  | 0, _, _, h => h
  | k + 1, i, v, h => rp_up k (i + 1) _ (st_up h)
theorem rt_up {p : Nat → Int32} {s u : Nat} : ∀ k v, v.testBit u = true → (rt p s k v).testBit u = true
  | 0, _, h => h
  | k + 1, v, h => rt_up k _ (rp_up s 0 v h)
theorem RR_self {p : Nat → Int32} {s i : Nat} : (RR p s i).testBit i = true := rt_up s _ (by rw [Nat.testBit_two_pow]; simp)
theorem n_inj {a b : Nat} (ha : a < 1000) (hb : b < 1000) : nI a = nI b ↔ a = b := by rw [i_eq, t_nI (by omega), t_nI (by omega)]; omega
theorem s_partOf {M : Mm} {p : Nat → Int32} {s i : Nat} (h6 : s ≤ 6) (h : ChC M p s) (hi : i < s) : f_X0_partOf 32 (nI i) M = some (nI (if poB (RR p s) s i 0 = true then RR p s i else 0), M) := by
  have h64 := p2_le h6
  have hRl : ∀ i, i < s → RR p s i < 2 ^ s := fun i hi => RR_lt hi
  have hRi := hRl i hi
  have l : ∀ (a j m : Nat), j + a = s → a < m → f_X0_partOf_b10 32 m (nI i) (nI (RR p s i)) (nI j) M = some (nI (if poB (RR p s) s i j = true then RR p s i else 0), M) := by
    intro a
    induction a with
    | zero =>
      intro j m h1 h2
      obtain ⟨m, rfl⟩ : ∃ j, m = j + 1 := ⟨m - 1, by omega⟩
      rw [f_X0_partOf_b10_s]
      unfold f_X0_partOf_b10B
      rw [h.1.1, show j = s by omega, if_pos (Int32.le_refl _), if_pos (po_iff.mpr fun u a b => by omega)]
    | succ a ih =>
      intro j m h1 h2
      obtain ⟨m, rfl⟩ : ∃ j, m = j + 1 := ⟨m - 1, by omega⟩
      have hih := ih (j + 1) m (by omega) (by omega)
      have hRj := hRl j (by omega)
      have sr : f_X0_reachedFrom 32 (nI (2 ^ j)) M = some (nI (RR p s j), M) := s_reached h6 h (Nat.pow_lt_pow_right (by omega) (by omega))
      have kl : nI j < nI i ↔ j < i := by rw [i_lt, t_nI (by omega), t_nI (by omega)]; omega
      rw [f_X0_partOf_b10_s]
      unfold f_X0_partOf_b10B f_X0_partOf_b31
      rw [h.1.1, if_neg (by rw [i_le, t_nI (by omega), t_nI (by omega)]; omega)]
      simp only [tb0 (RR p s i) (by omega) j (by omega), sh1 j (by omega), sr, nm_q, bd_s, nI_1, hih, kl, n_inj (show RR p s j < 1000 by omega) (show RR p s i < 1000 by omega)]
      by_cases q : (RR p s i).testBit j = true
      · simp only [po_s2 (show j < s by omega) q]
        rw [if_neg (by rw [q]; decide), if_neg (by decide)]
        by_cases q1 : j < i
        · rw [if_pos q1, if_neg (fun z => by omega)]; rfl
        · rw [if_neg q1]
          by_cases q2 : RR p s j = RR p s i
          · rw [if_pos q2]
            simp only [q2, show i ≤ j by omega, true_and, and_self]
          · rw [if_neg q2, if_neg (fun z => q2 z.1.2)]; rfl
      · have q' : (RR p s i).testBit j = false := by simpa using q
        simp only [po_s1 q']
        rw [if_pos q', if_pos trivial]
  have sr : f_X0_reachedFrom 32 (nI (2 ^ i)) M = some (nI (RR p s i), M) := s_reached h6 h (Nat.pow_lt_pow_right (by omega) hi)
  unfold f_X0_partOf
  rw [sh1 i (by omega), sr, bd_s]
  exact l s 0 fuel (by omega) (by show s < 1000; omega)
theorem po_nz {p : Nat → Int32} {s i : Nat} (h6 : s ≤ 6) (hi : i < s) : nI (if poB (RR p s) s i 0 = true then RR p s i else 0) = 0 ↔ ¬ poB (RR p s) s i 0 = true := by
  have h64 := p2_le h6
  have hl := RR_lt (p := p) hi
  have hz : RR p s i ≠ 0 := fun z => by
    have := RR_self (p := p) (s := s) (i := i)
    rw [z] at this
    simp at this
  by_cases q : poB (RR p s) s i 0 = true
  · rw [if_pos q, show (0 : Int32) = nI 0 from rfl, n_inj (by omega) (by omega)]
    exact ⟨fun z => absurd z hz, fun z => absurd q z⟩
  · rw [if_neg q]
    exact ⟨fun _ => q, fun _ => rfl⟩
theorem s_partsThere {M : Mm} {p : Nat → Int32} {s : Nat} (h6 : s ≤ 6) (h : ChC M p s) : f_X0_partsThere 32 M = some (nI (pn (RR p s) s s), M) := by
  have l : ∀ (a i m : Nat), i + a = s → a < m → f_X0_partsThere_b4 32 m (nI (pn (RR p s) s i)) (nI i) M = some (nI (pn (RR p s) s s), M) := by
    intro a
    induction a with
    | zero =>
      intro j m h1 h2
      obtain ⟨m, rfl⟩ : ∃ j, m = j + 1 := ⟨m - 1, by omega⟩
      rw [f_X0_partsThere_b4_s]
      unfold f_X0_partsThere_b4B
      rw [h.1.1, show j = s by omega, if_pos (Int32.le_refl _)]
    | succ a ih =>
      intro i m h1 h2
      obtain ⟨m, rfl⟩ : ∃ j, m = j + 1 := ⟨m - 1, by omega⟩
      have hih := ih (i + 1) m (by omega) (by omega)
      rw [show pn (RR p s) s (i + 1) = if poB (RR p s) s i 0 = true then pn (RR p s) s i + 1 else pn (RR p s) s i from rfl] at hih
      rw [f_X0_partsThere_b4_s]
      unfold f_X0_partsThere_b4B
      rw [h.1.1, if_neg (by rw [i_le, t_nI (by omega), t_nI (by omega)]; omega)]
      simp only [s_partOf h6 h (show i < s by omega), nm_q, bd_s, nI_1, po_nz h6 (show i < s by omega)]
      by_cases q : poB (RR p s) s i 0 = true
      · rw [if_pos q] at hih
        rw [if_neg (fun z => z q)]
        exact hih
      · rw [if_neg q] at hih
        rw [if_pos q]
        exact hih
  exact l s 0 fuel (by omega) (by show s < 1000; omega)
theorem s_firstPart {M : Mm} {p : Nat → Int32} {s : Nat} (h6 : s ≤ 6) (h : ChC M p s) : f_X0_firstPart 32 M = some (nI (ff (RR p s) s s), M) := by
  have l : ∀ (a i m : Nat), i + a = s → a < m → pn (RR p s) s i = 0 → f_X0_firstPart_b2 32 m (nI i) M = some (nI (ff (RR p s) s s), M) := by
    intro a
    induction a with
    | zero =>
      intro i m h1 h2 hp
      obtain ⟨m, rfl⟩ : ∃ j, m = j + 1 := ⟨m - 1, by omega⟩
      rw [f_X0_firstPart_b2_s]
      unfold f_X0_firstPart_b2B
      rw [show i = s by omega] at hp ⊢
      rw [h.1.1, if_pos (Int32.le_refl _), ff_z s hp]
      rfl
    | succ a ih =>
      intro i m h1 h2 hp
      obtain ⟨m, rfl⟩ : ∃ j, m = j + 1 := ⟨m - 1, by omega⟩
      have hih := ih (i + 1) m (by omega) (by omega)
      rw [show pn (RR p s) s (i + 1) = if poB (RR p s) s i 0 = true then pn (RR p s) s i + 1 else pn (RR p s) s i from rfl] at hih
      rw [f_X0_firstPart_b2_s]
      unfold f_X0_firstPart_b2B
      rw [h.1.1, if_neg (by rw [i_le, t_nI (by omega), t_nI (by omega)]; omega)]
      simp only [s_partOf h6 h (show i < s by omega), nm_q, bd_s, nI_1, po_nz h6 (show i < s by omega)]
      by_cases q : poB (RR p s) s i 0 = true
      · rw [if_neg (fun z => z q), if_pos q]
        have e1 : pn (RR p s) s (i + 1) ≠ 0 := by unfold pn; rw [if_pos q]; omega
        have e2 := (ff_c e1 a).2
        rw [show i + 1 + a = s by omega] at e2
        rw [e2]
        unfold ff
        rw [if_pos hp, if_pos q]
      · rw [if_neg q] at hih
        rw [if_pos q]
        exact hih hp
  exact l s 0 fuel (by omega) (by show s < 1000; omega) rfl

/-! chains: their sides and rates -/
def sdN (n : Nat) : Nat := if n = 4 then 2 else if n = 9 then 3 else if n = 16 then 4 else if n = 25 then 5 else if n = 36 then 6 else 0
theorem sd_le (n : Nat) : sdN n = 0 ∨ (2 ≤ sdN n ∧ sdN n ≤ 6 ∧ n = sdN n * sdN n) := by
  unfold sdN
  repeat' split
  all_goals omega
theorem n_mul (a b : Nat) : nI a * nI b = nI (a * b) := pk_mul a b
theorem s_sideStep {r : Nat} {M : Mm} {sz : Nf} {pl : Nat → Nat → Int32} (n : RowC sz pl M) (w : wfR sz) (hr : r < 6) (hs : sz r ≠ 41) {v : Nat} (hv : v ≤ 6) (m : Nat) : f_X6_side_b2 (10 + r) (m + 1) (nI v) M = if sz r = v * v then some (nI v, M) else f_X6_side_b2 (10 + r) m (nI (v + 1)) M := by
  have hw := w r hr
  have hvv : v * v ≤ 36 := Nat.mul_le_mul hv hv
  rw [f_X6_side_b2_s]
  unfold f_X6_side_b2B
  have ke : nI (v * v) = nI (sz r) ↔ sz r = v * v := by rw [i_eq, t_nI (by omega), t_nI (by omega)]; omega
  rw [if_neg (by rw [i_lt, t_nI (by omega), li_6]; omega)]
  simp only [(n r hr).1, if_neg hs, n_mul, ke, nm_q, bd_s, nI_1]
theorem s_side {r : Nat} {M : Mm} {sz : Nf} {pl : Nat → Nat → Int32} (n : RowC sz pl M) (w : wfR sz) (hr : r < 6) (hs : sz r ≠ 41) : f_X6_side (10 + r) M = some (nI (sdN (sz r)), M) := by
  unfold f_X6_side
  have st := fun v (hv : v ≤ 6) m => s_sideStep (v := v) n w hr hs hv m
  rw [show fuel = 993 + 1 + 1 + 1 + 1 + 1 + 1 + 1 from rfl, show (2 : Int32) = nI 2 from rfl, st 2 (by omega), st 3 (by omega), st 4 (by omega), st 5 (by omega), st 6 (by omega), f_X6_side_b2_s]
  unfold f_X6_side_b2B sdN
  rw [if_pos (show (6 : Int32) < nI (6 + 1) by decide)]
  by_cases e2 : sz r = 4
  · simp [e2]
  · by_cases e3 : sz r = 9
    · simp [e3]
    · by_cases e4 : sz r = 16
      · simp [e4]
      · by_cases e5 : sz r = 25
        · simp [e5]
        · by_cases e6 : sz r = 36
          · simp [e6]
          · simp [e2, e3, e4, e5, e6]; rfl
theorem s_chStep {r : Nat} {M : Mm} {sz : Nf} {pl : Nat → Nat → Int32} (n : RowR sz pl M) (w : wfR sz) (hr : r < 6) (hs : sz r ≠ 41) {v : Nat} (hv : v < 6) (m : Nat) : f_X9_askedChain_b14 1 (m + 1) (nI r) (nI v) M = if sz r ≤ v * v then some (if sz r = v * v then (nI v, M) else (-3, RM M 5)) else f_X9_askedChain_b14 1 m (nI r) (nI (v + 1)) M := by
  have hw := w r hr
  have hvv : v * v ≤ 36 := Nat.mul_le_mul (show v ≤ 6 by omega) (show v ≤ 6 by omega)
  rw [f_X9_askedChain_b14_s]
  unfold f_X9_askedChain_b14B f_X9_askedChain_b38
  have ke : nI (v * v) = nI (sz r) ↔ sz r = v * v := by rw [i_eq, t_nI (by omega), t_nI (by omega)]; omega
  have kl : nI (sz r) ≤ nI (v * v) ↔ sz r ≤ v * v := by rw [i_le, t_nI (by omega), t_nI (by omega)]; omega
  rw [if_neg (by rw [i_le, t_nI (by omega), li_6]; omega)]
  simp only [fld_1_5, nI_cl (show r < 2 ^ 31 by omega), ck_k hr (show 6 < 1000 by omega), (n r hr).1, if_neg hs, n_mul, ke, kl, nm_q, bd_s, nI_1, s_met5]
  by_cases q : sz r ≤ v * v
  · simp only [q, if_true]
    by_cases q2 : sz r = v * v
    · rw [if_pos q2, if_pos q2]
    · rw [if_neg q2, if_neg q2]
  · simp only [q, if_false]
theorem s_askedChain {r : Nat} {M : Mm} {sz : Nf} {pl : Nat → Nat → Int32} (n : RowR sz pl M) (w : wfR sz) (hr : r < 6) (hs : sz r ≠ 41) : f_X9_askedChain 1 (nI r) M = some (if sdN (sz r) = 0 then (-3, RM M 5) else (nI (sdN (sz r)), M)) := by
  unfold f_X9_askedChain
  have st := fun v (hv : v < 6) m => s_chStep (v := v) n w hr hs hv m
  have hw := w r hr
  simp only [s_askedRow n w hr, if_neg hs, nm_q, bd_s]
  rw [if_pos (by decide), show fuel = 993 + 1 + 1 + 1 + 1 + 1 + 1 + 1 from rfl, show (2 : Int32) = nI 2 from rfl, st 2 (by omega), st 3 (by omega), st 4 (by omega), st 5 (by omega), f_X9_askedChain_b14_s]
  unfold f_X9_askedChain_b14B f_X9_askedChain_b38 sdN
  have ke : nI 36 = nI (sz r) ↔ sz r = 36 := by rw [i_eq, t_nI (by omega), t_nI (by omega)]; omega
  simp only [show (6 : Int32) ≤ nI (5 + 1) by decide, if_true, show nI (5 + 1) * nI (5 + 1) = nI 36 by decide, fld_1_5, nI_cl (show r < 2 ^ 31 by omega), ck_k hr (show 6 < 1000 by omega), (n r hr).1, if_neg hs, ke, nm_q, bd_s, s_met5]
  by_cases q4 : sz r ≤ 4
  · rw [if_pos q4]
    by_cases e : sz r = 4
    · simp [e]
    · simp [e, show ¬ sz r = 9 by omega, show ¬ sz r = 16 by omega, show ¬ sz r = 25 by omega, show ¬ sz r = 36 by omega]
  · rw [if_neg q4]
    by_cases q9 : sz r ≤ 9
    · rw [if_pos q9]
      by_cases e : sz r = 9
      · simp [e]
      · simp [e, show ¬ sz r = 4 by omega, show ¬ sz r = 16 by omega, show ¬ sz r = 25 by omega, show ¬ sz r = 36 by omega]
    · rw [if_neg q9]
      by_cases q16 : sz r ≤ 16
      · rw [if_pos q16]
        by_cases e : sz r = 16
        · simp [e]
        · simp [e, show ¬ sz r = 4 by omega, show ¬ sz r = 9 by omega, show ¬ sz r = 25 by omega, show ¬ sz r = 36 by omega]
      · rw [if_neg q16]
        by_cases q25 : sz r ≤ 25
        · rw [if_pos q25]
          by_cases e : sz r = 25
          · simp [e]
          · simp [e, show ¬ sz r = 4 by omega, show ¬ sz r = 9 by omega, show ¬ sz r = 16 by omega, show ¬ sz r = 36 by omega]
        · rw [if_neg q25]
          by_cases e : sz r = 36
          · simp [e]
          · simp [e, show ¬ sz r = 4 by omega, show ¬ sz r = 9 by omega, show ¬ sz r = 16 by omega, show ¬ sz r = 25 by omega]
/-- the rates from place t on are sound -/
def okB (p : Nat → Int32) (s t : Nat) : Bool := decide (∀ u, u < s * s → t ≤ u → u % (s + 1) ≠ 0 → 0 ≤ (p u).toInt ∧ (p u).toInt ≤ 12)
abbrev okT (p : Nat → Int32) (s t : Nat) : Prop := okB p s t = true
theorem ok_iff {p : Nat → Int32} {s t : Nat} : okT p s t ↔ ∀ u, t ≤ u → u < s * s → u % (s + 1) ≠ 0 → 0 ≤ (p u).toInt ∧ (p u).toInt ≤ 12 := by
  unfold okT okB
  rw [decide_eq_true_eq]
  exact ⟨fun h u a b => h u b a, fun h u a b => h u b a⟩
theorem ok_end {p : Nat → Int32} {s t : Nat} (h : s * s ≤ t) : okT p s t := ok_iff.mpr fun u a b => absurd b (by omega)
theorem ok_s1 {p : Nat → Int32} {s t : Nat} (h : t < s * s) (hd : t % (s + 1) = 0) : okT p s t ↔ okT p s (t + 1) := by
  rw [ok_iff, ok_iff]
  constructor
  · intro q u a b c; exact q u (by omega) b c
  · intro q u a b c
    by_cases e : u = t
    · subst e; exact absurd hd c
    · exact q u (by omega) b c
theorem ok_s2 {p : Nat → Int32} {s t : Nat} (h : t < s * s) (hd : t % (s + 1) ≠ 0) : okT p s t ↔ (0 ≤ (p t).toInt ∧ (p t).toInt ≤ 12) ∧ okT p s (t + 1) := by
  rw [ok_iff, ok_iff]
  constructor
  · intro q
    exact ⟨q t (by omega) h hd, fun u a b c => q u (by omega) b c⟩
  · intro ⟨q1, q⟩ u a b c
    by_cases e : u = t
    · subst e; exact q1
    · exact q u (by omega) b c
theorem dg : ∀ s, s ≤ 6 → ∀ i, i < s → ∀ j, j < s → ((i * s + j) % (s + 1) = 0 ↔ i = j) := by decide
theorem ij_lt {i j s : Nat} (hi : i < s) (hj : j < s) : i * s + j < s * s := by
  have : (i + 1) * s ≤ s * s := Nat.mul_le_mul_right s hi
  rw [Nat.add_mul] at this
  omega
theorem s_hr {r : Nat} {M : Mm} {sz : Nf} {pl : Nat → Nat → Int32} (n : RowC sz pl M) (w : wfR sz) (hr : r < 6) (hs : sz r ≠ 41) {s : Nat} (h6 : s ≤ 6) (e : sz r = s * s) : ∀ (a i m : Nat), i + a = s → a < m → f_X6_holdsRates_b2 (10 + r) m (nI s) (nI i) M = some (if okT (pl r) s (i * s) then 1 else 0, M) := by
  intro a
  induction a with
  | zero =>
    intro i m h1 h2
    obtain ⟨m, rfl⟩ : ∃ j, m = j + 1 := ⟨m - 1, by omega⟩
    rw [f_X6_holdsRates_b2_s]
    unfold f_X6_holdsRates_b2B
    rw [show i = s by omega, if_pos (Int32.le_refl _), if_pos (ok_end (Nat.le_refl _))]
  | succ a ih =>
    intro i m h1 h2
    obtain ⟨m, rfl⟩ : ∃ j, m = j + 1 := ⟨m - 1, by omega⟩
    have hih := ih (i + 1) m (by omega) (by omega)
    rw [f_X6_holdsRates_b2_s]
    unfold f_X6_holdsRates_b2B
    rw [if_neg (by rw [i_le, t_nI (by omega), t_nI (by omega)]; omega)]
    have inner : ∀ (b j m2 : Nat), j + b = s → b < m2 → f_X6_holdsRates_b9 (f_X6_holdsRates_b2 (10 + r) m) (10 + r) m2 (nI s) (nI i) (nI j) M = some (if okT (pl r) s (i * s + j) then 1 else 0, M) := by
      intro b
      induction b with
      | zero =>
        intro j m2 g1 g2
        obtain ⟨m2, rfl⟩ : ∃ j, m2 = j + 1 := ⟨m2 - 1, by omega⟩
        rw [f_X6_holdsRates_b9_s]
        unfold f_X6_holdsRates_b9B
        rw [show j = s by omega, if_pos (Int32.le_refl _)]
        simp only [nm_q, bd_s, nI_1, hih, show (i + 1) * s = i * s + s by rw [Nat.add_mul]; omega]
      | succ b jh =>
        intro j m2 g1 g2
        obtain ⟨m2, rfl⟩ : ∃ j, m2 = j + 1 := ⟨m2 - 1, by omega⟩
        have hjh := jh (j + 1) m2 (by omega) (by omega)
        have hlt : i * s + j < s * s := ij_lt (by omega) (by omega)
        have hd := dg s h6 i (by omega) j (by omega)
        have ke : nI i = nI j ↔ i = j := by rw [i_eq, t_nI (by omega), t_nI (by omega)]; omega
        rw [f_X6_holdsRates_b9_s]
        unfold f_X6_holdsRates_b9B
        rw [if_neg (by rw [i_le, t_nI (by omega), t_nI (by omega)]; omega)]
        simp only [n_mul, nI_add, s_rat n w hr hs (show i * s + j < sz r by omega), nm_q, bd_s, nI_1, hjh, ke, i_lt, i_le, li_0, li_12]
        by_cases q : i = j
        · rw [if_pos q]
          simp only [ok_s1 hlt (hd.mpr q), Nat.add_assoc]
        · rw [if_neg q]
          simp only [ok_s2 hlt (fun z => q (hd.mp z)), Nat.add_assoc]
          by_cases q1 : (pl r (i * s + j)).toInt < 0
          · rw [if_pos q1, if_neg (fun z => by omega)]
          · rw [if_neg q1]
            by_cases q2 : (pl r (i * s + j)).toInt ≤ 12
            · rw [if_pos q2]
              simp [q2, show 0 ≤ (pl r (i * s + j)).toInt by omega]
            · rw [if_neg q2, if_neg (fun z => by omega)]
    have := inner s 0 fuel (by omega) (by show s < 1000; omega)
    exact this
theorem s_holds {r : Nat} {M : Mm} {sz : Nf} {pl : Nat → Nat → Int32} (n : RowC sz pl M) (w : wfR sz) (hr : r < 6) (hs : sz r ≠ 41) {s : Nat} (h6 : s ≤ 6) (e : sz r = s * s) : f_X6_holdsRates (10 + r) (nI s) M = some (if okT (pl r) s 0 then 1 else 0, M) := by
  have := s_hr n w hr hs h6 e s 0 fuel (by omega) (by show s < 1000; omega)
  rw [Nat.zero_mul] at this
  exact this
theorem md_n {t s : Nat} (ht : t < 1000) (hs : s < 1000) : nI t - nI t / nI (s + 1) * nI (s + 1) = nI (t % (s + 1)) := by
  have h1 : (nI t / nI (s + 1)) = nI (t / (s + 1)) := by
    have q : t / (s + 1) ≤ t := Nat.div_le_self _ _
    rw [i_eq, t_nI (by omega)]
    rw [Int32.toInt_div, t_nI (by omega), t_nI (by omega)]
    rw [Int.tdiv_eq_ediv_of_nonneg (by omega)]
    rw [← Int.natCast_ediv]
    generalize t / (s + 1) = d at q ⊢
    exact Int.bmod_eq_of_le (by omega) (by omega)
  have h2 : t / (s + 1) * (s + 1) ≤ t := Nat.div_mul_le_self _ _
  have h3 := Nat.div_add_mod t (s + 1)
  rw [h1, n_mul, pk_sub (by omega)]
  congr 1
  rw [Nat.mul_comm] at h3
  omega
theorem s_ar {r : Nat} {M : Mm} {sz : Nf} {pl : Nat → Nat → Int32} (n : RowR sz pl M) (w : wfR sz) (hr : r < 6) (hs : sz r ≠ 41) {s : Nat} (h6 : s ≤ 6) (e : sz r = s * s) : ∀ (a t m : Nat) (v : Int32), (v = 0 ∨ v = 1) → t + a = s * s → a < m → f_X9_areRates_b5 1 m (nI r) (nI s) v (nI t) M = some (if v = 1 ∧ okT (pl r) s t then 1 else 0, M) := by
  have hw := w r hr
  intro a
  induction a with
  | zero =>
    intro t m v hv h1 h2
    obtain ⟨m, rfl⟩ : ∃ j, m = j + 1 := ⟨m - 1, by omega⟩
    rw [f_X9_areRates_b5_s]
    unfold f_X9_areRates_b5B
    rw [show t = s * s by omega, n_mul, if_pos (Int32.le_refl _)]
    rcases hv with rfl | rfl
    · rw [bz_0, if_neg (by simp)]
    · rw [bz_1, if_pos ⟨rfl, ok_end (Nat.le_refl _)⟩]
  | succ a ih =>
    intro t m v hv h1 h2
    obtain ⟨m, rfl⟩ : ∃ j, m = j + 1 := ⟨m - 1, by omega⟩
    have ih1 := ih (t + 1) m 1 (Or.inr rfl) (by omega) (by omega)
    have ih0 := ih (t + 1) m 0 (Or.inl rfl) (by omega) (by omega)
    rw [f_X9_areRates_b5_s]
    unfold f_X9_areRates_b5B f_X9_areRates_b47
    rw [n_mul, if_neg (by rw [i_le, t_nI (by omega), t_nI (by omega)]; omega)]
    rcases hv with rfl | rfl
    · rw [if_pos rfl]
      simp only [nm_q, bd_s, nI_1, ih0]
      simp
    · rw [if_neg (by decide)]
      have kz : nI (t % (s + 1)) = 0 ↔ t % (s + 1) = 0 := by
        have : t % (s + 1) < s + 1 := Nat.mod_lt _ (by omega)
        rw [i_eq, t_nI (by omega), li_0]; omega
      rw [nI_1, dvI_ok (by rw [i_eq, t_nI (by omega), li_0]; omega)]
      simp only [md_n (show t < 1000 by omega) (show s < 1000 by omega), kz, ck_p hr (show t < 40 by omega), cl_p hr (show t < 40 by omega), fld_1_6, (n r hr).2 hs t (by omega), s_in, li_0, li_12, nm_q, bd_s, nI_1, ih1, ih0]
      by_cases q : t % (s + 1) = 0
      · rw [if_pos q]
        simp only [ok_s1 (show t < s * s by omega) q]
      · rw [if_neg q]
        simp only [ok_s2 (show t < s * s by omega) q]
        by_cases q1 : 0 ≤ (pl r t).toInt ∧ (pl r t).toInt ≤ 12
        · simp [q1]
        · simp [q1]
theorem s_areRates {r : Nat} {M : Mm} {sz : Nf} {pl : Nat → Nat → Int32} (n : RowR sz pl M) (w : wfR sz) (hr : r < 6) (hs : sz r ≠ 41) {s : Nat} (h6 : s ≤ 6) (e : sz r = s * s) : f_X9_areRates 1 (nI r) (nI s) M = some (if okT (pl r) s 0 then 1 else 0, M) := by
  have hw := w r hr
  have := s_ar n w hr hs h6 e (s * s) 0 fuel 1 (Or.inr rfl) (by omega) (by show s * s < 1000; omega)
  simp only [true_and] at this
  exact this

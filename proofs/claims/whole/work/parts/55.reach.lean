/-! what is reached -/
def st1 (p : Nat → Int32) (s v i : Nat) : Nat := if v.testBit i = true then v ||| mk (ld p s i) s else v
def rp (p : Nat → Int32) (s : Nat) : Nat → Nat → Nat → Nat
  | 0, _, v => v
  | k + 1, i, v => rp p s k (i + 1) (st1 p s v i)
def rt (p : Nat → Int32) (s : Nat) : Nat → Nat → Nat
  | 0, v => v
  | k + 1, v => rt p s k (rp p s s 0 v)
theorem p2_le {s : Nat} (h : s ≤ 6) : 2 ^ s ≤ 64 := by
  have : 2 ^ s ≤ 2 ^ 6 := Nat.pow_le_pow_right (by omega) h
  omega
theorem st_lt {p : Nat → Int32} {s v : Nat} (i : Nat) (h : v < 2 ^ s) : st1 p s v i < 2 ^ s := by
  unfold st1
  split
  · exact Nat.or_lt_two_pow h (mk_lt _ _)
  · exact h
theorem rp_lt {p : Nat → Int32} {s : Nat} : ∀ k i v, v < 2 ^ s → rp p s k i v < 2 ^ s
  | 0, _, _, h => h
  | k + 1, i, v, h => rp_lt k (i + 1) _ (st_lt i h)
theorem rt_lt {p : Nat → Int32} {s : Nat} : ∀ k v, v < 2 ^ s → rt p s k v < 2 ^ s
  | 0, _, h => h
  | k + 1, v, h => rt_lt k _ (rp_lt s 0 v h)
theorem s_reached {M : Mm} {p : Nat → Int32} {s : Nat} (h6 : s ≤ 6) (h : ChC M p s) {v : Nat} (hv : v < 2 ^ s) : f_X0_reachedFrom 32 (nI v) M = some (nI (rt p s s v), M) := by
  have h64 := p2_le h6
  have l : ∀ (a t m v : Nat), t + a = s → a < m → v < 2 ^ s → f_X0_reachedFrom_b4 32 m (nI v) (nI t) M = some (nI (rt p s a v), M) := by
    intro a
    induction a with
    | zero =>
      intro t m v h1 h2 hv
      obtain ⟨m, rfl⟩ : ∃ j, m = j + 1 := ⟨m - 1, by omega⟩
      rw [f_X0_reachedFrom_b4_s]
      unfold f_X0_reachedFrom_b4B rt
      rw [h.1.1, show t = s by omega, if_pos (Int32.le_refl _)]
    | succ a ih =>
      intro t m v h1 h2 hv
      obtain ⟨m, rfl⟩ : ∃ j, m = j + 1 := ⟨m - 1, by omega⟩
      rw [f_X0_reachedFrom_b4_s]
      unfold f_X0_reachedFrom_b4B rt
      rw [h.1.1, if_neg (by rw [i_le, t_nI (by omega), t_nI (by omega)]; omega)]
      have inner : ∀ (b i m2 v : Nat), i + b = s → b < m2 → v < 2 ^ s → f_X0_reachedFrom_b15 (f_X0_reachedFrom_b4 32 m) 32 m2 (nI v) (nI t) (nI i) M = some (nI (rt p s a (rp p s b i v)), M) := by
        intro b
        induction b with
        | zero =>
          intro i m2 v g1 g2 hv
          obtain ⟨m2, rfl⟩ : ∃ j, m2 = j + 1 := ⟨m2 - 1, by omega⟩
          rw [f_X0_reachedFrom_b15_s]
          unfold f_X0_reachedFrom_b15B rp
          rw [h.1.1, show i = s by omega, if_pos (Int32.le_refl _), nm_q, nI_1]
          exact ih (t + 1) m v (by omega) (by omega) hv
        | succ b jh =>
          intro i m2 v g1 g2 hv
          obtain ⟨m2, rfl⟩ : ∃ j, m2 = j + 1 := ⟨m2 - 1, by omega⟩
          have hjh := jh (i + 1) m2 (st1 p s v i) (by omega) (by omega) (st_lt i hv)
          rw [f_X0_reachedFrom_b15_s]
          unfold f_X0_reachedFrom_b15B rp
          rw [h.1.1, if_neg (by rw [i_le, t_nI (by omega), t_nI (by omega)]; omega)]
          simp only [tb0 v (by omega) i (by omega), ck_k (show i < 6 by omega) (show 6 < 1000 by omega), nI_cl (show i < 2 ^ 31 by omega), fld_32_1, h.2 i (by omega), nm_q, bd_s, nI_1, nI_or]
          rw [← hjh]
          unfold st1
          by_cases q : v.testBit i = true
          · rw [if_neg (by rw [q]; decide), if_pos q]
          · rw [if_pos (by simpa using q), if_neg q]
      exact inner s 0 fuel v (by omega) (by show s < 1000; omega) hv
  exact l s 0 fuel v (by omega) (by show s < 1000; omega) hv
theorem s_comesTo {M : Mm} {sz : Nf} {pl : Nat → Nat → Int32} {r s i : Nat} (n : RowR sz pl M) (w : wfR sz) (hr : r < 6) (hs : sz r ≠ 41) (h6 : s ≤ 6) (e : sz r = s * s) (hi : i < s) : f_X9_comesTo 1 (nI r) (nI s) (nI i) M = some (nI (rt (pl r) s s (2 ^ i)), M) := by
  have h64 := p2_le h6
  have l : ∀ (a t m v : Nat), t + a = s → a < m → v < 2 ^ s → f_X9_comesTo_b8 1 m (nI r) (nI s) (nI v) (nI t) M = some (nI (rt (pl r) s a v), M) := by
    intro a
    induction a with
    | zero =>
      intro t m v h1 h2 hv
      obtain ⟨m, rfl⟩ : ∃ j, m = j + 1 := ⟨m - 1, by omega⟩
      rw [f_X9_comesTo_b8_s]
      unfold f_X9_comesTo_b8B rt
      rw [show t = s by omega, if_pos (Int32.le_refl _)]
    | succ a ih =>
      intro t m v h1 h2 hv
      obtain ⟨m, rfl⟩ : ∃ j, m = j + 1 := ⟨m - 1, by omega⟩
      rw [f_X9_comesTo_b8_s]
      unfold f_X9_comesTo_b8B rt
      rw [if_neg (by rw [i_le, t_nI (by omega), t_nI (by omega)]; omega)]
      have mid : ∀ (b i m2 v : Nat), i + b = s → b < m2 → v < 2 ^ s → f_X9_comesTo_b17 (f_X9_comesTo_b8 1 m) 1 m2 (nI r) (nI s) (nI v) (nI t) (nI i) M = some (nI (rt (pl r) s a (rp (pl r) s b i v)), M) := by
        intro b
        induction b with
        | zero =>
          intro i m2 v g1 g2 hv
          obtain ⟨m2, rfl⟩ : ∃ j, m2 = j + 1 := ⟨m2 - 1, by omega⟩
          rw [f_X9_comesTo_b17_s]
          unfold f_X9_comesTo_b17B rp
          rw [show i = s by omega, if_pos (Int32.le_refl _), nm_q, nI_1]
          exact ih (t + 1) m v (by omega) (by omega) hv
        | succ b jh =>
          intro i m2 v g1 g2 hv
          obtain ⟨m2, rfl⟩ : ∃ j, m2 = j + 1 := ⟨m2 - 1, by omega⟩
          have hjh := jh (i + 1) m2 (st1 (pl r) s v i) (by omega) (by omega) (st_lt i hv)
          rw [f_X9_comesTo_b17_s]
          unfold f_X9_comesTo_b17B rp
          rw [if_neg (by rw [i_le, t_nI (by omega), t_nI (by omega)]; omega)]
          have inner : ∀ (c j m3 : Nat), j + c = s → c < m3 → f_X9_comesTo_b26 (f_X9_comesTo_b8 1 m) (f_X9_comesTo_b17 (f_X9_comesTo_b8 1 m) 1 m2) 1 m3 (nI r) (nI s) (nI (if v.testBit i = true then v ||| mk (ld (pl r) s i) j else v)) (nI t) (nI i) (nI j) M = some (nI (rt (pl r) s a (rp (pl r) s b (i + 1) (st1 (pl r) s v i))), M) := by
            intro c
            induction c with
            | zero =>
              intro j m3 k1 k2
              obtain ⟨m3, rfl⟩ : ∃ j, m3 = j + 1 := ⟨m3 - 1, by omega⟩
              rw [f_X9_comesTo_b26_s]
              unfold f_X9_comesTo_b26B
              rw [show j = s by omega, if_pos (Int32.le_refl _), nm_q, nI_1]
              exact hjh
            | succ c kh =>
              intro j m3 k1 k2
              obtain ⟨m3, rfl⟩ : ∃ j, m3 = j + 1 := ⟨m3 - 1, by omega⟩
              have hkh := kh (j + 1) m3 (by omega) (by omega)
              rw [show mk (ld (pl r) s i) (j + 1) = mk (ld (pl r) s i) j ||| (if ld (pl r) s i j = true then 2 ^ j else 0) from rfl] at hkh
              rw [f_X9_comesTo_b26_s]
              unfold f_X9_comesTo_b26B f_X9_comesTo_b65 f_X9_comesTo_b66
              rw [if_neg (by rw [i_le, t_nI (by omega), t_nI (by omega)]; omega)]
              simp only [s_rateOf n w hr hs e (show i < s by omega) (show j < s by omega), sh1 j (by omega), nm_q, bd_s, nI_1, show (0 : Int32) = nI 0 from rfl, nI_or, Nat.or_zero]
              by_cases q : v.testBit i = true
              · have hlt : v ||| mk (ld (pl r) s i) j < 2 ^ s := Nat.or_lt_two_pow hv (Nat.lt_of_lt_of_le (mk_lt _ _) (Nat.pow_le_pow_right (by omega) (by omega)))
                simp only [if_pos q] at hkh ⊢
                rw [if_pos ((tb1 _ (by omega) i (by omega)).mpr (by rw [Nat.testBit_or, q]; rfl))]
                by_cases q2 : ld (pl r) s i j = true
                · rw [if_pos q2, ← Nat.or_assoc] at hkh
                  have q3 := q2
                  unfold ld at q3
                  simp only [Bool.and_eq_true, decide_eq_true_eq] at q3
                  rw [if_neg (by rw [if_neg q3.1, i_le, t_nI (by omega)]; omega)]
                  exact hkh
                · rw [if_neg q2, Nat.or_zero] at hkh
                  have q3 := q2
                  unfold ld at q3
                  simp only [Bool.and_eq_true, decide_eq_true_eq] at q3
                  rw [if_pos (by
                    by_cases z : i = j
                    · rw [if_pos z]; exact Int32.le_refl _
                    · rw [if_neg z, i_le, t_nI (by omega)]
                      have : ¬ 0 < (pl r (i * s + j)).toInt := fun y => q3 ⟨z, y⟩
                      omega)]
                  exact hkh
              · simp only [if_neg q] at hkh ⊢
                rw [if_neg (fun z => q ((tb1 v (by omega) i (by omega)).mp z))]
                exact hkh
          have := inner s 0 fuel (by omega) (by show s < 1000; omega)
          rw [show (if v.testBit i = true then v ||| mk (ld (pl r) s i) 0 else v) = v by split <;> simp [mk]] at this
          exact this
      exact mid s 0 fuel v (by omega) (by show s < 1000; omega) hv
  unfold f_X9_comesTo
  rw [nm_q, sh1 i (by omega)]
  exact l s 0 fuel (2 ^ i) (by omega) (by show s < 1000; omega) (Nat.pow_lt_pow_right (by omega) hi)

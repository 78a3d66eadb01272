/-! roomed -/
theorem n2l {k : Nat} (h : k < 2 ^ 31) : Int32.toInt64 (nI k) = lN k := nI_l h
theorem s_power {a k : Nat} (M : Mm) (hk : k < 500) : ∀ (j i m : Nat), i + j = k → j < m → f_X9_power_b5 m (lN a) (nI k) (lN (a ^ i)) (nI i) M = some (lN (a ^ k), M) := by
  intro j
  induction j with
  | zero =>
    intro i m h1 h2
    obtain ⟨m, rfl⟩ : ∃ j, m = j + 1 := ⟨m - 1, by omega⟩
    rw [f_X9_power_b5_s]
    unfold f_X9_power_b5B
    rw [if_pos (by rw [show i = k by omega]; exact Int32.le_refl _), show i = k by omega]
  | succ j ih =>
    intro i m h1 h2
    obtain ⟨m, rfl⟩ : ∃ j, m = j + 1 := ⟨m - 1, by omega⟩
    have hih := ih (i + 1) m (by omega) (by omega)
    rw [f_X9_power_b5_s]
    unfold f_X9_power_b5B
    rw [if_neg (by rw [i_le, t_nI (by omega), t_nI (by omega)]; omega), nm_q, nm_q, lN_mul, nI_1, ← Nat.pow_succ]
    exact hih
theorem s_pow {a k : Nat} (M : Mm) (hk : k < 500) : f_X9_power (lN a) (nI k) M = some (lN (a ^ k), M) := s_power M hk k 0 fuel (by omega) (by show k < 1000; omega)
def pwN (a r k i : Nat) : Nat := if i ≤ k then a ^ i else a ^ k * r ^ (i - k)
theorem pwN_s (a r k i : Nat) : pwN a r k (i + 1) = pwN a r k i * (if k ≤ i then r else a) := by
  unfold pwN
  by_cases h : k ≤ i
  · rw [if_pos h, if_neg (by omega)]
    by_cases h2 : i ≤ k
    · rw [if_pos h2, show i = k by omega, show k + 1 - k = 1 by omega, Nat.pow_one]
    · rw [if_neg h2, show i + 1 - k = (i - k) + 1 by omega, Nat.pow_succ, Nat.mul_assoc]
  · rw [if_neg h, if_pos (by omega), if_pos (by omega), Nat.pow_succ]
theorem s_rw_l {M : Mm} {kd rt hd rm cm : Nf} {wy : Nat → Nf} (n : NetC kd rt hd rm cm wy M) (w : wfN kd rt hd rm cm wy) {c a k : Nat} (hc : c < 4) (ha : a < 10) (hk : k < 10) : ∀ (j i m : Nat), i + j = rm c → j < m → f_X1_roomWeight_b5 (23 + c) m (nI a) (nI k) (lN (pwN a (rt c) k i)) (nI i) M = some (lN (pwN a (rt c) k (rm c)), M) := by
  have wc := w c hc
  intro j
  induction j with
  | zero =>
    intro i m h1 h2
    obtain ⟨m, rfl⟩ : ∃ j, m = j + 1 := ⟨m - 1, by omega⟩
    rw [f_X1_roomWeight_b5_s]
    unfold f_X1_roomWeight_b5B
    rw [(n.1 c hc).2.2.2.1, if_pos (by rw [show i = rm c by omega]; exact Int32.le_refl _), show i = rm c by omega]
  | succ j ih =>
    intro i m h1 h2
    obtain ⟨m, rfl⟩ : ∃ j, m = j + 1 := ⟨m - 1, by omega⟩
    have hih := ih (i + 1) m (by omega) (by omega)
    rw [pwN_s] at hih
    rw [f_X1_roomWeight_b5_s]
    unfold f_X1_roomWeight_b5B f_X1_roomWeight_b31
    simp only [n.1 c hc, n2l (show a < 2 ^ 31 by omega), n2l (show rt c < 2 ^ 31 by omega), nm_q, bd_s, lN_mul, nI_1]
    rw [if_neg (by rw [i_le, t_nI (by omega), t_nI (by omega)]; omega)]
    by_cases q : k ≤ i
    · rw [if_pos q] at hih
      rw [if_pos (by rw [i_le, t_nI (by omega), t_nI (by omega)]; omega)]
      exact hih
    · rw [if_neg q] at hih
      rw [if_neg (by rw [i_le, t_nI (by omega), t_nI (by omega)]; omega)]
      exact hih
theorem s_rw {M : Mm} {kd rt hd rm cm : Nf} {wy : Nat → Nf} (n : NetC kd rt hd rm cm wy M) (w : wfN kd rt hd rm cm wy) {c a k : Nat} (hc : c < 4) (ha : a < 10) (hk : k ≤ rm c) : f_X1_roomWeight (23 + c) (nI a) (nI k) M = some (lN (a ^ k * rt c ^ (rm c - k)), M) := by
  have wc := w c hc
  have := s_rw_l n w hc ha (show k < 10 by omega) (rm c) 0 fuel (by omega) (by show rm c < 1000; omega)
  rw [show pwN a (rt c) k 0 = 1 by unfold pwN; rw [if_pos (by omega)]; rfl, show pwN a (rt c) k (rm c) = a ^ k * rt c ^ (rm c - k) by
    unfold pwN
    by_cases q : rm c ≤ k
    · rw [if_pos q, show rm c = k by omega, Nat.sub_self, Nat.pow_zero, Nat.mul_one]
    · rw [if_neg q]] at this
  exact this
def rsN (a r n : Nat) : Nat → Nat
  | 0 => 0
  | k + 1 => rsN a r n k + a ^ k * r ^ (n - k)
theorem rs_b {a r n k : Nat} (ha : a ≤ 12) (hr : r ≤ 12) (hn : n ≤ 6) (hk : k ≤ n) : a ^ k * r ^ (n - k) ≤ 2985984 := by
  have h1 : a ^ k ≤ 12 ^ k := Nat.pow_le_pow_left ha k
  have h2 : r ^ (n - k) ≤ 12 ^ (n - k) := Nat.pow_le_pow_left hr _
  have h3 := Nat.mul_le_mul h1 h2
  rw [← Nat.pow_add, show k + (n - k) = n by omega] at h3
  have h4 : 12 ^ n ≤ 12 ^ 6 := Nat.pow_le_pow_right (by omega) hn
  have h5 : (12 : Nat) ^ 6 = 2985984 := by decide
  omega
theorem rs_t {a r n : Nat} (ha : a ≤ 12) (hr : r ≤ 12) (hn : n ≤ 6) : ∀ k, k ≤ n + 1 → rsN a r n k ≤ k * 2985984
  | 0, _ => by unfold rsN; omega
  | k + 1, h => by
    unfold rsN
    have h1 := rs_t ha hr hn k (by omega)
    have h2 := rs_b ha hr hn (show k ≤ n by omega)
    omega
theorem rs_p {a r n : Nat} (hr : 1 ≤ r) : ∀ k, 1 ≤ k → 1 ≤ rsN a r n k
  | 0, h => by omega
  | 1, _ => by
    unfold rsN rsN
    have : 1 ≤ r ^ n := Nat.one_le_pow _ _ hr
    simp
    omega
  | k + 2, _ => by
    have := rs_p (a := a) (n := n) hr (k + 1) (by omega)
    unfold rsN
    omega
theorem sb3 {a b : Nat} (h : b ≤ a) (ha : a < 1000) : nI a - nI b = nI (a - b) := pk_sub h
theorem s_rmX {M : Mm} {kd rt hd rm cm : Nf} {wy : Nat → Nf} (n : NetC kd rt hd rm cm wy M) (w : wfN kd rt hd rm cm wy) {c a : Nat} (hc : c < 4) (ha : 1 ≤ a ∧ a ≤ 9) (x3 : Int32) (u : Int64) (hu : u.toInt ≠ -9223372036854775808) (hx : (x3.toInt = -1 ∧ u = lN (a * (a ^ rm c * 1))) ∨ ∃ i, i ≤ rm c ∧ x3 = nI i ∧ u = lN (a ^ i * rt c ^ (rm c - i))) : ∀ (j k m : Nat), k + j = rm c + 1 → j < m → f_X8_roomed_b85 0 m (nI a) x3 (23 + c) (lN (rsN a (rt c) (rm c) k)) (nI k) M = some (1, FMX M u (lN (rsN a (rt c) (rm c) (rm c + 1)))) := by
  have wc := w c hc
  have t1 := rs_t (a := a) (r := rt c) (n := rm c) (by omega) (by omega) (by omega) (rm c + 1) (by omega)
  have t2 := rs_p (a := a) (r := rt c) (n := rm c) (by omega) (rm c + 1) (by omega)
  have tl : (lN (rsN a (rt c) (rm c) (rm c + 1))).toInt = (rsN a (rt c) (rm c) (rm c + 1) : Int) := pk_lT (by omega)
  intro j
  induction j with
  | zero =>
    intro k m h1 h2
    obtain ⟨m, rfl⟩ : ∃ j, m = j + 1 := ⟨m - 1, by omega⟩
    have hk : k = rm c + 1 := by omega
    subst hk
    rw [f_X8_roomed_b85_s]
    unfold f_X8_roomed_b85B
    rw [(n.1 c hc).2.2.2.1, if_pos (by rw [i_lt, t_nI (by omega), t_nI (by omega)]; omega)]
    rcases hx with ⟨q, e⟩ | ⟨i, hi, rfl, e⟩
    · rw [if_neg (by rw [i_le, li_0]; omega), s_rw n w hc (by omega) (Nat.le_refl _), bd_s, n2l (by omega), lN_mul, Nat.sub_self, Nat.pow_zero, ← e, fld_0_5, s_set M hu (by omega) (by omega)]
      rfl
    · rw [if_pos (by rw [i_le, li_0, t_nI (by omega)]; omega), s_rw n w hc (by omega) hi, bd_s, ← e, fld_0_5, s_set M hu (by omega) (by omega)]
      rfl
  | succ j ih =>
    intro k m h1 h2
    obtain ⟨m, rfl⟩ : ∃ j, m = j + 1 := ⟨m - 1, by omega⟩
    have hih := ih (k + 1) m (by omega) (by omega)
    rw [show rsN a (rt c) (rm c) (k + 1) = rsN a (rt c) (rm c) k + a ^ k * rt c ^ (rm c - k) from rfl] at hih
    rw [f_X8_roomed_b85_s]
    unfold f_X8_roomed_b85B
    rw [(n.1 c hc).2.2.2.1, if_neg (by rw [i_lt, t_nI (by omega), t_nI (by omega)]; omega), s_rw n w hc (by omega) (show k ≤ rm c by omega)]
    simp only [nm_q, bd_s, lN_add, nI_1]
    exact hih
theorem s_rmR {M : Mm} {kd rt hd rm cm : Nf} {wy : Nat → Nf} (n : NetR kd rt hd rm cm wy M) (w : wfN kd rt hd rm cm wy) {c a : Nat} (hc : c < 4) (h9 : kd c ≠ 9) (ha : 1 ≤ a ∧ a ≤ 9) (x3 : Int32) (u : Int64) (hu : u.toInt ≠ -9223372036854775808) (hx : (x3.toInt = -1 ∧ u = lN (a * (a ^ rm c * 1))) ∨ ∃ i, i ≤ rm c ∧ x3 = nI i ∧ u = lN (a ^ i * rt c ^ (rm c - i))) : ∀ (j k m : Nat), k + j = rm c + 1 → j < m → f_X9_roomed_b70 1 m (nI c) (nI a) x3 (nI (rm c)) (lN (rsN a (rt c) (rm c) k)) (nI k) M = some (1, FMR M u (lN (rsN a (rt c) (rm c) (rm c + 1)))) := by
  have wc := w c hc
  have q := (n.1 c hc).2.1 h9
  have t1 := rs_t (a := a) (r := rt c) (n := rm c) (by omega) (by omega) (by omega) (rm c + 1) (by omega)
  have t2 := rs_p (a := a) (r := rt c) (n := rm c) (by omega) (rm c + 1) (by omega)
  have tl : (lN (rsN a (rt c) (rm c) (rm c + 1))).toInt = (rsN a (rt c) (rm c) (rm c + 1) : Int) := pk_lT (by omega)
  intro j
  induction j with
  | zero =>
    intro k m h1 h2
    obtain ⟨m, rfl⟩ : ∃ j, m = j + 1 := ⟨m - 1, by omega⟩
    have hk : k = rm c + 1 := by omega
    subst hk
    rw [f_X9_roomed_b70_s]
    unfold f_X9_roomed_b70B
    rw [if_pos (by rw [i_lt, t_nI (by omega), t_nI (by omega)]; omega)]
    rcases hx with ⟨q3, e⟩ | ⟨i, hi, rfl, e⟩
    · rw [if_neg (by rw [i_le, li_0]; omega), n2l (show a < 2 ^ 31 by omega), s_pow M (by omega), bd_s, lN_mul]
      rw [Nat.mul_one] at e
      rw [← e, s_share M hu (by omega) (by omega)]
      rfl
    · rw [if_pos (by rw [i_le, li_0, t_nI (by omega)]; omega), n2l (show a < 2 ^ 31 by omega), s_pow M (by omega)]
      simp only [nm_q, bd_s, ck_k hc (show 4 < 1000 by omega), fld_1_10, nI_cl (show c < 2 ^ 31 by omega), q, n2l (show rt c < 2 ^ 31 by omega), sb3 hi (by omega), s_pow M (show rm c - i < 500 by omega), lN_mul]
      rw [← e, s_share M hu (by omega) (by omega)]
      rfl
  | succ j ih =>
    intro k m h1 h2
    obtain ⟨m, rfl⟩ : ∃ j, m = j + 1 := ⟨m - 1, by omega⟩
    have hih := ih (k + 1) m (by omega) (by omega)
    rw [show rsN a (rt c) (rm c) (k + 1) = rsN a (rt c) (rm c) k + a ^ k * rt c ^ (rm c - k) from rfl] at hih
    rw [f_X9_roomed_b70_s]
    unfold f_X9_roomed_b70B
    rw [if_neg (by rw [i_lt, t_nI (by omega), t_nI (by omega)]; omega), n2l (show a < 2 ^ 31 by omega), s_pow M (by omega)]
    simp only [nm_q, bd_s, ck_k hc (show 4 < 1000 by omega), fld_1_10, nI_cl (show c < 2 ^ 31 by omega), q, n2l (show rt c < 2 ^ 31 by omega), sb3 (show k ≤ rm c by omega) (by omega), s_pow M (show rm c - k < 500 by omega), lN_mul, lN_add, nI_1]
    exact hih
theorem al_roomed (x1 x2 x3 : Int32) : Alike (f_X8_roomed 0 x1 x2 x3) (f_X9_roomed 1 x1 x2 x3) := by
  intro M h
  obtain ⟨⟨kd, rt, hd, rm, cm, wy, w, n1, n2⟩, hrow, hflg⟩ := id h
  by_cases hv : (1 ≤ x2.toInt ∧ x2.toInt ≤ 9) ∧ -1 ≤ x3.toInt
  · obtain ⟨v2, v3⟩ := hv
    obtain ⟨a, ha, rfl⟩ := x_of (x := x2) (n := 10) (in_iff.mpr (by omega)) (by omega)
    have ta : (nI a).toInt = (a : Int) := t_nI (by omega)
    rw [ta] at v2
    rcases x_split4 x1 with ⟨c, hc, rfl⟩ | hx
    · have tc : (nI c).toInt = (c : Int) := t_nI (by omega)
      have wc := w c hc
      have kk : kd c ≠ 9 → (nI (kd c) = 5 ↔ kd c = 5) := fun e => by rw [i_eq, t_nI (by omega), li_5]; omega
      by_cases e : kd c = 9
      · refine ⟨-3, RF M 1, RM (RF M 1) 1, ?_, ?_, inv_ref h (by omega) (by omega) (Sc.rf _) (Sc.rf _)⟩
        · unfold f_X8_roomed
          simp only [s_isCounterNumber, i_lt, i_le, tc, ta, li_m9, li_m4, li_m3, li_m2, li_m1, li_0, li_1, li_2, li_3, li_4, li_5, li_6, li_7, li_8, li_9, li_10, li_11, li_12, li_13, li_16, li_24, li_25, li_31, li_36, li_40, li_125, li_200, li_240, li_625, li_1000, li_100000, li_1000000, nm_q, bd_s, if_pos (show (0 : Int) ≤ c ∧ (c : Int) < 4 by omega), if_neg (show ¬ (a : Int) < 1 by omega), if_neg (show ¬ (9 : Int) < a by omega), if_pos v3, fld_0_1, s_has n1 w hc, s_ref1, e]
          rfl
        · unfold f_X9_roomed
          simp only [s_in, i_le (-1) x3, ta, li_m9, li_m4, li_m3, li_m2, li_m1, li_0, li_1, li_2, li_3, li_4, li_5, li_6, li_7, li_8, li_9, li_10, li_11, li_12, li_13, li_16, li_24, li_25, li_31, li_36, li_40, li_125, li_200, li_240, li_625, li_1000, li_100000, li_1000000, nm_q, bd_s, if_pos v2, if_pos v3, s_askedFor (nr_RF n2) hc, e]
          rfl
      · by_cases e5 : kd c = 5
        · have trm : (nI (rm c)).toInt = (rm c : Int) := t_nI (by omega)
          by_cases h3 : x3.toInt ≤ rm c
          · have hu : ∃ u : Int64, u.toInt ≠ -9223372036854775808 ∧ ((x3.toInt = -1 ∧ u = lN (a * (a ^ rm c * 1))) ∨ ∃ i, i ≤ rm c ∧ x3 = nI i ∧ u = lN (a ^ i * rt c ^ (rm c - i))) := by
              by_cases z : x3.toInt = -1
              · have hb := rs_b (a := a) (r := 1) (n := rm c) (k := rm c) (by omega) (by omega) (by omega) (Nat.le_refl _)
                rw [Nat.sub_self, Nat.pow_zero] at hb
                have hb2 : a * (a ^ rm c * 1) ≤ 9 * 2985984 := Nat.mul_le_mul (by omega) hb
                exact ⟨_, by rw [pk_lT (by omega)]; omega, Or.inl ⟨z, rfl⟩⟩
              · obtain ⟨i, hi, rfl⟩ := x_of (x := x3) (n := 7) (in_iff.mpr (by omega)) (by omega)
                rw [t_nI (by omega)] at h3
                have hb := rs_b (a := a) (r := rt c) (n := rm c) (k := i) (by omega) (by omega) (by omega) (by omega)
                exact ⟨_, by rw [pk_lT (by omega)]; omega, Or.inr ⟨i, by omega, rfl, rfl⟩⟩
            obtain ⟨u, hu1, hu2⟩ := hu
            have eX := s_rmX n1 w hc (show 1 ≤ a ∧ a ≤ 9 by omega) x3 u hu1 hu2 (rm c + 1) 0 fuel (by omega) (by show rm c + 1 < 1000; omega)
            have n2' : NetR kd rt hd rm cm wy (FMX M u (lN (rsN a (rt c) (rm c) (rm c + 1)))) := n2.sc (fun _ _ _ => rfl)
            have eR := s_rmR n2' w hc e (show 1 ≤ a ∧ a ≤ 9 by omega) x3 u hu1 hu2 (rm c + 1) 0 fuel (by omega) (by show rm c + 1 < 1000; omega)
            refine ⟨1, FMX M u (lN (rsN a (rt c) (rm c) (rm c + 1))), FMR (FMX M u (lN (rsN a (rt c) (rm c) (rm c + 1)))) u (lN (rsN a (rt c) (rm c) (rm c + 1))), ?_, ?_, inv_frac h (Sc.rf _) (Sc.rf _)⟩
            · rw [← eX]
              unfold f_X8_roomed
              simp only [s_isCounterNumber, i_lt, i_le, tc, ta, trm, li_m9, li_m4, li_m3, li_m2, li_m1, li_0, li_1, li_2, li_3, li_4, li_5, li_6, li_7, li_8, li_9, li_10, li_11, li_12, li_13, li_16, li_24, li_25, li_31, li_36, li_40, li_125, li_200, li_240, li_625, li_1000, li_100000, li_1000000, nm_q, bd_s, if_pos (show (0 : Int) ≤ c ∧ (c : Int) < 4 by omega), if_neg (show ¬ (a : Int) < 1 by omega), if_neg (show ¬ (9 : Int) < a by omega), if_pos v3, fld_0_1, fld_4_0, elm_22, nI_cl (show c < 2 ^ 31 by omega), ck_k hc (show 4 < 1000 by omega), s_has n1 w hc, if_neg e, n1.1 c hc, kk e, if_pos e5, if_pos h3]
              rfl
            · rw [← eR]
              have qr := (n2'.1 c hc).2.1 e
              unfold f_X9_roomed
              simp only [s_in, i_le (-1) x3, i_le x3, ta, trm, li_m9, li_m4, li_m3, li_m2, li_m1, li_0, li_1, li_2, li_3, li_4, li_5, li_6, li_7, li_8, li_9, li_10, li_11, li_12, li_13, li_16, li_24, li_25, li_31, li_36, li_40, li_125, li_200, li_240, li_625, li_1000, li_100000, li_1000000, nm_q, bd_s, if_pos v2, if_pos v3, s_askedFor n2' hc, if_neg e, fld_1_9, fld_1_12, nI_cl (show c < 2 ^ 31 by omega), ck_k hc (show 4 < 1000 by omega), qr, kk e, if_pos e5, if_pos h3]
              rfl
          · refine ⟨-1, M, M, ?_, ?_, h⟩
            · unfold f_X8_roomed
              simp only [s_isCounterNumber, i_lt, i_le, tc, ta, trm, li_m9, li_m4, li_m3, li_m2, li_m1, li_0, li_1, li_2, li_3, li_4, li_5, li_6, li_7, li_8, li_9, li_10, li_11, li_12, li_13, li_16, li_24, li_25, li_31, li_36, li_40, li_125, li_200, li_240, li_625, li_1000, li_100000, li_1000000, nm_q, bd_s, if_pos (show (0 : Int) ≤ c ∧ (c : Int) < 4 by omega), if_neg (show ¬ (a : Int) < 1 by omega), if_neg (show ¬ (9 : Int) < a by omega), if_pos v3, fld_0_1, fld_4_0, elm_22, nI_cl (show c < 2 ^ 31 by omega), ck_k hc (show 4 < 1000 by omega), s_has n1 w hc, if_neg e, n1.1 c hc, kk e, if_pos e5, if_neg h3]
              rfl
            · have qr := (n2.1 c hc).2.1 e
              unfold f_X9_roomed
              simp only [s_in, i_le (-1) x3, i_le x3, ta, trm, li_m9, li_m4, li_m3, li_m2, li_m1, li_0, li_1, li_2, li_3, li_4, li_5, li_6, li_7, li_8, li_9, li_10, li_11, li_12, li_13, li_16, li_24, li_25, li_31, li_36, li_40, li_125, li_200, li_240, li_625, li_1000, li_100000, li_1000000, nm_q, bd_s, if_pos v2, if_pos v3, s_askedFor n2 hc, if_neg e, fld_1_9, fld_1_12, nI_cl (show c < 2 ^ 31 by omega), ck_k hc (show 4 < 1000 by omega), qr, kk e, if_pos e5, if_neg h3]
              rfl
        · refine ⟨-3, RF M 3, RM (RF M 3) 3, ?_, ?_, inv_ref h (by omega) (by omega) (Sc.rf _) (Sc.rf _)⟩
          · unfold f_X8_roomed
            simp only [s_isCounterNumber, i_lt, i_le, tc, ta, li_m9, li_m4, li_m3, li_m2, li_m1, li_0, li_1, li_2, li_3, li_4, li_5, li_6, li_7, li_8, li_9, li_10, li_11, li_12, li_13, li_16, li_24, li_25, li_31, li_36, li_40, li_125, li_200, li_240, li_625, li_1000, li_100000, li_1000000, nm_q, bd_s, if_pos (show (0 : Int) ≤ c ∧ (c : Int) < 4 by omega), if_neg (show ¬ (a : Int) < 1 by omega), if_neg (show ¬ (9 : Int) < a by omega), if_pos v3, fld_0_1, fld_4_0, elm_22, nI_cl (show c < 2 ^ 31 by omega), ck_k hc (show 4 < 1000 by omega), s_has n1 w hc, if_neg e, n1.1 c hc, kk e, if_neg e5, s_ref3]
            rfl
          · have q2 := nr_RF (f := 3) n2
            have qr := (q2.1 c hc).2.1 e
            unfold f_X9_roomed
            simp only [s_in, i_le (-1) x3, ta, li_m9, li_m4, li_m3, li_m2, li_m1, li_0, li_1, li_2, li_3, li_4, li_5, li_6, li_7, li_8, li_9, li_10, li_11, li_12, li_13, li_16, li_24, li_25, li_31, li_36, li_40, li_125, li_200, li_240, li_625, li_1000, li_100000, li_1000000, nm_q, bd_s, if_pos v2, if_pos v3, s_askedFor q2 hc, if_neg e, fld_1_9, nI_cl (show c < 2 ^ 31 by omega), ck_k hc (show 4 < 1000 by omega), qr, kk e, if_neg e5, s_met3]
            rfl
    · refine ⟨-1, M, M, ?_, ?_, h⟩
      · unfold f_X8_roomed
        simp only [s_isCounterNumber, nm_q, bd_s, if_neg hx]
        rfl
      · unfold f_X9_roomed
        simp only [s_in, i_le (-1) x3, ta, li_m9, li_m4, li_m3, li_m2, li_m1, li_0, li_1, li_2, li_3, li_4, li_5, li_6, li_7, li_8, li_9, li_10, li_11, li_12, li_13, li_16, li_24, li_25, li_31, li_36, li_40, li_125, li_200, li_240, li_625, li_1000, li_100000, li_1000000, nm_q, bd_s, if_pos v2, if_pos v3, s_askedFor_bad hx]
        rfl
  · refine ⟨-1, M, M, ?_, ?_, h⟩
    · unfold f_X8_roomed
      simp only [s_isCounterNumber, nm_q, bd_s, i_lt, i_le, li_m9, li_m4, li_m3, li_m2, li_m1, li_0, li_1, li_2, li_3, li_4, li_5, li_6, li_7, li_8, li_9, li_10, li_11, li_12, li_13, li_16, li_24, li_25, li_31, li_36, li_40, li_125, li_200, li_240, li_625, li_1000, li_100000, li_1000000]
      by_cases q : 0 ≤ x1.toInt ∧ x1.toInt < 4
      · by_cases q2 : x2.toInt < 1
        · simp [q, q2]
        · by_cases q3 : 9 < x2.toInt
          · simp [q, q2, q3]
          · simp only [q, q2, q3, if_neg (show ¬ -1 ≤ x3.toInt by omega)]
            simp
      · simp [q]
    · unfold f_X9_roomed
      simp only [s_in, i_le (-1) x3, li_m9, li_m4, li_m3, li_m2, li_m1, li_0, li_1, li_2, li_3, li_4, li_5, li_6, li_7, li_8, li_9, li_10, li_11, li_12, li_13, li_16, li_24, li_25, li_31, li_36, li_40, li_125, li_200, li_240, li_625, li_1000, li_100000, li_1000000, nm_q, bd_s]
      by_cases q2 : 1 ≤ x2.toInt ∧ x2.toInt ≤ 9
      · simp only [q2, if_neg (show ¬ -1 ≤ x3.toInt by omega)]
        simp
      · simp [q2]

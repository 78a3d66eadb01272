/-! which fraction is above -/
def AB (t : Int32) (a b c d : Nat) : Bool := if t = 0 then decide (c * b < a * d) else decide (a * d < c * b)
theorem fl_lt {a b c d : Nat} (hb : 0 < b) (hd : 0 < d) (h : c / d < a / b) : c * b < a * d := by
  have h1 : c < (c / d + 1) * d := by rw [Nat.mul_comm]; exact Nat.lt_mul_div_succ c hd
  have h2 : a / b * b ≤ a := Nat.div_mul_le_self a b
  have h3 : (c / d + 1) * b ≤ a / b * b := Nat.mul_le_mul h (Nat.le_refl _)
  have h4 : c * b < (c / d + 1) * d * b := Nat.mul_lt_mul_of_pos_right h1 hb
  have h5 : (c / d + 1) * b * d ≤ a * d := Nat.mul_le_mul (Nat.le_trans h3 h2) (Nat.le_refl _)
  have h6 : (c / d + 1) * d * b = (c / d + 1) * b * d := by rw [Nat.mul_assoc, Nat.mul_comm d b, Nat.mul_assoc]
  omega
theorem fl_eq {a b c d : Nat} (h : a / b = c / d) : (c * b < a * d ↔ c % d * b < a % b * d) ∧ (a * d < c * b ↔ a % b * d < c % d * b) := by
  have e1 := Nat.div_add_mod a b
  have e2 := Nat.div_add_mod c d
  rw [← h] at e2
  generalize a / b = w at *
  generalize a % b = x at *
  generalize c % d = y at *
  have f1 : a * d = b * w * d + x * d := by rw [← e1, Nat.add_mul]
  have f2 : c * b = d * w * b + y * b := by rw [← e2, Nat.add_mul]
  have f3 : b * w * d = d * w * b := by grind
  constructor <;> omega
def tg (t : Int32) : Int32 := if t = 0 then 1 else 0
theorem AB_eq {t : Int32} (ht : t = 0 ∨ t = 1) {a b c d : Nat} (h : a / b = c / d) : AB t a b c d = AB (tg t) b (a % b) d (c % d) := by
  have q := fl_eq h
  have m1 : d * (a % b) = a % b * d := Nat.mul_comm _ _
  have m2 : b * (c % d) = c % d * b := Nat.mul_comm _ _
  rcases ht with rfl | rfl
  · show decide (c * b < a * d) = decide (b * (c % d) < d * (a % b))
    rw [m1, m2]
    exact decide_eq_decide.mpr q.1
  · show decide (a * d < c * b) = decide (d * (a % b) < b * (c % d))
    rw [m1, m2]
    exact decide_eq_decide.mpr q.2
theorem AB_ne {t : Int32} (ht : t = 0 ∨ t = 1) {a b c d : Nat} (hb : 0 < b) (hd : 0 < d) (h : a / b ≠ c / d) : AB t a b c d = if t = 0 then decide (c / d < a / b) else decide (a / b < c / d) := by
  unfold AB
  rcases Nat.lt_or_gt_of_ne h with y | y
  · have z := fl_lt hd hb y
    rcases ht with rfl | rfl
    · rw [if_pos rfl, if_pos rfl]; simp only [show ¬ c * b < a * d by omega, show ¬ c / d < a / b by omega]
    · rw [if_neg (by decide), if_neg (by decide)]; simp only [z, y]
  · have z := fl_lt hb hd y
    rcases ht with rfl | rfl
    · rw [if_pos rfl, if_pos rfl]; simp only [z, y]
    · rw [if_neg (by decide), if_neg (by decide)]; simp only [show ¬ a * d < c * b by omega, show ¬ a / b < c / d by omega]
theorem half {a b k : Nat} (hab : b ≤ a) (hb : 0 < b) (h : a * b < 2 ^ (k + 1)) : b * (a % b) < 2 ^ k := by
  have h1 := Nat.mod_lt a hb
  have h2 := Nat.div_add_mod a b
  have h3 : 1 ≤ a / b := (Nat.le_div_iff_mul_le hb).mpr (by omega)
  have h4 : b * 1 ≤ b * (a / b) := Nat.mul_le_mul (Nat.le_refl _) h3
  have h5 : 2 * (a % b) ≤ a := by omega
  have h6 : b * (2 * (a % b)) ≤ b * a := Nat.mul_le_mul (Nat.le_refl _) h5
  have h7 : b * (2 * (a % b)) = 2 * (b * (a % b)) := by grind
  rw [Nat.pow_succ, Nat.mul_comm a b] at h
  omega
theorem tg_t {t : Int32} : tg t = 0 ∨ tg t = 1 := by unfold tg; split; exact Or.inr rfl; exact Or.inl rfl
/-- one look of the class -/
theorem s_ab1 {a b c d s m : Nat} {t : Int32} (ht : t = 0 ∨ t = 1) (M : Mm) (ha : 0 < a) (hc : 0 < c) (a6 : a < 2 ^ 63) (b6 : b < 2 ^ 63) (c6 : c < 2 ^ 63) (d6' : d < 2 ^ 63) (hs : s < 200) : f_X2_isAbove_b6 (m + 1) (lN a) (lN b) (lN c) (lN d) t (nI s) M = if b = 0 ∨ d = 0 ∨ a / b ≠ c / d then some (if AB t a b c d = true then 1 else 0, M) else f_X2_isAbove_b6 m (lN b) (lN (a % b)) (lN d) (lN (c % d)) (tg t) (nI (s + 1)) M := by
  have zb : lg_cmp (lN b) 0 ≤ 0 ↔ b = 0 := by rw [show (0 : Int64) = lN 0 from rfl, cmp_N b6 (by omega)]; omega
  have zd : lg_cmp (lN d) 0 ≤ 0 ↔ d = 0 := by rw [show (0 : Int64) = lN 0 from rfl, cmp_N d6' (by omega)]; omega
  have pb : 0 < lg_cmp (lN b) 0 ↔ b ≠ 0 := by rw [q_gt, show (0 : Int64) = lN 0 from rfl, lN_T b6, lN_T (by omega)]; omega
  have pd : 0 < lg_cmp (lN d) 0 ↔ d ≠ 0 := by rw [q_gt, show (0 : Int64) = lN 0 from rfl, lN_T d6', lN_T (by omega)]; omega
  have fin : b = 0 ∨ d = 0 → f_X2_isAbove_b131 (lN b) (lN d) t M = some (if AB t a b c d = true then 1 else 0, M) := by
    intro h
    unfold f_X2_isAbove_b131 f_X2_isAbove_b148 f_X2_isAbove_b149 f_X2_isAbove_b168 f_X2_isAbove_b169 AB
    simp only [pb, pd, zb, zd]
    by_cases y : b = 0
    · subst y
      by_cases y2 : d = 0
      · subst y2
        rcases ht with rfl | rfl <;> simp [bz]
      · have : 0 < a * d := Nat.mul_pos ha (by omega)
        rcases ht with rfl | rfl <;> simp [bz, y2, this]
    · have y2 : d = 0 := by omega
      subst y2
      have : 0 < c * b := Nat.mul_pos hc (by omega)
      rcases ht with rfl | rfl <;> simp [bz, y, this]
  rw [f_X2_isAbove_b6_s]
  unfold f_X2_isAbove_b6B
  rw [if_neg (by rw [i_le, t_nI (by omega), li_200]; omega)]
  simp only [zb, zd]
  by_cases y : b = 0
  · rw [if_pos y, if_pos (Or.inl y)]; exact fin (Or.inl y)
  · rw [if_neg y]
    by_cases y2 : d = 0
    · rw [if_pos y2, if_pos (Or.inr (Or.inl y2))]; exact fin (Or.inr y2)
    · have nb : ¬ lN b = 0 := by rw [l_eq, lN_T b6]; show ¬ ((b : Int) = 0); omega
      have nd : ¬ lN d = 0 := by rw [l_eq, lN_T d6']; show ¬ ((d : Int) = 0); omega
      have w6 : a / b < 2 ^ 63 := Nat.lt_of_le_of_lt (Nat.div_le_self _ _) a6
      have u6 : c / d < 2 ^ 63 := Nat.lt_of_le_of_lt (Nat.div_le_self _ _) c6
      have ce : lg_cmp (lN (a / b)) (lN (c / d)) = 0 ↔ a / b = c / d := by rw [q_eq, lN_T w6, lN_T u6]; omega
      have r1 : lN a - lN (a / b) * lN b = lN (a % b) := by rw [← pk_lDiv a6 (by omega) b6]; exact pk_lRem a6 (by omega) b6
      have r2 : lN c - lN (c / d) * lN d = lN (c % d) := by rw [← pk_lDiv c6 (by omega) d6']; exact pk_lRem c6 (by omega) d6'
      rw [if_neg y2, dvJ_ok nb, nm_q, dvJ_ok nd, nm_q, pk_lDiv a6 (by omega) b6, pk_lDiv c6 (by omega) d6']
      simp only [ce, cmp_N w6 u6, cmp_G w6 u6, r1, r2, nm_q, bd_s, nI_1]
      by_cases e : a / b = c / d
      · have n3 : ¬ (b = 0 ∨ d = 0 ∨ a / b ≠ c / d) := fun hz => hz.elim y (fun hz => hz.elim y2 (fun hz => hz e))
        rw [if_pos e, if_neg n3]
        rcases ht with rfl | rfl
        · rw [if_pos (show (0 : Int32) = 0 from rfl)]; rfl
        · rw [if_neg (show ¬ (1 : Int32) = 0 by decide)]; rfl
      · rw [if_neg e, if_pos (Or.inr (Or.inr e)), AB_ne ht (by omega) (by omega) e]
        rcases ht with rfl | rfl
        · rw [if_pos (show (0 : Int32) = 0 from rfl), if_pos (show (0 : Int32) = 0 from rfl)]
          by_cases hz : a / b ≤ c / d
          · rw [if_pos hz, if_neg (show ¬ decide (c / d < a / b) = true by rw [decide_eq_true_eq]; omega)]
          · rw [if_neg hz, if_pos (show decide (c / d < a / b) = true by rw [decide_eq_true_eq]; omega)]
        · rw [if_neg (show ¬ (1 : Int32) = 0 by decide), if_neg (show ¬ (1 : Int32) = 0 by decide)]
          by_cases hz : c / d ≤ a / b
          · rw [if_pos hz, if_neg (show ¬ decide (a / b < c / d) = true by rw [decide_eq_true_eq]; omega)]
          · rw [if_neg hz, if_pos (show decide (a / b < c / d) = true by rw [decide_eq_true_eq]; omega)]
theorem s_abL : ∀ (k a b c d s m : Nat) (t : Int32) (M : Mm), (t = 0 ∨ t = 1) → 0 < a → 0 < c → a < 2 ^ 63 → b ≤ a → c < 2 ^ 63 → d < 2 ^ 63 → a * b < 2 ^ k → k + 1 < m → s + k + 1 ≤ 200 → f_X2_isAbove_b6 m (lN a) (lN b) (lN c) (lN d) t (nI s) M = some (if AB t a b c d = true then 1 else 0, M) := by
  intro k
  induction k with
  | zero =>
    intro a b c d s m t M ht ha hc a6 hba c6 d6' hp hm hs
    obtain ⟨m, rfl⟩ : ∃ j, m = j + 1 := ⟨m - 1, by omega⟩
    have b0 : b = 0 := by
      rcases Nat.eq_zero_or_pos b with z | z
      · exact z
      · have := Nat.mul_pos ha z; simp at hp; omega
    rw [s_ab1 ht M ha hc a6 (by omega) c6 d6' (by omega), if_pos (Or.inl b0)]
  | succ k ih =>
    intro a b c d s m t M ht ha hc a6 hba c6 d6' hp hm hs
    obtain ⟨m, rfl⟩ : ∃ j, m = j + 1 := ⟨m - 1, by omega⟩
    rw [s_ab1 ht M ha hc a6 (by omega) c6 d6' (by omega)]
    by_cases y : b = 0 ∨ d = 0 ∨ a / b ≠ c / d
    · rw [if_pos y]
    · have yb : b ≠ 0 := fun z => y (Or.inl z)
      have yd : d ≠ 0 := fun z => y (Or.inr (Or.inl z))
      have ye : a / b = c / d := Classical.byContradiction fun z => y (Or.inr (Or.inr z))
      have m1 := Nat.mod_lt a (show b > 0 by omega)
      have m2 := Nat.mod_lt c (show d > 0 by omega)
      rw [if_neg y, ih b (a % b) d (c % d) (s + 1) m (tg t) M tg_t (by omega) (by omega) (by omega) (by omega) (by omega) (by omega) (half hba (by omega) hp) (by omega) (by omega), AB_eq ht ye]
theorem s_aboveX {a b c d : Nat} (M : Mm) (ha : 0 < a) (hb : 0 < b) (hc : 0 < c) (hd : 0 < d) (a6 : a < 2 ^ 63) (b6 : b < 2 ^ 63) (c6 : c < 2 ^ 63) (d6' : d < 2 ^ 63) : f_X2_isAbove (lN a) (lN b) (lN c) (lN d) M = some (if c * b < a * d then 1 else 0, M) := by
  have fin : ∀ (x : Bool), x = AB 0 a b c d → some ((if x = true then 1 else 0 : Int32), M) = some (if c * b < a * d then 1 else 0, M) := by
    intro x hx
    rw [hx]
    unfold AB
    rw [if_pos rfl]
    simp only [decide_eq_true_eq]
  have e : f_X2_isAbove (lN a) (lN b) (lN c) (lN d) M = f_X2_isAbove_b6 (999 + 1) (lN a) (lN b) (lN c) (lN d) 0 (nI 0) M := rfl
  rw [e, s_ab1 (Or.inl rfl) M ha hc a6 b6 c6 d6' (by omega)]
  by_cases y : b = 0 ∨ d = 0 ∨ a / b ≠ c / d
  · rw [if_pos y]; exact fin _ rfl
  · have ye : a / b = c / d := Classical.byContradiction fun z => y (Or.inr (Or.inr z))
    have m1 := Nat.mod_lt a (show b > 0 by omega)
    have m2 := Nat.mod_lt c (show d > 0 by omega)
    have pr : b * (a % b) < 2 ^ 126 := by
      have h1 : b * (a % b) ≤ b * b := Nat.mul_le_mul (Nat.le_refl _) (by omega)
      have h2 : b * b < 2 ^ 63 * 2 ^ 63 := Nat.mul_lt_mul'' b6 b6
      have h3 : (2 : Nat) ^ 63 * 2 ^ 63 = 2 ^ 126 := by decide
      omega
    rw [if_neg y, s_abL 126 b (a % b) d (c % d) (0 + 1) 999 (tg 0) M tg_t (by omega) (by omega) (by omega) (by omega) (by omega) (by omega) pr (by omega) (by omega)]
    exact fin _ (AB_eq (Or.inl rfl) ye).symm
/-- the reference's -/
theorem s_abR1 {a b c d m : Nat} {t : Int32} (ht : t = 0 ∨ t = 1) (M : Mm) (hb : 0 < b) (hd : 0 < d) (a6 : a < 2 ^ 63) (b6 : b < 2 ^ 63) (c6 : c < 2 ^ 63) (d6' : d < 2 ^ 63) : f_X9_isAbove_b17 (m + 1) (lN a) (lN b) (lN c) (lN d) t M = if a / b ≠ c / d ∨ a % b = 0 ∨ c % d = 0 then some (if AB t a b c d = true then 1 else 0, M) else f_X9_isAbove_b17 m (lN b) (lN (a % b)) (lN d) (lN (c % d)) (tg t) M := by
  have nb : ¬ lN b = 0 := by rw [l_eq, lN_T b6]; show ¬ ((b : Int) = 0); omega
  have nd : ¬ lN d = 0 := by rw [l_eq, lN_T d6']; show ¬ ((d : Int) = 0); omega
  have w6 : a / b < 2 ^ 63 := Nat.lt_of_le_of_lt (Nat.div_le_self _ _) a6
  have u6 : c / d < 2 ^ 63 := Nat.lt_of_le_of_lt (Nat.div_le_self _ _) c6
  have m1 := Nat.mod_lt a hb
  have m2 := Nat.mod_lt c hd
  have ce : lg_cmp (lN (a / b)) (lN (c / d)) = 0 ↔ a / b = c / d := by rw [q_eq, lN_T w6, lN_T u6]; omega
  have r1 := pk_lRem a6 hb b6
  have r2 := pk_lRem c6 hd d6'
  have z1 : lg_cmp (lN (a % b)) 0 = 0 ↔ a % b = 0 := by rw [q_eq, lN_T (by omega)]; show ((a % b : Nat) : Int) = 0 ↔ _; omega
  have z2 : lg_cmp (lN (c % d)) 0 = 0 ↔ c % d = 0 := by rw [q_eq, lN_T (by omega)]; show ((c % d : Nat) : Int) = 0 ↔ _; omega
  have z3 : lg_cmp (lN (a % b)) (lN (c % d)) = 0 ↔ a % b = c % d := by rw [q_eq, lN_T (by omega), lN_T (by omega)]; omega
  rw [f_X9_isAbove_b17_s]
  unfold f_X9_isAbove_b17B f_X9_isAbove_b91 f_X9_isAbove_b52 f_X9_isAbove_b111
  rw [dvJ_ok nb, nm_q, dvJ_ok nd, nm_q, dvJ_ok nb, nm_q, dvJ_ok nd, nm_q, r1, r2, pk_lDiv a6 hb b6, pk_lDiv c6 hd d6']
  simp only [ce, cmp_N w6 u6, z1, z2, z3]
  by_cases e : a / b = c / d
  · rw [if_pos e]
    have ae := AB_eq ht e
    have rest : a % b = 0 ∨ c % d = 0 → (if a % b = c % d then some ((0 : Int32), M) else if a % b = 0 then (if (0 : Int32) = t then some (0, M) else some (1, M)) else (if (1 : Int32) = t then some (0, M) else some (1, M))) = some (if AB t a b c d = true then 1 else 0, M) := by
      intro h
      rw [ae]
      unfold AB tg
      by_cases x1 : a % b = 0
      · rw [x1]
        by_cases x2 : c % d = 0
        · rw [x2]
          rcases ht with rfl | rfl <;> simp
        · have : 0 < b * (c % d) := Nat.mul_pos hb (by omega)
          rw [if_neg (by omega), if_pos rfl]
          rcases ht with rfl | rfl <;> simp [this]
      · have x2 : c % d = 0 := by omega
        rw [x2]
        have : 0 < d * (a % b) := Nat.mul_pos hd (by omega)
        rw [if_neg (by omega), if_neg x1]
        rcases ht with rfl | rfl <;> simp [this]
    by_cases x1 : a % b = 0
    · rw [if_pos x1, if_pos (Or.inr (Or.inl x1))]; exact rest (Or.inl x1)
    · rw [if_neg x1]
      by_cases x2 : c % d = 0
      · rw [if_pos x2, if_pos (Or.inr (Or.inr x2))]; exact rest (Or.inr x2)
      · have n3 : ¬ (a / b ≠ c / d ∨ a % b = 0 ∨ c % d = 0) := fun hz => hz.elim (fun hz => hz e) (fun hz => hz.elim x1 x2)
        rw [if_neg x2, if_neg n3]
        rcases ht with rfl | rfl
        · rw [if_pos (show (0 : Int32) = 0 from rfl)]; rfl
        · rw [if_neg (show ¬ (1 : Int32) = 0 by decide)]; rfl
  · rw [if_neg e, if_pos (Or.inl e), AB_ne ht hb hd e]
    rcases ht with rfl | rfl
    · rw [if_pos (show (0 : Int32) = 0 from rfl)]
      by_cases hz : a / b ≤ c / d
      · rw [if_pos hz, if_pos (show (0 : Int32) = 0 from rfl), if_neg (show ¬ decide (c / d < a / b) = true by rw [decide_eq_true_eq]; omega)]
      · rw [if_neg hz, if_neg (show ¬ (1 : Int32) = 0 by decide), if_pos (show (0 : Int32) = 0 from rfl), if_pos (show decide (c / d < a / b) = true by rw [decide_eq_true_eq]; omega)]
    · rw [if_neg (show ¬ (1 : Int32) = 0 by decide)]
      by_cases hz : a / b ≤ c / d
      · have hz2 : a / b < c / d := by omega
        rw [if_pos hz, if_neg (show ¬ (0 : Int32) = 1 by decide), if_pos (show decide (a / b < c / d) = true by rw [decide_eq_true_eq]; omega)]
      · rw [if_neg hz, if_pos (show (1 : Int32) = 1 from rfl), if_neg (show ¬ decide (a / b < c / d) = true by rw [decide_eq_true_eq]; omega)]
theorem s_abRL : ∀ (k a b c d m : Nat) (t : Int32) (M : Mm), (t = 0 ∨ t = 1) → 0 < b → 0 < d → a < 2 ^ 63 → b ≤ a → c < 2 ^ 63 → d < 2 ^ 63 → a * b < 2 ^ k → k < m → f_X9_isAbove_b17 m (lN a) (lN b) (lN c) (lN d) t M = some (if AB t a b c d = true then 1 else 0, M) := by
  intro k
  induction k with
  | zero =>
    intro a b c d m t M ht hb hd a6 hba c6 d6' hp hm
    have := Nat.mul_pos (show 0 < a by omega) hb
    simp at hp
    omega
  | succ k ih =>
    intro a b c d m t M ht hb hd a6 hba c6 d6' hp hm
    obtain ⟨m, rfl⟩ : ∃ j, m = j + 1 := ⟨m - 1, by omega⟩
    rw [s_abR1 ht M hb hd a6 (by omega) c6 d6']
    by_cases y : a / b ≠ c / d ∨ a % b = 0 ∨ c % d = 0
    · rw [if_pos y]
    · have ye : a / b = c / d := Classical.byContradiction fun z => y (Or.inl z)
      have y1 : a % b ≠ 0 := fun z => y (Or.inr (Or.inl z))
      have y2 : c % d ≠ 0 := fun z => y (Or.inr (Or.inr z))
      have m1 := Nat.mod_lt a hb
      have m2 := Nat.mod_lt c hd
      rw [if_neg y, ih b (a % b) d (c % d) m (tg t) M tg_t (by omega) (by omega) (by omega) (by omega) (by omega) (by omega) (half hba hb hp) (by omega), AB_eq ht ye]
theorem s_aboveR {a b c d : Nat} (M : Mm) (hb : 0 < b) (hd : 0 < d) (a6 : a < 2 ^ 63) (b6 : b < 2 ^ 63) (c6 : c < 2 ^ 63) (d6' : d < 2 ^ 63) : f_X9_isAbove (lN a) (lN b) (lN c) (lN d) M = some (if c * b < a * d then 1 else 0, M) := by
  have fin : ∀ (x : Bool), x = AB 0 a b c d → some ((if x = true then 1 else 0 : Int32), M) = some (if c * b < a * d then 1 else 0, M) := by
    intro x hx
    rw [hx]
    unfold AB
    rw [if_pos rfl]
    simp only [decide_eq_true_eq]
  have e : f_X9_isAbove (lN a) (lN b) (lN c) (lN d) M = f_X9_isAbove_b17 (999 + 1) (lN a) (lN b) (lN c) (lN d) 0 M := rfl
  rw [e, s_abR1 (Or.inl rfl) M hb hd a6 b6 c6 d6']
  by_cases y : a / b ≠ c / d ∨ a % b = 0 ∨ c % d = 0
  · rw [if_pos y]; exact fin _ rfl
  · have ye : a / b = c / d := Classical.byContradiction fun z => y (Or.inl z)
    have y1 : a % b ≠ 0 := fun z => y (Or.inr (Or.inl z))
    have y2 : c % d ≠ 0 := fun z => y (Or.inr (Or.inr z))
    have m1 := Nat.mod_lt a hb
    have m2 := Nat.mod_lt c hd
    have pr : b * (a % b) < 2 ^ 126 := by
      have h1 : b * (a % b) ≤ b * b := Nat.mul_le_mul (Nat.le_refl _) (by omega)
      have h2 : b * b < 2 ^ 63 * 2 ^ 63 := Nat.mul_lt_mul'' b6 b6
      have h3 : (2 : Nat) ^ 63 * 2 ^ 63 = 2 ^ 126 := by decide
      omega
    rw [if_neg y, s_abRL 126 b (a % b) d (c % d) 999 (tg 0) M tg_t (by omega) (by omega) (by omega) (by omega) (by omega) (by omega) pr (by omega)]
    exact fin _ (AB_eq (Or.inl rfl) ye).symm

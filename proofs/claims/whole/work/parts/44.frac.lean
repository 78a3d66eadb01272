/-! fractions in lowest terms -/
theorem pl_eq0 {n : Nat} (h : n < 2 ^ 63) : (lg_cmp (lN n) 0 = 0) ↔ n = 0 := by
  rw [q_eq, pk_lT h]
  simp
theorem g_half {y r : Nat} (hr : 0 < r) (h : r < y) : 2 * (y % r) < y := by
  have h1 := Nat.mod_lt y hr
  have h2 := Nat.div_add_mod y r
  have h3 : 1 ≤ y / r := (Nat.le_div_iff_mul_le hr).mpr (by omega)
  have h4 : r * 1 ≤ r * (y / r) := Nat.mul_le_mul_left r h3
  omega
theorem s_gR : ∀ (k x y m : Nat) (M : Mm), x < 2 ^ 63 → y < 2 ^ k → k ≤ 63 → 2 * k + 1 < m → f_X9_divisor_b28 m (lN x) (lN y) M = some (lN (Nat.gcd x y), M) := by
  intro k
  induction k with
  | zero =>
    intro x y m M hx hy hk hm
    obtain ⟨m, rfl⟩ : ∃ j, m = j + 1 := ⟨m - 1, by omega⟩
    have h0 : y = 0 := by simp at hy; exact hy
    subst h0
    rw [f_X9_divisor_b28_s]
    unfold f_X9_divisor_b28B
    rw [if_pos ((pl_eq0 (by omega)).mpr rfl), Nat.gcd_zero_right]
  | succ k ih =>
    intro x y m M hx hy hk hm
    obtain ⟨m, rfl⟩ : ∃ j, m = j + 2 := ⟨m - 2, by omega⟩
    have hp : 2 ^ (k + 1) ≤ 2 ^ 63 := Nat.pow_le_pow_right (by omega) hk
    have e2 : 2 ^ (k + 1) = 2 * 2 ^ k := by rw [Nat.pow_succ, Nat.mul_comm]
    rw [show m + 2 = (m + 1) + 1 from rfl, f_X9_divisor_b28_s]
    unfold f_X9_divisor_b28B
    by_cases h0 : y = 0
    · subst h0
      rw [if_pos ((pl_eq0 (by omega)).mpr rfl), Nat.gcd_zero_right]
    · have hr := Nat.mod_lt x (show y > 0 by omega)
      rw [if_neg (fun q => h0 ((pl_eq0 (by omega)).mp q)), dvJ_ok (by rw [l_eq, pk_lT (by omega)]; simp; omega), nm_q, pk_lRem hx (by omega) (by omega), f_X9_divisor_b28_s]
      unfold f_X9_divisor_b28B
      by_cases h1 : x % y = 0
      · rw [h1, if_pos ((pl_eq0 (by omega)).mpr rfl), Nat.gcd_comm, Nat.gcd_rec, h1, Nat.gcd_zero_left]
      · rw [if_neg (fun q => h1 ((pl_eq0 (by omega)).mp q)), dvJ_ok (by rw [l_eq, pk_lT (by omega)]; simp; omega), nm_q, pk_lRem (by omega) (by omega) (by omega)]
        have hh := g_half (show 0 < x % y by omega) hr
        rw [ih (x % y) (y % (x % y)) m M (by omega) (by omega) (by omega) (by omega)]
        congr 3
        rw [Nat.gcd_comm x y, Nat.gcd_rec y x, Nat.gcd_rec (x % y) y, Nat.gcd_comm]
theorem s_gX : ∀ (k x y s m : Nat) (M : Mm), x < 2 ^ 63 → y < 2 ^ k → k ≤ 63 → 2 * k + 1 < m → s + 2 * k + 1 ≤ 200 → f_X2_commonPart_b15 m (lN x) (lN y) (nI s) M = some (lN (Nat.gcd x y), M) := by
  intro k
  induction k with
  | zero =>
    intro x y s m M hx hy hk hm hs
    obtain ⟨m, rfl⟩ : ∃ j, m = j + 1 := ⟨m - 1, by omega⟩
    have h0 : y = 0 := by simp at hy; exact hy
    subst h0
    rw [f_X2_commonPart_b15_s]
    unfold f_X2_commonPart_b15B
    rw [if_neg (by rw [i_le, t_nI (by omega), li_200]; omega), if_pos ((pl_eq0 (by omega)).mpr rfl), Nat.gcd_zero_right]
  | succ k ih =>
    intro x y s m M hx hy hk hm hs
    obtain ⟨m, rfl⟩ : ∃ j, m = j + 2 := ⟨m - 2, by omega⟩
    have hp : 2 ^ (k + 1) ≤ 2 ^ 63 := Nat.pow_le_pow_right (by omega) hk
    have e2 : 2 ^ (k + 1) = 2 * 2 ^ k := by rw [Nat.pow_succ, Nat.mul_comm]
    rw [show m + 2 = (m + 1) + 1 from rfl, f_X2_commonPart_b15_s]
    unfold f_X2_commonPart_b15B
    rw [if_neg (by rw [i_le, t_nI (by omega), li_200]; omega)]
    by_cases h0 : y = 0
    · subst h0
      rw [if_pos ((pl_eq0 (by omega)).mpr rfl), Nat.gcd_zero_right]
    · have hr := Nat.mod_lt x (show y > 0 by omega)
      rw [if_neg (fun q => h0 ((pl_eq0 (by omega)).mp q)), dvJ_ok (by rw [l_eq, pk_lT (by omega)]; simp; omega), nm_q, pk_lRem hx (by omega) (by omega), nm_q, nI_1, f_X2_commonPart_b15_s]
      unfold f_X2_commonPart_b15B
      rw [if_neg (by rw [i_le, t_nI (by omega), li_200]; omega)]
      by_cases h1 : x % y = 0
      · rw [h1, if_pos ((pl_eq0 (by omega)).mpr rfl), Nat.gcd_comm, Nat.gcd_rec, h1, Nat.gcd_zero_left]
      · rw [if_neg (fun q => h1 ((pl_eq0 (by omega)).mp q)), dvJ_ok (by rw [l_eq, pk_lT (by omega)]; simp; omega), nm_q, pk_lRem (by omega) (by omega) (by omega), nm_q, nI_1]
        have hh := g_half (show 0 < x % y by omega) hr
        rw [ih (x % y) (y % (x % y)) (s + 1 + 1) m M (by omega) (by omega) (by omega) (by omega) (by omega)]
        congr 3
        rw [Nat.gcd_comm x y, Nat.gcd_rec y x, Nat.gcd_rec (x % y) y, Nat.gcd_comm]
theorem lN_of {x : Int64} (h : 0 ≤ x.toInt) : x = lN x.toInt.natAbs := by
  have := l_bd x
  rw [l_eq, pk_lT (by omega)]
  omega
theorem lN_neg {x : Int64} (h : x.toInt ≤ 0) (hm : x.toInt ≠ -9223372036854775808) : -x = lN x.toInt.natAbs := by
  have := l_bd x
  rw [l_eq, pk_lT (by omega), l_neg hm]
  omega
theorem s_commonPart {a b : Int64} (M : Mm) (ha : a.toInt ≠ -9223372036854775808) (hb : b.toInt ≠ -9223372036854775808) : f_X2_commonPart a b M = some (lN (Nat.gcd a.toInt.natAbs b.toInt.natAbs), M) := by
  have h1 := l_bd a
  have h2 := l_bd b
  have e : ∀ x : Int64, x.toInt ≠ -9223372036854775808 → (if 0 < x then x else -x) = lN x.toInt.natAbs := by
    intro x hx
    by_cases q : 0 < x
    · rw [if_pos q]
      rw [l_lt] at q
      exact lN_of (by simp at q; omega)
    · rw [if_neg q]
      rw [l_lt] at q
      exact lN_neg (by simp at q; omega) hx
  unfold f_X2_commonPart
  rw [nm_q, nm_q, e a ha, e b hb]
  exact s_gX 63 _ _ 0 fuel M (by omega) (by omega) (by omega) (by show 127 < 1000; omega) (by omega)
theorem s_divisor {a b : Int64} (M : Mm) (ha : a.toInt ≠ -9223372036854775808) (hb : b.toInt ≠ -9223372036854775808) : f_X9_divisor a b M = some (lN (Nat.gcd a.toInt.natAbs b.toInt.natAbs), M) := by
  have h1 := l_bd a
  have h2 := l_bd b
  have z : (0 : Int64).toInt = 0 := rfl
  have g := s_gR 63 a.toInt.natAbs b.toInt.natAbs fuel M (by omega) (by omega) (by omega) (by show 127 < 1000; omega)
  unfold f_X9_divisor f_X9_divisor_b12 f_X9_divisor_b26
  simp only [q_ge, z]
  by_cases qa : 0 ≤ a.toInt
  · rw [if_pos qa]
    by_cases qb : 0 ≤ b.toInt
    · rw [if_pos qb]
      rw [← lN_of qa, ← lN_of qb] at g
      exact g
    · rw [if_neg qb]
      rw [← lN_of qa, ← lN_neg (by omega) hb] at g
      exact g
  · rw [if_neg qa]
    by_cases qb : 0 ≤ b.toInt
    · rw [if_pos qb]
      rw [← lN_neg (by omega) ha, ← lN_of qb] at g
      exact g
    · rw [if_neg qb]
      rw [← lN_neg (by omega) ha, ← lN_neg (by omega) hb] at g
      exact g
/-- the fraction u by l in lowest terms -/
def FU (u l : Int) : Int := if l < 0 then -(u.tdiv (Nat.gcd u.natAbs l.natAbs)) else u.tdiv (Nat.gcd u.natAbs l.natAbs)
def FL (u l : Int) : Int := if l < 0 then -(l.tdiv (Nat.gcd u.natAbs l.natAbs)) else l.tdiv (Nat.gcd u.natAbs l.natAbs)
def frU (u l : Int64) : Int64 := u / (if l.toInt < 0 then -lN (Nat.gcd u.toInt.natAbs l.toInt.natAbs) else lN (Nat.gcd u.toInt.natAbs l.toInt.natAbs))
def frL (u l : Int64) : Int64 := l / (if l.toInt < 0 then -lN (Nat.gcd u.toInt.natAbs l.toInt.natAbs) else lN (Nat.gcd u.toInt.natAbs l.toInt.natAbs))
theorem gcd_b {u l : Int} (hl : l ≠ 0) (h2 : l.natAbs < 2 ^ 63) : 0 < Nat.gcd u.natAbs l.natAbs ∧ Nat.gcd u.natAbs l.natAbs < 2 ^ 63 := by
  have h3 : Nat.gcd u.natAbs l.natAbs ∣ l.natAbs := Nat.gcd_dvd_right _ _
  have h4 := Nat.le_of_dvd (by omega) h3
  exact ⟨Nat.gcd_pos_of_pos_right _ (by omega), by omega⟩
theorem fr_toInt {u l : Int64} (hu : u.toInt ≠ -9223372036854775808) (hl : l.toInt ≠ -9223372036854775808) (h0 : l.toInt ≠ 0) : (frU u l).toInt = FU u.toInt l.toInt ∧ (frL u l).toInt = FL u.toInt l.toInt := by
  have hb := l_bd l
  obtain ⟨g1, g2⟩ := gcd_b (u := u.toInt) h0 (by omega)
  unfold frU frL FU FL
  have tg : (lN (Nat.gcd u.toInt.natAbs l.toInt.natAbs)).toInt = (Nat.gcd u.toInt.natAbs l.toInt.natAbs : Int) := pk_lT g2
  by_cases q : l.toInt < 0
  · rw [if_pos q, if_pos q, if_pos q]
    have tn : (-lN (Nat.gcd u.toInt.natAbs l.toInt.natAbs)).toInt = -(Nat.gcd u.toInt.natAbs l.toInt.natAbs : Int) := by rw [l_neg (by rw [tg]; omega), tg]
    rw [l_div (by omega), l_div (by omega), tn, Int.tdiv_neg, Int.tdiv_neg]
    exact ⟨rfl, rfl⟩
  · rw [if_neg q, if_neg q, if_neg q, l_div (by omega), l_div (by omega), tg]
    exact ⟨rfl, rfl⟩
theorem F_pos {u l : Int} (h : l < 0) : FU u l = FU (-u) (-l) ∧ FL u l = FL (-u) (-l) := by
  unfold FU FL
  rw [if_pos h, if_pos h, if_neg (show ¬ -l < 0 by omega), if_neg (show ¬ -l < 0 by omega), Int.natAbs_neg, Int.natAbs_neg, Int.neg_tdiv, Int.neg_tdiv]
  exact ⟨rfl, rfl⟩
theorem F_eq0 {u l u2 l2 : Int} (h : 0 < l) (h2 : 0 < l2) (e : u * l2 = u2 * l) : FU u l = FU u2 l2 ∧ FL u l = FL u2 l2 := by
  unfold FU FL
  rw [if_neg (show ¬ l < 0 by omega), if_neg (show ¬ l < 0 by omega), if_neg (show ¬ l2 < 0 by omega), if_neg (show ¬ l2 < 0 by omega)]
  have gp : 0 < Nat.gcd u.natAbs l.natAbs := Nat.gcd_pos_of_pos_right _ (by omega)
  have gp2 : 0 < Nat.gcd u2.natAbs l2.natAbs := Nat.gcd_pos_of_pos_right _ (by omega)
  obtain ⟨a, ha⟩ := Int.ofNat_dvd_left.mpr (Nat.gcd_dvd_left u.natAbs l.natAbs)
  obtain ⟨b, hb⟩ := Int.ofNat_dvd_left.mpr (Nat.gcd_dvd_right u.natAbs l.natAbs)
  obtain ⟨a2, ha2⟩ := Int.ofNat_dvd_left.mpr (Nat.gcd_dvd_left u2.natAbs l2.natAbs)
  obtain ⟨b2, hb2⟩ := Int.ofNat_dvd_left.mpr (Nat.gcd_dvd_right u2.natAbs l2.natAbs)
  generalize hg : Nat.gcd u.natAbs l.natAbs = g at *
  generalize hg2 : Nat.gcd u2.natAbs l2.natAbs = g2 at *
  have e1 : u.tdiv (g : Int) = a := by rw [ha]; exact Int.mul_tdiv_cancel_left _ (by omega)
  have e2 : l.tdiv (g : Int) = b := by rw [hb]; exact Int.mul_tdiv_cancel_left _ (by omega)
  have e3 : u2.tdiv (g2 : Int) = a2 := by rw [ha2]; exact Int.mul_tdiv_cancel_left _ (by omega)
  have e4 : l2.tdiv (g2 : Int) = b2 := by rw [hb2]; exact Int.mul_tdiv_cancel_left _ (by omega)
  rw [e1, e2, e3, e4]
  have bp : 0 < b := by
    rcases Int.lt_or_le 0 b with q | q
    · exact q
    · exfalso
      have := Int.mul_nonpos_of_nonneg_of_nonpos (show (0 : Int) ≤ g by omega) q
      omega
  have bp2 : 0 < b2 := by
    rcases Int.lt_or_le 0 b2 with q | q
    · exact q
    · exfalso
      have := Int.mul_nonpos_of_nonneg_of_nonpos (show (0 : Int) ≤ g2 by omega) q
      omega
  have key : a * b2 = a2 * b := by
    have h5 : (g : Int) * g2 * (a * b2) = (g : Int) * g2 * (a2 * b) := by
      have l1 : u * l2 = (g : Int) * g2 * (a * b2) := by rw [ha, hb2, Int.mul_assoc, Int.mul_assoc]; congr 1; rw [← Int.mul_assoc, Int.mul_comm a, Int.mul_assoc]
      have l2' : u2 * l = (g : Int) * g2 * (a2 * b) := by rw [ha2, hb, Int.mul_comm ((g : Int)) (g2), Int.mul_assoc, Int.mul_assoc]; congr 1; rw [← Int.mul_assoc, Int.mul_comm a2, Int.mul_assoc]
      rw [← l1, ← l2', e]
    exact Int.eq_of_mul_eq_mul_left (Int.mul_ne_zero (by omega) (by omega)) h5
  have c1 : Nat.Coprime a.natAbs b.natAbs := by
    have h6 : Nat.gcd (g * a.natAbs) (g * b.natAbs) = g := by
      have x1 : u.natAbs = g * a.natAbs := by rw [ha, Int.natAbs_mul]; rfl
      have x2 : l.natAbs = g * b.natAbs := by rw [hb, Int.natAbs_mul]; rfl
      rw [← x1, ← x2]; exact hg
    rw [Nat.gcd_mul_left] at h6
    exact Nat.eq_of_mul_eq_mul_left gp (by rw [h6, Nat.mul_one])
  have c2 : Nat.Coprime a2.natAbs b2.natAbs := by
    have h6 : Nat.gcd (g2 * a2.natAbs) (g2 * b2.natAbs) = g2 := by
      have x1 : u2.natAbs = g2 * a2.natAbs := by rw [ha2, Int.natAbs_mul]; rfl
      have x2 : l2.natAbs = g2 * b2.natAbs := by rw [hb2, Int.natAbs_mul]; rfl
      rw [← x1, ← x2]; exact hg2
    rw [Nat.gcd_mul_left] at h6
    exact Nat.eq_of_mul_eq_mul_left gp2 (by rw [h6, Nat.mul_one])
  have kn : a.natAbs * b2.natAbs = a2.natAbs * b.natAbs := by rw [← Int.natAbs_mul, key, Int.natAbs_mul]
  have d1 : b.natAbs ∣ b2.natAbs := Nat.Coprime.dvd_of_dvd_mul_left c1.symm (by rw [kn]; exact Nat.dvd_mul_left _ _)
  have d2 : b2.natAbs ∣ b.natAbs := Nat.Coprime.dvd_of_dvd_mul_left c2.symm (by rw [← kn]; exact Nat.dvd_mul_left _ _)
  have eb : b = b2 := by have := Nat.dvd_antisymm d1 d2; omega
  subst eb
  exact ⟨Int.eq_of_mul_eq_mul_right (by omega) key, rfl⟩
theorem F_eq {u l u2 l2 : Int} (h : l ≠ 0) (h2 : l2 ≠ 0) (e : u * l2 = u2 * l) : FU u l = FU u2 l2 ∧ FL u l = FL u2 l2 := by
  rcases Int.lt_or_gt_of_ne h with q | q
  · rcases Int.lt_or_gt_of_ne h2 with q2 | q2
    · rw [(F_pos q).1, (F_pos q).2, (F_pos q2).1, (F_pos q2).2]
      exact F_eq0 (by omega) (by omega) (by rw [Int.neg_mul_neg, Int.neg_mul_neg]; exact e)
    · rw [(F_pos q).1, (F_pos q).2]
      exact F_eq0 (by omega) q2 (by rw [Int.neg_mul, Int.mul_neg, e])
  · rcases Int.lt_or_gt_of_ne h2 with q2 | q2
    · rw [(F_pos q2).1, (F_pos q2).2]
      exact F_eq0 q (by omega) (by rw [Int.neg_mul, Int.mul_neg, e])
    · exact F_eq0 q q2 e
theorem fr_eq {u l u2 l2 : Int64} (a1 : u.toInt ≠ -9223372036854775808) (a2 : l.toInt ≠ -9223372036854775808) (a3 : u2.toInt ≠ -9223372036854775808) (a4 : l2.toInt ≠ -9223372036854775808) (h : l.toInt ≠ 0) (h2 : l2.toInt ≠ 0) (e : u.toInt * l2.toInt = u2.toInt * l.toInt) : frU u l = frU u2 l2 ∧ frL u l = frL u2 l2 := by
  obtain ⟨b1, b2⟩ := fr_toInt a1 a2 h
  obtain ⟨b3, b4⟩ := fr_toInt a3 a4 h2
  obtain ⟨c1, c2⟩ := F_eq h h2 e
  exact ⟨by rw [l_eq, b1, b3, c1], by rw [l_eq, b2, b4, c2]⟩
theorem s_set {a : Nat} {u l : Int64} (M : Mm) (hu : u.toInt ≠ -9223372036854775808) (hl : l.toInt ≠ -9223372036854775808) (h0 : l.toInt ≠ 0) : f_X2_set a u l M = some (sJ (sJ M a 0 (frU u l)) a 1 (frL u l)) := by
  have hb := l_bd l
  obtain ⟨g1, g2⟩ := gcd_b (u := u.toInt) h0 (by omega)
  have tg : (lN (Nat.gcd u.toInt.natAbs l.toInt.natAbs)).toInt = (Nat.gcd u.toInt.natAbs l.toInt.natAbs : Int) := pk_lT g2
  have z : (0 : Int64).toInt = 0 := rfl
  unfold f_X2_set f_X2_set_b35 frU frL
  simp only [s_commonPart M hu hl, nm_q, bd_s, q_eq, q_ge, z, tg]
  rw [if_neg h0, if_neg (by omega)]
  by_cases q : l.toInt < 0
  · rw [if_neg (by omega), if_pos q, dvJ_ok (by rw [l_eq, l_neg (by rw [tg]; omega), tg, z]; omega), dvJ_ok (by rw [l_eq, l_neg (by rw [tg]; omega), tg, z]; omega)]
  · rw [if_pos (by omega), if_neg q, dvJ_ok (by rw [l_eq, tg, z]; omega), dvJ_ok (by rw [l_eq, tg, z]; omega)]
theorem s_share {u l : Int64} {x : Int32} (M : Mm) (hu : u.toInt ≠ -9223372036854775808) (hl : l.toInt ≠ -9223372036854775808) (h0 : l.toInt ≠ 0) : f_X9_share 1 u l x M = some (x, sJ (sJ M 1 3 (frU u l)) 1 4 (frL u l)) := by
  have hb := l_bd l
  obtain ⟨g1, g2⟩ := gcd_b (u := u.toInt) h0 (by omega)
  have tg : (lN (Nat.gcd u.toInt.natAbs l.toInt.natAbs)).toInt = (Nat.gcd u.toInt.natAbs l.toInt.natAbs : Int) := pk_lT g2
  have z : (0 : Int64).toInt = 0 := rfl
  unfold f_X9_share f_X9_share_b20 frU frL
  simp only [s_divisor M hu hl, nm_q, bd_s, q_ge, z]
  by_cases q : l.toInt < 0
  · rw [if_neg (by omega), if_pos q, dvJ_ok (by rw [l_eq, l_neg (by rw [tg]; omega), tg, z]; omega), dvJ_ok (by rw [l_eq, l_neg (by rw [tg]; omega), tg, z]; omega)]
  · rw [if_pos (by omega), if_neg q, dvJ_ok (by rw [l_eq, tg, z]; omega), dvJ_ok (by rw [l_eq, tg, z]; omega)]
theorem inv_frac {M Ma Mb : Mm} {U L : Int64} (h : Inv M) (sa : Sc M Ma) (sb : Sc (sJ (sJ Ma 7 0 U) 7 1 L) Mb) : Inv (sJ (sJ Mb 1 3 U) 1 4 L) := by
  obtain ⟨⟨kd, rt, hd, rm, cm, wy, w, n1, n2⟩, ⟨sz, pl, w2, r1, r2⟩, ⟨ff, fn, as, up, lo, f1, f2⟩⟩ := h.sc sa
  have sx : ∀ a k, pX a → mI (sJ (sJ Mb 1 3 U) 1 4 L) a k = mI Ma a k := fun a k p => sb.1 a k (Or.inl p)
  have sr : ∀ a k, pR a k → mI (sJ (sJ Mb 1 3 U) 1 4 L) a k = mI Ma a k := fun a k p => sb.1 a k (Or.inr p)
  refine ⟨⟨kd, rt, hd, rm, cm, wy, w, n1.sc sx, n2.sc sr⟩, ⟨sz, pl, w2, r1.sc sx, r2.sc sr⟩, ⟨ff, fn, as, U, L, ⟨fun f h1 h2 => ?_, ?_, ?_, ?_, ?_⟩, ⟨fun f h1 h2 => ?_, ?_, ?_, ?_, ?_⟩⟩⟩
  · rw [sx _ _ (by unfold pX; omega)]; exact f1.1 f h1 h2
  · rw [sx _ _ (by unfold pX; omega)]; exact f1.2.1
  · rw [sx _ _ (by unfold pX; omega)]; exact f1.2.2.1
  · rw [mJ_sJ, if_neg (by omega), mJ_sJ, if_neg (by omega), sb.2.1, mJ_sJ, if_neg (by omega), mJ_sJ, if_pos (by omega)]
  · rw [mJ_sJ, if_neg (by omega), mJ_sJ, if_neg (by omega), sb.2.1, mJ_sJ, if_pos (by omega)]
  · rw [sr _ _ (by unfold pR; omega)]; exact f2.1 f h1 h2
  · rw [sr _ _ (by unfold pR; omega)]; exact f2.2.1
  · rw [sr _ _ (by unfold pR; omega)]; exact f2.2.2.1
  · rw [mJ_sJ, if_neg (by omega), mJ_sJ, if_pos (by omega)]
  · rw [mJ_sJ, if_pos (by omega)]

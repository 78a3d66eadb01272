/-! visits: the numbers -/
theorem det_cg {A B : Nat → Nat → Int64} {n : Nat} (hn : n ≤ 6) (h : ∀ i j, i < n → j < n → A i j = B i j) : detB A n = detB B n := by
  have rd : ∀ i j, i < n → j < n → mJ ((fun _ _ => 0, fun _ c => A (c / 6) (c % 6)) : Mm) 97 (6 * i + j) = A i j := by
    intro i j _ hj
    have q := d6 (i := i) (show j < 6 by omega)
    show A ((6 * i + j) / 6) ((6 * i + j) % 6) = A i j
    rw [q.1, q.2]
  obtain ⟨M1, e1, _⟩ := s_clear hn (A := A) rd
  obtain ⟨M2, e2, _⟩ := s_clear hn (A := B) (fun i j hi hj => (rd i j hi hj).trans (h i j hi hj))
  rw [e1] at e2
  have := Option.some.inj e2
  exact congrArg Prod.fst this
theorem AF_all {P : Nat → Bool} : ∀ k i, AF P k i = true → ∀ c, i ≤ c → c < i + k → P c = true
  | 0, i, _ => fun c a b => by omega
  | k + 1, i, h => by
    rw [AF_s, Bool.and_eq_true] at h
    intro c a b
    by_cases e : c = i
    · subst e; exact h.1
    · exact AF_all k (i + 1) h.2 c (by omega) (by omega)
theorem gF_all {kd : Nf} : ∀ k i, gF kd k i = true → ∀ c, i ≤ c → c < i + k → kd c ≠ 4 ∧ kd c ≠ 5
  | 0, i, _ => fun c a b => by omega
  | k + 1, i, h => by
    unfold gF at h
    simp only [Bool.and_eq_true, Bool.not_eq_true', Bool.or_eq_false_iff, beq_eq_false_iff_ne] at h
    intro c a b
    by_cases e : c = i
    · subst e; exact h.1
    · exact gF_all k (i + 1) h.2 c (by omega) (by omega)
/-- a closed net -/
def ClN (kd cm : Nf) (wy : Nat → Nf) : Prop := tbN kd 4 ≠ 0 ∧ ∀ c, c < 4 → kd c ≠ 9 → cm c = 0 ∧ wy c 0 + wy c 1 + wy c 2 + wy c 3 = 4 ∧ RR (pw wy) 4 c = tbN kd 4 ∧ kd c ≠ 4 ∧ kd c ≠ 5
theorem cl_N {kd cm : Nf} {wy : Nat → Nf} (h : clP kd cm wy) : ClN kd cm wy := by
  obtain ⟨h0, h1, h2, h3⟩ := h
  refine ⟨h0, fun c hc h9 => ?_⟩
  have a := AF_all 4 0 h2 c (by omega) (by omega)
  have b := AF_all 4 0 h3 c (by omega) (by omega)
  have g := gF_all 4 0 h1 c (by omega) (by omega)
  unfold cPA at a
  unfold cPB at b
  simp only [Bool.or_eq_true, Bool.and_eq_true, decide_eq_true_eq] at a b
  exact ⟨(a.resolve_left h9).1, (a.resolve_left h9).2, b.resolve_left h9, g⟩
theorem tb_N {kd : Nf} {c : Nat} : (tbN kd 4).testBit c = true ↔ c < 4 ∧ kd c ≠ 9 := by
  unfold tbN
  rw [mk_tb, Bool.and_eq_true, decide_eq_true_eq, decide_eq_true_eq]
theorem tb_F {kd : Nf} {c : Nat} (hc : c < 4) : (tbN kd 4).testBit c = false ↔ kd c = 9 := by
  rw [Bool.eq_false_iff]
  constructor
  · intro h
    apply Classical.byContradiction
    intro z
    exact h (tb_N.mpr ⟨hc, z⟩)
  · intro h z
    exact (tb_N.mp z).2 h
theorem w4_of {kd rr hd rm cm : Nf} {wy : Nat → Nf} (w : wfN kd rr hd rm cm wy) : ∀ i j, i < 4 → j < 4 → wy i j ≤ 4 := by
  intro i j hi hj
  have := (w i hi).2.2.2.2.2.2
  have hj4 : j = 0 ∨ j = 1 ∨ j = 2 ∨ j = 3 := by omega
  rcases hj4 with rfl | rfl | rfl | rfl <;> omega
theorem pw_ok {wy : Nat → Nf} (w4 : ∀ i j, i < 4 → j < 4 → wy i j ≤ 4) : okR (pw wy) 4 := by
  intro f t hf ht _
  have := w4 f t hf ht
  rw [pw_s wy f ht, t_nI (by omega)]
  omega
theorem lv64 {O : Mi} {n : Nat} (h1 : 1 ≤ n) (hn : n ≤ 3) (hm : MM O 0 n) (hd : ∀ i, i < n → O i i ≤ 4) : lv O (n - 1) (n - 1) (n - 1) ≤ 64 := by
  have p0 := MM_piv hm (by omega)
  have d0 := hd 0 (by omega)
  have : n = 1 ∨ n = 2 ∨ n = 3 := by omega
  rcases this with rfl | rfl | rfl
  · show O 0 0 ≤ 64
    omega
  · show m2 O 1 1 ≤ 64
    have d1 := hd 1 (by omega)
    have q := Int.mul_nonneg (show 0 ≤ -(O 1 0) by have := hm.1 1 0 (by omega) (by omega) (by omega) (by omega) (by omega); omega) (show 0 ≤ -(O 0 1) by have := hm.1 0 1 (by omega) (by omega) (by omega) (by omega) (by omega); omega)
    rw [Int.neg_mul_neg] at q
    have a := Int.mul_le_mul_of_nonneg_right d1 (show 0 ≤ O 0 0 by omega)
    rw [m2_e]
    omega
  · show m3 O 2 2 ≤ 64
    have d1 := hd 1 (by omega)
    have d2 := hd 2 (by omega)
    have s1 := MM_lv (n := 3) (by omega) hm 1 (by omega)
    have n21 : m2 O 2 1 ≤ 0 := s1.1.1 2 1 (by omega) (by omega) (by omega) (by omega) (by omega)
    have n12 : m2 O 1 2 ≤ 0 := s1.1.1 1 2 (by omega) (by omega) (by omega) (by omega) (by omega)
    have p11 : 0 < m2 O 1 1 := MM_piv s1.1 (by omega)
    have b := B3 O 2 2
    have q := Int.mul_nonneg (show 0 ≤ -(m2 O 2 1) by omega) (show 0 ≤ -(m2 O 1 2) by omega)
    rw [Int.neg_mul_neg] at q
    have q1 := Int.mul_nonneg (show 0 ≤ -(O 1 0) by have := hm.1 1 0 (by omega) (by omega) (by omega) (by omega) (by omega); omega) (show 0 ≤ -(O 0 1) by have := hm.1 0 1 (by omega) (by omega) (by omega) (by omega) (by omega); omega)
    rw [Int.neg_mul_neg] at q1
    have q2 := Int.mul_nonneg (show 0 ≤ -(O 2 0) by have := hm.1 2 0 (by omega) (by omega) (by omega) (by omega) (by omega); omega) (show 0 ≤ -(O 0 2) by have := hm.1 0 2 (by omega) (by omega) (by omega) (by omega) (by omega); omega)
    rw [Int.neg_mul_neg] at q2
    have a1 := Int.mul_le_mul_of_nonneg_right d1 (show 0 ≤ O 0 0 by omega)
    have m11 : m2 O 1 1 ≤ 16 := by rw [m2_e]; omega
    have m22 : m2 O 2 2 ≤ O 0 0 * 4 := by
      have a2 := Int.mul_le_mul_of_nonneg_right d2 (show 0 ≤ O 0 0 by omega)
      show O 2 2 * O 0 0 - O 2 0 * O 0 2 ≤ O 0 0 * 4
      omega
    have c1 := Int.mul_le_mul_of_nonneg_right m22 (show 0 ≤ m2 O 1 1 by omega)
    have c2 : O 0 0 * 4 * m2 O 1 1 ≤ O 0 0 * 4 * 16 := Int.mul_le_mul_of_nonneg_left m11 (by omega)
    have c3 : O 0 0 * m3 O 2 2 ≤ O 0 0 * 64 := by omega
    exact Int.le_of_mul_le_mul_left c3 p0
/-- what a counter weighs, as a number -/
def wN (kd : Nf) (wy : Nat → Nf) (c : Nat) : Nat := (wtB (pw wy) 4 (tbN kd 4) c).toInt.natAbs
theorem wN_b {kd rr hd rm cm : Nf} {wy : Nat → Nf} (w : wfN kd rr hd rm cm wy) (cl : ClN kd cm wy) {c : Nat} (hc : c < 4) : wtB (pw wy) 4 (tbN kd 4) c = lN (wN kd wy c) ∧ wN kd wy c ≤ 64 ∧ (kd c ≠ 9 → 1 ≤ wN kd wy c) ∧ (kd c = 9 → wN kd wy c = 0) := by
  have w4 := w4_of w
  have hok := pw_ok w4
  have hv : tbN kd 4 < 2 ^ 4 := mk_lt _ _
  by_cases h9 : kd c = 9
  · have e : wtB (pw wy) 4 (tbN kd 4) c = 0 := by
      unfold wtB
      rw [if_neg (fun hz => (tb_N.mp hz).2 h9)]
    have e2 : wN kd wy c = 0 := by unfold wN; rw [e]; rfl
    exact ⟨by rw [e, e2]; rfl, by omega, fun h => absurd h9 h, fun _ => e2⟩
  · have hb : (tbN kd 4).testBit c = true := tb_N.mpr ⟨hc, h9⟩
    have hr : ∀ x, x < 4 → (tbN kd 4).testBit x = true → (RR (pw wy) 4 x).testBit c = true := fun x hx hxb => by rw [(cl.2 x hx (tb_N.mp hxb).2).2.2.1]; exact hb
    have pos := w_pos hok (by omega) hc hv hb hr
    have le : (wtB (pw wy) 4 (tbN kd 4) c).toInt ≤ 64 := by
      have hz : (rmv (tbN kd 4) c).testBit c = false := by
        rw [Bool.eq_false_iff]
        intro z
        exact ((rmv_tb (show tbN kd 4 < 64 by omega) (show c < 6 by omega)).mp z).2 rfl
      have hlt := bc_lt_s hz 4 hc
      unfold wtB
      rw [if_pos hb]
      by_cases n0 : bc (rmv (tbN kd 4) c) 4 = 0
      · rw [n0]
        unfold detB
        rw [if_pos rfl]
        decide
      · have mm := w_MM hok (by omega) hc hv hb hr
        have dp := det_pos (A := suB (enC (pw wy) 4) (rmv (tbN kd 4) c) 4) (n := bc (rmv (tbN kd 4) c) 4) (by omega) (by omega) (fun a b ha hb' => (en_b hok (by omega) (ix_ok 4 a ha).1 (ix_ok 4 b hb').1).2) mm
        rw [dp.1]
        refine lv64 (by omega) (by omega) mm (fun i hi => ?_)
        unfold cut suB
        rw [if_pos ⟨hi, hi⟩]
        have o := ix_ok (v := rmv (tbN kd 4) c) 4 i hi
        generalize ixn (rmv (tbN kd 4) c) 4 i = x at *
        unfold enC
        rw [if_pos rfl, (goS_I hok (by omega) o.1 4 (by omega)).1]
        have hs := (w x o.1).2.2.2.2.2.2
        have qx : ∀ y, y < 4 → qI (pw wy) 4 x y = (wy x y : Int) := fun y hy => by
          have := w4 x y o.1 hy
          unfold qI
          rw [pw_s wy x hy, t_nI (by omega)]
        show (0 : Int) + (if 0 = x then 0 else qI (pw wy) 4 x 0) + (if 1 = x then 0 else qI (pw wy) 4 x 1) + (if 2 = x then 0 else qI (pw wy) 4 x 2) + (if 3 = x then 0 else qI (pw wy) 4 x 3) ≤ 4
        rw [qx 0 (by omega), qx 1 (by omega), qx 2 (by omega), qx 3 (by omega)]
        repeat' split
        all_goals omega
    unfold wN
    exact ⟨lN_of (by omega), by omega, fun _ => by omega, fun h => absurd h h9⟩
def gk (kd : Nf) (wy : Nat → Nf) : Nat → Nat
  | 0 => 0
  | k + 1 => Nat.gcd (gk kd wy k) (wN kd wy k)
theorem gk_dvd {kd : Nf} {wy : Nat → Nf} : ∀ k c, c < k → gk kd wy k ∣ wN kd wy c
  | 0, c, h => by omega
  | k + 1, c, h => by
    unfold gk
    by_cases e : c = k
    · subst e; exact Nat.gcd_dvd_right _ _
    · exact Nat.dvd_trans (Nat.gcd_dvd_left _ _) (gk_dvd k c (by omega))
theorem gk_lt {kd : Nf} {wy : Nat → Nf} (h : ∀ c, c < 4 → wN kd wy c ≤ 64) : ∀ k, k ≤ 4 → gk kd wy k ≤ 64
  | 0, _ => by simp [gk]
  | k + 1, hk => by
    unfold gk
    have := gk_lt h k (by omega)
    by_cases z : gk kd wy k = 0
    · rw [z, Nat.gcd_zero_left]; exact h k (by omega)
    · exact Nat.le_trans (Nat.gcd_le_left _ (by omega)) this
/-- visits -/
def vn (kd : Nf) (wy : Nat → Nf) (c : Nat) : Nat := wN kd wy c / gk kd wy 4
theorem gk_pos {kd rr hd rm cm : Nf} {wy : Nat → Nf} (w : wfN kd rr hd rm cm wy) (cl : ClN kd cm wy) : 1 ≤ gk kd wy 4 := by
  have : ∃ c, c < 4 ∧ kd c ≠ 9 := by
    apply Classical.byContradiction
    intro hz
    apply cl.1
    apply Nat.eq_of_testBit_eq
    intro j
    rw [Nat.zero_testBit, Bool.eq_false_iff]
    intro hj
    exact hz ⟨j, tb_N.mp hj⟩
  obtain ⟨c, hc, h9⟩ := this
  have d := gk_dvd (kd := kd) (wy := wy) 4 c hc
  have p := (wN_b w cl hc).2.2.1 h9
  exact Nat.pos_of_dvd_of_pos d (by omega)
theorem vn_b {kd rr hd rm cm : Nf} {wy : Nat → Nf} (w : wfN kd rr hd rm cm wy) (cl : ClN kd cm wy) {c : Nat} (hc : c < 4) : vn kd wy c ≤ 64 ∧ (kd c ≠ 9 → 1 ≤ vn kd wy c) ∧ (kd c = 9 → vn kd wy c = 0) ∧ wN kd wy c = gk kd wy 4 * vn kd wy c := by
  have b := wN_b w cl hc
  have g := gk_pos w cl
  have d := gk_dvd (kd := kd) (wy := wy) 4 c hc
  have e : gk kd wy 4 * vn kd wy c = wN kd wy c := Nat.mul_div_cancel' d
  refine ⟨Nat.le_trans (Nat.div_le_self _ _) b.2.1, fun h9 => ?_, fun h9 => ?_, e.symm⟩
  · have := b.2.2.1 h9
    rcases Nat.eq_zero_or_pos (vn kd wy c) with z | z
    · rw [z] at e; omega
    · exact z
  · unfold vn; rw [b.2.2.2 h9]; simp
/-- visits by rate, times 12 -/
def sn (kd rr : Nf) (wy : Nat → Nf) (c : Nat) : Nat := vn kd wy c * (12 / rr c)
theorem r12 {r : Nat} (h : r = 1 ∨ r = 2 ∨ r = 3 ∨ r = 4 ∨ r = 6 ∨ r = 12) : 12 / r * r = 12 ∧ 1 ≤ 12 / r ∧ 12 / r ≤ 12 := by
  rcases h with rfl | rfl | rfl | rfl | rfl | rfl <;> decide

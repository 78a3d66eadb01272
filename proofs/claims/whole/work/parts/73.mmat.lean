/-! lines whose sums are not below 0, none stuck: every pivot is above 0 -/
def rs (b : Mi) (i : Nat) : Nat → Nat → Int
  | _, 0 => 0
  | k, c + 1 => b i k + rs b i (k + 1) c
def MM (b : Mi) (k n : Nat) : Prop := (∀ i j, k ≤ i → i < n → k ≤ j → j < n → i ≠ j → b i j ≤ 0) ∧ (∀ i, k ≤ i → i < n → 0 ≤ rs b i k (n - k)) ∧ ∀ T : Nat → Prop, (∃ i, k ≤ i ∧ i < n ∧ T i) → ∃ i, k ≤ i ∧ i < n ∧ T i ∧ (rs b i k (n - k) ≠ 0 ∨ ∃ j, k ≤ j ∧ j < n ∧ ¬ T j ∧ b i j ≠ 0)
theorem rs_le {b : Mi} {i : Nat} : ∀ c k, (∀ j, k ≤ j → j < k + c → b i j ≤ 0) → rs b i k c ≤ 0 ∧ ∀ j, k ≤ j → j < k + c → rs b i k c ≤ b i j
  | 0, k, _ => ⟨by simp [rs], fun j a b => by omega⟩
  | c + 1, k, h => by
    have q := rs_le c (k + 1) (fun j a b => h j (by omega) (by omega))
    have q0 := h k (by omega) (by omega)
    unfold rs
    refine ⟨by omega, fun j a b => ?_⟩
    by_cases e : j = k
    · subst e; omega
    · have := q.2 j (by omega) (by omega); omega
theorem rs_lin {b c : Mi} {i k0 : Nat} {d p q : Int} : ∀ m k, (∀ j, k ≤ j → j < k + m → d * c i j = b i j * p - q * b k0 j) → d * rs c i k m = rs b i k m * p - q * rs b k0 k m
  | 0, k, _ => by simp [rs]
  | m + 1, k, h => by
    have q1 := rs_lin m (k + 1) (fun j a b => h j (by omega) (by omega))
    have q0 := h k (by omega) (by omega)
    unfold rs
    grind
theorem MM_piv {b : Mi} {k n : Nat} (h : MM b k n) (hk : k < n) : 0 < b k k := by
  obtain ⟨h1, h2, h3⟩ := h
  have r := rs_le (b := b) (i := k) (n - (k + 1)) (k + 1) (fun j a c => h1 k j (by omega) hk (by omega) (by omega) (by omega))
  have e : rs b k k (n - k) = b k k + rs b k (k + 1) (n - (k + 1)) := by rw [show n - k = (n - (k + 1)) + 1 by omega]; rfl
  have p := h2 k (by omega) hk
  obtain ⟨i, _, _, hi, hx⟩ := h3 (fun x => x = k) ⟨k, by omega, hk, rfl⟩
  have hi : i = k := hi
  subst hi
  rcases Int.lt_or_le 0 (b i i) with z | z
  · exact z
  · exfalso
    rcases hx with hx | ⟨j, a, c, d, f⟩
    · omega
    · have d : j ≠ i := d
      have := r.2 j (by omega) (by omega)
      have := h1 i j (by omega) hk (by omega) c (by omega)
      omega
theorem MM_step {b c : Mi} {k n : Nat} {d : Int} (h : MM b k n) (hk : k + 1 < n) (hd : 0 < d) (hc : ∀ i j, k < i → i < n → k < j → j < n → d * c i j = b i j * b k k - b i k * b k j) : MM c (k + 1) n := by
  have hp := MM_piv h (by omega)
  obtain ⟨h1, h2, h3⟩ := h
  have er : ∀ i, rs b i k (n - k) = b i k + rs b i (k + 1) (n - (k + 1)) := fun i => by rw [show n - k = (n - (k + 1)) + 1 by omega]; rfl
  have key : ∀ i, k < i → i < n → d * rs c i (k + 1) (n - (k + 1)) = rs b i k (n - k) * b k k + (-(b i k)) * rs b k k (n - k) := by
    intro i i1 i2
    have := rs_lin (b := b) (c := c) (i := i) (k0 := k) (d := d) (p := b k k) (q := b i k) (n - (k + 1)) (k + 1) (fun j a e => hc i j i1 i2 (by omega) (by omega))
    rw [er, er]
    grind
  have nik : ∀ i, k < i → i < n → 0 ≤ -(b i k) := fun i i1 i2 => by have := h1 i k (by omega) i2 (by omega) (by omega) (by omega); omega
  have pr : ∀ i, k < i → i < n → 0 ≤ rs b i k (n - k) * b k k ∧ 0 ≤ (-(b i k)) * rs b k k (n - k) := fun i i1 i2 => ⟨Int.mul_nonneg (h2 i (by omega) i2) (by omega), Int.mul_nonneg (nik i i1 i2) (h2 k (by omega) (by omega))⟩
  have off : ∀ i j, k < i → i < n → k < j → j < n → i ≠ j → 0 ≤ (-(b i j)) * b k k ∧ 0 ≤ (-(b i k)) * (-(b k j)) := fun i j i1 i2 j1 j2 ne => ⟨Int.mul_nonneg (by have := h1 i j (by omega) i2 (by omega) j2 ne; omega) (by omega), Int.mul_nonneg (nik i i1 i2) (by have := h1 k j (by omega) (by omega) (by omega) j2 (by omega); omega)⟩
  have offc : ∀ i j, k < i → i < n → k < j → j < n → d * c i j = -((-(b i j)) * b k k) - (-(b i k)) * (-(b k j)) := fun i j i1 i2 j1 j2 => by
    rw [hc i j i1 i2 j1 j2]; grind
  refine ⟨fun i j i1 i2 j1 j2 ne => ?_, fun i i1 i2 => ?_, fun T hT => ?_⟩
  · have o := off i j (by omega) i2 (by omega) j2 ne
    have e := offc i j (by omega) i2 (by omega) j2
    rcases Int.lt_or_le 0 (c i j) with z | z
    · have := Int.mul_pos hd z; omega
    · exact z
  · have o := pr i (by omega) i2
    have e := key i (by omega) i2
    rcases Int.lt_or_le (rs c i (k + 1) (n - (k + 1))) 0 with z | z
    · have := Int.mul_neg_of_pos_of_neg hd z; omega
    · exact z
  · apply Classical.byContradiction
    intro no
    have st : ∀ i, k < i → i < n → T i → rs c i (k + 1) (n - (k + 1)) = 0 ∧ ∀ j, k < j → j < n → ¬ T j → c i j = 0 := by
      intro i i1 i2 ti
      refine ⟨?_, fun j j1 j2 tj => ?_⟩
      · apply Classical.byContradiction
        intro z
        exact no ⟨i, by omega, i2, ti, Or.inl z⟩
      · apply Classical.byContradiction
        intro z
        exact no ⟨i, by omega, i2, ti, Or.inr ⟨j, by omega, j2, tj, z⟩⟩
    have s0 : ∀ i, k < i → i < n → T i → rs b i k (n - k) = 0 ∧ (b i k = 0 ∨ rs b k k (n - k) = 0) := by
      intro i i1 i2 ti
      have o := pr i i1 i2
      have e := key i i1 i2
      rw [(st i i1 i2 ti).1, Int.mul_zero] at e
      have z1 : rs b i k (n - k) * b k k = 0 := by omega
      have z2 : (-(b i k)) * rs b k k (n - k) = 0 := by omega
      rcases Int.mul_eq_zero.mp z1 with y | y
      · refine ⟨y, ?_⟩
        rcases Int.mul_eq_zero.mp z2 with w | w
        · left; omega
        · right; exact w
      · omega
    have s1 : ∀ i j, k < i → i < n → T i → k < j → j < n → ¬ T j → b i j = 0 ∧ (b i k = 0 ∨ b k j = 0) := by
      intro i j i1 i2 ti j1 j2 tj
      have ne : i ≠ j := fun y => tj (y ▸ ti)
      have o := off i j i1 i2 j1 j2 ne
      have e := offc i j i1 i2 j1 j2
      rw [(st i i1 i2 ti).2 j j1 j2 tj, Int.mul_zero] at e
      have z1 : (-(b i j)) * b k k = 0 := by omega
      have z2 : (-(b i k)) * (-(b k j)) = 0 := by omega
      refine ⟨?_, ?_⟩
      · rcases Int.mul_eq_zero.mp z1 with y | y <;> omega
      · rcases Int.mul_eq_zero.mp z2 with y | y
        · left; omega
        · right; omega
    obtain ⟨t, t1, t2, tt⟩ := hT
    by_cases q : ∀ i, k < i → i < n → T i → b i k = 0
    · obtain ⟨i, i1, i2, ti, hx⟩ := h3 (fun x => x ≠ k ∧ T x) ⟨t, by omega, t2, by omega, tt⟩
      have ik : k < i := by have := ti.1; omega
      rcases hx with hx | ⟨j, j1, j2, tj, hx⟩
      · exact hx (s0 i ik i2 ti.2).1
      · by_cases e : j = k
        · subst e; exact hx (q i ik i2 ti.2)
        · exact hx (s1 i j ik i2 ti.2 (by omega) j2 (fun y => tj ⟨e, y⟩)).1
    · have : ∃ i, k < i ∧ i < n ∧ T i ∧ b i k ≠ 0 := by
        apply Classical.byContradiction
        intro y
        apply q
        intro i i1 i2 ti
        apply Classical.byContradiction
        intro w
        exact y ⟨i, i1, i2, ti, w⟩
      obtain ⟨u, u1, u2, tu, hu⟩ := this
      have rk : rs b k k (n - k) = 0 := by
        rcases (s0 u u1 u2 tu).2 with y | y
        · exact absurd y hu
        · exact y
      obtain ⟨i, i1, i2, ti, hx⟩ := h3 (fun x => x = k ∨ T x) ⟨k, by omega, by omega, Or.inl rfl⟩
      by_cases e : i = k
      · subst e
        rcases hx with hx | ⟨j, j1, j2, tj, hx⟩
        · exact hx rk
        · have jk : i < j := by
            have : j ≠ i := fun y => tj (Or.inl y)
            omega
          rcases (s1 u j u1 u2 tu jk j2 (fun y => tj (Or.inr y))).2 with y | y
          · exact hu y
          · exact hx y
      · have ti' : T i := by
          rcases ti with y | y
          · exact absurd y e
          · exact y
        rcases hx with hx | ⟨j, j1, j2, tj, hx⟩
        · exact hx (s0 i (by omega) i2 ti').1
        · have jk : j ≠ k := fun y => tj (Or.inl y)
          exact hx (s1 i j (by omega) i2 ti' (by omega) j2 (fun y => tj (Or.inr y))).1
theorem MM_lv {O : Mi} {n : Nat} (hn : n ≤ 5) (h : MM O 0 n) : ∀ k, k < n → MM (lv O k) k n ∧ 0 < lp O k
  | 0, _ => ⟨h, by show (0 : Int) < 1; decide⟩
  | k + 1, hk => by
    have q := MM_lv hn h k (by omega)
    exact ⟨MM_step q.1 hk q.2 (fun i j _ _ _ _ => (lv_s O (by omega) i j).symm), MM_piv q.1 (by omega)⟩
theorem MM_pos {O : Mi} {n : Nat} (hn : n ≤ 5) (h : MM O 0 n) {k : Nat} (hk : k < n) : 0 < lv O k k k := MM_piv (MM_lv hn h k hk).1 hk
theorem det_pos {A : Nat → Nat → Int64} {n : Nat} (h1 : 1 ≤ n) (hn : n ≤ 5) (h : ∀ i j, i < n → j < n → (A i j).toInt.natAbs ≤ 60) (hm : MM (cut A n) 0 n) : (detB A n).toInt = lv (cut A n) (n - 1) (n - 1) (n - 1) ∧ 0 < (detB A n).toInt ∧ (detB A n).toInt ≤ 93312000000 := by
  have e := det_ok h1 hn h (Or.inr fun k hk => by have := MM_pos hn hm hk; omega)
  refine ⟨e, ?_, ?_⟩
  · rw [e]; exact MM_pos hn hm (by omega)
  · rw [e]; have := lv_bb (cut_b h) (show n - 1 ≤ 4 by omega) (n - 1) (n - 1); omega

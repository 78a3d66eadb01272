/-! the class's determinant as a function of the cells -/
def swB (A : Nat → Nat → Int64) (k i x y : Nat) : Int64 := if x = k then A i y else if x = i then A k y else A x y
def fnd (A : Nat → Nat → Int64) (k : Nat) : Nat → Nat → Option Nat
  | 0, _ => none
  | c + 1, i => if A i k = 0 then fnd A k c (i + 1) else some i
def elA (A : Nat → Nat → Int64) (k : Nat) (b : Int64) (i j : Nat) : Int64 := if k < i ∧ k < j then elB A k b i j else A i j
def SW (M : Mm) (q : Nat) (A : Nat → Nat → Int64) (k i j : Nat) : Mm := (M.1, fun a c => if a = q + k ∧ c < j then A i c else if a = q + i ∧ c < j then A k c else M.2 a c)
theorem mJ_SW (M : Mm) (q : Nat) (A : Nat → Nat → Int64) (k i j a c : Nat) : mJ (SW M q A k i j) a c = if a = q + k ∧ c < j then A i c else if a = q + i ∧ c < j then A k c else mJ M a c := rfl
theorem SW_0 (M : Mm) (q : Nat) (A : Nat → Nat → Int64) (k i : Nat) : SW M q A k i 0 = M := by
  unfold SW
  refine Prod.ext rfl ?_
  funext a c
  show (if a = q + k ∧ c < 0 then _ else if a = q + i ∧ c < 0 then _ else M.2 a c) = M.2 a c
  rw [if_neg (by omega), if_neg (by omega)]
theorem SW_s (M : Mm) (q : Nat) (A : Nat → Nat → Int64) {k i j : Nat} (h : k ≠ i) : sJ (sJ (SW M q A k i j) (q + k) j (A i j)) (q + i) j (A k j) = SW M q A k i (j + 1) := by
  unfold SW sJ
  refine Prod.ext rfl ?_
  funext a c
  show (if a = q + i ∧ c = j then A k j else if a = q + k ∧ c = j then A i j else if a = q + k ∧ c < j then A i c else if a = q + i ∧ c < j then A k c else M.2 a c) = if a = q + k ∧ c < j + 1 then A i c else if a = q + i ∧ c < j + 1 then A k c else M.2 a c
  by_cases h1 : a = q + i ∧ c = j
  · rw [if_pos h1, if_neg (by omega), if_pos (by omega), h1.2]
  · rw [if_neg h1]
    by_cases h2 : a = q + k ∧ c = j
    · rw [if_pos h2, if_pos (by omega), h2.2]
    · rw [if_neg h2]
      by_cases h3 : a = q + k ∧ c < j
      · rw [if_pos h3, if_pos (by omega)]
      · rw [if_neg h3, if_neg (show ¬ (a = q + k ∧ c < j + 1) by omega)]
        by_cases h4 : a = q + i ∧ c < j
        · rw [if_pos h4, if_pos (by omega)]
        · rw [if_neg h4, if_neg (by omega)]
theorem s_bringUp {o q : Nat} {M : Mm} {A : Nat → Nat → Int64} {k n : Nat} (hE : ∀ i, elm (fld o 0) i = q + i) (hn : n ≤ 6) (hk : k < n) (hA : ∀ i j, i < n → j < n → mJ M (q + i) j = A i j) : f_X7_bringUp o (nI k) (nI n) M = match fnd A k (n - (k + 1)) (k + 1) with | none => some (0, M) | some i => some (1, SW M q A k i n) := by
  have sw : ∀ i, k < i → i < n → f_X7_bringUp_b25 o fuel (nI k) (nI n) (nI i) 0 M = some (1, SW M q A k i n) := by
    intro i hi hin
    have l : ∀ (c j m2 : Nat), j + c = n → c < m2 → f_X7_bringUp_b25 o m2 (nI k) (nI n) (nI i) (nI j) (SW M q A k i j) = some (1, SW M q A k i n) := by
      intro c
      induction c with
      | zero =>
        intro j m2 g1 g2
        obtain ⟨m2, rfl⟩ : ∃ j, m2 = j + 1 := ⟨m2 - 1, by omega⟩
        rw [f_X7_bringUp_b25_s]
        unfold f_X7_bringUp_b25B
        rw [show j = n by omega, if_pos (Int32.le_refl _)]
      | succ c jh =>
        intro j m2 g1 g2
        obtain ⟨m2, rfl⟩ : ∃ j, m2 = j + 1 := ⟨m2 - 1, by omega⟩
        have hjh := jh (j + 1) m2 (by omega) (by omega)
        rw [← SW_s M q A (show k ≠ i by omega)] at hjh
        have r1 : mJ (SW M q A k i j) (q + k) j = A k j := by rw [mJ_SW, if_neg (by omega), if_neg (by omega)]; exact hA k j hk (by omega)
        have r2 : mJ (SW M q A k i j) (q + i) j = A i j := by rw [mJ_SW, if_neg (by omega), if_neg (by omega)]; exact hA i j hin (by omega)
        rw [f_X7_bringUp_b25_s]
        unfold f_X7_bringUp_b25B
        rw [if_neg (by rw [i_le, t_nI (by omega), t_nI (by omega)]; omega)]
        simp only [ck_k (show i < 6 by omega) (show 6 < 1000 by omega), ck_k (show j < 6 by omega) (show 6 < 1000 by omega), ck_k (show k < 6 by omega) (show 6 < 1000 by omega), nI_cl (show i < 2 ^ 31 by omega), nI_cl (show j < 2 ^ 31 by omega), nI_cl (show k < 2 ^ 31 by omega), hE, r1, r2, nm_q, bd_s, nI_1]
        exact hjh
    have := l n 0 fuel (by omega) (by show n < 1000; omega)
    rw [SW_0] at this
    exact this
  have l : ∀ (c i m : Nat), i + c = n → k < i → c < m → f_X7_bringUp_b4 o m (nI k) (nI n) (nI i) M = match fnd A k c i with | none => some (0, M) | some i => some (1, SW M q A k i n) := by
    intro c
    induction c with
    | zero =>
      intro i m g1 g0 g2
      obtain ⟨m, rfl⟩ : ∃ j, m = j + 1 := ⟨m - 1, by omega⟩
      rw [f_X7_bringUp_b4_s]
      unfold f_X7_bringUp_b4B fnd
      rw [show i = n by omega, if_pos (Int32.le_refl _)]
    | succ c ih =>
      intro i m g1 g0 g2
      obtain ⟨m, rfl⟩ : ∃ j, m = j + 1 := ⟨m - 1, by omega⟩
      have hih := ih (i + 1) m (by omega) (by omega) (by omega)
      rw [f_X7_bringUp_b4_s]
      unfold f_X7_bringUp_b4B fnd
      rw [if_neg (by rw [i_le, t_nI (by omega), t_nI (by omega)]; omega)]
      simp only [ck_k (show i < 6 by omega) (show 6 < 1000 by omega), ck_k (show k < 6 by omega) (show 6 < 1000 by omega), nI_cl (show i < 2 ^ 31 by omega), nI_cl (show k < 2 ^ 31 by omega), hE, hA i k (by omega) hk, nm_q, bd_s, nI_1, lg_cmp_eq]
      by_cases z : A i k = 0
      · rw [if_pos z, if_pos z]
        exact hih
      · rw [if_neg z, if_neg z]
        exact sw i g0 (by omega)
  unfold f_X7_bringUp
  rw [nm_q, nI_1]
  exact l (n - (k + 1)) (k + 1) fuel (by omega) (by omega) (by show n - (k + 1) < 1000; omega)

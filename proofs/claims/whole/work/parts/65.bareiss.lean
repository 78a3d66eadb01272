/-! elimination without fractions: the class's clearBelow in closed form -/
def elB (A : Nat → Nat → Int64) (k : Nat) (b : Int64) (i j : Nat) : Int64 := (A i j * A k k - A i k * A k j) / b
def GE (M : Mm) (q : Nat) (A : Nat → Nat → Int64) (k n : Nat) (b : Int64) (i j : Nat) : Mm := (M.1, fun a c => if q + k < a ∧ a < q + 6 ∧ k < c ∧ c < n ∧ (a < q + i ∨ (a = q + i ∧ c < j)) then elB A k b (a - q) c else M.2 a c)
theorem mJ_GE (M : Mm) (q : Nat) (A : Nat → Nat → Int64) (k n : Nat) (b : Int64) (i j a c : Nat) : mJ (GE M q A k n b i j) a c = if q + k < a ∧ a < q + 6 ∧ k < c ∧ c < n ∧ (a < q + i ∨ (a = q + i ∧ c < j)) then elB A k b (a - q) c else mJ M a c := rfl
theorem GE_s (M : Mm) (q : Nat) (A : Nat → Nat → Int64) {k n i j : Nat} (b : Int64) (hk : k < i) (hi : i < 6) (hj : k < j) (hjn : j < n) : sJ (GE M q A k n b i j) (q + i) j (elB A k b i j) = GE M q A k n b i (j + 1) := by
  unfold GE sJ
  refine Prod.ext rfl ?_
  funext a c
  show (if a = q + i ∧ c = j then elB A k b i j else if q + k < a ∧ a < q + 6 ∧ k < c ∧ c < n ∧ (a < q + i ∨ (a = q + i ∧ c < j)) then elB A k b (a - q) c else M.2 a c) = if q + k < a ∧ a < q + 6 ∧ k < c ∧ c < n ∧ (a < q + i ∨ (a = q + i ∧ c < j + 1)) then elB A k b (a - q) c else M.2 a c
  by_cases h : a = q + i ∧ c = j
  · rw [if_pos h, if_pos (by omega), h.1, h.2, Nat.add_sub_cancel_left]
  · rw [if_neg h]
    by_cases h2 : q + k < a ∧ a < q + 6 ∧ k < c ∧ c < n ∧ (a < q + i ∨ (a = q + i ∧ c < j))
    · rw [if_pos h2, if_pos (by omega)]
    · rw [if_neg h2, if_neg (by omega)]
theorem GE_n (M : Mm) (q : Nat) (A : Nat → Nat → Int64) {k n i : Nat} (b : Int64) : GE M q A k n b i n = GE M q A k n b (i + 1) (k + 1) := by
  unfold GE
  refine Prod.ext rfl ?_
  funext a c
  show (if q + k < a ∧ a < q + 6 ∧ k < c ∧ c < n ∧ (a < q + i ∨ (a = q + i ∧ c < n)) then elB A k b (a - q) c else M.2 a c) = if q + k < a ∧ a < q + 6 ∧ k < c ∧ c < n ∧ (a < q + (i + 1) ∨ (a = q + (i + 1) ∧ c < k + 1)) then elB A k b (a - q) c else M.2 a c
  by_cases h2 : q + k < a ∧ a < q + 6 ∧ k < c ∧ c < n ∧ (a < q + i ∨ (a = q + i ∧ c < n))
  · rw [if_pos h2, if_pos (by omega)]
  · rw [if_neg h2, if_neg (by omega)]
theorem GE_0 (M : Mm) (q : Nat) (A : Nat → Nat → Int64) {k n : Nat} (b : Int64) : GE M q A k n b (k + 1) (k + 1) = M := by
  unfold GE
  refine Prod.ext rfl ?_
  funext a c
  show (if q + k < a ∧ a < q + 6 ∧ k < c ∧ c < n ∧ (a < q + (k + 1) ∨ (a = q + (k + 1) ∧ c < k + 1)) then elB A k b (a - q) c else M.2 a c) = M.2 a c
  rw [if_neg (by omega)]
theorem s_clearBelow {o q : Nat} {M : Mm} {A : Nat → Nat → Int64} {k n : Nat} {b : Int64} (hE : ∀ i, elm (fld o 0) i = q + i) (hn : n ≤ 6) (hk : k < n) (hb : b ≠ 0) (hA : ∀ i j, i < n → j < n → mJ M (q + i) j = A i j) : f_X7_clearBelow o (nI k) (nI n) b M = some (GE M q A k n b n (k + 1)) := by
  have kb : ¬ lg_cmp b 0 = 0 := fun z => hb ((lg_cmp_eq b 0).mp z)
  have rd : ∀ i j x y, x < n → y < n → (x ≤ k ∨ y ≤ k ∨ (x = i ∧ j ≤ y)) → mJ (GE M q A k n b i j) (q + x) y = A x y := by
    intro i j x y hx hy h
    rw [mJ_GE, if_neg (by omega)]
    exact hA x y hx hy
  have l : ∀ (a i m : Nat), i + a = n → k < i → a < m → f_X7_clearBelow_b5 o m (nI k) (nI n) b (nI i) (GE M q A k n b i (k + 1)) = some (GE M q A k n b n (k + 1)) := by
    intro a
    induction a with
    | zero =>
      intro i m h1 h0 h2
      obtain ⟨m, rfl⟩ : ∃ j, m = j + 1 := ⟨m - 1, by omega⟩
      rw [f_X7_clearBelow_b5_s]
      unfold f_X7_clearBelow_b5B
      rw [show i = n by omega, if_pos (Int32.le_refl _)]
    | succ a ih =>
      intro i m h1 h0 h2
      obtain ⟨m, rfl⟩ : ∃ j, m = j + 1 := ⟨m - 1, by omega⟩
      have hih := ih (i + 1) m (by omega) (by omega) (by omega)
      rw [f_X7_clearBelow_b5_s]
      unfold f_X7_clearBelow_b5B
      rw [if_neg (by rw [i_le, t_nI (by omega), t_nI (by omega)]; omega), nm_q, nI_1]
      have inner : ∀ (c j m2 : Nat), j + c = n → k < j → c < m2 → f_X7_clearBelow_b16 (f_X7_clearBelow_b5 o m) o m2 (nI k) (nI n) b (nI i) (nI j) (GE M q A k n b i j) = some (GE M q A k n b n (k + 1)) := by
        intro c
        induction c with
        | zero =>
          intro j m2 g1 g0 g2
          obtain ⟨m2, rfl⟩ : ∃ j, m2 = j + 1 := ⟨m2 - 1, by omega⟩
          rw [f_X7_clearBelow_b16_s]
          unfold f_X7_clearBelow_b16B
          rw [show j = n by omega, if_pos (Int32.le_refl _), GE_n, nm_q, nI_1]
          exact hih
        | succ c jh =>
          intro j m2 g1 g0 g2
          obtain ⟨m2, rfl⟩ : ∃ j, m2 = j + 1 := ⟨m2 - 1, by omega⟩
          have hjh := jh (j + 1) m2 (by omega) (by omega) (by omega)
          rw [← GE_s M q A b h0 (by omega) g0 (by omega)] at hjh
          rw [f_X7_clearBelow_b16_s]
          unfold f_X7_clearBelow_b16B f_X7_clearBelow_b86
          rw [if_neg (by rw [i_le, t_nI (by omega), t_nI (by omega)]; omega)]
          simp only [ck_k (show i < 6 by omega) (show 6 < 1000 by omega), ck_k (show j < 6 by omega) (show 6 < 1000 by omega), ck_k (show k < 6 by omega) (show 6 < 1000 by omega), nI_cl (show i < 2 ^ 31 by omega), nI_cl (show j < 2 ^ 31 by omega), nI_cl (show k < 2 ^ 31 by omega), hE, rd i j i j (by omega) (by omega) (by omega), rd i j k k (by omega) (by omega) (by omega), rd i j i k (by omega) (by omega) (by omega), rd i j k j (by omega) (by omega) (by omega), kb, if_false, dvJ_ok hb, nm_q, bd_s, nI_1]
          exact hjh
      exact inner (n - (k + 1)) (k + 1) fuel (by omega) (by omega) (by show n - (k + 1) < 1000; omega)
  have := l (n - (k + 1)) (k + 1) fuel (by omega) (by omega) (by show n - (k + 1) < 1000; omega)
  rw [GE_0] at this
  unfold f_X7_clearBelow
  rw [nm_q, nI_1]
  exact this

/-! the reference's elimination: the same pure function -/
theorem ix6 (i j : Nat) : (6 : Int32) * nI i + nI j = nI (6 * i + j) := by rw [show (6 : Int32) = nI 6 from rfl, n_mul, nI_add]
def GF (M : Mm) (A : Nat → Nat → Int64) (k n : Nat) (b : Int64) (i j : Nat) : Mm := (M.1, fun a c => if a = 97 ∧ c < 36 ∧ k < c / 6 ∧ k < c % 6 ∧ c % 6 < n ∧ (c / 6 < i ∨ (c / 6 = i ∧ c % 6 < j)) then elB A k b (c / 6) (c % 6) else M.2 a c)
theorem mJ_GF (M : Mm) (A : Nat → Nat → Int64) (k n : Nat) (b : Int64) (i j a c : Nat) : mJ (GF M A k n b i j) a c = if a = 97 ∧ c < 36 ∧ k < c / 6 ∧ k < c % 6 ∧ c % 6 < n ∧ (c / 6 < i ∨ (c / 6 = i ∧ c % 6 < j)) then elB A k b (c / 6) (c % 6) else mJ M a c := rfl
theorem d6 {i j : Nat} (hj : j < 6) : (6 * i + j) / 6 = i ∧ (6 * i + j) % 6 = j := by omega
theorem GF_s (M : Mm) (A : Nat → Nat → Int64) {k n i j : Nat} (b : Int64) (hk : k < i) (hi : i < 6) (hj : k < j) (hjn : j < n) (hn : n ≤ 6) : sJ (GF M A k n b i j) 97 (6 * i + j) (elB A k b i j) = GF M A k n b i (j + 1) := by
  unfold GF sJ
  refine Prod.ext rfl ?_
  funext a c
  show (if a = 97 ∧ c = 6 * i + j then elB A k b i j else if a = 97 ∧ c < 36 ∧ k < c / 6 ∧ k < c % 6 ∧ c % 6 < n ∧ (c / 6 < i ∨ (c / 6 = i ∧ c % 6 < j)) then elB A k b (c / 6) (c % 6) else M.2 a c) = if a = 97 ∧ c < 36 ∧ k < c / 6 ∧ k < c % 6 ∧ c % 6 < n ∧ (c / 6 < i ∨ (c / 6 = i ∧ c % 6 < j + 1)) then elB A k b (c / 6) (c % 6) else M.2 a c
  have e := d6 (i := i) (show j < 6 by omega)
  by_cases h : a = 97 ∧ c = 6 * i + j
  · rw [if_pos h, if_pos (by omega), h.2, e.1, e.2]
  · rw [if_neg h]
    by_cases h2 : a = 97 ∧ c < 36 ∧ k < c / 6 ∧ k < c % 6 ∧ c % 6 < n ∧ (c / 6 < i ∨ (c / 6 = i ∧ c % 6 < j))
    · rw [if_pos h2, if_pos (by omega)]
    · rw [if_neg h2, if_neg (by omega)]
theorem GF_n (M : Mm) (A : Nat → Nat → Int64) {k n i : Nat} (b : Int64) : GF M A k n b i n = GF M A k n b (i + 1) (k + 1) := by
  unfold GF
  refine Prod.ext rfl ?_
  funext a c
  show (if a = 97 ∧ c < 36 ∧ k < c / 6 ∧ k < c % 6 ∧ c % 6 < n ∧ (c / 6 < i ∨ (c / 6 = i ∧ c % 6 < n)) then elB A k b (c / 6) (c % 6) else M.2 a c) = if a = 97 ∧ c < 36 ∧ k < c / 6 ∧ k < c % 6 ∧ c % 6 < n ∧ (c / 6 < i + 1 ∨ (c / 6 = i + 1 ∧ c % 6 < k + 1)) then elB A k b (c / 6) (c % 6) else M.2 a c
  by_cases h2 : a = 97 ∧ c < 36 ∧ k < c / 6 ∧ k < c % 6 ∧ c % 6 < n ∧ (c / 6 < i ∨ (c / 6 = i ∧ c % 6 < n))
  · rw [if_pos h2, if_pos (by omega)]
  · rw [if_neg h2, if_neg (by omega)]
theorem GF_0 (M : Mm) (A : Nat → Nat → Int64) {k n : Nat} (b : Int64) : GF M A k n b (k + 1) (k + 1) = M := by
  unfold GF
  refine Prod.ext rfl ?_
  funext a c
  show (if a = 97 ∧ c < 36 ∧ k < c / 6 ∧ k < c % 6 ∧ c % 6 < n ∧ (c / 6 < k + 1 ∨ (c / 6 = k + 1 ∧ c % 6 < k + 1)) then elB A k b (c / 6) (c % 6) else M.2 a c) = M.2 a c
  rw [if_neg (by omega)]
def SF (M : Mm) (A : Nat → Nat → Int64) (k i j : Nat) : Mm := (M.1, fun a c => if a = 97 ∧ c < 36 ∧ c / 6 = k ∧ c % 6 < j then A i (c % 6) else if a = 97 ∧ c < 36 ∧ c / 6 = i ∧ c % 6 < j then A k (c % 6) else M.2 a c)
theorem mJ_SF (M : Mm) (A : Nat → Nat → Int64) (k i j a c : Nat) : mJ (SF M A k i j) a c = if a = 97 ∧ c < 36 ∧ c / 6 = k ∧ c % 6 < j then A i (c % 6) else if a = 97 ∧ c < 36 ∧ c / 6 = i ∧ c % 6 < j then A k (c % 6) else mJ M a c := rfl
theorem SF_0 (M : Mm) (A : Nat → Nat → Int64) (k i : Nat) : SF M A k i 0 = M := by
  unfold SF
  refine Prod.ext rfl ?_
  funext a c
  show (if a = 97 ∧ c < 36 ∧ c / 6 = k ∧ c % 6 < 0 then _ else if a = 97 ∧ c < 36 ∧ c / 6 = i ∧ c % 6 < 0 then _ else M.2 a c) = M.2 a c
  rw [if_neg (by omega), if_neg (by omega)]
theorem SF_s (M : Mm) (A : Nat → Nat → Int64) {k i j : Nat} (h : k ≠ i) (hk : k < 6) (hi : i < 6) (hj : j < 6) : sJ (sJ (SF M A k i j) 97 (6 * i + j) (A k j)) 97 (6 * k + j) (A i j) = SF M A k i (j + 1) := by
  unfold SF sJ
  refine Prod.ext rfl ?_
  funext a c
  show (if a = 97 ∧ c = 6 * k + j then A i j else if a = 97 ∧ c = 6 * i + j then A k j else if a = 97 ∧ c < 36 ∧ c / 6 = k ∧ c % 6 < j then A i (c % 6) else if a = 97 ∧ c < 36 ∧ c / 6 = i ∧ c % 6 < j then A k (c % 6) else M.2 a c) = if a = 97 ∧ c < 36 ∧ c / 6 = k ∧ c % 6 < j + 1 then A i (c % 6) else if a = 97 ∧ c < 36 ∧ c / 6 = i ∧ c % 6 < j + 1 then A k (c % 6) else M.2 a c
  by_cases h1 : a = 97 ∧ c = 6 * k + j
  · rw [if_pos h1, if_pos (by omega), h1.2, (d6 (i := k) hj).2]
  · rw [if_neg h1]
    by_cases h2 : a = 97 ∧ c = 6 * i + j
    · rw [if_pos h2, if_neg (by omega), if_pos (by omega), h2.2, (d6 (i := i) hj).2]
    · rw [if_neg h2]
      by_cases h3 : a = 97 ∧ c < 36 ∧ c / 6 = k ∧ c % 6 < j
      · rw [if_pos h3, if_pos (by omega)]
      · rw [if_neg h3, if_neg (show ¬ (a = 97 ∧ c < 36 ∧ c / 6 = k ∧ c % 6 < j + 1) by omega)]
        by_cases h4 : a = 97 ∧ c < 36 ∧ c / 6 = i ∧ c % 6 < j
        · rw [if_pos h4, if_pos (by omega)]
        · rw [if_neg h4, if_neg (by omega)]
/-- only the reference's cleared cells differ -/
def Oc (M M1 : Mm) : Prop := M1.1 = M.1 ∧ ∀ a c, a ≠ 97 → mJ M1 a c = mJ M a c
theorem Oc.rf (M : Mm) : Oc M M := ⟨rfl, fun _ _ _ => rfl⟩
theorem Oc.tr {M M1 M2 : Mm} (h : Oc M M1) (g : Oc M1 M2) : Oc M M2 := ⟨g.1.trans h.1, fun a c p => (g.2 a c p).trans (h.2 a c p)⟩
theorem Oc_GF (M : Mm) (A : Nat → Nat → Int64) (k n : Nat) (b : Int64) (i j : Nat) : Oc M (GF M A k n b i j) := ⟨rfl, fun a c p => by rw [mJ_GF, if_neg (by omega)]⟩
theorem Oc_SF (M : Mm) (A : Nat → Nat → Int64) (k i j : Nat) : Oc M (SF M A k i j) := ⟨rfl, fun a c p => by rw [mJ_SF, if_neg (by omega), if_neg (by omega)]⟩
theorem s_cl159 {k8 : Int32 → Int64 → Int32 → Int32 → Mm → Option (Int64 × Mm)} {M : Mm} {A : Nat → Nat → Int64} {k n : Nat} {b : Int64} {s : Int32} (hn : n ≤ 6) (hk : k < n) (hb : b ≠ 0) (hA : ∀ i j, i < n → j < n → mJ M 97 (6 * i + j) = A i j) : f_X9_clear_b159 k8 1 fuel (nI n) b s (nI k) (nI (k + 1)) M = k8 (nI n) (A k k) s (nI (k + 1)) (GF M A k n b n (k + 1)) := by
  have rd : ∀ i j x y, x < n → y < n → (x ≤ k ∨ y ≤ k ∨ (x = i ∧ j ≤ y)) → mJ (GF M A k n b i j) 97 (6 * x + y) = A x y := by
    intro i j x y hx hy h
    have e := d6 (i := x) (show y < 6 by omega)
    rw [mJ_GF, e.1, e.2, if_neg (by omega)]
    exact hA x y hx hy
  have l : ∀ (a i m : Nat), i + a = n → k < i → a < m → f_X9_clear_b159 k8 1 m (nI n) b s (nI k) (nI i) (GF M A k n b i (k + 1)) = k8 (nI n) (A k k) s (nI (k + 1)) (GF M A k n b n (k + 1)) := by
    intro a
    induction a with
    | zero =>
      intro i m h1 h0 h2
      obtain ⟨m, rfl⟩ : ∃ j, m = j + 1 := ⟨m - 1, by omega⟩
      rw [f_X9_clear_b159_s]
      unfold f_X9_clear_b159B
      rw [show i = n by omega, if_pos (Int32.le_refl _)]
      simp only [ix6, ck_k (show 6 * k + k < 36 by omega) (show 36 < 1000 by omega), nI_cl (show 6 * k + k < 2 ^ 31 by omega), fld_1_17, rd n (k + 1) k k hk hk (by omega), nm_q, bd_s, nI_1]
    | succ a ih =>
      intro i m h1 h0 h2
      obtain ⟨m, rfl⟩ : ∃ j, m = j + 1 := ⟨m - 1, by omega⟩
      have hih := ih (i + 1) m (by omega) (by omega) (by omega)
      rw [f_X9_clear_b159_s]
      unfold f_X9_clear_b159B
      rw [if_neg (by rw [i_le, t_nI (by omega), t_nI (by omega)]; omega), nm_q, nI_1]
      have inner : ∀ (c j m2 : Nat), j + c = n → k < j → c < m2 → f_X9_clear_b171 k8 (f_X9_clear_b159 k8 1 m) 1 m2 (nI n) b s (nI k) (nI i) (nI j) (GF M A k n b i j) = k8 (nI n) (A k k) s (nI (k + 1)) (GF M A k n b n (k + 1)) := by
        intro c
        induction c with
        | zero =>
          intro j m2 g1 g0 g2
          obtain ⟨m2, rfl⟩ : ∃ j, m2 = j + 1 := ⟨m2 - 1, by omega⟩
          rw [f_X9_clear_b171_s]
          unfold f_X9_clear_b171B
          rw [show j = n by omega, if_pos (Int32.le_refl _), GF_n, nm_q, nI_1]
          exact hih
        | succ c jh =>
          intro j m2 g1 g0 g2
          obtain ⟨m2, rfl⟩ : ∃ j, m2 = j + 1 := ⟨m2 - 1, by omega⟩
          have hjh := jh (j + 1) m2 (by omega) (by omega) (by omega)
          rw [← GF_s M A b h0 (by omega) g0 (by omega) hn] at hjh
          rw [f_X9_clear_b171_s]
          unfold f_X9_clear_b171B
          rw [if_neg (by rw [i_le, t_nI (by omega), t_nI (by omega)]; omega)]
          simp only [ix6, ck_k (show 6 * i + j < 36 by omega) (show 36 < 1000 by omega), ck_k (show 6 * k + k < 36 by omega) (show 36 < 1000 by omega), ck_k (show 6 * i + k < 36 by omega) (show 36 < 1000 by omega), ck_k (show 6 * k + j < 36 by omega) (show 36 < 1000 by omega), nI_cl (show 6 * i + j < 2 ^ 31 by omega), nI_cl (show 6 * k + k < 2 ^ 31 by omega), nI_cl (show 6 * i + k < 2 ^ 31 by omega), nI_cl (show 6 * k + j < 2 ^ 31 by omega), fld_1_17, rd i j i j (by omega) (by omega) (by omega), rd i j k k (by omega) (by omega) (by omega), rd i j i k (by omega) (by omega) (by omega), rd i j k j (by omega) (by omega) (by omega), dvJ_ok hb, nm_q, bd_s, nI_1]
          exact hjh
      exact inner (n - (k + 1)) (k + 1) fuel (by omega) (by omega) (by show n - (k + 1) < 1000; omega)
  have := l (n - (k + 1)) (k + 1) fuel (by omega) (by omega) (by show n - (k + 1) < 1000; omega)
  rw [GF_0] at this
  exact this
theorem s_cl61 {k8 : Int32 → Int64 → Int32 → Int32 → Mm → Option (Int64 × Mm)} {M : Mm} {A : Nat → Nat → Int64} {k i n : Nat} {b : Int64} {s : Int32} (hn : n ≤ 6) (hk : k < n) (hi : i < n) (hne : i ≠ k) (hA : ∀ i j, i < n → j < n → mJ M 97 (6 * i + j) = A i j) : f_X9_clear_b61 k8 1 fuel (nI n) b s (nI k) (nI i) 0 M = f_X9_clear_b136 k8 1 (nI n) b s (nI k) (nI i) (SF M A k i n) := by
  have ke : ¬ nI i = nI k := fun z => hne ((n_inj (by omega) (by omega)).mp z)
  have l : ∀ (c j m2 : Nat), j + c = n → c < m2 → f_X9_clear_b61 k8 1 m2 (nI n) b s (nI k) (nI i) (nI j) (SF M A k i j) = f_X9_clear_b136 k8 1 (nI n) b s (nI k) (nI i) (SF M A k i n) := by
    intro c
    induction c with
    | zero =>
      intro j m2 g1 g2
      obtain ⟨m2, rfl⟩ : ∃ j, m2 = j + 1 := ⟨m2 - 1, by omega⟩
      rw [f_X9_clear_b61_s]
      unfold f_X9_clear_b61B
      rw [show j = n by omega, if_pos (Int32.le_refl _)]
    | succ c jh =>
      intro j m2 g1 g2
      obtain ⟨m2, rfl⟩ : ∃ j, m2 = j + 1 := ⟨m2 - 1, by omega⟩
      have hjh := jh (j + 1) m2 (by omega) (by omega)
      rw [← SF_s M A (show k ≠ i by omega) (by omega) (by omega) (by omega)] at hjh
      have ek := d6 (i := k) (show j < 6 by omega)
      have ei := d6 (i := i) (show j < 6 by omega)
      have r1 : mJ (SF M A k i j) 97 (6 * k + j) = A k j := by rw [mJ_SF, ek.1, ek.2, if_neg (by omega), if_neg (by omega)]; exact hA k j hk (by omega)
      have r2 : mJ (SF M A k i j) 97 (6 * i + j) = A i j := by rw [mJ_SF, ei.1, ei.2, if_neg (by omega), if_neg (by omega)]; exact hA i j hi (by omega)
      rw [f_X9_clear_b61_s]
      unfold f_X9_clear_b61B
      rw [if_neg (by rw [i_le, t_nI (by omega), t_nI (by omega)]; omega), if_neg ke]
      simp only [ix6, ck_k (show 6 * i + j < 36 by omega) (show 36 < 1000 by omega), ck_k (show 6 * k + j < 36 by omega) (show 36 < 1000 by omega), nI_cl (show 6 * i + j < 2 ^ 31 by omega), nI_cl (show 6 * k + j < 2 ^ 31 by omega), fld_1_17, r1, r2, nm_q, bd_s, nI_1]
      exact hjh
  have := l n 0 fuel (by omega) (by show n < 1000; omega)
  rw [SF_0] at this
  exact this
theorem s_cl20 {k8 : Int32 → Int64 → Int32 → Int32 → Mm → Option (Int64 × Mm)} {M : Mm} {A : Nat → Nat → Int64} {k n : Nat} {b : Int64} {s : Int32} (hn : n ≤ 6) (hk : k < n) (hA : ∀ i j, i < n → j < n → mJ M 97 (6 * i + j) = A i j) : ∀ (c p m : Nat), p + c = n → c < m → f_X9_clear_b20 k8 1 m (nI n) b s (nI k) (nI p) M = match fnd A k c p with | none => some (0, M) | some i => f_X9_clear_b61 k8 1 fuel (nI n) b s (nI k) (nI i) 0 M := by
  intro c
  induction c with
  | zero =>
    intro p m g1 g2
    obtain ⟨m, rfl⟩ : ∃ j, m = j + 1 := ⟨m - 1, by omega⟩
    rw [f_X9_clear_b20_s]
    unfold f_X9_clear_b20B f_X9_clear_b50 fnd
    rw [show p = n by omega, if_pos (Int32.le_refl _), if_pos rfl]
  | succ c ih =>
    intro p m g1 g2
    obtain ⟨m, rfl⟩ : ∃ j, m = j + 1 := ⟨m - 1, by omega⟩
    have hih := ih (p + 1) m (by omega) (by omega)
    have ke : ¬ nI p = nI n := fun z => by have := (n_inj (by omega) (by omega)).mp z; omega
    rw [f_X9_clear_b20_s]
    unfold f_X9_clear_b20B f_X9_clear_b50 fnd
    rw [if_neg (by rw [i_le, t_nI (by omega), t_nI (by omega)]; omega)]
    simp only [ix6, ck_k (show 6 * p + k < 36 by omega) (show 36 < 1000 by omega), nI_cl (show 6 * p + k < 2 ^ 31 by omega), fld_1_17, hA p k (by omega) hk, nm_q, bd_s, nI_1, lg_cmp_eq, ke, if_false]
    by_cases z : A p k = 0
    · rw [if_pos z, if_pos z]
      exact hih
    · rw [if_neg z, if_neg z]
theorem s_cl_l {n : Nat} (hn : n ≤ 6) : ∀ (c k m : Nat) (M : Mm) (A : Nat → Nat → Int64) (s : Int32) (b : Int64), (s = 1 ∨ s = -1) → k + c + 1 = n → c < m → b ≠ 0 → (∀ i j, i < n → j < n → mJ M 97 (6 * i + j) = A i j) → ∃ M', f_X9_clear_b8 1 m (nI n) b s (nI k) M = some (barB n c k A (Int32.toInt64 s) b, M') ∧ Oc M M' := by
  intro c
  induction c with
  | zero =>
    intro k m M A s b hs h1 h2 hb hA
    obtain ⟨m, rfl⟩ : ∃ j, m = j + 1 := ⟨m - 1, by omega⟩
    refine ⟨M, ?_, Oc.rf M⟩
    have e : nI n - 1 = nI (n - 1) := by rw [show (1 : Int32) = nI 1 from rfl, pk_sub (by omega)]
    have k0 : ¬ nI n = 0 := fun z => by have := (n_inj (a := n) (b := 0) (by omega) (by omega)).mp z; omega
    have e2 : (6 : Int32) * nI (n - 1) + nI n - 1 = nI (6 * (n - 1) + (n - 1)) := by rw [ix6, show (1 : Int32) = nI 1 from rfl, pk_sub (by omega)]; congr 1; omega
    rw [f_X9_clear_b8_s]
    unfold f_X9_clear_b8B barB
    rw [e, if_pos (by rw [i_le, t_nI (by omega), t_nI (by omega)]; omega), if_neg k0, e2, ck_k (show 6 * (n - 1) + (n - 1) < 36 by omega) (by omega), nI_cl (by omega), fld_1_17, hA (n - 1) (n - 1) (by omega) (by omega)]
  | succ c ih =>
    intro k m M A s b hs h1 h2 hb hA
    obtain ⟨m, rfl⟩ : ∃ j, m = j + 1 := ⟨m - 1, by omega⟩
    have e : nI n - 1 = nI (n - 1) := by rw [show (1 : Int32) = nI 1 from rfl, pk_sub (by omega)]
    have go : ∀ (M : Mm) (A : Nat → Nat → Int64) (s : Int32), (s = 1 ∨ s = -1) → A k k ≠ 0 → (∀ i j, i < n → j < n → mJ M 97 (6 * i + j) = A i j) → ∃ M', f_X9_clear_b159 (f_X9_clear_b8 1 m) 1 fuel (nI n) b s (nI k) (nI (k + 1)) M = some (barB n c (k + 1) (elA A k b) (Int32.toInt64 s) (A k k), M') ∧ Oc M M' := by
      intro M A s hs hz hA
      have hG : ∀ i j, i < n → j < n → mJ (GF M A k n b n (k + 1)) 97 (6 * i + j) = elA A k b i j := by
        intro i j hi hj
        have q := d6 (i := i) (show j < 6 by omega)
        rw [mJ_GF, q.1, q.2]
        unfold elA
        by_cases z : k < i ∧ k < j
        · rw [if_pos (by omega), if_pos z]
        · rw [if_neg (by omega), if_neg z]
          exact hA i j hi hj
      obtain ⟨M', l1, l2⟩ := ih (k + 1) m (GF M A k n b n (k + 1)) (elA A k b) s (A k k) hs (by omega) (by omega) hz hG
      refine ⟨M', ?_, (Oc_GF M A k n b n (k + 1)).tr l2⟩
      rw [s_cl159 hn (by omega) hb hA]
      exact l1
    have kk : nI k = nI k := rfl
    rw [f_X9_clear_b8_s]
    unfold f_X9_clear_b8B barB
    rw [e, if_neg (by rw [i_le, t_nI (by omega), t_nI (by omega)]; omega), s_cl20 hn (by omega) hA (n - k) k fuel (by omega) (by show n - k < 1000; omega), show n - k = (n - (k + 1)) + 1 by omega, show fnd A k ((n - (k + 1)) + 1) k = (if A k k = 0 then fnd A k (n - (k + 1)) (k + 1) else some k) from rfl]
    by_cases z : A k k = 0
    · rw [if_pos z, if_pos z]
      cases hf : fnd A k (n - (k + 1)) (k + 1) with
      | none => exact ⟨M, rfl, Oc.rf M⟩
      | some i =>
        have hx := fnd_some _ _ hf
        have hS : ∀ x y, x < n → y < n → mJ (SF M A k i n) 97 (6 * x + y) = swB A k i x y := by
          intro x y hx' hy
          have q := d6 (i := x) (show y < 6 by omega)
          rw [mJ_SF, q.1, q.2]
          unfold swB
          by_cases e1 : x = k
          · rw [if_pos (by omega), if_pos e1]
          · rw [if_neg (by omega), if_neg e1]
            by_cases e2 : x = i
            · rw [if_pos (by omega), if_pos e2]
            · rw [if_neg (by omega), if_neg e2]
              exact hA x y hx' hy
        obtain ⟨M', l1, l2⟩ := go (SF M A k i n) (swB A k i) (-s) (by rcases hs with rfl | rfl; exact Or.inr rfl; exact Or.inl rfl) (by unfold swB; rw [if_pos rfl]; exact hx.2.2) hS
        refine ⟨M', ?_, (Oc_SF M A k i n).tr l2⟩
        have ke : ¬ nI i = nI k := fun z => by have := (n_inj (by omega) (by omega)).mp z; omega
        simp only []
        rw [s_cl61 hn (by omega) (by omega) (by omega) hA]
        unfold f_X9_clear_b136
        rw [if_neg ke, nm_q, nm_q, nI_1, l1]
        congr 3
        rcases hs with rfl | rfl <;> rfl
    · rw [if_neg z, if_neg z]
      simp only []
      rw [show fuel = 999 + 1 from rfl, f_X9_clear_b61_s]
      unfold f_X9_clear_b61B f_X9_clear_b136
      rw [if_neg (by rw [i_le, t_nI (by omega), li_0]; omega), if_pos rfl, if_pos rfl, nm_q, nI_1]
      exact go M A s hs z hA
theorem s_clear {n : Nat} (hn : n ≤ 6) {M : Mm} {A : Nat → Nat → Int64} (hA : ∀ i j, i < n → j < n → mJ M 97 (6 * i + j) = A i j) : ∃ M', f_X9_clear 1 (nI n) M = some (detB A n, M') ∧ Oc M M' := by
  unfold f_X9_clear detB
  by_cases z : n = 0
  · subst z
    refine ⟨M, ?_, Oc.rf M⟩
    rw [show fuel = 999 + 1 from rfl, f_X9_clear_b8_s]
    unfold f_X9_clear_b8B
    rw [if_pos (by decide), if_pos (by decide), if_pos rfl]
  · rw [if_neg z]
    exact s_cl_l hn (n - 1) 0 fuel M A 1 1 (Or.inl rfl) (by omega) (by show n - 1 < 1000; omega) (by decide) hA

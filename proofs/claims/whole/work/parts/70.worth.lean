/-! the reference's squares of some states -/
def RWn (M : Mm) (v s i : Nat) : Mm := (fun a k => if a = 96 ∧ k < bc v i then nI (ixn v s k) else M.1 a k, M.2)
theorem mI_RWn (M : Mm) (v s i a k : Nat) : mI (RWn M v s i) a k = if a = 96 ∧ k < bc v i then nI (ixn v s k) else mI M a k := rfl
theorem RWn_0 (M : Mm) (v s : Nat) : RWn M v s 0 = M := by
  unfold RWn
  refine Prod.ext ?_ rfl
  funext a k
  show (if a = 96 ∧ k < 0 then _ else M.1 a k) = M.1 a k
  rw [if_neg (by omega)]
theorem RWn_n (M : Mm) {v s i : Nat} (h : v.testBit i = false) : RWn M v s (i + 1) = RWn M v s i := by
  unfold RWn
  rw [bc_s, h]
  simp
theorem RWn_s (M : Mm) {v s i : Nat} (hi : i < s) (h : v.testBit i = true) : sI (RWn M v s i) 96 (bc v i) (nI i) = RWn M v s (i + 1) := by
  unfold RWn sI
  refine Prod.ext ?_ rfl
  funext a k
  show (if a = 96 ∧ k = bc v i then nI i else if a = 96 ∧ k < bc v i then nI (ixn v s k) else M.1 a k) = if a = 96 ∧ k < bc v (i + 1) then nI (ixn v s k) else M.1 a k
  rw [bc_s, if_pos h]
  by_cases h1 : a = 96 ∧ k = bc v i
  · rw [if_pos h1, if_pos (by omega), h1.2, ix_bc s i hi h]
  · rw [if_neg h1]
    by_cases h2 : a = 96 ∧ k < bc v i
    · rw [if_pos h2, if_pos (by omega)]
    · rw [if_neg h2, if_neg (by omega)]
def CLn (M : Mm) (A : Nat → Nat → Int64) (n i j : Nat) : Mm := (M.1, fun a c => if a = 97 ∧ c < 36 ∧ c % 6 < n ∧ (c / 6 < i ∨ (c / 6 = i ∧ c % 6 < j)) then A (c / 6) (c % 6) else M.2 a c)
theorem mJ_CLn (M : Mm) (A : Nat → Nat → Int64) (n i j a c : Nat) : mJ (CLn M A n i j) a c = if a = 97 ∧ c < 36 ∧ c % 6 < n ∧ (c / 6 < i ∨ (c / 6 = i ∧ c % 6 < j)) then A (c / 6) (c % 6) else mJ M a c := rfl
theorem CLn_0 (M : Mm) (A : Nat → Nat → Int64) (n : Nat) : CLn M A n 0 0 = M := by
  unfold CLn
  refine Prod.ext rfl ?_
  funext a c
  show (if a = 97 ∧ c < 36 ∧ c % 6 < n ∧ (c / 6 < 0 ∨ (c / 6 = 0 ∧ c % 6 < 0)) then _ else M.2 a c) = M.2 a c
  rw [if_neg (by omega)]
theorem CLn_n (M : Mm) (A : Nat → Nat → Int64) (n i : Nat) : CLn M A n i n = CLn M A n (i + 1) 0 := by
  unfold CLn
  refine Prod.ext rfl ?_
  funext a c
  show (if a = 97 ∧ c < 36 ∧ c % 6 < n ∧ (c / 6 < i ∨ (c / 6 = i ∧ c % 6 < n)) then A (c / 6) (c % 6) else M.2 a c) = if a = 97 ∧ c < 36 ∧ c % 6 < n ∧ (c / 6 < i + 1 ∨ (c / 6 = i + 1 ∧ c % 6 < 0)) then A (c / 6) (c % 6) else M.2 a c
  by_cases h2 : a = 97 ∧ c < 36 ∧ c % 6 < n ∧ (c / 6 < i ∨ (c / 6 = i ∧ c % 6 < n))
  · rw [if_pos h2, if_pos (by omega)]
  · rw [if_neg h2, if_neg (by omega)]
theorem CLn_s (M : Mm) (A : Nat → Nat → Int64) {n i j : Nat} (hi : i < 6) (hj : j < n) (hn : n ≤ 6) : sJ (CLn M A n i j) 97 (6 * i + j) (A i j) = CLn M A n i (j + 1) := by
  unfold CLn sJ
  refine Prod.ext rfl ?_
  funext a c
  show (if a = 97 ∧ c = 6 * i + j then A i j else if a = 97 ∧ c < 36 ∧ c % 6 < n ∧ (c / 6 < i ∨ (c / 6 = i ∧ c % 6 < j)) then A (c / 6) (c % 6) else M.2 a c) = if a = 97 ∧ c < 36 ∧ c % 6 < n ∧ (c / 6 < i ∨ (c / 6 = i ∧ c % 6 < j + 1)) then A (c / 6) (c % 6) else M.2 a c
  have e := d6 (i := i) (show j < 6 by omega)
  by_cases h : a = 97 ∧ c = 6 * i + j
  · rw [if_pos h, if_pos (by omega), h.2, e.1, e.2]
  · rw [if_neg h]
    by_cases h2 : a = 97 ∧ c < 36 ∧ c % 6 < n ∧ (c / 6 < i ∨ (c / 6 = i ∧ c % 6 < j))
    · rw [if_pos h2, if_pos (by omega)]
    · rw [if_neg h2, if_neg (by omega)]
/-- only the reference's rowOf and cleared cells differ -/
def Fr (M M1 : Mm) : Prop := (∀ a k, a ≠ 96 → mI M1 a k = mI M a k) ∧ ∀ a c, a ≠ 97 → mJ M1 a c = mJ M a c
theorem Fr.rf (M : Mm) : Fr M M := ⟨fun _ _ _ => rfl, fun _ _ _ => rfl⟩
theorem Fr.tr {M M1 M2 : Mm} (h : Fr M M1) (g : Fr M1 M2) : Fr M M2 := ⟨fun a k p => (g.1 a k p).trans (h.1 a k p), fun a k p => (g.2 a k p).trans (h.2 a k p)⟩
theorem Fr.sc {M M1 : Mm} (h : Fr M M1) : Sc M M1 := ⟨fun a k p => h.1 a k (by unfold pX pR at p; omega), fun k => h.2 7 k (by omega), fun k _ => h.2 1 k (by omega)⟩
theorem s_worth {M : Mm} {E : Nat → Nat → Int64} {s v : Nat} (h6 : s ≤ 6) (hv : v < 2 ^ s) (hE : ∀ i j, i < s → j < s → mJ M 95 (6 * i + j) = E i j) : ∃ M', f_X9_worth 1 (nI v) (nI s) M = some (detB (suB E v s) (bc v s), M') ∧ Fr M M' := by
  have h64 := p2_le h6
  have hbs := bc_le v s
  have l2 : ∀ (a i m : Nat), i + a = bc v s → a < m → ∃ M', f_X9_worth_b41 1 m (nI (bc v s)) (nI i) (CLn (RWn M v s s) (suB E v s) (bc v s) i 0) = some (detB (suB E v s) (bc v s), M') ∧ Fr M M' := by
    intro a
    induction a with
    | zero =>
      intro i m h1 h2
      obtain ⟨m, rfl⟩ : ∃ j, m = j + 1 := ⟨m - 1, by omega⟩
      have e : i = bc v s := by omega
      subst e
      obtain ⟨M', e1, e2⟩ := s_clear (n := bc v s) (by omega) (M := CLn (RWn M v s s) (suB E v s) (bc v s) (bc v s) 0) (A := suB E v s) (fun x y hx hy => by
        have q := d6 (i := x) (show y < 6 by omega)
        rw [mJ_CLn, q.1, q.2, if_pos (by omega)])
      refine ⟨M', ?_, fun a k z => ?_, fun a c z => ?_⟩
      · rw [f_X9_worth_b41_s]
        unfold f_X9_worth_b41B
        rw [if_pos (Int32.le_refl _), e1, bd_s]
      · show M'.1 a k = _
        rw [e2.1]
        show mI (RWn M v s s) a k = _
        rw [mI_RWn, if_neg (by omega)]
      · rw [e2.2 a c z, mJ_CLn, if_neg (by omega)]
        rfl
    | succ a ih =>
      intro i m h1 h2
      obtain ⟨m, rfl⟩ : ∃ j, m = j + 1 := ⟨m - 1, by omega⟩
      have hih := ih (i + 1) m (by omega) (by omega)
      rw [f_X9_worth_b41_s]
      unfold f_X9_worth_b41B
      rw [if_neg (by rw [i_le, t_nI (by omega), t_nI (by omega)]; omega)]
      have inner : ∀ (c j m2 : Nat), j + c = bc v s → c < m2 → ∃ M', f_X9_worth_b50 (f_X9_worth_b41 1 m) 1 m2 (nI (bc v s)) (nI i) (nI j) (CLn (RWn M v s s) (suB E v s) (bc v s) i j) = some (detB (suB E v s) (bc v s), M') ∧ Fr M M' := by
        intro c
        induction c with
        | zero =>
          intro j m2 g1 g2
          obtain ⟨m2, rfl⟩ : ∃ j, m2 = j + 1 := ⟨m2 - 1, by omega⟩
          rw [f_X9_worth_b50_s]
          unfold f_X9_worth_b50B
          rw [show j = bc v s by omega, if_pos (Int32.le_refl _), CLn_n, nm_q, nI_1]
          exact hih
        | succ c jh =>
          intro j m2 g1 g2
          obtain ⟨m2, rfl⟩ : ∃ j, m2 = j + 1 := ⟨m2 - 1, by omega⟩
          have hjh := jh (j + 1) m2 (by omega) (by omega)
          rw [← CLn_s (RWn M v s s) (suB E v s) (show i < 6 by omega) (show j < bc v s by omega) (by omega)] at hjh
          have o1 := ix_ok (v := v) s i (by omega)
          have o2 := ix_ok (v := v) s j (by omega)
          have r1 : ∀ k, k < bc v s → mI (CLn (RWn M v s s) (suB E v s) (bc v s) i j) 96 k = nI (ixn v s k) := fun k hk => by
            show mI (RWn M v s s) 96 k = _
            rw [mI_RWn, if_pos ⟨rfl, hk⟩]
          have r2 : mJ (CLn (RWn M v s s) (suB E v s) (bc v s) i j) 95 (6 * ixn v s i + ixn v s j) = suB E v s i j := by
            rw [mJ_CLn, if_neg (by omega)]
            exact hE _ _ o1.1 o2.1
          rw [f_X9_worth_b50_s]
          unfold f_X9_worth_b50B
          rw [if_neg (by rw [i_le, t_nI (by omega), t_nI (by omega)]; omega)]
          simp only [fld_1_15, fld_1_16, fld_1_17, nI_cl (show i < 2 ^ 31 by omega), nI_cl (show j < 2 ^ 31 by omega), ck_k (show i < 6 by omega) (show 6 < 1000 by omega), ck_k (show j < 6 by omega) (show 6 < 1000 by omega), r1 i (by omega), r1 j (by omega), ix6, ck_k (show 6 * i + j < 36 by omega) (show 36 < 1000 by omega), ck_k (show 6 * ixn v s i + ixn v s j < 36 by omega) (show 36 < 1000 by omega), nI_cl (show 6 * i + j < 2 ^ 31 by omega), nI_cl (show 6 * ixn v s i + ixn v s j < 2 ^ 31 by omega), r2, nm_q, bd_s, nI_1]
          exact hjh
      exact inner (bc v s) 0 fuel (by omega) (by show bc v s < 1000; omega)
  have l1 : ∀ (a i m : Nat), i + a = s → a < m → ∃ M', f_X9_worth_b5 1 m (nI v) (nI s) (nI (bc v i)) (nI i) (RWn M v s i) = some (detB (suB E v s) (bc v s), M') ∧ Fr M M' := by
    intro a
    induction a with
    | zero =>
      intro i m h1 h2
      obtain ⟨m, rfl⟩ : ∃ j, m = j + 1 := ⟨m - 1, by omega⟩
      rw [f_X9_worth_b5_s]
      unfold f_X9_worth_b5B
      rw [show i = s by omega, if_pos (Int32.le_refl _)]
      have := l2 (bc v s) 0 fuel (by omega) (by show bc v s < 1000; omega)
      rw [CLn_0] at this
      exact this
    | succ a ih =>
      intro i m h1 h2
      obtain ⟨m, rfl⟩ : ∃ j, m = j + 1 := ⟨m - 1, by omega⟩
      have hih := ih (i + 1) m (by omega) (by omega)
      have hb := bc_le v i
      rw [f_X9_worth_b5_s]
      unfold f_X9_worth_b5B
      rw [if_neg (by rw [i_le, t_nI (by omega), t_nI (by omega)]; omega)]
      simp only [tb1 v (by omega) i (by omega), fld_1_16, nI_cl (show bc v i < 2 ^ 31 by omega), ck_k (show bc v i < 6 by omega) (show 6 < 1000 by omega), nm_q, bd_s, nI_1]
      by_cases z : v.testBit i = true
      · rw [if_pos z]
        rw [← RWn_s M (by omega) z, bc_s, if_pos z] at hih
        exact hih
      · rw [if_neg z]
        rw [RWn_n M (by simpa using z), bc_s, if_neg z, Nat.add_zero] at hih
        exact hih
  have := l1 s 0 fuel (by omega) (by show s < 1000; omega)
  rw [RWn_0] at this
  exact this

/-! the determinant by elimination, as a pure function; the class's -/
def barB (n : Nat) : Nat → Nat → (Nat → Nat → Int64) → Int64 → Int64 → Int64
  | 0, _, A, s, _ => s * A (n - 1) (n - 1)
  | c + 1, k, A, s, b => if A k k = 0 then (match fnd A k (n - (k + 1)) (k + 1) with | none => 0 | some i => barB n c (k + 1) (elA (swB A k i) k b) (-s) (swB A k i k k)) else barB n c (k + 1) (elA A k b) s (A k k)
def detB (A : Nat → Nat → Int64) (n : Nat) : Int64 := if n = 0 then 1 else barB n (n - 1) 0 A 1 1
theorem fnd_some {A : Nat → Nat → Int64} {k x : Nat} : ∀ c i, fnd A k c i = some x → i ≤ x ∧ x < i + c ∧ A x k ≠ 0
  | 0, i, h => by simp [fnd] at h
  | c + 1, i, h => by
    unfold fnd at h
    by_cases z : A i k = 0
    · rw [if_pos z] at h
      have := fnd_some c (i + 1) h
      exact ⟨by omega, by omega, this.2.2⟩
    · rw [if_neg z] at h
      have e : i = x := by simpa using h
      subst e
      exact ⟨by omega, by omega, z⟩
/-- only the square's cells differ -/
def Of (q : Nat) (M M1 : Mm) : Prop := M1.1 = M.1 ∧ ∀ a c, ¬ (q ≤ a ∧ a < q + 6) → mJ M1 a c = mJ M a c
theorem Of.rf (q : Nat) (M : Mm) : Of q M M := ⟨rfl, fun _ _ _ => rfl⟩
theorem Of.tr {q : Nat} {M M1 M2 : Mm} (h : Of q M M1) (g : Of q M1 M2) : Of q M M2 := ⟨g.1.trans h.1, fun a c p => (g.2 a c p).trans (h.2 a c p)⟩
theorem Of_GE (M : Mm) (q : Nat) (A : Nat → Nat → Int64) (k n : Nat) (b : Int64) (i j : Nat) : Of q M (GE M q A k n b i j) := ⟨rfl, fun a c p => by rw [mJ_GE, if_neg (by omega)]⟩
theorem Of_SW (M : Mm) (q : Nat) (A : Nat → Nat → Int64) {k i : Nat} (j : Nat) (hk : k < 6) (hi : i < 6) : Of q M (SW M q A k i j) := ⟨rfl, fun a c p => by rw [mJ_SW, if_neg (by omega), if_neg (by omega)]⟩
theorem s_det_l {o q : Nat} (hE : ∀ i, elm (fld o 0) i = q + i) {n : Nat} (hn : n ≤ 6) : ∀ (c k m : Nat) (M : Mm) (A : Nat → Nat → Int64) (s b : Int64), k + c + 1 = n → c < m → b ≠ 0 → (∀ i j, i < n → j < n → mJ M (q + i) j = A i j) → ∃ M', f_X7_determinant_b18 o m (nI n) s b (nI k) M = some (barB n c k A s b, M') ∧ Of q M M' := by
  intro c
  induction c with
  | zero =>
    intro k m M A s b h1 h2 hb hA
    obtain ⟨m, rfl⟩ : ∃ j, m = j + 1 := ⟨m - 1, by omega⟩
    refine ⟨M, ?_, Of.rf q M⟩
    have e : nI n - 1 = nI (n - 1) := by rw [show (1 : Int32) = nI 1 from rfl, pk_sub (by omega)]
    rw [f_X7_determinant_b18_s]
    unfold f_X7_determinant_b18B barB
    rw [e, if_pos (by rw [i_le, t_nI (by omega), t_nI (by omega)]; omega), if_neg (by rw [i_le, t_nI (by omega), li_0]; omega), ck_k (show n - 1 < 6 by omega) (by omega), ck_k (show n - 1 < 6 by omega) (by omega), nI_cl (by omega), hE, hA (n - 1) (n - 1) (by omega) (by omega)]
  | succ c ih =>
    intro k m M A s b h1 h2 hb hA
    obtain ⟨m, rfl⟩ : ∃ j, m = j + 1 := ⟨m - 1, by omega⟩
    have e : nI n - 1 = nI (n - 1) := by rw [show (1 : Int32) = nI 1 from rfl, pk_sub (by omega)]
    have kb : ¬ lg_cmp b 0 = 0 := fun z => hb ((lg_cmp_eq b 0).mp z)
    have go : ∀ (M : Mm) (A : Nat → Nat → Int64) (s : Int64), A k k ≠ 0 → (∀ i j, i < n → j < n → mJ M (q + i) j = A i j) → ∃ M', f_X7_determinant_b56 (f_X7_determinant_b18 o m) o (nI n) s b (nI k) M = some (barB n c (k + 1) (elA A k b) s (A k k), M') ∧ Of q M M' := by
      intro M A s hz hA
      have hG : ∀ i j, i < n → j < n → mJ (GE M q A k n b n (k + 1)) (q + i) j = elA A k b i j := by
        intro i j hi hj
        rw [mJ_GE]
        unfold elA
        by_cases z : k < i ∧ k < j
        · rw [if_pos (by omega), if_pos z, Nat.add_sub_cancel_left]
        · rw [if_neg (by omega), if_neg z]
          exact hA i j hi hj
      obtain ⟨M', l1, l2⟩ := ih (k + 1) m (GE M q A k n b n (k + 1)) (elA A k b) s (A k k) (by omega) (by omega) hz hG
      refine ⟨M', ?_, (Of_GE M q A k n b n (k + 1)).tr l2⟩
      have hkk : mJ (GE M q A k n b n (k + 1)) (q + k) k = A k k := by rw [hG k k (by omega) (by omega)]; unfold elA; rw [if_neg (by omega)]
      unfold f_X7_determinant_b56
      rw [if_neg kb, s_clearBelow hE hn (by omega) hb hA, bd_s]
      simp only [ck_k (show k < 6 by omega) (show 6 < 1000 by omega), nI_cl (show k < 2 ^ 31 by omega), hE, hkk, nm_q, bd_s, nI_1]
      exact l1
    rw [f_X7_determinant_b18_s]
    unfold f_X7_determinant_b18B barB
    rw [e, if_neg (by rw [i_le, t_nI (by omega), t_nI (by omega)]; omega), ck_k (show k < 6 by omega) (by omega), ck_k (show k < 6 by omega) (by omega), nI_cl (by omega), hE, hA k k (by omega) (by omega)]
    by_cases z : A k k = 0
    · rw [if_pos ((lg_cmp_eq _ _).mpr z), if_pos z, s_bringUp hE hn (by omega) hA]
      cases hf : fnd A k (n - (k + 1)) (k + 1) with
      | none => exact ⟨M, rfl, Of.rf q M⟩
      | some i =>
        have hs := fnd_some _ _ hf
        have hS : ∀ x y, x < n → y < n → mJ (SW M q A k i n) (q + x) y = swB A k i x y := by
          intro x y hx hy
          rw [mJ_SW]
          unfold swB
          by_cases e1 : x = k
          · rw [if_pos (by omega), if_pos e1]
          · rw [if_neg (by omega), if_neg e1]
            by_cases e2 : x = i
            · rw [if_pos (by omega), if_pos e2]
            · rw [if_neg (by omega), if_neg e2]
              exact hA x y hx hy
        obtain ⟨M', l1, l2⟩ := go (SW M q A k i n) (swB A k i) (-s) (by unfold swB; rw [if_pos rfl]; exact hs.2.2) hS
        refine ⟨M', ?_, (Of_SW M q A n (by omega) (by omega)).tr l2⟩
        simp only [nm_q, bd_s, show ¬ (1 : Int32) = 0 by decide, if_false]
        exact l1
    · rw [if_neg (fun y => z ((lg_cmp_eq _ _).mp y)), if_neg z]
      exact go M A s z hA
theorem s_det {o q : Nat} (hE : ∀ i, elm (fld o 0) i = q + i) {n : Nat} (hn : n ≤ 6) {M : Mm} {A : Nat → Nat → Int64} (hs : mI M o 1 = nI n) (hA : ∀ i j, i < n → j < n → mJ M (q + i) j = A i j) : ∃ M', f_X7_determinant o M = some (detB A n, M') ∧ Of q M M' := by
  unfold f_X7_determinant detB
  rw [hs, if_neg (by rw [i_lt, t_nI (by omega), li_6]; omega), nm_q]
  by_cases z : n = 0
  · subst z
    refine ⟨M, ?_, Of.rf q M⟩
    rw [show fuel = 999 + 1 from rfl, f_X7_determinant_b18_s]
    unfold f_X7_determinant_b18B
    rw [if_pos (by decide), if_pos (by decide), if_pos rfl]
  · rw [if_neg z]
    exact s_det_l hE hn (n - 1) 0 fuel M A 1 1 (by omega) (by show n - 1 < 1000; omega) (by decide) hA

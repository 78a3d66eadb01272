/-! sets that grow by steps: what is last -/
def sbs (v w : Nat) : Prop := ∀ u, v.testBit u = true → w.testBit u = true
theorem sbs.rf (v : Nat) : sbs v v := fun _ h => h
theorem sbs.tr {a b c : Nat} (h : sbs a b) (g : sbs b c) : sbs a c := fun u q => g u (h u q)
theorem sbs.eq {a b : Nat} (h : sbs a b) (g : sbs b a) : a = b := by
  apply Nat.eq_of_testBit_eq
  intro j
  have h1 := h j
  have g1 := g j
  cases ha : a.testBit j <;> cases hb : b.testBit j
  · rfl
  · exact absurd (g1 hb) (by rw [ha]; decide)
  · exact absurd (h1 ha) (by rw [hb]; decide)
  · rfl
theorem tb_lt {v s u : Nat} (h : v < 2 ^ s) (hb : v.testBit u = true) : u < s := by
  rcases Nat.lt_or_ge u s with q | q
  · exact q
  · have : v < 2 ^ u := Nat.lt_of_lt_of_le h (Nat.pow_le_pow_right (by omega) q)
    rw [Nat.testBit_lt_two_pow this] at hb
    exact absurd hb (by decide)
def bc (v : Nat) : Nat → Nat
  | 0 => 0
  | k + 1 => bc v k + (if v.testBit k = true then 1 else 0)
theorem bc_le (v : Nat) : ∀ k, bc v k ≤ k
  | 0 => Nat.le_refl _
  | k + 1 => by
    have := bc_le v k
    unfold bc
    split <;> omega
theorem bc_mono {v w : Nat} (h : sbs v w) : ∀ k, bc v k ≤ bc w k
  | 0 => Nat.le_refl _
  | k + 1 => by
    have := bc_mono h k
    have q := h k
    unfold bc
    by_cases z : v.testBit k = true
    · rw [if_pos z, if_pos (q z)]; omega
    · rw [if_neg z]; omega
theorem bc_eq {v w : Nat} (h : sbs v w) : ∀ k, bc w k ≤ bc v k → ∀ u, u < k → w.testBit u = true → v.testBit u = true
  | 0, _ => fun u hu => by omega
  | k + 1, hk => by
    have m := bc_mono h k
    have q := h k
    unfold bc at hk
    intro u hu hb
    by_cases z : v.testBit k = true
    · rw [if_pos z, if_pos (q z)] at hk
      by_cases e : u = k
      · subst e; exact z
      · exact bc_eq h k (by omega) u (by omega) hb
    · rw [if_neg z] at hk
      by_cases z2 : w.testBit k = true
      · rw [if_pos z2] at hk; omega
      · rw [if_neg z2] at hk
        by_cases e : u = k
        · subst e; exact absurd hb z2
        · exact bc_eq h k (by omega) u (by omega) hb
/-- a pass of steps, and passes -/
def gp (F : Nat → Nat → Nat) : Nat → Nat → Nat → Nat
  | 0, _, v => v
  | k + 1, i, v => gp F k (i + 1) (F v i)
def gt (F : Nat → Nat → Nat) (s : Nat) : Nat → Nat → Nat
  | 0, v => v
  | k + 1, v => gt F s k (gp F s 0 v)
theorem gp_rp {p : Nat → Int32} {s : Nat} : ∀ k i v, gp (st1 p s) k i v = rp p s k i v
  | 0, _, _ => rfl
  | k + 1, i, v => gp_rp k (i + 1) _
theorem gt_rt {p : Nat → Int32} {s : Nat} : ∀ k v, gt (st1 p s) s k v = rt p s k v
  | 0, _ => rfl
  | k + 1, v => by
    unfold gt rt
    rw [gp_rp]
    exact gt_rt k _
/-- each step only adds -/
def Up (F : Nat → Nat → Nat) (s : Nat) : Prop := ∀ v i, i < s → v < 2 ^ s → F v i < 2 ^ s ∧ sbs v (F v i)
theorem gp_up {F : Nat → Nat → Nat} {s : Nat} (h : Up F s) : ∀ k i v, i + k ≤ s → v < 2 ^ s → gp F k i v < 2 ^ s ∧ sbs v (gp F k i v)
  | 0, _, v, _, hv => ⟨hv, sbs.rf v⟩
  | k + 1, i, v, hi, hv => by
    have q := h v i (by omega) hv
    have q2 := gp_up h k (i + 1) (F v i) (by omega) q.1
    exact ⟨q2.1, q.2.tr q2.2⟩
theorem gt_up {F : Nat → Nat → Nat} {s : Nat} (h : Up F s) : ∀ k v, v < 2 ^ s → gt F s k v < 2 ^ s ∧ sbs v (gt F s k v)
  | 0, v, hv => ⟨hv, sbs.rf v⟩
  | k + 1, v, hv => by
    have q := gp_up h s 0 v (by omega) hv
    have q2 := gt_up h k _ q.1
    exact ⟨q2.1, q.2.tr q2.2⟩
theorem gt_fx {F : Nat → Nat → Nat} {s v : Nat} (h : gp F s 0 v = v) : ∀ k, gt F s k v = v
  | 0 => rfl
  | k + 1 => by
    unfold gt
    rw [h]
    exact gt_fx h k
theorem gt_cnt {F : Nat → Nat → Nat} {s : Nat} (h : Up F s) : ∀ k v, v < 2 ^ s → gp F s 0 (gt F s k v) = gt F s k v ∨ bc v s + k ≤ bc (gt F s k v) s
  | 0, v, hv => Or.inr (Nat.le_refl _)
  | k + 1, v, hv => by
    have q := gp_up h s 0 v (by omega) hv
    by_cases e : gp F s 0 v = v
    · left
      rw [gt_fx e, e]
    · rcases gt_cnt h k (gp F s 0 v) q.1 with z | z
      · left; exact z
      · right
        have m := bc_mono q.2 s
        have : bc v s ≠ bc (gp F s 0 v) s := fun y => e (sbs.eq q.2 (fun u hu => bc_eq q.2 s (by omega) u (tb_lt q.1 hu) hu)).symm
        show bc v s + (k + 1) ≤ bc (gt F s k (gp F s 0 v)) s
        omega
theorem gt_fix {F : Nat → Nat → Nat} {s : Nat} (h : Up F s) {k v : Nat} (hk : s ≤ k) (hv : v < 2 ^ s) : gp F s 0 (gt F s k v) = gt F s k v := by
  have u := gt_up h k v hv
  rcases gt_cnt h k v hv with z | z
  · exact z
  · have l := bc_le (gt F s k v) s
    have q := gp_up h s 0 (gt F s k v) (by omega) u.1
    refine (sbs.eq q.2 (fun j hj => bc_eq q.2 s ?_ j (tb_lt q.1 hj) hj)).symm
    have := bc_le (gp F s 0 (gt F s k v)) s
    omega
theorem gp_each {F : Nat → Nat → Nat} {s : Nat} (h : Up F s) : ∀ k i v, i + k ≤ s → v < 2 ^ s → gp F k i v = v → ∀ j, i ≤ j → j < i + k → F v j = v
  | 0, _, _, _, _, _ => fun j a b => by omega
  | k + 1, i, v, hi, hv, e => by
    have q := h v i (by omega) hv
    have q2 := gp_up h k (i + 1) (F v i) (by omega) q.1
    have e1 : F v i = v := by
      refine (sbs.eq q.2 ?_).symm
      have := q2.2
      rw [show gp F k (i + 1) (F v i) = v from e] at this
      exact this
    intro j a b
    by_cases z : j = i
    · subst z; exact e1
    · have e2 : gp F k (i + 1) v = v := by
        have : gp F k (i + 1) (F v i) = v := e
        rw [e1] at this
        exact this
      exact gp_each h k (i + 1) v (by omega) hv e2 j (by omega) (by omega)
theorem gt_each {F : Nat → Nat → Nat} {s : Nat} (h : Up F s) {k v : Nat} (hk : s ≤ k) (hv : v < 2 ^ s) {j : Nat} (hj : j < s) : F (gt F s k v) j = gt F s k v := gp_each h s 0 _ (by omega) (gt_up h k v hv).1 (gt_fix h hk hv) j (by omega) (by omega)
/-- the least: what holds at first and is kept by each step -/
theorem gp_least {F : Nat → Nat → Nat} {s W : Nat} (h : ∀ v i, i < s → sbs v W → sbs (F v i) W) : ∀ k i v, i + k ≤ s → sbs v W → sbs (gp F k i v) W
  | 0, _, _, _, hv => hv
  | k + 1, i, v, hi, hv => gp_least h k (i + 1) _ (by omega) (h v i (by omega) hv)
theorem gt_least {F : Nat → Nat → Nat} {s W : Nat} (h : ∀ v i, i < s → sbs v W → sbs (F v i) W) : ∀ k v, sbs v W → sbs (gt F s k v) W
  | 0, _, hv => hv
  | k + 1, v, hv => gt_least h k _ (gp_least h s 0 v (by omega) hv)
theorem up_st (p : Nat → Int32) (s : Nat) : Up (st1 p s) s := fun _ i _ hv => ⟨st_lt i hv, fun _ hu => st_up hu⟩
/-- a set that none leaves -/
def clo (p : Nat → Int32) (s W : Nat) : Prop := ∀ i j, i < s → j < s → W.testBit i = true → ld p s i j = true → W.testBit j = true
theorem clo_st {p : Nat → Int32} {s W : Nat} (h : clo p s W) : ∀ v i, i < s → sbs v W → sbs (st1 p s v i) W := by
  intro v i hi hv u hu
  unfold st1 at hu
  by_cases z : v.testBit i = true
  · rw [if_pos z, Nat.testBit_or, Bool.or_eq_true, mk_tb, Bool.and_eq_true, decide_eq_true_eq] at hu
    rcases hu with hu | hu
    · exact hv u hu
    · exact h i u hi hu.1 (hv i z) hu.2
  · rw [if_neg z] at hu
    exact hv u hu
theorem rt_clo {p : Nat → Int32} {s v : Nat} (hv : v < 2 ^ s) : clo p s (rt p s s v) := by
  intro i j hi hj h1 h2
  have e := gt_each (up_st p s) (k := s) (Nat.le_refl _) hv hi
  rw [gt_rt] at e
  unfold st1 at e
  rw [if_pos h1] at e
  rw [← e, Nat.testBit_or, mk_tb]
  simp [hj, h2]
theorem rt_least {p : Nat → Int32} {s v W : Nat} (hW : clo p s W) (h : sbs v W) : sbs (rt p s s v) W := by
  rw [← gt_rt]
  exact gt_least (clo_st hW) s v h
theorem rt_has {p : Nat → Int32} {s v : Nat} : sbs v (rt p s s v) := fun _ h => rt_up s v h
theorem sbs_one {i W : Nat} (h : W.testBit i = true) : sbs (2 ^ i) W := fun u hu => by
  rw [Nat.testBit_two_pow, decide_eq_true_eq] at hu
  rw [← hu]; exact h
theorem RR_clo {p : Nat → Int32} {s i : Nat} (hi : i < s) : clo p s (RR p s i) := rt_clo (Nat.pow_lt_pow_right (by omega) hi)
theorem RR_least {p : Nat → Int32} {s i W : Nat} (hW : clo p s W) (h : W.testBit i = true) : sbs (RR p s i) W := rt_least hW (sbs_one h)
theorem RR_tr {p : Nat → Int32} {s i j : Nat} (hi : i < s) (h : (RR p s i).testBit j = true) : sbs (RR p s j) (RR p s i) := RR_least (RR_clo hi) h
/-- there is a part -/
theorem pn_pos {p : Nat → Int32} {s : Nat} (hs : 0 < s) : 1 ≤ pn (RR p s) s s := by
  have cl : ∃ i, i < s ∧ clB (RR p s) s i 0 = true := by
    have : ∀ b i, i < s → bc (RR p s i) s ≤ b → ∃ i, i < s ∧ clB (RR p s) s i 0 = true := by
      intro b
      induction b with
      | zero =>
        intro i hi hb
        refine ⟨i, hi, cl_iff.mpr fun u a _ c => ?_⟩
        have t := RR_tr (p := p) hi c
        exact sbs.eq t (fun j hj => bc_eq t s (by omega) j (tb_lt (RR_lt hi) hj) hj)
      | succ b ih =>
        intro i hi hb
        by_cases z : ∀ u, u < s → (RR p s i).testBit u = true → bc (RR p s i) s ≤ bc (RR p s u) s
        · refine ⟨i, hi, cl_iff.mpr fun u a _ c => ?_⟩
          have t := RR_tr (p := p) hi c
          exact sbs.eq t (fun j hj => bc_eq t s (z u a c) j (tb_lt (RR_lt hi) hj) hj)
        · have : ∃ u, u < s ∧ (RR p s i).testBit u = true ∧ bc (RR p s u) s < bc (RR p s i) s := by
            apply Classical.byContradiction
            intro y
            apply z
            intro u a c
            rcases Nat.lt_or_ge (bc (RR p s u) s) (bc (RR p s i) s) with q | q
            · exact absurd ⟨u, a, c, q⟩ y
            · exact q
          obtain ⟨u, a, c, d⟩ := this
          exact ih u a (by omega)
    exact this s 0 hs (bc_le _ _)
  obtain ⟨i, hi, hc⟩ := cl
  have some_po : ∃ k, k < s ∧ poB (RR p s) s k 0 = true := by
    by_cases z : (un (RR p s) s i).testBit i = true
    · obtain ⟨k, a, b, _⟩ := (un_iff i).mp z
      exact ⟨k, by omega, b⟩
    · exact ⟨i, hi, (po_un (fun _ _ => RR_self) hi).mpr ⟨by simpa using z, hc⟩⟩
  obtain ⟨k, hk, hp⟩ := some_po
  have e1 : pn (RR p s) s (k + 1) ≠ 0 := by unfold pn; rw [if_pos hp]; omega
  have e2 := (ff_c e1 (s - (k + 1))).1
  rw [show k + 1 + (s - (k + 1)) = s by omega] at e2
  omega

/-! flows: the numbers of both sides -/
theorem fr_f {u l : Int64} (hu : 0 ≤ u.toInt) (hl : 0 < l.toInt) : ∃ g : Int, 1 ≤ g ∧ u.toInt = g * (frU u l).toInt ∧ l.toInt = g * (frL u l).toInt ∧ 0 ≤ (frU u l).toInt ∧ 0 < (frL u l).toInt ∧ (frU u l).toInt ≤ u.toInt ∧ (frL u l).toInt ≤ l.toInt := by
  have bu := l_bd u
  have bl := l_bd l
  obtain ⟨e1, e2⟩ := fr_toInt (u := u) (l := l) (by omega) (by omega) (by omega)
  rw [e1, e2]
  unfold FU FL
  rw [if_neg (by omega), if_neg (by omega)]
  have gp : 0 < Nat.gcd u.toInt.natAbs l.toInt.natAbs := Nat.gcd_pos_of_pos_right _ (by omega)
  obtain ⟨a, ha⟩ := Int.ofNat_dvd_left.mpr (Nat.gcd_dvd_left u.toInt.natAbs l.toInt.natAbs)
  obtain ⟨b, hb⟩ := Int.ofNat_dvd_left.mpr (Nat.gcd_dvd_right u.toInt.natAbs l.toInt.natAbs)
  generalize Nat.gcd u.toInt.natAbs l.toInt.natAbs = g at *
  have f1 : u.toInt.tdiv (g : Int) = a := by rw [ha]; exact Int.mul_tdiv_cancel_left _ (by omega)
  have f2 : l.toInt.tdiv (g : Int) = b := by rw [hb]; exact Int.mul_tdiv_cancel_left _ (by omega)
  rw [f1, f2]
  have a0 : 0 ≤ a := by
    rcases Int.lt_or_le a 0 with hz | hz
    · have := Int.mul_neg_of_pos_of_neg (show (0 : Int) < g by omega) hz; omega
    · exact hz
  have b0 : 0 < b := by
    rcases Int.lt_or_le 0 b with hz | hz
    · exact hz
    · have := Int.mul_nonpos_of_nonneg_of_nonpos (show (0 : Int) ≤ g by omega) hz; omega
  have l1 : 1 * a ≤ (g : Int) * a := Int.mul_le_mul_of_nonneg_right (by omega) a0
  have l2 : 1 * b ≤ (g : Int) * b := Int.mul_le_mul_of_nonneg_right (by omega) (by omega)
  exact ⟨g, by omega, ha, hb, a0, b0, by omega, by omega⟩
theorem m4_cg {O O' : Mi} (h : ∀ i j, i < 4 → j < 4 → O i j = O' i j) : m4 O 3 3 = m4 O' 3 3 := by
  rw [m4_e, m4_e]
  rw [h 0 0 (by omega) (by omega), h 0 1 (by omega) (by omega), h 0 2 (by omega) (by omega), h 0 3 (by omega) (by omega), h 1 0 (by omega) (by omega), h 1 1 (by omega) (by omega), h 1 2 (by omega) (by omega), h 1 3 (by omega) (by omega), h 2 0 (by omega) (by omega), h 2 1 (by omega) (by omega), h 2 2 (by omega) (by omega), h 2 3 (by omega) (by omega), h 3 0 (by omega) (by omega), h 3 1 (by omega) (by omega), h 3 2 (by omega) (by omega), h 3 3 (by omega) (by omega)]
theorem lv_cg {O O' : Mi} {n : Nat} (h1 : 1 ≤ n) (hn : n ≤ 4) (h : ∀ i j, i < n → j < n → O i j = O' i j) : lv O (n - 1) (n - 1) (n - 1) = lv O' (n - 1) (n - 1) (n - 1) := by
  have : n = 1 ∨ n = 2 ∨ n = 3 ∨ n = 4 := by omega
  rcases this with rfl | rfl | rfl | rfl
  · exact h 0 0 (by omega) (by omega)
  · show m2 O 1 1 = m2 O' 1 1
    rw [m2_e, m2_e, h 0 0 (by omega) (by omega), h 0 1 (by omega) (by omega), h 1 0 (by omega) (by omega), h 1 1 (by omega) (by omega)]
  · show m3 O 2 2 = m3 O' 2 2
    rw [m3_e, m3_e, h 0 0 (by omega) (by omega), h 0 1 (by omega) (by omega), h 0 2 (by omega) (by omega), h 1 0 (by omega) (by omega), h 1 1 (by omega) (by omega), h 1 2 (by omega) (by omega), h 2 0 (by omega) (by omega), h 2 1 (by omega) (by omega), h 2 2 (by omega) (by omega)]
  · exact m4_cg h
theorem m4_bk {O : Mi} {K a b c : Nat} (h : ∀ i j, i < 4 → j < 4 → (O i j).natAbs ≤ K) (h1 : 2 * (K * K) ≤ a) (h2 : 3 * (K * a) ≤ b) (h3 : 4 * (K * b) ≤ c) : (m4 O 3 3).natAbs ≤ c := by
  have d2 : ∀ x y, x < 4 → y < 4 → (D2 O x y).natAbs ≤ a := by
    intro x y hx hy
    have q1 := ab_m (h 0 x (by omega) hx) (h 1 y (by omega) hy)
    have q2 := ab_m (h 0 y (by omega) hy) (h 1 x (by omega) hx)
    unfold D2; omega
  have d3 : ∀ x y z, x < 4 → y < 4 → z < 4 → (D3 O x y z).natAbs ≤ b := by
    intro x y z hx hy hz
    have q1 := ab_m (h 2 z (by omega) hz) (d2 x y hx hy)
    have q2 := ab_m (h 2 y (by omega) hy) (d2 x z hx hz)
    have q3 := ab_m (h 2 x (by omega) hx) (d2 y z hy hz)
    unfold D3; omega
  have q1 := ab_m (h 3 3 (by omega) (by omega)) (d3 0 1 2 (by omega) (by omega) (by omega))
  have q2 := ab_m (h 3 2 (by omega) (by omega)) (d3 0 1 3 (by omega) (by omega) (by omega))
  have q3 := ab_m (h 3 1 (by omega) (by omega)) (d3 0 2 3 (by omega) (by omega) (by omega))
  have q4 := ab_m (h 3 0 (by omega) (by omega)) (d3 1 2 3 (by omega) (by omega) (by omega))
  unfold m4; omega
theorem t64 {k : Nat} (h : k < 2 ^ 31) : (Int32.toInt64 (nI k)).toInt = (k : Int) := by rw [i2l, t_nI h]
theorem fE_I {v rp i j : Nat} {cm : Nf} {wy : Nat → Nf} (h1 : wy i j ≤ 4) (h2 : cm j ≤ 9) : (fE v wy cm rp i j).toInt = RLc (WI v wy) rp (fun j => (cm j : Int)) i j := by
  unfold fE RLc
  by_cases e : i = rp
  · rw [if_pos e, if_pos e, t64 (by omega)]
  · rw [if_neg e, if_neg e]
    unfold WI
    have c4 : (if i = j then (4 : Int64) else 0).toInt = if i = j then (4 : Int) else 0 := by split <;> rfl
    have c5 : 0 ≤ (if i = j then (4 : Int) else 0) ∧ (if i = j then (4 : Int) else 0) ≤ 4 := by split <;> omega
    by_cases hb : v.testBit i = true ∧ v.testBit j = true
    · rw [if_pos hb, if_pos hb, l_sub (by rw [c4, t64 (by omega)]; omega) (by rw [c4, t64 (by omega)]; omega), c4, t64 (by omega)]
    · rw [if_neg hb, if_neg hb, c4]; omega
def EI (wy : Nat → Nf) (i j : Nat) : Int := (if i = j then 4 else 0) - (wy j i : Int)
def EIc (wy : Nat → Nf) (cm : Nf) (c i j : Nat) : Int := if j = c then 4 * (cm i : Int) else EI wy i j
theorem sE_I {i j : Nat} {wy : Nat → Nf} (h1 : wy j i ≤ 4) : (sE wy i j).toInt = EI wy i j := by
  unfold sE EI
  have c4 : (if i = j then (4 : Int32) else 0).toInt = if i = j then (4 : Int) else 0 := by split <;> rfl
  have c5 : 0 ≤ (if i = j then (4 : Int) else 0) ∧ (if i = j then (4 : Int) else 0) ≤ 4 := by split <;> omega
  rw [i2l, i_sub (by rw [c4, t_nI (by omega)]; omega) (by rw [c4, t_nI (by omega)]; omega), c4, t_nI (by omega)]
theorem sEc_I {c i j : Nat} {cm : Nf} {wy : Nat → Nf} (hi : i < 4) (h1 : wy j i ≤ 4) (h2 : cm i ≤ 9) : (sEc wy cm c 4 i j).toInt = EIc wy cm c i j := by
  unfold sEc EIc
  have e4 : (4 : Int64).toInt = 4 := rfl
  by_cases e : j = c
  · rw [if_pos ⟨e, hi⟩, if_pos e, l_mul (by rw [e4, t64 (by omega)]; omega) (by rw [e4, t64 (by omega)]; omega), e4, t64 (by omega)]
  · rw [if_neg (fun hc => e hc.1), if_neg e]
    exact sE_I h1
/-- a determinant of some of four, over whole numbers -/
theorem det4 {E : Nat → Nat → Int64} {O : Mi} {v : Nat} (hv : v < 16) (h0 : v ≠ 0) (h : ∀ i j, i < 4 → j < 4 → (E i j).toInt = O i j ∧ (O i j).natAbs ≤ 60) : (detB (suB E v 4) (bc v 4)).toInt = lv (SI O v) (bc v 4 - 1) (bc v 4 - 1) (bc v 4 - 1) := by
  have hb := bc_le v 4
  have hp : 1 ≤ bc v 4 := by
    have : ∃ u, v.testBit u = true := by
      apply Classical.byContradiction
      intro hz
      apply h0
      apply Nat.eq_of_testBit_eq
      intro j
      rw [Nat.zero_testBit, Bool.eq_false_iff]
      intro hj
      exact hz ⟨j, hj⟩
    obtain ⟨u, hu⟩ := this
    exact bc_pos (tb_lt (s := 4) (by omega) hu) hu
  have ok : ∀ a, a < bc v 4 → ixn v 4 a < 4 := fun a ha => (ix_ok 4 a ha).1
  rw [det_ok hp (by omega) (fun i j hi hj => by
    show (E (ixn v 4 i) (ixn v 4 j)).toInt.natAbs ≤ 60
    rw [(h _ _ (ok i hi) (ok j hj)).1]
    exact (h _ _ (ok i hi) (ok j hj)).2) (Or.inl hb)]
  refine lv_cg hp hb (fun i j hi hj => ?_)
  unfold cut suB SI
  rw [if_pos ⟨hi, hj⟩]
  exact (h _ _ (ok i hi) (ok j hj)).1
theorem k4_pos {n : Nat} : 1 ≤ k4 n ∧ k4 n ≤ 64 := by
  unfold k4
  split <;> omega
theorem Sc_1819 (M : Mm) (x y : Int64) : Sc M (sJ (sJ M 1 18 x) 1 19 y) := ((Sc.rf M).j (by omega) (by omega)).j (by omega) (by omega)
theorem setFlow_0 {M : Mm} {kd rr hd rm cm : Nf} {wy : Nat → Nf} (n : NetR kd rr hd rm cm wy M) (w : wfN kd rr hd rm cm wy) {c : Nat} (hc : c < 4) {v : Nat} (hv : v = RC kd cm wy) (hv16 : v < 2 ^ 4) (hb : v.testBit c = false) : f_X9_setFlow 1 (nI c) M = some (sJ (sJ M 1 18 0) 1 19 1) := by
  have hrc : f_X9_reached 1 M = some (nI v, M) := by rw [hv]; exact s_rreached n w
  unfold f_X9_setFlow
  rw [hrc, bd_s, nm_q, nm_q, if_pos ((tb0 v (by omega) c (by omega)).mpr hb)]
theorem flow_num {kd rr hd rm cm : Nf} {wy : Nat → Nf} (w : wfN kd rr hd rm cm wy) (hk0 : kpM kd cm wy = 0) {c : Nat} (hc : c < 4) {v : Nat} (hv : v = RC kd cm wy) : ∃ u l : Int64, frU (4 * detB (fE v wy cm c) 4) (detB (fE v wy cm 9) 4) = u ∧ frL (4 * detB (fE v wy cm c) 4) (detB (fE v wy cm 9) 4) = l ∧ 0 ≤ u.toInt ∧ u.toInt ≤ 629856 ∧ 0 < l.toInt ∧ l.toInt ≤ 6144 ∧ 0 ≤ (4 * detB (fE v wy cm c) 4).toInt ∧ 0 < (detB (fE v wy cm 9) 4).toInt ∧ ∀ M, NetR kd rr hd rm cm wy M → ∃ M', f_X9_setFlow 1 (nI c) M = some M' ∧ Sc M M' ∧ mJ M' 1 18 = u ∧ mJ M' 1 19 = l := by
  have hv16 : v < 2 ^ 4 := by rw [hv]; exact rt_lt 4 _ (mk_lt _ _)
  have hw : ∀ i, i < 4 → wy i 0 + wy i 1 + wy i 2 + wy i 3 ≤ 4 := fun i hi => (w i hi).2.2.2.2.2.2
  have w4 : ∀ i j, i < 4 → j < 4 → wy i j ≤ 4 := by
    intro i j hi hj
    have := hw i hi
    have hj4 : j = 0 ∨ j = 1 ∨ j = 2 ∨ j = 3 := by omega
    rcases hj4 with rfl | rfl | rfl | rfl <;> omega
  have c9 : ∀ i, i < 4 → cm i ≤ 9 := fun i hi => (w i hi).2.2.2.2.1
  have hcl : ∀ i j, i < 4 → j < 4 → v.testBit i = true → wy i j ≠ 0 → v.testBit j = true := by
    intro i j hi hj hb hn
    by_cases e : i = j
    · subst e; exact hb
    · rw [hv] at hb ⊢
      exact rt_clo (mk_lt _ _) i j hi hj hb ((ld_pw hj (w4 i j hi hj)).mpr ⟨e, hn⟩)
  have hcm : ∀ j, j < 4 → v.testBit j = false → cm j = 0 := by
    intro j hj hb
    apply Classical.byContradiction
    intro hz
    have : v.testBit j = true := by
      rw [hv]
      refine rt_has j ?_
      rw [mk_tb, Bool.and_eq_true, decide_eq_true_eq]
      refine ⟨hj, ?_⟩
      unfold cmB
      simp only [Bool.and_eq_true, decide_eq_true_eq]
      exact ⟨fun h9 => hz ((w j hj).2.2.2.2.2.1 h9).1, hz⟩
    rw [hb] at this
    exact absurd this (by decide)
  have hk : ∀ t, t < 4 → v.testBit t = true → RR (pw wy) 4 t &&& mk (ouB kd wy) 4 ≠ 0 := by
    intro t ht hb hz
    have : (kpM kd cm wy).testBit t = true := by
      unfold kpM
      rw [mk_tb, ← hv, hb, hz]
      simp [ht]
    rw [hk0] at this
    simp at this
  have wi4 : ∀ i j, i < 4 → j < 4 → (WI v wy i j).natAbs ≤ 4 := by
    intro i j hi hj
    have := w4 i j hi hj
    unfold WI
    split <;> split <;> omega
  -- the whole
  have eW : ∀ i j, i < 4 → j < 4 → (fE v wy cm 9 i j).toInt = WI v wy i j := by
    intro i j hi hj
    rw [fE_I (w4 i j hi hj) (c9 j hj)]
    unfold RLc
    rw [if_neg (by omega)]
  have mmW : MM (WI v wy) 0 4 := MMg (g := fun a => a) hw hcl hk (fun a ha => ha) (fun a b _ _ hh => hh) (fun h => by simp [sm])
  have cW : ∀ i j, i < 4 → j < 4 → WI v wy i j = cut (fE v wy cm 9) 4 i j := by
    intro i j hi hj
    unfold cut
    rw [if_pos ⟨hi, hj⟩, eW i j hi hj]
  have dW := det_pos (A := fE v wy cm 9) (n := 4) (by omega) (by omega) (fun i j hi hj => by rw [eW i j hi hj]; have := wi4 i j hi hj; omega) (MM_cg cW mmW)
  have vW : (detB (fE v wy cm 9) 4).toInt = m4 (WI v wy) 3 3 := by
    rw [dW.1]
    exact (m4_cg cW).symm
  have bW : (m4 (WI v wy) 3 3).natAbs ≤ 6144 := m4_bk wi4 (a := 32) (b := 384) (by omega) (by omega) (by omega)
  -- the part
  have eP : ∀ i j, i < 4 → j < 4 → (fE v wy cm c i j).toInt = RLc (WI v wy) c (fun j => (cm j : Int)) i j := fun i j hi hj => fE_I (w4 i j hi hj) (c9 j hj)
  have pi9 : ∀ i j, i < 4 → j < 4 → (RLc (WI v wy) c (fun j => (cm j : Int)) i j).natAbs ≤ 9 := by
    intro i j hi hj
    have := wi4 i j hi hj
    have := c9 j hj
    unfold RLc
    by_cases ei : i = c
    · rw [if_pos ei]; show ((cm j : Int)).natAbs ≤ 9; omega
    · rw [if_neg ei]; omega
  have vP : (detB (fE v wy cm c) 4).toInt = m4 (RLc (WI v wy) c (fun j => (cm j : Int))) 3 3 := by
    rw [det_ok (A := fE v wy cm c) (n := 4) (by omega) (by omega) (fun i j hi hj => by rw [eP i j hi hj]; have := pi9 i j hi hj; omega) (Or.inl (by omega))]
    refine m4_cg (fun i j hi hj => ?_)
    unfold cut
    rw [if_pos ⟨hi, hj⟩, eP i j hi hj]
  have bP : (m4 (RLc (WI v wy) c (fun j => (cm j : Int))) 3 3).natAbs ≤ 157464 := m4_bk pi9 (a := 162) (b := 4374) (by omega) (by omega) (by omega)
  have nP : 0 ≤ m4 (RLc (WI v wy) c (fun j => (cm j : Int))) 3 3 := part_nn hw hcl hk hc
  have e4 : (4 : Int64).toInt = 4 := rfl
  have v4P : (4 * detB (fE v wy cm c) 4).toInt = 4 * m4 (RLc (WI v wy) c (fun j => (cm j : Int))) 3 3 := by rw [l_mul (by rw [e4, vP]; omega) (by rw [e4, vP]; omega), e4, vP]
  have pW := dW.2.1
  obtain ⟨g, _, _, _, f4, f5, f6, f7⟩ := fr_f (u := 4 * detB (fE v wy cm c) 4) (l := detB (fE v wy cm 9) 4) (by omega) pW
  refine ⟨_, _, rfl, rfl, f4, by omega, f5, by omega, by omega, pW, fun M n => ?_⟩
  have hPm := l_bd (4 * detB (fE v wy cm c) 4)
  have hWm := l_bd (detB (fE v wy cm 9) 4)
  by_cases hb : v.testBit c = true
  · have v0 : v ≠ 0 := fun hz => by rw [hz] at hb; simp at hb
    have dA := det4 (E := sE wy) (O := EI wy) (v := v) (by omega) v0 (fun i j hi hj => ⟨sE_I (w4 j i hj hi), by have := w4 j i hj hi; unfold EI; split <;> omega⟩)
    have dU := det4 (E := sEc wy cm c 4) (O := EIc wy cm c) (v := v) (by omega) v0 (fun i j hi hj => ⟨sEc_I hi (w4 j i hj hi) (c9 i hi), by
      have h1 := w4 j i hj hi
      have h2 := c9 i hi
      unfold EIc EI
      by_cases e1 : j = c
      · rw [if_pos e1]; omega
      · rw [if_neg e1]
        by_cases e2 : i = j
        · rw [if_pos e2]; omega
        · rw [if_neg e2]; omega⟩)
    have bA := blk (v := v) (by omega) v0 (E := EI wy) (F := WI v wy) (fun i j hi hj => by
      unfold WI EI
      by_cases hx : v.testBit i = true ∧ v.testBit j = true
      · rw [if_pos hx, if_pos hx]
        by_cases e : i = j
        · rw [if_pos e, if_pos e.symm]
        · rw [if_neg e, if_neg (fun hc => e hc.symm)]
      · rw [if_neg hx, if_neg hx]; omega)
    have bU := blk (v := v) (by omega) v0 (E := EIc wy cm c) (F := RLc (WI v wy) c (fun j => 4 * (cm j : Int))) (fun i j hi hj => by
      unfold RLc EIc
      by_cases ei : i = c
      · subst ei
        rw [if_pos rfl, if_pos rfl]
        by_cases hj' : v.testBit j = true
        · rw [if_pos ⟨hb, hj'⟩]
        · have hj0 := hcm j hj (by simpa using hj')
          rw [if_neg (fun hx => hj' hx.2), if_neg (show ¬ i = j from fun hc => hj' (by rw [← hc]; exact hb))]; show 4 * (cm j : Int) = 0; rw [hj0]; rfl
      · rw [if_neg ei, if_neg ei]
        unfold WI EI
        by_cases hx : v.testBit i = true ∧ v.testBit j = true
        · rw [if_pos hx, if_pos hx]
          by_cases e : i = j
          · rw [if_pos e, if_pos e.symm]
          · rw [if_neg e, if_neg (fun hc => e hc.symm)]
        · rw [if_neg hx, if_neg hx]; omega)
    rw [m4_4 hc] at bU
    rw [← dA] at bA
    rw [← dU] at bU
    generalize hA : detB (suB (sE wy) v 4) (bc v 4) = A at *
    generalize hU : detB (suB (sEc wy cm c 4) v 4) (bc v 4) = U at *
    have kp := k4_pos (n := bc v 4)
    generalize k4 (bc v 4) = kk at *
    have kA : kk * A.toInt > 0 := by omega
    have A0 : 0 < A.toInt := by
      rcases Int.lt_or_le 0 A.toInt with hz | hz
      · exact hz
      · have := Int.mul_nonpos_of_nonneg_of_nonpos (show (0 : Int) ≤ kk by omega) hz; omega
    have hAm := l_bd A
    have hUm := l_bd U
    have U0 : 0 ≤ U.toInt := by
      rcases Int.lt_or_le U.toInt 0 with hz | hz
      · have := Int.mul_neg_of_pos_of_neg (show (0 : Int) < kk by omega) hz; omega
      · exact hz
    obtain ⟨M', t1, t2, t3, t4⟩ := s_setFlow n w hc hv hv16 hb hA hU (by omega) (by omega) (by omega)
    refine ⟨M', t1, t2, ?_, ?_⟩
    · rw [t3]
      refine ((fr_eq (by omega) (by omega) (by omega) (by omega) (by omega) (by omega) ?_).1).symm
      rw [v4P, vW, bU, bA]; grind
    · rw [t4]
      refine ((fr_eq (by omega) (by omega) (by omega) (by omega) (by omega) (by omega) ?_).2).symm
      rw [v4P, vW, bU, bA]; grind
  · have hb' : v.testBit c = false := by simpa using hb
    have z : m4 (RLc (WI v wy) c (fun j => (cm j : Int))) 3 3 = 0 := m4_z hc (fun i hi => by
      unfold RLc
      by_cases ei : i = c
      · rw [if_pos ei]; show (cm c : Int) = 0; rw [hcm c hc hb']; rfl
      · rw [if_neg ei]
        unfold WI
        rw [if_neg ei, if_neg (fun hx => hb hx.2)]; rfl)
    have fe := fr_eq (u := 4 * detB (fE v wy cm c) 4) (l := detB (fE v wy cm 9) 4) (u2 := 0) (l2 := 1) (by omega) (by omega) (by decide) (by decide) (by omega) (by decide) (by rw [v4P, z, show (0 : Int64).toInt = 0 from rfl]; simp)
    refine ⟨_, setFlow_0 n w hc hv hv16 hb', Sc_1819 M 0 1, ?_, ?_⟩
    · rw [mJ_sJ, if_neg (by omega), mJ_sJ, if_pos ⟨rfl, rfl⟩, fe.1]; decide
    · rw [mJ_sJ, if_pos ⟨rfl, rfl⟩, fe.2]; decide

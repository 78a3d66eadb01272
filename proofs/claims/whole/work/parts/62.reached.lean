/-! to which counters some come -/
def cmB (kd cm : Nf) (c : Nat) : Bool := decide (kd c ≠ 9) && decide (cm c ≠ 0)
def RC (kd cm : Nf) (wy : Nat → Nf) : Nat := rt (pw wy) 4 4 (mk (cmB kd cm) 4)
theorem s_bitsReached {M : Mm} {kd rr hd rm cm : Nf} {wy : Nat → Nf} (n : NetC kd rr hd rm cm wy M) (w : wfN kd rr hd rm cm wy) (h : ChCq M (pw wy) 4) : f_X4_bitsReached 4 M = some (nI (RC kd cm wy), M) := by
  have l : ∀ (a i m : Nat), i + a = 4 → a < m → f_X4_bitsReached_b4 4 m (nI (mk (cmB kd cm) i)) (nI i) M = some (nI (RC kd cm wy), M) := by
    intro a
    induction a with
    | zero =>
      intro i m h1 h2
      obtain ⟨m, rfl⟩ : ∃ j, m = j + 1 := ⟨m - 1, by omega⟩
      rw [f_X4_bitsReached_b4_s]
      unfold f_X4_bitsReached_b4B
      rw [if_pos (by rw [i_le, t_nI (by omega), li_4]; omega), show i = 4 by omega, fld_4_1, s_reachedq (by omega) h (mk_lt _ _)]
      rfl
    | succ a ih =>
      intro i m h1 h2
      obtain ⟨m, rfl⟩ : ∃ j, m = j + 1 := ⟨m - 1, by omega⟩
      have hih := ih (i + 1) m (by omega) (by omega)
      have hwi := w i (by omega)
      rw [show mk (cmB kd cm) (i + 1) = mk (cmB kd cm) i ||| (if cmB kd cm i = true then 2 ^ i else 0) from rfl, show cmB kd cm i = (decide (kd i ≠ 9) && decide (cm i ≠ 0)) from rfl] at hih
      rw [f_X4_bitsReached_b4_s]
      unfold f_X4_bitsReached_b4B
      rw [if_neg (by rw [i_le, t_nI (by omega), li_4]; omega)]
      simp only [s_has n w (show i < 4 by omega), nm_q, bd_s, nI_1, sh1 i (by omega), nI_or, ck_k (show i < 4 by omega) (show 4 < 1000 by omega), nI_cl (show i < 2 ^ 31 by omega), fld_4_0, elm_22, n.1 i (by omega), n_le0 (show cm i < 1000 by omega)]
      by_cases q : kd i = 9
      · rw [if_neg (by simp [q]), Nat.or_zero] at hih
        simp only [q, if_true]
        exact hih
      · by_cases q2 : cm i = 0
        · rw [if_neg (by simp [q2]), Nat.or_zero] at hih
          simp only [q, q2, if_true, if_false, show ¬ (1 : Int32) = 0 by decide]
          exact hih
        · rw [if_pos (by simp [q, q2])] at hih
          simp only [q, q2, if_false, show ¬ (1 : Int32) = 0 by decide]
          exact hih
  exact l 4 0 fuel (by omega) (by show 4 < 1000; omega)
/-- a step of the reference -/
def F2 (kd cm : Nf) (wy : Nat → Nf) (v i : Nat) : Nat := st1 (pw wy) 4 (v ||| (if cmB kd cm i = true then 2 ^ i else 0)) i
theorem F2v_lt {kd cm : Nf} {v i : Nat} (hi : i < 4) (hv : v < 2 ^ 4) : v ||| (if cmB kd cm i = true then 2 ^ i else 0) < 2 ^ 4 := by
  refine Nat.or_lt_two_pow hv ?_
  split
  · exact Nat.pow_lt_pow_right (by omega) hi
  · omega
theorem F2_up (kd cm : Nf) (wy : Nat → Nf) : Up (F2 kd cm wy) 4 := fun v i hi hv => ⟨st_lt i (F2v_lt hi hv), fun u hu => st_up (by rw [Nat.testBit_or, hu]; rfl)⟩
theorem F2_RC (kd cm : Nf) (wy : Nat → Nf) : gt (F2 kd cm wy) 4 5 0 = RC kd cm wy := by
  have up := F2_up kd cm wy
  have hl := (gt_up up 5 0 (by omega)).1
  apply sbs.eq
  · refine gt_least (W := RC kd cm wy) ?_ 5 0 (fun u hu => by simp at hu)
    intro v i hi hv
    refine clo_st (rt_clo (mk_lt _ _)) _ i hi ?_
    intro u hu
    rw [Nat.testBit_or, Bool.or_eq_true] at hu
    rcases hu with hu | hu
    · exact hv u hu
    · by_cases z : cmB kd cm i = true
      · rw [if_pos z, Nat.testBit_two_pow, decide_eq_true_eq] at hu
        subst hu
        exact rt_has _ (by rw [mk_tb]; simp [hi, z])
      · rw [if_neg z] at hu
        simp at hu
  · have each := fun j (hj : j < 4) => gt_each up (k := 5) (v := 0) (by omega) (by omega) hj
    have cmr : ∀ j, j < 4 → cmB kd cm j = true → (gt (F2 kd cm wy) 4 5 0).testBit j = true := by
      intro j hj hc
      rw [← each j hj]
      unfold F2
      exact st_up (by rw [Nat.testBit_or, if_pos hc, Nat.testBit_two_pow]; simp)
    refine rt_least ?_ ?_
    · intro i j hi hj h1 h2
      have e := each i hi
      generalize gt (F2 kd cm wy) 4 5 0 = X at e h1 ⊢
      unfold F2 st1 at e
      rw [if_pos (by rw [Nat.testBit_or, h1]; rfl)] at e
      rw [← e, Nat.testBit_or, mk_tb]
      simp [hj, h2]
    · intro u hu
      rw [mk_tb, Bool.and_eq_true, decide_eq_true_eq] at hu
      exact cmr u hu.1 hu.2
theorem s_rreached {M : Mm} {kd rr hd rm cm : Nf} {wy : Nat → Nf} (n : NetR kd rr hd rm cm wy M) (w : wfN kd rr hd rm cm wy) : f_X9_reached 1 M = some (nI (RC kd cm wy), M) := by
  rw [← F2_RC]
  have l : ∀ (a t m v : Nat), t + a = 5 → a < m → v < 2 ^ 4 → f_X9_reached_b4 1 m (nI v) (nI t) M = some (nI (gt (F2 kd cm wy) 4 a v), M) := by
    intro a
    induction a with
    | zero =>
      intro t m v h1 h2 hv
      obtain ⟨m, rfl⟩ : ∃ j, m = j + 1 := ⟨m - 1, by omega⟩
      rw [f_X9_reached_b4_s]
      unfold f_X9_reached_b4B gt
      rw [if_pos (by rw [i_lt, t_nI (by omega), li_4]; omega)]
    | succ a ih =>
      intro t m v h1 h2 hv
      obtain ⟨m, rfl⟩ : ∃ j, m = j + 1 := ⟨m - 1, by omega⟩
      rw [f_X9_reached_b4_s]
      unfold f_X9_reached_b4B gt
      rw [if_neg (by rw [i_lt, t_nI (by omega), li_4]; omega)]
      have mid : ∀ (b i m2 v : Nat), i + b = 4 → b < m2 → v < 2 ^ 4 → f_X9_reached_b11 (f_X9_reached_b4 1 m) 1 m2 (nI v) (nI t) (nI i) M = some (nI (gt (F2 kd cm wy) 4 a (gp (F2 kd cm wy) b i v)), M) := by
        intro b
        induction b with
        | zero =>
          intro i m2 v g1 g2 hv
          obtain ⟨m2, rfl⟩ : ∃ j, m2 = j + 1 := ⟨m2 - 1, by omega⟩
          rw [f_X9_reached_b11_s]
          unfold f_X9_reached_b11B gp
          rw [if_pos (by rw [i_le, t_nI (by omega), li_4]; omega), nm_q, nI_1]
          exact ih (t + 1) m v (by omega) (by omega) hv
        | succ b jh =>
          intro i m2 v0 g1 g2 hv0
          obtain ⟨m2, rfl⟩ : ∃ j, m2 = j + 1 := ⟨m2 - 1, by omega⟩
          have hwi := w i (by omega)
          have hjh := jh (i + 1) m2 (F2 kd cm wy v0 i) (by omega) (by omega) ((F2_up kd cm wy v0 i (by omega) hv0).1)
          rw [show gp (F2 kd cm wy) (b + 1) i v0 = gp (F2 kd cm wy) b (i + 1) (F2 kd cm wy v0 i) from rfl]
          have hv := F2v_lt (kd := kd) (cm := cm) (show i < 4 by omega) hv0
          have pre : f_X9_reached_b11 (f_X9_reached_b4 1 m) 1 (m2 + 1) (nI v0) (nI t) (nI i) M = f_X9_reached_b47 (f_X9_reached_b4 1 m) (f_X9_reached_b11 (f_X9_reached_b4 1 m) 1 m2) 1 fuel (nI (v0 ||| (if cmB kd cm i = true then 2 ^ i else 0))) (nI t) (nI i) 0 M := by
            rw [f_X9_reached_b11_s]
            unfold f_X9_reached_b11B f_X9_reached_b41 f_X9_reached_b42
            rw [if_neg (by rw [i_le, t_nI (by omega), li_4]; omega), show cmB kd cm i = (decide (kd i ≠ 9) && decide (cm i ≠ 0)) from rfl]
            simp only [ck_k (show i < 4 by omega) (show 4 < 1000 by omega), nI_cl (show i < 2 ^ 31 by omega), fld_1_8, fld_1_13, (n.1 i (by omega)).1, (n.1 i (by omega)).2.2, n_le0 (show cm i < 1000 by omega), sh1 i (by omega), nm_q, bd_s]
            have e0 : nI v0 ||| 0 = nI v0 := by rw [show (0 : Int32) = nI 0 from rfl, nI_or, Nat.or_zero]
            by_cases q : kd i = 9
            · simp [q, e0]
            · by_cases q2 : cm i = 0
              · simp [q, q2, e0]
              · simp [q, q2, nI_or]
          rw [pre]
          unfold F2 at hjh ⊢
          generalize (v0 ||| (if cmB kd cm i = true then 2 ^ i else 0)) = v at hv hjh ⊢
          have inner : ∀ (c j m3 : Nat), j + c = 4 → c < m3 → f_X9_reached_b47 (f_X9_reached_b4 1 m) (f_X9_reached_b11 (f_X9_reached_b4 1 m) 1 m2) 1 m3 (nI (if v.testBit i = true then v ||| mk (ld (pw wy) 4 i) j else v)) (nI t) (nI i) (nI j) M = some (nI (gt (F2 kd cm wy) 4 a (gp (F2 kd cm wy) b (i + 1) (st1 (pw wy) 4 v i))), M) := by
            intro c
            induction c with
            | zero =>
              intro j m3 k1 k2
              obtain ⟨m3, rfl⟩ : ∃ j, m3 = j + 1 := ⟨m3 - 1, by omega⟩
              rw [f_X9_reached_b47_s]
              unfold f_X9_reached_b47B
              rw [if_pos (by rw [i_le, t_nI (by omega), li_4]; omega), show j = 4 by omega, nm_q, nI_1]
              exact hjh
            | succ c kh =>
              intro j m3 k1 k2
              obtain ⟨m3, rfl⟩ : ∃ j, m3 = j + 1 := ⟨m3 - 1, by omega⟩
              have hkh := kh (j + 1) m3 (by omega) (by omega)
              have hw := wy_le w (show i < 4 by omega) (show j < 4 by omega)
              have hl := ld_pw (i := i) (show j < 4 by omega) hw
              rw [show mk (ld (pw wy) 4 i) (j + 1) = mk (ld (pw wy) 4 i) j ||| (if ld (pw wy) 4 i j = true then 2 ^ j else 0) from rfl] at hkh
              rw [f_X9_reached_b47_s]
              unfold f_X9_reached_b47B f_X9_reached_b84 f_X9_reached_b85
              rw [if_neg (by rw [i_le, t_nI (by omega), li_4]; omega)]
              simp only [ck_w (show i < 4 by omega) (show j < 4 by omega), cl_w (show i < 4 by omega) (show j < 4 by omega), fld_1_14, n.2 i j (by omega) (by omega), show (nI (wy i j) ≤ nI 0) ↔ wy i j = 0 from n_le0 (show wy i j < 1000 by omega), sh1 j (by omega), nm_q, bd_s, nI_1, show (0 : Int32) = nI 0 from rfl, nI_or, Nat.or_zero]
              by_cases q : v.testBit i = true
              · have hlt : v ||| mk (ld (pw wy) 4 i) j < 2 ^ 4 := Nat.or_lt_two_pow hv (Nat.lt_of_lt_of_le (mk_lt _ _) (Nat.pow_le_pow_right (by omega) (by omega)))
                simp only [if_pos q] at hkh ⊢
                rw [if_pos ((tb1 _ (by omega) i (by omega)).mpr (by rw [Nat.testBit_or, q]; rfl))]
                by_cases q2 : wy i j = 0
                · rw [if_neg (fun z => (hl.mp z).2 q2), Nat.or_zero] at hkh
                  rw [if_pos q2]
                  exact hkh
                · rw [if_neg q2]
                  by_cases e : i = j
                  · rw [if_neg (fun z => (hl.mp z).1 e), Nat.or_zero] at hkh
                    rw [show v ||| mk (ld (pw wy) 4 i) j ||| 2 ^ j = v ||| mk (ld (pw wy) 4 i) j from by have z := or_self_bit (x := mk (ld (pw wy) 4 i) j) q; rw [e] at z ⊢; exact z]
                    exact hkh
                  · rw [if_pos (hl.mpr ⟨e, q2⟩), ← Nat.or_assoc] at hkh
                    exact hkh
              · simp only [if_neg q] at hkh ⊢
                rw [if_neg (fun z => q ((tb1 v (by omega) i (by omega)).mp z))]
                exact hkh
          have := inner 4 0 fuel (by omega) (by show 4 < 1000; omega)
          rw [show (if v.testBit i = true then v ||| mk (ld (pw wy) 4 i) 0 else v) = v by split <;> simp [mk]] at this
          exact this
      exact mid 4 0 fuel v (by omega) (by show 4 < 1000; omega) hv
  exact l 5 0 fuel 0 (by omega) (by show 5 < 1000; omega) (by omega)

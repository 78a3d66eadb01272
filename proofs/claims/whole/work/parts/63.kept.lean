/-! kept -/
def ouB (kd : Nf) (wy : Nat → Nf) (c : Nat) : Bool := decide (kd c ≠ 9) && decide (wy c 0 + wy c 1 + wy c 2 + wy c 3 ≠ 4)
def kv (kd : Nf) (wy : Nat → Nf) (v c : Nat) : Nat → Nat
  | 0 => v ||| (if ouB kd wy c = true then 2 ^ c else 0)
  | j + 1 => if (kv kd wy v c j).testBit j = true ∧ wy c j ≠ 0 then kv kd wy v c j ||| 2 ^ c else kv kd wy v c j
theorem kv_lt {kd : Nf} {wy : Nat → Nf} {v c : Nat} (hc : c < 4) (hv : v < 2 ^ 4) : ∀ j, kv kd wy v c j < 2 ^ 4
  | 0 => by
    unfold kv
    refine Nat.or_lt_two_pow hv ?_
    split
    · exact Nat.pow_lt_pow_right (by omega) hc
    · omega
  | j + 1 => by
    have := kv_lt (kd := kd) (wy := wy) hc hv j
    unfold kv
    split
    · exact Nat.or_lt_two_pow this (Nat.pow_lt_pow_right (by omega) hc)
    · exact this
theorem sbs_or {a b : Nat} : sbs a (a ||| b) := fun u hu => by rw [Nat.testBit_or, hu]; rfl
theorem kv_s {kd : Nf} {wy : Nat → Nf} {v c j : Nat} : sbs (kv kd wy v c j) (kv kd wy v c (j + 1)) := by
  show sbs (kv kd wy v c j) (if (kv kd wy v c j).testBit j = true ∧ wy c j ≠ 0 then kv kd wy v c j ||| 2 ^ c else kv kd wy v c j)
  split
  · exact sbs_or
  · exact sbs.rf _
theorem kv_m {kd : Nf} {wy : Nat → Nf} {v c j : Nat} : ∀ d, sbs (kv kd wy v c j) (kv kd wy v c (j + d))
  | 0 => sbs.rf _
  | d + 1 => (kv_m d).tr kv_s
theorem kv_up {kd : Nf} {wy : Nat → Nf} {v c : Nat} (j : Nat) : sbs v (kv kd wy v c j) := by
  have h : sbs v (kv kd wy v c 0) := by unfold kv; exact sbs_or
  have m := kv_m (kd := kd) (wy := wy) (v := v) (c := c) (j := 0) j
  rw [Nat.zero_add] at m
  exact h.tr m
def F3 (kd : Nf) (wy : Nat → Nf) (v c : Nat) : Nat := kv kd wy v c 4
theorem F3_up (kd : Nf) (wy : Nat → Nf) : Up (F3 kd wy) 4 := fun _ _ hi hv => ⟨kv_lt hi hv 4, kv_up 4⟩
theorem F3_fix {kd : Nf} {wy : Nat → Nf} {v c : Nat} (h : F3 kd wy v c = v) : (ouB kd wy c = true → v.testBit c = true) ∧ ∀ j, j < 4 → wy c j ≠ 0 → v.testBit j = true → v.testBit c = true := by
  have e : ∀ j, j ≤ 4 → kv kd wy v c j = v := fun j hj => by
    refine (sbs.eq (kv_up j) ?_).symm
    have m := kv_m (kd := kd) (wy := wy) (v := v) (c := c) (j := j) (4 - j)
    rw [show j + (4 - j) = 4 by omega, show kv kd wy v c 4 = v from h] at m
    exact m
  refine ⟨fun q => ?_, fun j hj q1 q2 => ?_⟩
  · have := e 0 (by omega)
    unfold kv at this
    rw [if_pos q] at this
    rw [← this, Nat.testBit_or, Nat.testBit_two_pow]
    simp
  · have := e (j + 1) (by omega)
    rw [show kv kd wy v c (j + 1) = (if (kv kd wy v c j).testBit j = true ∧ wy c j ≠ 0 then kv kd wy v c j ||| 2 ^ c else kv kd wy v c j) from rfl, e j (by omega), if_pos ⟨q2, q1⟩] at this
    rw [← this, Nat.testBit_or, Nat.testBit_two_pow]
    simp
theorem F3_least {kd : Nf} {wy : Nat → Nf} {W : Nat} (h1 : ∀ c, c < 4 → ouB kd wy c = true → W.testBit c = true) (h2 : ∀ c j, c < 4 → j < 4 → wy c j ≠ 0 → W.testBit j = true → W.testBit c = true) : ∀ v c, c < 4 → sbs v W → sbs (F3 kd wy v c) W := by
  intro v c hc hv
  have oc : ∀ x, sbs x W → W.testBit c = true → sbs (x ||| 2 ^ c) W := fun x hx hw u hu => by
    rw [Nat.testBit_or, Bool.or_eq_true] at hu
    rcases hu with hu | hu
    · exact hx u hu
    · exact sbs_one hw u hu
  have : ∀ j, j ≤ 4 → sbs (kv kd wy v c j) W := by
    intro j
    induction j with
    | zero =>
      intro _
      unfold kv
      by_cases z : ouB kd wy c = true
      · rw [if_pos z]; exact oc v hv (h1 c hc z)
      · rw [if_neg z, Nat.or_zero]; exact hv
    | succ j ih =>
      intro hj
      have q := ih (by omega)
      rw [show kv kd wy v c (j + 1) = (if (kv kd wy v c j).testBit j = true ∧ wy c j ≠ 0 then kv kd wy v c j ||| 2 ^ c else kv kd wy v c j) from rfl]
      by_cases z : (kv kd wy v c j).testBit j = true ∧ wy c j ≠ 0
      · rw [if_pos z]; exact oc _ q (h2 c j hc (by omega) z.2 (q j z.1))
      · rw [if_neg z]; exact q
  exact this 4 (Nat.le_refl _)
def YY (kd : Nf) (wy : Nat → Nf) : Nat := gt (F3 kd wy) 4 5 0
theorem YY_lt (kd : Nf) (wy : Nat → Nf) : YY kd wy < 2 ^ 4 := (gt_up (F3_up kd wy) 5 0 (by omega)).1
theorem and_nz {a b : Nat} : (a &&& b ≠ 0) ↔ ∃ u, a.testBit u = true ∧ b.testBit u = true := by
  constructor
  · intro h
    apply Classical.byContradiction
    intro q
    apply h
    apply Nat.eq_of_testBit_eq
    intro j
    rw [Nat.testBit_and]
    by_cases z : a.testBit j = true ∧ b.testBit j = true
    · exact absurd ⟨j, z⟩ q
    · simp
      intro y
      cases hb : b.testBit j
      · rfl
      · exact absurd ⟨y, hb⟩ z
  · rintro ⟨u, h1, h2⟩ e
    have : (a &&& b).testBit u = true := by rw [Nat.testBit_and, h1, h2]; rfl
    rw [e] at this
    simp at this
theorem YY_iff {kd : Nf} {wy : Nat → Nf} (hw : ∀ i j, i < 4 → j < 4 → wy i j ≤ 4) {c : Nat} (hc : c < 4) : (YY kd wy).testBit c = true ↔ RR (pw wy) 4 c &&& mk (ouB kd wy) 4 ≠ 0 := by
  have each := fun j (hj : j < 4) => F3_fix (gt_each (F3_up kd wy) (k := 5) (v := 0) (by omega) (by omega) hj)
  constructor
  · intro h
    -- the set of those from which one comes out
    have key : sbs (YY kd wy) (mk (fun c => decide (RR (pw wy) 4 c &&& mk (ouB kd wy) 4 ≠ 0)) 4) := by
      refine gt_least (F3_least ?_ ?_) 5 0 (fun u hu => by simp at hu)
      · intro c hc ho
        rw [mk_tb]
        simp only [hc, decide_true, Bool.true_and, decide_eq_true_eq]
        exact and_nz.mpr ⟨c, RR_self, by rw [mk_tb]; simp [hc, ho]⟩
      · intro c j hc hj hwy hW
        rw [mk_tb] at hW ⊢
        simp only [hc, hj, decide_true, Bool.true_and, decide_eq_true_eq] at hW ⊢
        obtain ⟨u, h1, h2⟩ := and_nz.mp hW
        refine and_nz.mpr ⟨u, ?_, h2⟩
        by_cases e : c = j
        · subst e; exact h1
        · exact RR_tr hc (RR_clo hc c j hc hj RR_self ((ld_pw hj (hw c j hc hj)).mpr ⟨e, hwy⟩)) u h1
    have := key c h
    rw [mk_tb] at this
    simp only [hc, decide_true, Bool.true_and, decide_eq_true_eq] at this
    exact this
  · intro h
    obtain ⟨u, h1, h2⟩ := and_nz.mp h
    rw [mk_tb, Bool.and_eq_true, decide_eq_true_eq] at h2
    have hu : (YY kd wy).testBit u = true := (each u h2.1).1 h2.2
    apply Classical.byContradiction
    intro q
    have cloW : clo (pw wy) 4 (mk (fun c => !(YY kd wy).testBit c) 4) := by
      intro i j hi hj a b
      rw [mk_tb] at a ⊢
      simp only [hi, hj, decide_true, Bool.true_and, Bool.not_eq_true'] at a ⊢
      cases z : (YY kd wy).testBit j
      · rfl
      · have := (each i hi).2 j hj ((ld_pw hj (hw i j hi hj)).mp b).2 z
        rw [show gt (F3 kd wy) 4 5 0 = YY kd wy from rfl, a] at this
        exact absurd this (by decide)
    have := RR_least cloW (by rw [mk_tb]; simp only [hc, decide_true, Bool.true_and, Bool.not_eq_true']; simpa using q) u h1
    rw [mk_tb] at this
    simp only [h2.1, decide_true, Bool.true_and, Bool.not_eq_true', hu] at this
    exact absurd this (by decide)
theorem x_nt : ∀ a, a < 16 → ∀ b, b < 16 → nI a &&& (nI b ^^^ (-1)) = nI (mk (fun c => a.testBit c && !b.testBit c) 4) := by decide +kernel
theorem mk_cg {p q : Nat → Bool} : ∀ n, (∀ c, c < n → p c = q c) → mk p n = mk q n
  | 0, _ => rfl
  | n + 1, h => by
    unfold mk
    rw [mk_cg n (fun c hc => h c (by omega)), h n (by omega)]
theorem s_keptX {M : Mm} {kd rr hd rm cm : Nf} {wy : Nat → Nf} (n : NetC kd rr hd rm cm wy M) (w : wfN kd rr hd rm cm wy) : ∃ M1, f_X4_keptBits 4 M = some (nI (mk (fun c => (RC kd cm wy).testBit c && decide (RR (pw wy) 4 c &&& mk (ouB kd wy) 4 = 0)) 4), M1) ∧ Sc M M1 ∧ M1.2 = M.2 := by
  obtain ⟨M1, l1, l2, l3, l4⟩ := s_loadPaths n
  have n' : NetC kd rr hd rm cm wy M1 := n.sc (fun a k p => l3.1 a k (Or.inl p))
  refine ⟨M1, ?_, l3, l4⟩
  unfold f_X4_keptBits
  rw [l1, bd_s]
  have hRC : RC kd cm wy < 2 ^ 4 := rt_lt 4 _ (mk_lt _ _)
  have hO : mk (ouB kd wy) 4 < 2 ^ 4 := mk_lt _ _
  have lb : ∀ (a i m : Nat), i + a = 4 → a < m → f_X4_keptBits_b55 4 m (nI (mk (ouB kd wy) 4)) (nI (RC kd cm wy)) (nI (mk (fun c => (RC kd cm wy).testBit c && decide (RR (pw wy) 4 c &&& mk (ouB kd wy) 4 = 0)) i)) (nI i) M1 = some (nI (mk (fun c => (RC kd cm wy).testBit c && decide (RR (pw wy) 4 c &&& mk (ouB kd wy) 4 = 0)) 4), M1) := by
    intro a
    induction a with
    | zero =>
      intro i m h1 h2
      obtain ⟨m, rfl⟩ : ∃ j, m = j + 1 := ⟨m - 1, by omega⟩
      rw [f_X4_keptBits_b55_s]
      unfold f_X4_keptBits_b55B
      rw [if_pos (by rw [i_le, t_nI (by omega), li_4]; omega), show i = 4 by omega]
    | succ a ih =>
      intro i m h1 h2
      obtain ⟨m, rfl⟩ : ∃ j, m = j + 1 := ⟨m - 1, by omega⟩
      have hih := ih (i + 1) m (by omega) (by omega)
      have sr : f_X0_reachedFrom 31 (nI (2 ^ i)) M1 = some (nI (RR (pw wy) 4 i), M1) := s_reachedq (by omega) l2 (Nat.pow_lt_pow_right (by omega) (by omega))
      have hR := RR_lt (p := pw wy) (show i < 4 by omega)
      have ha : RR (pw wy) 4 i &&& mk (ouB kd wy) 4 < 2 ^ 4 := Nat.and_lt_two_pow _ hO
      have k0 : nI (RR (pw wy) 4 i &&& mk (ouB kd wy) 4) = 0 ↔ RR (pw wy) 4 i &&& mk (ouB kd wy) 4 = 0 := by rw [show (0 : Int32) = nI 0 from rfl, n_inj (by omega) (by omega)]
      rw [show mk (fun c => (RC kd cm wy).testBit c && decide (RR (pw wy) 4 c &&& mk (ouB kd wy) 4 = 0)) (i + 1) = mk (fun c => (RC kd cm wy).testBit c && decide (RR (pw wy) 4 c &&& mk (ouB kd wy) 4 = 0)) i ||| (if ((RC kd cm wy).testBit i && decide (RR (pw wy) 4 i &&& mk (ouB kd wy) 4 = 0)) = true then 2 ^ i else 0) from rfl] at hih
      rw [f_X4_keptBits_b55_s]
      unfold f_X4_keptBits_b55B
      rw [if_neg (by rw [i_le, t_nI (by omega), li_4]; omega)]
      simp only [tb0 (RC kd cm wy) (by omega) i (by omega), fld_4_1, sh1 i (by omega), sr, nm_q, bd_s, nI_1, nI_and, nI_or, k0]
      by_cases q : (RC kd cm wy).testBit i = true
      · rw [if_neg (by rw [q]; decide)]
        by_cases q2 : RR (pw wy) 4 i &&& mk (ouB kd wy) 4 = 0
        · rw [if_pos (by simp [q, q2])] at hih
          rw [if_pos q2]
          exact hih
        · rw [if_neg (by simp [q2]), Nat.or_zero] at hih
          rw [if_neg q2]
          exact hih
      · rw [if_neg (by simp [q]), Nat.or_zero] at hih
        rw [if_pos (by simpa using q)]
        exact hih
  have la : ∀ (a i m : Nat), i + a = 4 → a < m → f_X4_keptBits_b8 4 m (nI (mk (ouB kd wy) i)) (nI i) M1 = some (nI (mk (fun c => (RC kd cm wy).testBit c && decide (RR (pw wy) 4 c &&& mk (ouB kd wy) 4 = 0)) 4), M1) := by
    intro a
    induction a with
    | zero =>
      intro i m h1 h2
      obtain ⟨m, rfl⟩ : ∃ j, m = j + 1 := ⟨m - 1, by omega⟩
      rw [f_X4_keptBits_b8_s]
      unfold f_X4_keptBits_b8B
      rw [if_pos (by rw [i_le, t_nI (by omega), li_4]; omega), show i = 4 by omega, s_bitsReached n' w l2, bd_s]
      exact lb 4 0 fuel (by omega) (by show 4 < 1000; omega)
    | succ a ih =>
      intro i m h1 h2
      obtain ⟨m, rfl⟩ : ∃ j, m = j + 1 := ⟨m - 1, by omega⟩
      have hih := ih (i + 1) m (by omega) (by omega)
      have hwi := w i (by omega)
      rw [show mk (ouB kd wy) (i + 1) = mk (ouB kd wy) i ||| (if ouB kd wy i = true then 2 ^ i else 0) from rfl, show ouB kd wy i = (decide (kd i ≠ 9) && decide (wy i 0 + wy i 1 + wy i 2 + wy i 3 ≠ 4)) from rfl] at hih
      have kl : nI (4 - (wy i 0 + wy i 1 + wy i 2 + wy i 3)) ≤ 0 ↔ wy i 0 + wy i 1 + wy i 2 + wy i 3 = 4 := by rw [n_le0 (by omega)]; omega
      rw [f_X4_keptBits_b8_s]
      unfold f_X4_keptBits_b8B
      rw [if_neg (by rw [i_le, t_nI (by omega), li_4]; omega)]
      simp only [s_has n' w (show i < 4 by omega), nm_q, bd_s, nI_1, sh1 i (by omega), nI_or, ck_k (show i < 4 by omega) (show 4 < 1000 by omega), nI_cl (show i < 2 ^ 31 by omega), fld_4_0, elm_22, s_leaving n' w (show i < 4 by omega), kl]
      by_cases q : kd i = 9
      · rw [if_neg (by simp [q]), Nat.or_zero] at hih
        simp only [q, if_true]
        exact hih
      · by_cases q2 : wy i 0 + wy i 1 + wy i 2 + wy i 3 = 4
        · rw [if_neg (by simp [q2]), Nat.or_zero] at hih
          simp only [q, q2, if_true, if_false, show ¬ (1 : Int32) = 0 by decide]
          exact hih
        · rw [if_pos (by simp [q, q2])] at hih
          simp only [q, q2, if_false, show ¬ (1 : Int32) = 0 by decide]
          exact hih
  exact la 4 0 fuel (by omega) (by show 4 < 1000; omega)
theorem s_keptR {M : Mm} {kd rr hd rm cm : Nf} {wy : Nat → Nf} (n : NetR kd rr hd rm cm wy M) (w : wfN kd rr hd rm cm wy) : f_X9_keptOf 1 M = some (nI (mk (fun c => (RC kd cm wy).testBit c && decide (RR (pw wy) 4 c &&& mk (ouB kd wy) 4 = 0)) 4), M) := by
  have hRC : RC kd cm wy < 2 ^ 4 := rt_lt 4 _ (mk_lt _ _)
  have e : mk (fun c => (RC kd cm wy).testBit c && decide (RR (pw wy) 4 c &&& mk (ouB kd wy) 4 = 0)) 4 = mk (fun c => (RC kd cm wy).testBit c && !(YY kd wy).testBit c) 4 := by
    refine mk_cg 4 fun c hc => ?_
    have q := YY_iff (kd := kd) (wy := wy) (fun i j hi hj => wy_le w hi hj) hc
    congr 1
    by_cases z : RR (pw wy) 4 c &&& mk (ouB kd wy) 4 = 0
    · have : ¬ (YY kd wy).testBit c = true := fun y => q.mp y z
      simp [z, this]
    · have := q.mpr z
      simp [z, this]
  rw [e, ← x_nt _ hRC _ (YY_lt kd wy)]
  have l : ∀ (a t m v : Nat), t + a = 5 → a < m → v < 2 ^ 4 → f_X9_keptOf_b4 1 m (nI v) (nI t) M = some (nI (RC kd cm wy) &&& (nI (gt (F3 kd wy) 4 a v) ^^^ (-1)), M) := by
    intro a
    induction a with
    | zero =>
      intro t m v h1 h2 hv
      obtain ⟨m, rfl⟩ : ∃ j, m = j + 1 := ⟨m - 1, by omega⟩
      rw [f_X9_keptOf_b4_s]
      unfold f_X9_keptOf_b4B gt
      rw [if_pos (by rw [i_lt, t_nI (by omega), li_4]; omega), s_rreached n w, bd_s]
    | succ a ih =>
      intro t m v h1 h2 hv
      obtain ⟨m, rfl⟩ : ∃ j, m = j + 1 := ⟨m - 1, by omega⟩
      rw [f_X9_keptOf_b4_s]
      unfold f_X9_keptOf_b4B gt
      rw [if_neg (by rw [i_lt, t_nI (by omega), li_4]; omega)]
      have mid : ∀ (b i m2 v : Nat), i + b = 4 → b < m2 → v < 2 ^ 4 → f_X9_keptOf_b11 (f_X9_keptOf_b4 1 m) 1 m2 (nI v) (nI t) (nI i) M = some (nI (RC kd cm wy) &&& (nI (gt (F3 kd wy) 4 a (gp (F3 kd wy) b i v)) ^^^ (-1)), M) := by
        intro b
        induction b with
        | zero =>
          intro i m2 v g1 g2 hv
          obtain ⟨m2, rfl⟩ : ∃ j, m2 = j + 1 := ⟨m2 - 1, by omega⟩
          rw [f_X9_keptOf_b11_s]
          unfold f_X9_keptOf_b11B gp
          rw [if_pos (by rw [i_le, t_nI (by omega), li_4]; omega), nm_q, nI_1]
          exact ih (t + 1) m v (by omega) (by omega) hv
        | succ b jh =>
          intro i m2 v g1 g2 hv
          obtain ⟨m2, rfl⟩ : ∃ j, m2 = j + 1 := ⟨m2 - 1, by omega⟩
          have hwi := w i (by omega)
          have hjh := jh (i + 1) m2 (F3 kd wy v i) (by omega) (by omega) ((F3_up kd wy v i (by omega) hv).1)
          rw [show gp (F3 kd wy) (b + 1) i v = gp (F3 kd wy) b (i + 1) (F3 kd wy v i) from rfl]
          have kl : 4 ≤ nI (wy i 0 + wy i 1 + wy i 2 + wy i 3) ↔ wy i 0 + wy i 1 + wy i 2 + wy i 3 = 4 := by rw [i_le, t_nI (by omega), li_4]; omega
          have pre : f_X9_keptOf_b11 (f_X9_keptOf_b4 1 m) 1 (m2 + 1) (nI v) (nI t) (nI i) M = f_X9_keptOf_b47 (f_X9_keptOf_b4 1 m) (f_X9_keptOf_b11 (f_X9_keptOf_b4 1 m) 1 m2) 1 fuel (nI (kv kd wy v i 0)) (nI t) (nI i) 0 M := by
            rw [f_X9_keptOf_b11_s]
            unfold f_X9_keptOf_b11B f_X9_keptOf_b41 f_X9_keptOf_b42 kv
            rw [if_neg (by rw [i_le, t_nI (by omega), li_4]; omega), show ouB kd wy i = (decide (kd i ≠ 9) && decide (wy i 0 + wy i 1 + wy i 2 + wy i 3 ≠ 4)) from rfl]
            simp only [ck_k (show i < 4 by omega) (show 4 < 1000 by omega), nI_cl (show i < 2 ^ 31 by omega), fld_1_8, (n.1 i (by omega)).1, s_outOf n (show i < 4 by omega), kl, sh1 i (by omega), nm_q, bd_s]
            have e0 : nI v ||| 0 = nI v := by rw [show (0 : Int32) = nI 0 from rfl, nI_or, Nat.or_zero]
            by_cases q : kd i = 9
            · simp [q, e0]
            · by_cases q2 : wy i 0 + wy i 1 + wy i 2 + wy i 3 = 4
              · simp [q, q2, e0]
              · simp [q, q2, nI_or]
          rw [pre]
          have inner : ∀ (c j m3 : Nat), j + c = 4 → c < m3 → f_X9_keptOf_b47 (f_X9_keptOf_b4 1 m) (f_X9_keptOf_b11 (f_X9_keptOf_b4 1 m) 1 m2) 1 m3 (nI (kv kd wy v i j)) (nI t) (nI i) (nI j) M = some (nI (RC kd cm wy) &&& (nI (gt (F3 kd wy) 4 a (gp (F3 kd wy) b (i + 1) (F3 kd wy v i))) ^^^ (-1)), M) := by
            intro c
            induction c with
            | zero =>
              intro j m3 k1 k2
              obtain ⟨m3, rfl⟩ : ∃ j, m3 = j + 1 := ⟨m3 - 1, by omega⟩
              rw [f_X9_keptOf_b47_s]
              unfold f_X9_keptOf_b47B
              rw [if_pos (by rw [i_le, t_nI (by omega), li_4]; omega), show j = 4 by omega, nm_q, nI_1]
              exact hjh
            | succ c kh =>
              intro j m3 k1 k2
              obtain ⟨m3, rfl⟩ : ∃ j, m3 = j + 1 := ⟨m3 - 1, by omega⟩
              have hkh := kh (j + 1) m3 (by omega) (by omega)
              have hw := wy_le w (show i < 4 by omega) (show j < 4 by omega)
              have hkl := kv_lt (kd := kd) (wy := wy) (show i < 4 by omega) hv j
              rw [show kv kd wy v i (j + 1) = (if (kv kd wy v i j).testBit j = true ∧ wy i j ≠ 0 then kv kd wy v i j ||| 2 ^ i else kv kd wy v i j) from rfl] at hkh
              rw [f_X9_keptOf_b47_s]
              unfold f_X9_keptOf_b47B f_X9_keptOf_b84 f_X9_keptOf_b85
              rw [if_neg (by rw [i_le, t_nI (by omega), li_4]; omega)]
              simp only [ck_w (show i < 4 by omega) (show j < 4 by omega), cl_w (show i < 4 by omega) (show j < 4 by omega), fld_1_14, n.2 i j (by omega) (by omega), show (nI (wy i j) ≤ nI 0) ↔ wy i j = 0 from n_le0 (show wy i j < 1000 by omega), sh1 i (by omega), nm_q, bd_s, nI_1, show (0 : Int32) = nI 0 from rfl, nI_or, Nat.or_zero, tb1 (kv kd wy v i j) (show kv kd wy v i j < 64 by omega) j (by omega)]
              by_cases q : (kv kd wy v i j).testBit j = true
              · rw [if_pos q]
                by_cases q2 : wy i j = 0
                · rw [if_neg (fun z => z.2 q2)] at hkh
                  rw [if_pos q2]
                  exact hkh
                · rw [if_pos ⟨q, q2⟩] at hkh
                  rw [if_neg q2]
                  exact hkh
              · rw [if_neg (fun z => q z.1)] at hkh
                rw [if_neg q]
                exact hkh
          exact inner 4 0 fuel (by omega) (by show 4 < 1000; omega)
      exact mid 4 0 fuel v (by omega) (by show 4 < 1000; omega) hv
  exact l 5 0 fuel 0 (by omega) (by show 5 < 1000; omega) (by omega)
theorem al_kept : Alike (f_X8_kept 0) (f_X9_kept 1) := by
  intro M h
  obtain ⟨⟨kd, rt, hd, rm, cm, wy, w, n1, n2⟩, -, -⟩ := id h
  obtain ⟨M1, e1, e2, e3⟩ := s_keptX n1 w
  have n2' : NetR kd rt hd rm cm wy M1 := n2.sc (fun a k p => e2.1 a k (Or.inr p))
  refine ⟨nI (mk (fun c => (RC kd cm wy).testBit c && decide (RR (pw wy) 4 c &&& mk (ouB kd wy) 4 = 0)) 4), M1, M1, ?_, ?_, h.sc e2⟩
  · unfold f_X8_kept
    rw [fld_0_1, e1, bd_s]
  · unfold f_X9_kept
    rw [s_keptR n2' w, bd_s]

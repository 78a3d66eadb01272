/-! closed -/
def AF (P : Nat → Bool) : Nat → Nat → Bool
  | 0, _ => true
  | k + 1, i => P i && AF P k (i + 1)
theorem AF_and (P Q : Nat → Bool) : ∀ k i, AF (fun c => P c && Q c) k i = (AF P k i && AF Q k i)
  | 0, _ => rfl
  | k + 1, i => by
    unfold AF
    rw [AF_and P Q k (i + 1)]
    cases P i <;> cases Q i <;> simp
def tbN (kd : Nf) : Nat → Nat := mk (fun c => decide (kd c ≠ 9))
def cPA (kd cm : Nf) (wy : Nat → Nf) (c : Nat) : Bool := decide (kd c = 9) || (decide (cm c = 0) && decide (wy c 0 + wy c 1 + wy c 2 + wy c 3 = 4))
def cPB (kd : Nf) (wy : Nat → Nf) (c : Nat) : Bool := decide (kd c = 9) || decide (RR (pw wy) 4 c = tbN kd 4)
theorem cPA_d (kd cm : Nf) (wy : Nat → Nf) (c : Nat) : cPA kd cm wy c = (decide (kd c = 9) || (decide (cm c = 0) && decide (wy c 0 + wy c 1 + wy c 2 + wy c 3 = 4))) := rfl
theorem cPB_d (kd : Nf) (wy : Nat → Nf) (c : Nat) : cPB kd wy c = (decide (kd c = 9) || decide (RR (pw wy) 4 c = tbN kd 4)) := rfl
theorem AF_s (P : Nat → Bool) (k i : Nat) : AF P (k + 1) i = (P i && AF P k (i + 1)) := rfl
theorem tbN_lt (kd : Nf) (k : Nat) (h : k ≤ 4) : tbN kd k < 16 := Nat.lt_of_lt_of_le (mk_lt _ _) (Nat.pow_le_pow_right (show 0 < 2 by omega) h)
theorem s_bitsThere {M : Mm} {kd rt hd rm cm : Nf} {wy : Nat → Nf} (n : NetC kd rt hd rm cm wy M) (w : wfN kd rt hd rm cm wy) : f_X4_bitsThere 4 M = some (nI (tbN kd 4), M) := by
  have l : ∀ (a i m : Nat), i + a = 4 → a < m → f_X4_bitsThere_b4 4 m (nI (tbN kd i)) (nI i) M = some (nI (tbN kd 4), M) := by
    intro a
    induction a with
    | zero =>
      intro i m h1 h2
      obtain ⟨m, rfl⟩ : ∃ j, m = j + 1 := ⟨m - 1, by omega⟩
      rw [f_X4_bitsThere_b4_s]
      unfold f_X4_bitsThere_b4B
      rw [if_pos (by rw [i_le, t_nI (by omega), li_4]; omega), show i = 4 by omega]
    | succ a ih =>
      intro i m h1 h2
      obtain ⟨m, rfl⟩ : ∃ j, m = j + 1 := ⟨m - 1, by omega⟩
      have hih := ih (i + 1) m (by omega) (by omega)
      rw [show tbN kd (i + 1) = tbN kd i ||| (if decide (kd i ≠ 9) = true then 2 ^ i else 0) from rfl] at hih
      rw [f_X4_bitsThere_b4_s]
      unfold f_X4_bitsThere_b4B
      rw [if_neg (by rw [i_le, t_nI (by omega), li_4]; omega)]
      simp only [s_has n w (show i < 4 by omega), nm_q, bd_s, nI_1, sh1 i (by omega), nI_or]
      by_cases q : kd i = 9
      · rw [if_neg (by simp [q]), Nat.or_zero] at hih
        simp only [q, if_true]
        exact hih
      · rw [if_pos (by simp [q])] at hih
        simp only [q, if_false, show ¬ (1 : Int32) = 0 by decide]
        exact hih
  exact l 4 0 fuel (by omega) (by show 4 < 1000; omega)
theorem s_innerL {M : Mm} {kd rr hd rm cm : Nf} {wy : Nat → Nf} (n : NetC kd rr hd rm cm wy M) (w : wfN kd rr hd rm cm wy) (h : ChCq M (pw wy) 4) : ∀ (a i m : Nat), i + a = 4 → a < m → f_X4_isClosed_b24 4 m (nI (tbN kd 4)) (nI i) M = some (if AF (fun c => cPA kd cm wy c && cPB kd wy c) a i = true then 1 else 0, M) := by
  intro a
  induction a with
  | zero =>
    intro i m h1 h2
    obtain ⟨m, rfl⟩ : ∃ j, m = j + 1 := ⟨m - 1, by omega⟩
    rw [f_X4_isClosed_b24_s]
    unfold f_X4_isClosed_b24B AF
    rw [if_pos (by rw [i_le, t_nI (by omega), li_4]; omega), if_pos rfl]
  | succ a ih =>
    intro i m h1 h2
    obtain ⟨m, rfl⟩ : ∃ j, m = j + 1 := ⟨m - 1, by omega⟩
    have hih := ih (i + 1) m (by omega) (by omega)
    have hwi := w i (by omega)
    have hR := RR_lt (p := pw wy) (show i < 4 by omega)
    have ht := tbN_lt kd 4 (by omega)
    have sr : f_X0_reachedFrom 31 (nI (2 ^ i)) M = some (nI (RR (pw wy) 4 i), M) := s_reachedq (by omega) h (Nat.pow_lt_pow_right (by omega) (by omega))
    have kc : nI (cm i) = 0 ↔ cm i = 0 := by rw [show (0 : Int32) = nI 0 from rfl, n_inj (by omega) (by omega)]
    have kl : nI (4 - (wy i 0 + wy i 1 + wy i 2 + wy i 3)) = 0 ↔ wy i 0 + wy i 1 + wy i 2 + wy i 3 = 4 := by rw [show (0 : Int32) = nI 0 from rfl, n_inj (by omega) (by omega)]; omega
    have kr : nI (RR (pw wy) 4 i) = nI (tbN kd 4) ↔ RR (pw wy) 4 i = tbN kd 4 := n_inj (by omega) (by omega)
    rw [f_X4_isClosed_b24_s]
    unfold f_X4_isClosed_b24B f_X4_isInnerOf
    rw [show AF (fun c => cPA kd cm wy c && cPB kd wy c) (a + 1) i = ((cPA kd cm wy i && cPB kd wy i) && AF (fun c => cPA kd cm wy c && cPB kd wy c) a (i + 1)) from rfl, cPA_d kd cm wy i, cPB_d kd wy i]
    rw [if_neg (by rw [i_le, t_nI (by omega), li_4]; omega)]
    simp only [s_has n w (show i < 4 by omega), nm_q, bd_s, nI_1, ck_k (show i < 4 by omega) (show 4 < 1000 by omega), nI_cl (show i < 2 ^ 31 by omega), fld_4_0, fld_4_1, elm_22, n.1 i (by omega), s_leaving n w (show i < 4 by omega), sh1 i (by omega), sr, kc, kl, kr, hih]
    by_cases q : kd i = 9
    · simp [q]
    · by_cases q1 : cm i = 0
      · by_cases q2 : wy i 0 + wy i 1 + wy i 2 + wy i 3 = 4
        · by_cases q3 : RR (pw wy) 4 i = tbN kd 4
          · simp [q, q1, q2, q3, bd_s]; exact hih
          · simp [q, q1, q2, q3, bd_s]
        · simp [q, q1, q2, bd_s]
      · simp [q, q1, bd_s]
theorem s_closedX {M : Mm} {kd rr hd rm cm : Nf} {wy : Nat → Nf} (n : NetC kd rr hd rm cm wy M) (w : wfN kd rr hd rm cm wy) : ∃ M1, f_X4_isClosed 4 M = some (if tbN kd 4 ≠ 0 ∧ gF kd 4 0 = true ∧ AF (cPA kd cm wy) 4 0 = true ∧ AF (cPB kd wy) 4 0 = true then 1 else 0, M1) ∧ Sc M M1 ∧ M1.2 = M.2 := by
  have ht := tbN_lt kd 4 (by omega)
  have k0 : nI (tbN kd 4) = 0 ↔ tbN kd 4 = 0 := by rw [show (0 : Int32) = nI 0 from rfl, n_inj (by omega) (by omega)]
  unfold f_X4_isClosed
  simp only [s_bitsThere n w, nm_q, bd_s, k0, s_prodX n w]
  by_cases q : tbN kd 4 = 0
  · exact ⟨M, by simp [q], Sc.rf _, rfl⟩
  · by_cases q2 : gF kd 4 0 = true
    · obtain ⟨M1, l1, l2, l3, l4⟩ := s_loadPaths n
      have n' : NetC kd rr hd rm cm wy M1 := n.sc (fun a k p => l3.1 a k (Or.inl p))
      have li := s_innerL n' w l2 4 0 fuel (by omega) (by show 4 < 1000; omega)
      rw [AF_and] at li
      have li : f_X4_isClosed_b24 4 fuel (nI (tbN kd 4)) 0 M1 = _ := li
      refine ⟨M1, ?_, l3, l4⟩
      simp only [l1, nm_q, bd_s, li, q, q2, if_false, if_true, show ¬ (1 : Int32) = 0 by decide, ne_eq, not_false_eq_true, true_and, Bool.and_eq_true]
    · exact ⟨M, by simp [q, q2], Sc.rf _, rfl⟩
theorem s_cl2 {M : Mm} {kd rr hd rm cm : Nf} {wy : Nat → Nf} (n : NetR kd rr hd rm cm wy M) (w : wfN kd rr hd rm cm wy) : ∀ (a i m : Nat) (v : Int32), (v = 0 ∨ v = 1) → i + a = 4 → a < m → f_X9_isClosed_b78 1 m (nI (tbN kd 4)) v (nI i) M = some (if tbN kd 4 ≠ 0 ∧ v = 1 ∧ AF (cPB kd wy) a i = true then 1 else 0, M) := by
  have ht := tbN_lt kd 4 (by omega)
  have k0 : nI (tbN kd 4) = 0 ↔ tbN kd 4 = 0 := by rw [show (0 : Int32) = nI 0 from rfl, n_inj (by omega) (by omega)]
  intro a
  induction a with
  | zero =>
    intro i m v hv h1 h2
    obtain ⟨m, rfl⟩ : ∃ j, m = j + 1 := ⟨m - 1, by omega⟩
    rw [f_X9_isClosed_b78_s]
    unfold f_X9_isClosed_b78B f_X9_isClosed_b117 AF
    rw [if_pos (by rw [i_le, t_nI (by omega), li_4]; omega)]
    simp only [k0]
    rcases hv with rfl | rfl
    · simp
    · by_cases q : tbN kd 4 = 0 <;> simp [q]
  | succ a ih =>
    intro i m v hv h1 h2
    obtain ⟨m, rfl⟩ : ∃ j, m = j + 1 := ⟨m - 1, by omega⟩
    have ih1 := ih (i + 1) m 1 (Or.inr rfl) (by omega) (by omega)
    have ih0 := ih (i + 1) m 0 (Or.inl rfl) (by omega) (by omega)
    have hR := RR_lt (p := pw wy) (show i < 4 by omega)
    have kr : nI (RR (pw wy) 4 i) = nI (tbN kd 4) ↔ RR (pw wy) 4 i = tbN kd 4 := n_inj (by omega) (by omega)
    rw [f_X9_isClosed_b78_s]
    unfold f_X9_isClosed_b78B f_X9_isClosed_b117 f_X9_isClosed_b105
    rw [AF_s, cPB_d kd wy i]
    rw [if_neg (by rw [i_le, t_nI (by omega), li_4]; omega)]
    rcases hv with rfl | rfl
    · simp
    · rw [if_neg (by decide)]
      simp only [ck_k (show i < 4 by omega) (show 4 < 1000 by omega), nI_cl (show i < 2 ^ 31 by omega), fld_1_8, (n.1 i (by omega)).1, s_leadsTo n w (show i < 4 by omega), nm_q, bd_s, nI_1, kr, ih1, ih0]
      by_cases q : kd i = 9
      · simp [q]
      · by_cases q2 : RR (pw wy) 4 i = tbN kd 4
        · simp [q, q2]
        · simp [q, q2]
theorem s_closedR {M : Mm} {kd rr hd rm cm : Nf} {wy : Nat → Nf} (n : NetR kd rr hd rm cm wy M) (w : wfN kd rr hd rm cm wy) : f_X9_isClosed 1 M = some (if tbN kd 4 ≠ 0 ∧ gF kd 4 0 = true ∧ AF (cPA kd cm wy) 4 0 = true ∧ AF (cPB kd wy) 4 0 = true then 1 else 0, M) := by
  have l : ∀ (a i m : Nat) (v : Int32), (v = 0 ∨ v = 1) → i + a = 4 → a < m → f_X9_isClosed_b9 1 m (nI (tbN kd i)) v (nI i) M = some (if tbN kd 4 ≠ 0 ∧ (v = 1 ∧ AF (cPA kd cm wy) a i = true) ∧ AF (cPB kd wy) 4 0 = true then 1 else 0, M) := by
    intro a
    induction a with
    | zero =>
      intro i m v hv h1 h2
      obtain ⟨m, rfl⟩ : ∃ j, m = j + 1 := ⟨m - 1, by omega⟩
      rw [f_X9_isClosed_b9_s]
      unfold f_X9_isClosed_b9B
      rw [if_pos (by rw [i_le, t_nI (by omega), li_4]; omega), show i = 4 by omega]
      have := s_cl2 n w 4 0 fuel v hv (by omega) (by show 4 < 1000; omega)
      refine this.trans ?_
      simp [AF]
    | succ a ih =>
      intro i m v hv h1 h2
      obtain ⟨m, rfl⟩ : ∃ j, m = j + 1 := ⟨m - 1, by omega⟩
      have ih1 := ih (i + 1) m 1 (Or.inr rfl) (by omega) (by omega)
      have ih0 := ih (i + 1) m 0 (Or.inl rfl) (by omega) (by omega)
      have hwi := w i (by omega)
      have kc : nI (cm i) = 0 ↔ cm i = 0 := by rw [show (0 : Int32) = nI 0 from rfl, n_inj (by omega) (by omega)]
      have kl : nI (wy i 0 + wy i 1 + wy i 2 + wy i 3) = 4 ↔ wy i 0 + wy i 1 + wy i 2 + wy i 3 = 4 := by rw [show (4 : Int32) = nI 4 from rfl, n_inj (by omega) (by omega)]
      rw [show tbN kd (i + 1) = tbN kd i ||| (if decide (kd i ≠ 9) = true then 2 ^ i else 0) from rfl] at ih1 ih0
      rw [f_X9_isClosed_b9_s]
      unfold f_X9_isClosed_b9B f_X9_isClosed_b31 f_X9_isClosed_b64
      rw [if_neg (by rw [i_le, t_nI (by omega), li_4]; omega)]
      simp only [ck_k (show i < 4 by omega) (show 4 < 1000 by omega), nI_cl (show i < 2 ^ 31 by omega), fld_1_8, fld_1_13, (n.1 i (by omega)).1, (n.1 i (by omega)).2.2, s_outOf n (show i < 4 by omega), sh1 i (by omega), nI_or, nm_q, bd_s, nI_1, kc, kl]
      rw [show AF (cPA kd cm wy) (a + 1) i = (cPA kd cm wy i && AF (cPA kd cm wy) a (i + 1)) from rfl, show cPA kd cm wy i = (decide (kd i = 9) || (decide (cm i = 0) && decide (wy i 0 + wy i 1 + wy i 2 + wy i 3 = 4))) from rfl]
      by_cases q : kd i = 9
      · rw [if_neg (by simp [q]), Nat.or_zero] at ih1 ih0
        have e0 : nI (tbN kd i) ||| 0 = nI (tbN kd i) := by rw [show (0 : Int32) = nI 0 from rfl, nI_or, Nat.or_zero]
        rcases hv with rfl | rfl
        · simp only [q, if_true, e0, ih0]; simp
        · simp only [q, if_true, e0, show ¬ (1 : Int32) = 0 by decide, if_false, ih1]; simp
      · rw [if_pos (by simp [q])] at ih1 ih0
        rcases hv with rfl | rfl
        · simp only [q, if_true, show ¬ (1 : Int32) = 0 by decide, if_false, ih0]; simp
        · simp only [q, if_false, show ¬ (1 : Int32) = 0 by decide]
          by_cases q1 : cm i = 0
          · rw [if_pos q1]
            by_cases q2 : wy i 0 + wy i 1 + wy i 2 + wy i 3 = 4
            · rw [if_pos q2, ih1]; simp [q1, q2]
            · rw [if_neg q2, ih0]; simp [q1, q2]
          · rw [if_neg q1, ih0]; simp [q1]
  unfold f_X9_isClosed
  rw [s_prodR n w, bd_s]
  have := l 4 0 fuel (if gF kd 4 0 = true then 1 else 0) (by by_cases z : gF kd 4 0 = true <;> simp [z]) (by omega) (by show 4 < 1000; omega)
  refine Eq.trans this ?_
  by_cases z : gF kd 4 0 = true <;> simp [z]
theorem al_closed : Alike (f_X8_closed 0) (f_X9_closed 1) := by
  intro M h
  obtain ⟨⟨kd, rt, hd, rm, cm, wy, w, n1, n2⟩, -, -⟩ := id h
  obtain ⟨M1, e1, e2, e3⟩ := s_closedX n1 w
  have n2' : NetR kd rt hd rm cm wy M1 := n2.sc (fun a k p => e2.1 a k (Or.inr p))
  have e4 := s_closedR n2' w
  unfold f_X8_closed f_X9_closed
  rw [fld_0_1, e1]
  simp only [nm_q, bd_s]
  by_cases z : tbN kd 4 ≠ 0 ∧ gF kd 4 0 = true ∧ AF (cPA kd cm wy) 4 0 = true ∧ AF (cPB kd wy) 4 0 = true
  · rw [if_pos z] at e4 ⊢
    exact ⟨1, M1, M1, by rw [if_neg (by decide)], by rw [e4]; rfl, h.sc e2⟩
  · rw [if_neg z] at e4 ⊢
    exact ⟨0, M1, M1, by rw [if_pos rfl], by rw [e4]; rfl, h.sc e2⟩

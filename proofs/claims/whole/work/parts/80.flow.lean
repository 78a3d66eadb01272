/-! flow, use, mean -/
def wq (l : Int64) (rr hd : Nf) (c : Nat) : Int64 := l * Int32.toInt64 (nI (rr c * hd c))
theorem rh_b {kd rr hd rm cm : Nf} {wy : Nat → Nf} (w : wfN kd rr hd rm cm wy) {c : Nat} (hc : c < 4) : 1 ≤ rr c ∧ rr c ≤ 12 ∧ 1 ≤ hd c ∧ hd c ≤ 2 ∧ 1 ≤ rr c * hd c ∧ rr c * hd c ≤ 24 ∧ (kd c = 3 → hd c = 1) := by
  have h1 := (w c hc).2.1
  have h2 := (w c hc).2.2.1
  have r1 : 1 ≤ rr c ∧ rr c ≤ 12 := by omega
  have d1 : 1 ≤ hd c ∧ hd c ≤ 2 := by omega
  have m1 : 1 * 1 ≤ rr c * hd c := Nat.mul_le_mul r1.1 d1.1
  have m2 : rr c * hd c ≤ 12 * 2 := Nat.mul_le_mul r1.2 d1.2
  exact ⟨r1.1, r1.2, d1.1, d1.2, by omega, by omega, fun h => by omega⟩
theorem wq_I {l : Int64} {kd rr hd rm cm : Nf} {wy : Nat → Nf} (w : wfN kd rr hd rm cm wy) {c : Nat} (hc : c < 4) (hl : 0 < l.toInt) (hl2 : l.toInt ≤ 6144) : (wq l rr hd c).toInt = l.toInt * ((rr c * hd c : Nat) : Int) ∧ 0 < (wq l rr hd c).toInt ∧ (wq l rr hd c).toInt ≤ 147456 := by
  have hb := rh_b w hc
  generalize hq : rr c * hd c = q at *
  have e : (Int32.toInt64 (nI q)).toInt = (q : Int) := t64 (by omega)
  have p1 : l.toInt * 1 ≤ l.toInt * (q : Int) := Int.mul_le_mul_of_nonneg_left (by omega) (by omega)
  have p2 : l.toInt * (q : Int) ≤ l.toInt * 24 := Int.mul_le_mul_of_nonneg_left (by omega) (by omega)
  unfold wq
  rw [hq, l_mul (by rw [e]; omega) (by rw [e]; omega), e]
  exact ⟨rfl, by omega, by omega⟩
theorem wq_c {l : Int64} {kd rr hd rm cm : Nf} {wy : Nat → Nf} (w : wfN kd rr hd rm cm wy) {c : Nat} (hc : c < 4) (hl : 0 < l.toInt) (hl2 : l.toInt ≤ 6144) : (l * Int32.toInt64 (nI (rr c))) * Int32.toInt64 (nI (hd c)) = wq l rr hd c := by
  have hb := rh_b w hc
  have q := wq_I (l := l) w hc hl hl2
  have e1 : (Int32.toInt64 (nI (rr c))).toInt = (rr c : Int) := t64 (by omega)
  have e2 : (Int32.toInt64 (nI (hd c))).toInt = (hd c : Int) := t64 (by omega)
  have p2 : l.toInt * (rr c : Int) ≤ l.toInt * 12 := Int.mul_le_mul_of_nonneg_left (by omega) (by omega)
  have p1 : 0 ≤ l.toInt * (rr c : Int) := Int.mul_nonneg (by omega) (by omega)
  have e3 : (l * Int32.toInt64 (nI (rr c))).toInt = l.toInt * (rr c : Int) := by rw [l_mul (by rw [e1]; omega) (by rw [e1]; omega), e1]
  have p3 : 0 ≤ l.toInt * (rr c : Int) * (hd c : Int) := Int.mul_nonneg p1 (by omega)
  have p4 : l.toInt * (rr c : Int) * (hd c : Int) ≤ l.toInt * (rr c : Int) * 2 := Int.mul_le_mul_of_nonneg_left (by omega) p1
  rw [l_eq, l_mul (by rw [e3, e2]; omega) (by rw [e3, e2]; omega), e3, e2, q.1, Int.mul_assoc]
  rfl
theorem s_workOut {M : Mm} {kd rr hd rm cm : Nf} {wy : Nat → Nf} (n : NetC kd rr hd rm cm wy M) (w : wfN kd rr hd rm cm wy) {c : Nat} (hc : c < 4) (h9 : kd c ≠ 9) {v : Nat} (hv : v = RC kd cm wy) {u l : Int64} (hu : frU (4 * detB (fE v wy cm c) 4) (detB (fE v wy cm 9) 4) = u) (hl : frL (4 * detB (fE v wy cm c) 4) (detB (fE v wy cm 9) 4) = l) (u0 : 0 ≤ u.toInt) (l0 : 0 < l.toInt) (l1 : l.toInt ≤ 6144) (hP : 0 ≤ (4 * detB (fE v wy cm c) 4).toInt) (hW : 0 < (detB (fE v wy cm 9) 4).toInt) : ∃ M', f_X4_workOutFlow 4 (nI c) M = some M' ∧ Sc M M' ∧ mJ M' 8 0 = u ∧ mJ M' 8 1 = l ∧ mJ M' 9 0 = frU u (wq l rr hd c) ∧ mJ M' 9 1 = frL u (wq l rr hd c) := by
  have hv16 : v < 16 := by rw [hv]; exact rt_lt 4 _ (mk_lt _ _)
  obtain ⟨M1, a1, a2, a3, a4⟩ := s_loadPaths n
  have n1 : NetC kd rr hd rm cm wy M1 := n.sc (fun a k q => a3.1 a k (Or.inl q))
  have hbr : f_X4_bitsReached 4 M1 = some (nI v, M1) := by rw [hv]; exact s_bitsReached n1 w a2
  obtain ⟨M2, b1, b2⟩ := s_flowDet n1 (v := v) (rp := 9) (x := -9) hv16 (fun i hi => by
    constructor
    · intro hz; rw [i_eq, t_nI (by omega), li_m9] at hz; omega
    · intro hz; omega)
  have s2 := b2.sc (by omega) (by omega) (by omega)
  have n2 : NetC kd rr hd rm cm wy M2 := n1.sc (fun a k q => s2.1 a k (Or.inl q))
  obtain ⟨M3, c1, c2⟩ := s_flowDet n2 (v := v) (rp := c) (x := nI c) hv16 (fun i hi => n_inj (by omega) (by omega))
  have s3 := c2.sc (by omega) (by omega) (by omega)
  have n3 : NetC kd rr hd rm cm wy M3 := n2.sc (fun a k q => s3.1 a k (Or.inl q))
  have hPm := l_bd (4 * detB (fE v wy cm c) 4)
  have hWm := l_bd (detB (fE v wy cm 9) 4)
  have d1 := s_set (a := 8) (u := 4 * detB (fE v wy cm c) 4) (l := detB (fE v wy cm 9) 4) M3 (by omega) (by omega) (by omega)
  rw [hu, hl] at d1
  have s4 : Sc M3 (sJ (sJ M3 8 0 u) 8 1 l) := ((Sc.rf M3).j (by omega) (by omega)).j (by omega) (by omega)
  have n4 : NetC kd rr hd rm cm wy (sJ (sJ M3 8 0 u) 8 1 l) := n3.sc (fun a k q => s4.1 a k (Or.inl q))
  have hwq := wq_I (l := l) w hc l0 l1
  have hum := l_bd u
  have d2 := s_set (a := 9) (u := u) (l := wq l rr hd c) (sJ (sJ M3 8 0 u) 8 1 l) (by omega) (by omega) (by omega)
  have r0 : mJ (sJ (sJ M3 8 0 u) 8 1 l) 8 0 = u := by rw [mJ_sJ, if_neg (by omega), mJ_sJ, if_pos ⟨rfl, rfl⟩]
  have r1 : mJ (sJ (sJ M3 8 0 u) 8 1 l) 8 1 = l := by rw [mJ_sJ, if_pos ⟨rfl, rfl⟩]
  refine ⟨sJ (sJ (sJ (sJ M3 8 0 u) 8 1 l) 9 0 (frU u (wq l rr hd c))) 9 1 (frL u (wq l rr hd c)), ?_, ((((a3.tr s2).tr s3).tr s4).j (by omega) (by omega)).j (by omega) (by omega), ?_, ?_, ?_, ?_⟩
  · unfold f_X4_workOutFlow
    simp only [s_has n w hc, if_neg h9, nm_q, bd_s, show ¬ ((1 : Int32) = 0) by decide, if_false, a1, hbr, b1, c1, fld_4_3, fld_4_4, fld_4_0, elm_22, d1, nI_cl (show c < 2 ^ 31 by omega), ck_k hc (show 4 < 1000 by omega), r0, r1, (n4.1 c hc).2.1, (n4.1 c hc).2.2.1, wq_c w hc l0 l1, d2]
  · rw [mJ_sJ, if_neg (by omega), mJ_sJ, if_neg (by omega), r0]
  · rw [mJ_sJ, if_neg (by omega), mJ_sJ, if_neg (by omega), r1]
  · rw [mJ_sJ, if_neg (by omega), mJ_sJ, if_pos ⟨rfl, rfl⟩]
  · rw [mJ_sJ, if_pos ⟨rfl, rfl⟩]
theorem s_bears {M : Mm} {kd rr hd rm cm : Nf} {wy : Nat → Nf} (n : NetR kd rr hd rm cm wy M) (w : wfN kd rr hd rm cm wy) {c : Nat} (hc : c < 4) (h9 : kd c ≠ 9) : f_X9_bears 1 (nI c) M = some (nI (rr c * hd c), M) := by
  have hb := rh_b w hc
  have q := ((n.1 c hc).2.1 h9)
  have k3 : nI (kd c) = 3 ↔ kd c = 3 := by
    have := (w c hc).1
    rw [show (3 : Int32) = nI 3 from rfl, n_inj (by omega) (by omega)]
  unfold f_X9_bears
  simp only [ck_k hc (show 4 < 1000 by omega), nI_cl (show c < 2 ^ 31 by omega), fld_1_9, fld_1_10, fld_1_11, q.1, q.2.1, q.2.2.1, n_mul, k3]
  by_cases e : kd c = 3
  · rw [if_pos e, hb.2.2.2.2.2.2 e, Nat.mul_one]
  · rw [if_neg e]
theorem s_isFull {M : Mm} {kd rr hd rm cm : Nf} {wy : Nat → Nf} (n : NetR kd rr hd rm cm wy M) (w : wfN kd rr hd rm cm wy) {c : Nat} (hc : c < 4) (h9 : kd c ≠ 9) {u l : Int64} (hu : mJ M 1 18 = u) (hl : mJ M 1 19 = l) : f_X9_isFull 1 (nI c) M = some (if kd c = 3 ∨ u.toInt < (wq l rr hd c).toInt then 0 else 1, M) := by
  have q := ((n.1 c hc).2.1 h9)
  have k3 : nI (kd c) = 3 ↔ kd c = 3 := by
    have := (w c hc).1
    rw [show (3 : Int32) = nI 3 from rfl, n_inj (by omega) (by omega)]
  unfold f_X9_isFull
  simp only [ck_k hc (show 4 < 1000 by omega), nI_cl (show c < 2 ^ 31 by omega), fld_1_9, q.1, k3, s_bears n w hc h9, nm_q, bd_s, hu, hl, q_lt]
  by_cases e : kd c = 3
  · rw [if_pos e, if_pos (Or.inl e)]
  · rw [if_neg e]
    by_cases e2 : u.toInt < (wq l rr hd c).toInt
    · have e3 : u.toInt < (l * Int32.toInt64 (nI (rr c * hd c))).toInt := e2
      rw [if_pos e3, if_pos (Or.inr e2)]
    · have e3 : ¬ u.toInt < (l * Int32.toInt64 (nI (rr c * hd c))).toInt := e2
      rw [if_neg e3, if_neg (by rintro (hz | hz); exact e hz; exact e2 hz)]
theorem s_overfull {M : Mm} {kd rr hd rm cm : Nf} {wy : Nat → Nf} (n : NetC kd rr hd rm cm wy M) (w : wfN kd rr hd rm cm wy) {c : Nat} (hc : c < 4) (h9 : kd c ≠ 9) {u l : Int64} (u0 : 0 ≤ u.toInt) (hw : 0 < (wq l rr hd c).toInt) (hu : mJ M 9 0 = frU u (wq l rr hd c)) (hl : mJ M 9 1 = frL u (wq l rr hd c)) : f_X4_isOverfull 4 (nI c) M = some (if kd c = 3 ∨ u.toInt < (wq l rr hd c).toInt then 0 else 1, M) := by
  have k3 : (if kd c = 9 then (-1 : Int32) else nI (kd c)) = 3 ↔ kd c = 3 := kd_eq (j := 3) (w c hc).1 (by omega)
  obtain ⟨g, g1, g2, g3, g4, g5, _, _⟩ := fr_f u0 hw
  have lt : (frU u (wq l rr hd c)).toInt < (frL u (wq l rr hd c)).toInt ↔ u.toInt < (wq l rr hd c).toInt := by
    rw [g2, g3]
    constructor
    · intro hz; exact Int.mul_lt_mul_of_pos_left hz (by omega)
    · intro hz; exact Int.lt_of_mul_lt_mul_left hz (by omega)
  unfold f_X4_isOverfull
  simp only [s_has n w hc, if_neg h9, nm_q, bd_s, show ¬ ((1 : Int32) = 0) by decide, if_false, ck_k hc (show 4 < 1000 by omega), nI_cl (show c < 2 ^ 31 by omega), fld_4_0, fld_4_4, elm_22, (n.1 c hc).1, hu, hl, q_lt, lt]
  have k3' : nI (kd c) = 3 ↔ kd c = 3 := by
    have := (w c hc).1
    rw [show (3 : Int32) = nI 3 from rfl, n_inj (by omega) (by omega)]
  simp only [k3']
  by_cases e : kd c = 3
  · rw [if_pos e, if_pos (Or.inl e)]
  · rw [if_neg e]
    by_cases e2 : u.toInt < (wq l rr hd c).toInt
    · rw [if_pos e2, if_pos (Or.inr e2)]
    · rw [if_neg e2, if_neg (by rintro (hz | hz); exact e hz; exact e2 hz)]
theorem s_take {a b : Nat} {M : Mm} {x y : Int64} (hab : a ≠ b) (h0 : mJ M b 0 = x) (h1 : mJ M b 1 = y) : f_X2_take a b M = some (sJ (sJ M a 0 x) a 1 y) := by
  unfold f_X2_take
  rw [nm_q, nm_q, h0, mJ_sJ, if_neg (by omega), h1]
theorem al_flow (x : Int32) : Alike (f_X8_flow 0 x) (f_X9_flow 1 x) := by
  intro M h
  rcases fl_split h x with ⟨e1, e2⟩ | ⟨e1, e2⟩ | ⟨c, kd, rr, hd, rm, cm, wy, M1, hc, rfl, w, n1, n2, h9, s1, s1', e1, e2⟩
  · refine ⟨-1, M, M, ?_, ?_, h⟩
    · unfold f_X8_flow
      simp only [e1, nm_q, bd_s, show ¬ ((-1 : Int32) = 0) by decide, if_false]
    · unfold f_X9_flow
      simp only [e2, nm_q, bd_s, show ¬ ((0 : Int32) ≤ -1) by decide, if_false]
  · refine ⟨-3, RF M 1, RM (RF M 1) 1, ?_, ?_, inv_ref h (by omega) (by omega) (Sc.rf _) (Sc.rf _)⟩
    · unfold f_X8_flow
      simp only [e1, nm_q, bd_s, show ¬ ((-3 : Int32) = 0) by decide, if_false]
    · unfold f_X9_flow
      simp only [e2, nm_q, bd_s, show ¬ ((0 : Int32) ≤ -3) by decide, if_false]
  · by_cases hk0 : kpM kd cm wy = 0
    · simp only [if_pos hk0] at e1 e2
      obtain ⟨u, l, hu, hl, u0, u1, l0, l1, hP, hW, hR⟩ := flow_num w hk0 hc rfl
      have n1' : NetC kd rr hd rm cm wy M1 := n1.sc (fun a k q => s1.1 a k (Or.inl q))
      obtain ⟨M2, w1, w2, w3, w4, w5, w6⟩ := s_workOut n1' w hc h9 rfl hu hl u0 l0 l1 hP hW
      have s2 : Sc M M2 := s1.tr w2
      have n2' : NetR kd rr hd rm cm wy (sJ (sJ M2 7 0 u) 7 1 l) := n2.sc (fun a k q => s2.1 a k (Or.inr q))
      obtain ⟨M3, r1, r2, r3, r4⟩ := hR _ n2'
      have hum := l_bd u
      have fe := fr_eq (u := u) (l := l) (u2 := u) (l2 := l) (by omega) (by omega) (by omega) (by omega) (by omega) (by omega) rfl
      have red : frU u l = u ∧ frL u l = l := by
        have hPm := l_bd (4 * detB (fE (RC kd cm wy) wy cm c) 4)
        have hWm := l_bd (detB (fE (RC kd cm wy) wy cm 9) 4)
        obtain ⟨g, g1, g2, g3, _⟩ := fr_f hP hW
        rw [hu] at g2
        rw [hl] at g3
        have := fr_eq (u := u) (l := l) (u2 := 4 * detB (fE (RC kd cm wy) wy cm c) 4) (l2 := detB (fE (RC kd cm wy) wy cm 9) 4) (by omega) (by omega) (by omega) (by omega) (by omega) (by omega) (by rw [g2, g3]; grind)
        rw [hu, hl] at this
        exact this
      refine ⟨1, sJ (sJ M2 7 0 u) 7 1 l, sJ (sJ M3 1 3 u) 1 4 l, ?_, ?_, inv_frac h s2 r2⟩
      · unfold f_X8_flow
        simp only [e1, nm_q, bd_s, if_true, fld_0_1, fld_0_5, fld_4_3, w1, s_take (show 7 ≠ 8 by omega) w3 w4]
      · have sh := s_share (u := u) (l := l) (x := 1) M3 (by omega) (by omega) (by omega)
        rw [red.1, red.2] at sh
        unfold f_X9_flow
        simp only [e2 _ n2', r1, nm_q, bd_s, show (0 : Int32) ≤ 0 by decide, if_true, r3, r4, sh]
    · simp only [if_neg hk0] at e1 e2
      have n2' : NetR kd rr hd rm cm wy M1 := n2.sc (fun a k q => s1.1 a k (Or.inr q))
      refine ⟨-4, M1, M1, ?_, ?_, h.sc s1⟩
      · unfold f_X8_flow
        simp only [e1, nm_q, bd_s, show ¬ ((-4 : Int32) = 0) by decide, if_false]
      · unfold f_X9_flow
        simp only [e2 _ n2', nm_q, bd_s, show ¬ ((0 : Int32) ≤ -4) by decide, if_false]
theorem al_use (x : Int32) : Alike (f_X8_use 0 x) (f_X9_use 1 x) := by
  intro M h
  rcases fl_split h x with ⟨e1, e2⟩ | ⟨e1, e2⟩ | ⟨c, kd, rr, hd, rm, cm, wy, M1, hc, rfl, w, n1, n2, h9, s1, s1', e1, e2⟩
  · refine ⟨-1, M, M, ?_, ?_, h⟩
    · unfold f_X8_use
      simp only [e1, nm_q, bd_s, show ¬ ((-1 : Int32) = 0) by decide, if_false]
    · unfold f_X9_use
      simp only [e2, nm_q, bd_s, show ¬ ((0 : Int32) ≤ -1) by decide, if_false]
  · refine ⟨-3, RF M 1, RM (RF M 1) 1, ?_, ?_, inv_ref h (by omega) (by omega) (Sc.rf _) (Sc.rf _)⟩
    · unfold f_X8_use
      simp only [e1, nm_q, bd_s, show ¬ ((-3 : Int32) = 0) by decide, if_false]
    · unfold f_X9_use
      simp only [e2, nm_q, bd_s, show ¬ ((0 : Int32) ≤ -3) by decide, if_false]
  · by_cases hk0 : kpM kd cm wy = 0
    · simp only [if_pos hk0] at e1 e2
      obtain ⟨u, l, hu, hl, u0, u1, l0, l1, hP, hW, hR⟩ := flow_num w hk0 hc rfl
      have n1' : NetC kd rr hd rm cm wy M1 := n1.sc (fun a k q => s1.1 a k (Or.inl q))
      obtain ⟨M2, w1, w2, w3, w4, w5, w6⟩ := s_workOut n1' w hc h9 rfl hu hl u0 l0 l1 hP hW
      have s2 : Sc M M2 := s1.tr w2
      have hq := wq_I (l := l) w hc l0 l1
      generalize hU : frU u (wq l rr hd c) = U at *
      generalize hL : frL u (wq l rr hd c) = L at *
      have n3 : NetC kd rr hd rm cm wy (sJ (sJ M2 7 0 U) 7 1 L) := n1.sc (fun a k q => s2.1 a k (Or.inl q))
      have n2' : NetR kd rr hd rm cm wy (sJ (sJ M2 7 0 U) 7 1 L) := n2.sc (fun a k q => s2.1 a k (Or.inr q))
      obtain ⟨M3, r1, r2, r3, r4⟩ := hR _ n2'
      have n4 : NetR kd rr hd rm cm wy M3 := n2'.sc (fun a k q => r2.1 a k (Or.inr q))
      have hum := l_bd u
      have of := s_overfull n3 w hc h9 u0 hq.2.1 (by rw [mJ_sJ, if_neg (by omega), mJ_sJ, if_neg (by omega), hU]; exact w5) (by rw [mJ_sJ, if_neg (by omega), mJ_sJ, if_neg (by omega), hL]; exact w6)
      have isf := s_isFull n4 w hc h9 r3 r4
      have sh := fun x => s_share (u := u) (l := wq l rr hd c) (x := x) M3 (by omega) (by omega) (by omega)
      simp only [hU, hL] at sh
      have sh' : ∀ x, f_X9_share 1 u (l * Int32.toInt64 (nI (rr c * hd c))) x M3 = some (x, sJ (sJ M3 1 3 U) 1 4 L) := sh
      refine ⟨if kd c = 3 ∨ u.toInt < (wq l rr hd c).toInt then 0 else 1, sJ (sJ M2 7 0 U) 7 1 L, sJ (sJ M3 1 3 U) 1 4 L, ?_, ?_, inv_frac h s2 r2⟩
      · unfold f_X8_use
        simp only [e1, nm_q, bd_s, if_true, fld_0_1, fld_0_5, fld_4_4, w1, s_take (show 7 ≠ 9 by omega) w5 w6, of]
        by_cases hz : kd c = 3 ∨ u.toInt < (wq l rr hd c).toInt
        · simp only [if_pos hz, if_true]
        · simp only [if_neg hz, show ¬ ((1 : Int32) = 0) by decide, if_false]
      · unfold f_X9_use f_X9_use_b43
        simp only [e2 _ n2', r1, nm_q, bd_s, show (0 : Int32) ≤ 0 by decide, if_true, s_bears n4 w hc h9, isf, r3, r4, sh']
        by_cases hz : kd c = 3 ∨ u.toInt < (wq l rr hd c).toInt
        · simp only [if_pos hz, if_true]
        · simp only [if_neg hz, show ¬ ((1 : Int32) = 0) by decide, if_false]
    · simp only [if_neg hk0] at e1 e2
      have n2' : NetR kd rr hd rm cm wy M1 := n2.sc (fun a k q => s1.1 a k (Or.inr q))
      refine ⟨-4, M1, M1, ?_, ?_, h.sc s1⟩
      · unfold f_X8_use
        simp only [e1, nm_q, bd_s, show ¬ ((-4 : Int32) = 0) by decide, if_false]
      · unfold f_X9_use
        simp only [e2 _ n2', nm_q, bd_s, show ¬ ((0 : Int32) ≤ -4) by decide, if_false]

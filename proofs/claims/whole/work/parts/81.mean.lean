/-! mean -/
theorem i_sq {a b : Int} (h0 : 0 ≤ a) (h : a < b) : a * a < b * b := by
  have h1 : a * a ≤ a * b := Int.mul_le_mul_of_nonneg_left (by omega) h0
  have h2 : a * b < b * b := Int.mul_lt_mul_of_pos_right h (by omega)
  omega
theorem i_mm {a b x y : Int} (h0 : 0 ≤ a) (h1 : a ≤ x) (h2 : 0 ≤ b) (h3 : b ≤ y) : 0 ≤ a * b ∧ a * b ≤ x * y := by
  refine ⟨Int.mul_nonneg h0 h2, ?_⟩
  have h4 : a * b ≤ x * b := Int.mul_le_mul_of_nonneg_right h1 h2
  have h5 : x * b ≤ x * y := Int.mul_le_mul_of_nonneg_left h3 (by omega)
  omega
theorem l_m2 {x y : Int64} {p q : Int} (h0 : 0 ≤ x.toInt) (h1 : x.toInt ≤ p) (h2 : 0 ≤ y.toInt) (h3 : y.toInt ≤ q) (hb : p * q < 9223372036854775808) : (x * y).toInt = x.toInt * y.toInt ∧ 0 ≤ x.toInt * y.toInt ∧ x.toInt * y.toInt ≤ p * q := by
  have := i_mm h0 h1 h2 h3
  refine ⟨l_mul (by omega) (by omega), this.1, this.2⟩
theorem s_mean2 {M : Mm} {kd rr hd rm cm : Nf} {wy : Nat → Nf} (n : NetC kd rr hd rm cm wy M) (w : wfN kd rr hd rm cm wy) {c : Nat} (hc : c < 4) (h9 : kd c ≠ 9) {u l : Int64} (u0 : 0 ≤ u.toInt) (u1 : u.toInt ≤ 629856) (w0 : 0 < (wq l rr hd c).toInt) (w1 : (wq l rr hd c).toInt ≤ 147456) (hu : mJ M 9 0 = frU u (wq l rr hd c)) (hl : mJ M 9 1 = frL u (wq l rr hd c)) (nf : kd c = 3 ∨ u.toInt < (wq l rr hd c).toInt) : ∃ X Y X' Y' : Int64, f_X4_workOutMean 4 (nI c) 7 M = some (sJ (sJ M 7 0 (frU X Y)) 7 1 (frL X Y)) ∧ 0 ≤ X.toInt ∧ X.toInt ≤ 43486543872 ∧ 0 < Y.toInt ∧ Y.toInt ≤ 21743271936 ∧ 0 ≤ X'.toInt ∧ X'.toInt ≤ 43486543872 ∧ 0 < Y'.toInt ∧ Y'.toInt ≤ 21743271936 ∧ X.toInt * Y'.toInt = X'.toInt * Y.toInt ∧ ∀ Ma y, NetR kd rr hd rm cm wy Ma → mJ Ma 1 18 = u → mJ Ma 1 19 = l → f_X9_mean_b49 1 (nI c) y Ma = f_X9_mean_b153 1 y X' Y' Ma := by
  obtain ⟨g, g1, g2, g3, g4, g5, g6, g7⟩ := fr_f u0 w0
  have kk := (w c hc).1
  have hh' := (w c hc).2.2.1
  have k3 : nI (kd c) = 3 ↔ kd c = 3 := by rw [show (3 : Int32) = nI 3 from rfl, n_inj (by omega) (by omega)]
  have k2 : nI (hd c) = 2 ↔ hd c = 2 := by rw [show (2 : Int32) = nI 2 from rfl, n_inj (by omega) (by omega)]
  have e2 : (2 : Int64).toInt = 2 := rfl
  have rf : ∀ Ma y, NetR kd rr hd rm cm wy Ma → mJ Ma 1 18 = u → mJ Ma 1 19 = l → f_X9_mean_b49 1 (nI c) y Ma = f_X9_mean_b153 1 y (if kd c = 3 then u else if hd c = 2 then (2 * u) * wq l rr hd c else u) (if kd c = 3 then wq l rr hd c else if hd c = 2 then (wq l rr hd c * wq l rr hd c) - (u * u) else wq l rr hd c - u) Ma := by
    intro Ma y nR hu' hl'
    have q := ((nR.1 c hc).2.1 h9)
    unfold f_X9_mean_b49 f_X9_mean_b107
    simp only [s_bears nR w hc h9, nm_q, bd_s, hu', hl', ck_k hc (show 4 < 1000 by omega), nI_cl (show c < 2 ^ 31 by omega), fld_1_9, fld_1_11, q.1, q.2.2.1, k3, k2]
    show (if kd c = 3 then if kd c = 3 then f_X9_mean_b153 1 y u (wq l rr hd c) Ma else _ else _) = _
    by_cases e : kd c = 3
    · simp only [if_pos e]
    · simp only [if_neg e]
      by_cases e' : hd c = 2
      · simp only [if_pos e']; rfl
      · simp only [if_neg e']; rfl
  generalize hW : wq l rr hd c = W at *
  generalize hA : frU u W = A at *
  generalize hB : frL u W = B at *
  have mx : ∀ X Y, X.toInt ≠ -9223372036854775808 → Y.toInt ≠ -9223372036854775808 → Y.toInt ≠ 0 → X = (if kd c = 3 then A else if hd c = 2 then (2 * A) * B else A) → Y = (if kd c = 3 then B else if hd c = 2 then (B * B) - (A * A) else B - A) → f_X4_workOutMean 4 (nI c) 7 M = some (sJ (sJ M 7 0 (frU X Y)) 7 1 (frL X Y)) := by
    intro X Y x1 y1 y2 hX hY
    have st := s_set (a := 7) (u := X) (l := Y) M x1 y1 y2
    unfold f_X4_workOutMean
    simp only [s_has n w hc, if_neg h9, nm_q, bd_s, show ¬ ((1 : Int32) = 0) by decide, if_false, ck_k hc (show 4 < 1000 by omega), nI_cl (show c < 2 ^ 31 by omega), fld_4_0, fld_4_4, elm_22, (n.1 c hc).1, (n.1 c hc).2.2.1, hu, hl, k3, k2]
    by_cases e : kd c = 3
    · rw [if_pos e] at hX hY ⊢
      rw [hX, hY] at st ⊢
      rw [st, bd_s]
    · rw [if_neg e] at hX hY ⊢
      by_cases e' : hd c = 2
      · rw [if_pos e'] at hX hY ⊢
        rw [hX, hY] at st ⊢
        rw [st, bd_s]
      · rw [if_neg e'] at hX hY ⊢
        rw [hX, hY] at st ⊢
        rw [st, bd_s]
  by_cases e : kd c = 3
  · simp only [if_pos e] at rf mx
    exact ⟨A, B, u, W, mx A B (by omega) (by omega) (by omega) rfl rfl, g4, by omega, g5, by omega, u0, by omega, w0, by omega, by rw [g2, g3]; grind, rf⟩
  · have ult : u.toInt < W.toInt := by rcases nf with hz | hz; exact absurd hz e; exact hz
    have alt : A.toInt < B.toInt := by
      rw [g2, g3] at ult
      exact Int.lt_of_mul_lt_mul_left ult (by omega)
    simp only [if_neg e] at rf mx
    by_cases e' : hd c = 2
    · simp only [if_pos e'] at rf mx
      have x2 : (2 * u).toInt = 2 * u.toInt := by rw [l_mul (by rw [e2]; omega) (by rw [e2]; omega), e2]
      have a2 : (2 * A).toInt = 2 * A.toInt := by rw [l_mul (by rw [e2]; omega) (by rw [e2]; omega), e2]
      have m1 := l_m2 (x := 2 * u) (y := W) (p := 294912) (q := 147456) (by omega) (by omega) (by omega) (by omega) (by decide)
      have m2 := l_m2 (x := 2 * A) (y := B) (p := 294912) (q := 147456) (by omega) (by omega) (by omega) (by omega) (by decide)
      have m3 := l_m2 (x := W) (y := W) (p := 147456) (q := 147456) (by omega) (by omega) (by omega) (by omega) (by decide)
      have m4' := l_m2 (x := u) (y := u) (p := 147456) (q := 147456) (by omega) (by omega) (by omega) (by omega) (by decide)
      have m5' := l_m2 (x := B) (y := B) (p := 147456) (q := 147456) (by omega) (by omega) (by omega) (by omega) (by decide)
      have m6 := l_m2 (x := A) (y := A) (p := 147456) (q := 147456) (by omega) (by omega) (by omega) (by omega) (by decide)
      have q1 := i_sq u0 ult
      have q2 := i_sq g4 alt
      have s1 : (W * W - u * u).toInt = W.toInt * W.toInt - u.toInt * u.toInt := by rw [l_sub (by rw [m3.1, m4'.1]; omega) (by rw [m3.1, m4'.1]; omega), m3.1, m4'.1]
      have s2 : (B * B - A * A).toInt = B.toInt * B.toInt - A.toInt * A.toInt := by rw [l_sub (by rw [m5'.1, m6.1]; omega) (by rw [m5'.1, m6.1]; omega), m5'.1, m6.1]
      refine ⟨2 * A * B, B * B - A * A, 2 * u * W, W * W - u * u, mx _ _ (by omega) (by omega) (by omega) rfl rfl, by omega, by omega, by omega, by omega, by omega, by omega, by omega, by omega, ?_, rf⟩
      rw [m2.1, s1, m1.1, s2, a2, x2, g2, g3]
      grind
    · simp only [if_neg e'] at rf mx
      have s1 : (W - u).toInt = W.toInt - u.toInt := by rw [l_sub (by omega) (by omega)]
      have s2 : (B - A).toInt = B.toInt - A.toInt := by rw [l_sub (by omega) (by omega)]
      refine ⟨A, B - A, u, W - u, mx _ _ (by omega) (by omega) (by omega) rfl rfl, by omega, by omega, by omega, by omega, by omega, by omega, by omega, by omega, ?_, rf⟩
      rw [s1, s2, g2, g3]
      grind
theorem al_mean (x y : Int32) : Alike (f_X8_mean 0 x y) (f_X9_mean 1 x y) := by
  intro M h
  rcases fl_split h x with ⟨e1, e2⟩ | ⟨e1, e2⟩ | ⟨c, kd, rr, hd, rm, cm, wy, M1, hc, rfl, w, n1, n2, h9, s1, s1', e1, e2⟩
  · refine ⟨-1, M, M, ?_, ?_, h⟩
    · unfold f_X8_mean
      simp only [e1, nm_q, bd_s, show ¬ ((-1 : Int32) = 0) by decide, if_false]
    · unfold f_X9_mean
      simp only [e2, nm_q, bd_s, show ¬ ((0 : Int32) ≤ -1) by decide, if_false]
  · refine ⟨-3, RF M 1, RM (RF M 1) 1, ?_, ?_, inv_ref h (by omega) (by omega) (Sc.rf _) (Sc.rf _)⟩
    · unfold f_X8_mean
      simp only [e1, nm_q, bd_s, show ¬ ((-3 : Int32) = 0) by decide, if_false]
    · unfold f_X9_mean
      simp only [e2, nm_q, bd_s, show ¬ ((0 : Int32) ≤ -3) by decide, if_false]
  · by_cases hk0 : kpM kd cm wy = 0
    · simp only [if_pos hk0] at e1 e2
      obtain ⟨u, l, hu, hl, u0, u1, l0, l1, hP, hW, hR⟩ := flow_num w hk0 hc rfl
      have n1' : NetC kd rr hd rm cm wy M1 := n1.sc (fun a k q => s1.1 a k (Or.inl q))
      by_cases hp : gF kd 4 0 = true
      · obtain ⟨M2, w1, w2, w3, w4, w5, w6⟩ := s_workOut n1' w hc h9 rfl hu hl u0 l0 l1 hP hW
        have s2 : Sc M M2 := s1.tr w2
        have n3 : NetC kd rr hd rm cm wy M2 := n1.sc (fun a k q => s2.1 a k (Or.inl q))
        have hq := wq_I (l := l) w hc l0 l1
        have of := s_overfull n3 w hc h9 u0 hq.2.1 w5 w6
        have hpX := s_prodX n1' w
        rw [if_pos hp] at hpX
        by_cases nf : kd c = 3 ∨ u.toInt < (wq l rr hd c).toInt
        · rw [if_pos nf] at of
          obtain ⟨X, Y, X', Y', m1, x0, x1, y0, y1, x2, x3, y2, y3, hXY, mR⟩ := s_mean2 n3 w hc h9 u0 u1 hq.2.1 hq.2.2 w5 w6 nf
          have hum := l_bd u
          have fe := fr_eq (u := X) (l := Y) (u2 := X') (l2 := Y') (by omega) (by omega) (by omega) (by omega) (by omega) (by omega) hXY
          by_cases hy : y = 0
          · have n2' : NetR kd rr hd rm cm wy (sJ (sJ M2 7 0 (frU X Y)) 7 1 (frL X Y)) := n2.sc (fun a k q => s2.1 a k (Or.inr q))
            obtain ⟨M3, r1, r2, r3, r4⟩ := hR _ n2'
            have n4 : NetR kd rr hd rm cm wy M3 := n2'.sc (fun a k q => r2.1 a k (Or.inr q))
            have hpR := s_prodR n4 w
            rw [if_pos hp] at hpR
            have isf := s_isFull n4 w hc h9 r3 r4
            rw [if_pos nf] at isf
            refine ⟨1, sJ (sJ M2 7 0 (frU X Y)) 7 1 (frL X Y), sJ (sJ M3 1 3 (frU X Y)) 1 4 (frL X Y), ?_, ?_, inv_frac h s2 r2⟩
            · unfold f_X8_mean f_X8_mean_b76
              simp only [e1, nm_q, bd_s, if_true, fld_0_1, fld_0_5, hpX, show ¬ ((1 : Int32) = 0) by decide, if_false, w1, of, if_pos hy, m1]
            · unfold f_X9_mean
              simp only [e2 _ n2', r1, nm_q, bd_s, show (0 : Int32) ≤ 0 by decide, if_true, hpR, show ¬ ((1 : Int32) = 0) by decide, if_false, isf, if_pos hy, mR M3 y n4 r3 r4]
              unfold f_X9_mean_b153
              rw [if_pos hy, s_share M3 (by omega) (by omega) (by omega), bd_s, fe.1, fe.2]
          · by_cases hz : u.toInt = 0
            · have n2' : NetR kd rr hd rm cm wy (RF M2 4) := nr_RF (n2.sc (fun a k q => s2.1 a k (Or.inr q)))
              obtain ⟨M3, r1, r2, r3, r4⟩ := hR _ n2'
              have n4 : NetR kd rr hd rm cm wy M3 := n2'.sc (fun a k q => r2.1 a k (Or.inr q))
              have hpR := s_prodR n4 w
              rw [if_pos hp] at hpR
              have isf := s_isFull n4 w hc h9 r3 r4
              rw [if_pos nf] at isf
              have c0 : lg_cmp u 0 = 0 := (q_eq u 0).mpr hz
              refine ⟨-3, RF M2 4, RM M3 4, ?_, ?_, inv_ref h (by omega) (by omega) s2 r2⟩
              · unfold f_X8_mean
                simp only [e1, nm_q, bd_s, if_true, fld_0_1, fld_4_3, hpX, show ¬ ((1 : Int32) = 0) by decide, if_false, w1, of, if_neg hy, w3, c0, s_ref4]
              · unfold f_X9_mean
                simp only [e2 _ n2', r1, nm_q, bd_s, show (0 : Int32) ≤ 0 by decide, if_true, hpR, show ¬ ((1 : Int32) = 0) by decide, if_false, isf, if_neg hy, r3, c0, s_met4]
            · obtain ⟨g, g1, g2, g3, g4, g5, g6, g7⟩ := fr_f x0 y0
              generalize hfx : frU X Y = fx at *
              generalize hfy : frL X Y = fy at *
              have c0 : ¬ lg_cmp u 0 = 0 := fun hc => hz ((q_eq u 0).mp hc)
              have p1 := l_m2 (x := fx) (y := l) (p := 43486543872) (q := 6144) (by omega) (by omega) (by omega) (by omega) (by decide)
              have p2 := l_m2 (x := fy) (y := u) (p := 21743271936) (q := 629856) (by omega) (by omega) (by omega) (by omega) (by decide)
              have p3' := l_m2 (x := X') (y := l) (p := 43486543872) (q := 6144) (by omega) (by omega) (by omega) (by omega) (by decide)
              have p4' := l_m2 (x := Y') (y := u) (p := 21743271936) (q := 629856) (by omega) (by omega) (by omega) (by omega) (by decide)
              have q1 : 0 < fy.toInt * u.toInt := Int.mul_pos g5 (by omega)
              have q2 : 0 < Y'.toInt * u.toInt := Int.mul_pos y2 (by omega)
              have cr : fx.toInt * Y'.toInt = X'.toInt * fy.toInt := by
                rw [g2, g3] at hXY
                have h5 : g * (fx.toInt * Y'.toInt) = g * (X'.toInt * fy.toInt) := by grind
                exact Int.eq_of_mul_eq_mul_left (by omega) h5
              have fe2 := fr_eq (u := fx * l) (l := fy * u) (u2 := X' * l) (l2 := Y' * u) (by omega) (by omega) (by omega) (by omega) (by omega) (by omega) (by rw [p1.1, p2.1, p3'.1, p4'.1]; grind)
              have r70 : mJ (sJ (sJ M2 7 0 fx) 7 1 fy) 7 0 = fx := by rw [mJ_sJ, if_neg (by omega), mJ_sJ, if_pos ⟨rfl, rfl⟩]
              have r71 : mJ (sJ (sJ M2 7 0 fx) 7 1 fy) 7 1 = fy := by rw [mJ_sJ, if_pos ⟨rfl, rfl⟩]
              have r80 : mJ (sJ (sJ M2 7 0 fx) 7 1 fy) 8 0 = u := by rw [mJ_sJ, if_neg (by omega), mJ_sJ, if_neg (by omega)]; exact w3
              have r81 : mJ (sJ (sJ M2 7 0 fx) 7 1 fy) 8 1 = l := by rw [mJ_sJ, if_neg (by omega), mJ_sJ, if_neg (by omega)]; exact w4
              have st := s_set (a := 7) (u := fx * l) (l := fy * u) (sJ (sJ M2 7 0 fx) 7 1 fy) (by omega) (by omega) (by omega)
              have sj7 : sJ (sJ (sJ (sJ M2 7 0 fx) 7 1 fy) 7 0 (frU (fx * l) (fy * u))) 7 1 (frL (fx * l) (fy * u)) = sJ (sJ M2 7 0 (frU (fx * l) (fy * u))) 7 1 (frL (fx * l) (fy * u)) := by
                unfold sJ
                refine Prod.ext rfl ?_
                funext a k
                show (if a = 7 ∧ k = 1 then _ else if a = 7 ∧ k = 0 then _ else if a = 7 ∧ k = 1 then _ else if a = 7 ∧ k = 0 then _ else M2.2 a k) = if a = 7 ∧ k = 1 then _ else if a = 7 ∧ k = 0 then _ else M2.2 a k
                by_cases hz1 : a = 7 ∧ k = 1
                · rw [if_pos hz1, if_pos hz1]
                · by_cases hz2 : a = 7 ∧ k = 0
                  · simp only [if_neg hz1, if_pos hz2]
                  · simp only [if_neg hz1, if_neg hz2]
              rw [sj7] at st
              generalize hfU : frU (fx * l) (fy * u) = FU' at *
              generalize hfL : frL (fx * l) (fy * u) = FL' at *
              have n2' : NetR kd rr hd rm cm wy (sJ (sJ M2 7 0 FU') 7 1 FL') := n2.sc (fun a k q => s2.1 a k (Or.inr q))
              obtain ⟨M3, r1, r2, r3, r4⟩ := hR _ n2'
              have n4 : NetR kd rr hd rm cm wy M3 := n2'.sc (fun a k q => r2.1 a k (Or.inr q))
              have hpR := s_prodR n4 w
              rw [if_pos hp] at hpR
              have isf := s_isFull n4 w hc h9 r3 r4
              rw [if_pos nf] at isf
              refine ⟨1, sJ (sJ M2 7 0 FU') 7 1 FL', sJ (sJ M3 1 3 FU') 1 4 FL', ?_, ?_, inv_frac h s2 r2⟩
              · unfold f_X8_mean f_X8_mean_b76
                simp only [e1, nm_q, bd_s, if_true, fld_0_1, fld_0_5, fld_4_3, hpX, show ¬ ((1 : Int32) = 0) by decide, if_false, w1, of, if_neg hy, w3, c0, m1, r70, r71, r80, r81, st]
              · unfold f_X9_mean
                simp only [e2 _ n2', r1, nm_q, bd_s, show (0 : Int32) ≤ 0 by decide, if_true, hpR, show ¬ ((1 : Int32) = 0) by decide, if_false, isf, if_neg hy, r3, c0, mR M3 y n4 r3 r4]
                unfold f_X9_mean_b153
                rw [if_neg hy, r3, r4, s_share M3 (by omega) (by omega) (by omega), bd_s, ← fe2.1, ← fe2.2]
        · rw [if_neg nf] at of
          have n2' : NetR kd rr hd rm cm wy M2 := n2.sc (fun a k q => s2.1 a k (Or.inr q))
          obtain ⟨M3, r1, r2, r3, r4⟩ := hR _ n2'
          have n4 : NetR kd rr hd rm cm wy M3 := n2'.sc (fun a k q => r2.1 a k (Or.inr q))
          have hpR := s_prodR n4 w
          rw [if_pos hp] at hpR
          have isf := s_isFull n4 w hc h9 r3 r4
          rw [if_neg nf] at isf
          refine ⟨-4, M2, M3, ?_, ?_, h.sc (s2.tr r2)⟩
          · unfold f_X8_mean
            simp only [e1, nm_q, bd_s, if_true, fld_0_1, hpX, show ¬ ((1 : Int32) = 0) by decide, if_false, w1, of]
          · unfold f_X9_mean
            simp only [e2 _ n2', r1, nm_q, bd_s, show (0 : Int32) ≤ 0 by decide, if_true, hpR, show ¬ ((1 : Int32) = 0) by decide, if_false, isf]
      · have n2' : NetR kd rr hd rm cm wy M1 := n2.sc (fun a k q => s1.1 a k (Or.inr q))
        obtain ⟨M3, r1, r2, r3, r4⟩ := hR _ n2'
        have n4 : NetR kd rr hd rm cm wy M3 := n2'.sc (fun a k q => r2.1 a k (Or.inr q))
        have hpX := s_prodX n1' w
        have hpR := s_prodR n4 w
        rw [if_neg hp] at hpX hpR
        refine ⟨-4, M1, M3, ?_, ?_, h.sc (s1.tr r2)⟩
        · unfold f_X8_mean
          simp only [e1, nm_q, bd_s, if_true, fld_0_1, hpX]
        · unfold f_X9_mean
          simp only [e2 _ n2', r1, nm_q, bd_s, show (0 : Int32) ≤ 0 by decide, if_true, hpR]
    · simp only [if_neg hk0] at e1 e2
      have n2' : NetR kd rr hd rm cm wy M1 := n2.sc (fun a k q => s1.1 a k (Or.inr q))
      refine ⟨-4, M1, M1, ?_, ?_, h.sc s1⟩
      · unfold f_X8_mean
        simp only [e1, nm_q, bd_s, show ¬ ((-4 : Int32) = 0) by decide, if_false]
      · unfold f_X9_mean
        simp only [e2 _ n2', nm_q, bd_s, show ¬ ((0 : Int32) ≤ -4) by decide, if_false]

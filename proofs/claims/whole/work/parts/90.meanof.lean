/-! calls on a round, in common; round, meanOf -/
theorem al_rd {fX fR gX gR : Int32 → Int32 → Mm → Option (Int32 × Mm)} (hX : ∀ x y M, fX x y M = bd (f_X8_judgeRound 0 x y M) fun q1 => if q1.1 = 0 then bd (f_X5_load (fld 0 2) (fld 0 1) q1.2) fun M3 => gX x y M3 else some (q1.1, q1.2)) (hR : ∀ x y M, fR x y M = bd (f_X9_isMany y M) fun q1 => if q1.1 = 0 then some (-1, q1.2) else bd (f_X9_askedClosed 1 x q1.2) fun q3 => if 0 ≤ q3.1 then gR x y q3.2 else some (q3.1, q3.2)) (core : ∀ (M M2 : Mm) (c n : Nat) (kd rr hd rm cm : Nf) (wy : Nat → Nf), Inv M → Sc M M2 → c < 4 → 1 ≤ n → n ≤ 4 → wfN kd rr hd rm cm wy → kd c ≠ 9 → ClN kd cm wy → LdC kd rr hd wy M2 → ∃ (r : Int32) (Ma : Mm), gX (nI c) (nI n) M2 = some (r, Ma) ∧ (∀ a k, pR a k → mI Ma a k = mI M a k) ∧ ∀ Mv, Sc Ma Mv → (∀ c, c < 4 → mJ Mv 98 c = lN (vn kd wy c)) → NetR kd rr hd rm cm wy Mv → ∃ Mb, gR (nI c) (nI n) Mv = some (r, Mb) ∧ Inv Mb) : ∀ x y, Alike (fX x y) (fR x y) := by
  intro x y M h
  rcases n_split y with ⟨n, hn1, hn4, rfl⟩ | hy
  · have hyy : 1 ≤ (nI n).toInt ∧ (nI n).toInt ≤ 4 := by rw [t_nI (by omega)]; omega
    rcases rd_split h x (nI n) hyy with ⟨e1, e2⟩ | ⟨e1, e2⟩ | ⟨c, kd, rr, hd, rm, cm, wy, M1, hc, rfl, w, n1, n2, h9, s1, s1', hx⟩
    · refine ⟨-1, M, M, ?_, ?_, h⟩
      · rw [hX, e1]
        simp only [nm_q, bd_s, show ¬ ((-1 : Int32) = 0) by decide, if_false]
      · rw [hR, many_ok hn1 hn4]
        simp only [nm_q, bd_s, show ¬ ((1 : Int32) = 0) by decide, if_false, e2, show ¬ ((0 : Int32) ≤ -1) by decide]
    · refine ⟨-3, RF M 1, RM (RF M 1) 1, ?_, ?_, inv_ref h (by omega) (by omega) (Sc.rf _) (Sc.rf _)⟩
      · rw [hX, e1]
        simp only [nm_q, bd_s, show ¬ ((-3 : Int32) = 0) by decide, if_false]
      · rw [hR, many_ok hn1 hn4]
        simp only [nm_q, bd_s, show ¬ ((1 : Int32) = 0) by decide, if_false, e2, show ¬ ((0 : Int32) ≤ -3) by decide]
    · rcases hx with ⟨_, e1, e2⟩ | ⟨cl, e1, e2⟩
      · have n2' : NetR kd rr hd rm cm wy M1 := n2.sc (fun a k q => s1.1 a k (Or.inr q))
        refine ⟨-4, M1, M1, ?_, ?_, h.sc s1⟩
        · rw [hX, e1]
          simp only [nm_q, bd_s, show ¬ ((-4 : Int32) = 0) by decide, if_false]
        · rw [hR, many_ok hn1 hn4]
          simp only [nm_q, bd_s, show ¬ ((1 : Int32) = 0) by decide, if_false, e2 _ n2', show ¬ ((0 : Int32) ≤ -4) by decide]
      · have clN := cl_N cl
        have n1' : NetC kd rr hd rm cm wy M1 := n1.sc (fun a k q => s1.1 a k (Or.inl q))
        obtain ⟨M2, l1, l2, l3⟩ := s_rload n1' w clN
        obtain ⟨r, Ma, g1, g2, g3⟩ := core M M2 c n kd rr hd rm cm wy h (s1.tr l2) hc hn1 hn4 w h9 clN l3
        have na : NetR kd rr hd rm cm wy Ma := n2.sc g2
        obtain ⟨Mv, v1, v2, v3⟩ := s_setVisits na w clN
        obtain ⟨Mb, b1, b2⟩ := g3 Mv v2 v3 (na.sc (fun a k q => v2.1 a k (Or.inr q)))
        refine ⟨r, Ma, Mb, ?_, ?_, b2⟩
        · rw [hX, e1]
          simp only [nm_q, bd_s, if_true, fld_0_1, fld_0_2, l1, g1]
        · rw [hR, many_ok hn1 hn4]
          simp only [nm_q, bd_s, show ¬ ((1 : Int32) = 0) by decide, if_false, e2 _ na, v1, show (0 : Int32) ≤ 0 by decide, if_true, b1]
  · refine ⟨-1, M, M, ?_, ?_, h⟩
    · rw [hX, jd_bad hy]
      simp only [nm_q, bd_s, show ¬ ((-1 : Int32) = 0) by decide, if_false]
    · rw [hR, many_bad hy]
      simp only [nm_q, bd_s, if_true]
theorem s_mOf {M : Mm} {kd hd q : Nf} (h : LdW kd hd q M) (o : okKH kd hd) {n c : Nat} (hn : n ≤ 4) (hc : c < 4) : ∃ M', f_X5_tellMeanOf 5 (nI c) (nI n) 7 M = f_X5_tellMeanOf_b69 5 7 (lN (SCn kd hd q n)) (lN (slN (fun t => wC kd hd q (sO t) * sO t c) (en 35 n))) M' ∧ St M M' := by
  have lp : ∀ (k t m a b : Nat) (Mj : Mm), k ≤ 35 → k + 1 < m → t < 625 → tot t ≤ 4 → St M Mj → (∀ c, c < 4 → mI Mj 83 c = nI (sO t c)) → ∃ M', f_X5_tellMeanOf_b17 5 m (nI c) 7 (lN a) (lN b) 1 (nI (35 - k)) Mj = f_X5_tellMeanOf_b69 5 7 (lN (a + slN (fun t => wC kd hd q (sO t)) (en k t))) (lN (b + slN (fun t => wC kd hd q (sO t) * sO t c) (en k t))) M' ∧ St M M' := by
    intro k
    induction k with
    | zero =>
      intro t m a b Mj k1 k2 t1 t2 hS hm
      obtain ⟨m, rfl⟩ : ∃ j, m = j + 1 := ⟨m - 1, by omega⟩
      refine ⟨Mj, ?_, hS⟩
      rw [f_X5_tellMeanOf_b17_s]
      unfold f_X5_tellMeanOf_b17B
      rw [if_neg (by decide), if_pos (by decide)]
      rfl
    | succ k ih =>
      intro t m a b Mj k1 k2 t1 t2 hS hm
      obtain ⟨m, rfl⟩ : ∃ j, m = j + 1 := ⟨m - 1, by omega⟩
      have sw := s_weight (LdW_St h hS) o (fun c hc => sO_le t2 hc) hm
      have ns := s_next5 t1 t2 hm
      have sl := sO_le t2 hc
      rw [f_X5_tellMeanOf_b17_s]
      unfold f_X5_tellMeanOf_b17B
      rw [if_neg (by decide), if_neg (by rw [i_le, t_nI (by omega), show (35 : Int32).toInt = 35 from rfl]; omega), sw, bd_s, nm_q, lN_add, ck_k hc (by omega), nm_q, nI_cl (by omega), fld_5_6]
      show ∃ M', (bd (f_X5_nextState 5 Mj) fun q8 => nm (nI (35 - (k + 1)) + 1) fun t9 => f_X5_tellMeanOf_b17 5 m (nI c) 7 (lN (a + wC kd hd q (sO t))) (lN b + lN (wC kd hd q (sO t)) * Int32.toInt64 (mI Mj 83 c)) q8.1 t9 q8.2) = f_X5_tellMeanOf_b69 5 7 (lN (a + (wC kd hd q (sO t) + slN (fun t => wC kd hd q (sO t)) (oL (nx t) (en k))))) (lN (b + (wC kd hd q (sO t) * sO t c + slN (fun t => wC kd hd q (sO t) * sO t c) (oL (nx t) (en k))))) M' ∧ St M M'
      rw [← Nat.add_assoc, ← Nat.add_assoc, hm c hc, t64N (by omega), lN_mul, lN_add]
      cases hx : nx t with
      | none =>
        rw [ns.1 hx, bd_s, nm_q, nI_1]
        obtain ⟨m, rfl⟩ : ∃ j, m = j + 1 := ⟨m - 1, by omega⟩
        refine ⟨Mj, ?_, hS⟩
        rw [f_X5_tellMeanOf_b17_s]
        unfold f_X5_tellMeanOf_b17B
        rw [if_pos rfl]
        rfl
      | some t' =>
        obtain ⟨M2, n1, n2, n3⟩ := ns.2 t' hx
        have q := nx_ok hx t1 t2
        rw [n1, bd_s, nm_q, nI_1, show 35 - (k + 1) + 1 = 35 - k by omega]
        exact ih t' m _ _ M2 (by omega) (by omega) q.1 (by omega) (hS.tr n3) n2
  obtain ⟨M1, b1, b2, b3⟩ := s_begin (M := M) hn
  unfold f_X5_tellMeanOf
  rw [b1, bd_s]
  have := lp 35 n fuel 0 0 M1 (by omega) (by show 36 < 1000; omega) (by omega) (by rw [tot_n hn]; exact hn) b3 b2
  rw [Nat.zero_add, Nat.zero_add] at this
  exact this
theorem al_meanOf : ∀ x y, Alike (f_X8_meanOf 0 x y) (f_X9_meanOf 1 x y) := by
  refine al_rd (gX := fun x y M3 => bd (f_X5_tellMeanOf (fld 0 2) x y (fld 0 5) M3) fun M4 => some (1, M4)) (gR := fun x y M => bd (f_X9_sumOf 1 y x M) fun q5 => bd (f_X9_sumOf 1 y (-9) q5.2) fun q6 => bd (f_X9_share 1 q5.1 q6.1 1 q6.2) fun q7 => some (q7.1, q7.2)) (fun _ _ _ => rfl) (fun _ _ _ => rfl) ?_
  intro M M2 c n kd rr hd rm cm wy h s2 hc hn1 hn4 w h9 cl l3
  have cx := cx_of w cl
  obtain ⟨M3, a1, a2⟩ := s_mOf (LdW_of l3) cx.1 hn4 hc
  have q2 := sums cx (n := n) hn4
  have al := sum_alike cx.1 cx.2.1 cx.2.2.2.1 hn4 (fun t => sO t c)
  have bs := SR_le (kd := kd) (hd := hd) cx.2.2.2.2.1 hn4 (T := fun t => sO t c) (K := 4) (fun t ht => sO_le ht hc)
  have bc' := SC_le (kd := kd) (hd := hd) cx.2.2.2.2.1 hn4 (T := fun t => sO t c) (K := 4) (fun t ht => sO_le ht hc)
  have p1 := p768 (n := n) hn4
  have p2 : 4 * (768 ^ n * 3538944) ≤ 4 * (347892350976 * 3538944) := Nat.mul_le_mul (Nat.le_refl _) (Nat.mul_le_mul p1 (Nat.le_refl _))
  have bB : SRm kd hd (sn kd rr wy) n ≤ 347892350976 * 3538944 := Nat.le_trans q2.2.2.1 (Nat.mul_le_mul p1 (Nat.le_refl _))
  generalize hA : SCn kd hd (sn kd rr wy) n = A at *
  generalize hB : SRm kd hd (sn kd rr wy) n = B at *
  generalize hC : slN (fun t => wC kd hd (sn kd rr wy) (sO t) * sO t c) (en 35 n) = C at *
  generalize hD : slN (fun t => PR kd hd (sn kd rr wy) (sO t) 4 * sO t c) (gl (gd kd n) 625 0) = D at *
  have s3 : Sc M M3 := s2.tr a2.sc
  have fe := fr_N (u := C) (l := A) (u2 := D) (l2 := B) (by omega) (by omega) (by omega) (by omega) (by omega) (by omega) (by
    have q := q2.1
    generalize PH kd hd 4 = P at *
    have e1 : C * (24 * B) = C * (P * A) := by rw [q]
    have e2 : A * (24 * D) = A * (P * C) := by rw [al]
    have : 24 * (C * B) = 24 * (D * A) := by grind
    exact Nat.eq_of_mul_eq_mul_left (by omega) this)
  refine ⟨1, sJ (sJ M3 7 0 (frU (lN C) (lN A))) 7 1 (frL (lN C) (lN A)), ?_, fun a k q => s3.1 a k (Or.inr q), fun Mv sv hv nv => ?_⟩
  · show (bd (f_X5_tellMeanOf (fld 0 2) (nI c) (nI n) (fld 0 5) M2) fun M4 => some (1, M4)) = _
    rw [fld_0_2, fld_0_5, a1]
    unfold f_X5_tellMeanOf_b69
    rw [set_N M3 (by omega) (by omega) (by omega), bd_s, bd_s]
  · have ldr := LdR_of nv hv
    obtain ⟨M5, d1, d2⟩ := s_sumOf ldr cx.2.2.1 cx.1 hn4 (x := nI c) (T := fun t => sO t c) (Or.inr ⟨c, hc, rfl, fun _ => rfl⟩)
    obtain ⟨M6, f1, f2⟩ := s_sumR (LdR_SR ldr d2) cx hn4
    rw [hD] at d1
    rw [hB] at f1
    have sh := share_N (x := 1) M6 (show D < 2 ^ 63 by omega) (show B < 2 ^ 63 by omega) (show 0 < B by omega)
    rw [← fe.1, ← fe.2] at sh
    refine ⟨sJ (sJ M6 1 3 (frU (lN C) (lN A))) 1 4 (frL (lN C) (lN A)), ?_, inv_frac h s3 (sv.tr (d2.sc.tr f2.sc))⟩
    show (bd (f_X9_sumOf 1 (nI n) (nI c) Mv) fun q5 => bd (f_X9_sumOf 1 (nI n) (-9) q5.2) fun q6 => bd (f_X9_share 1 q5.1 q6.1 1 q6.2) fun q7 => some (q7.1, q7.2)) = _
    rw [d1, bd_s, f1, bd_s, sh, bd_s]
theorem sj7 (M : Mm) (a b u l : Int64) : sJ (sJ (sJ (sJ M 7 0 a) 7 1 b) 7 0 u) 7 1 l = sJ (sJ M 7 0 u) 7 1 l := by
  unfold sJ
  refine Prod.ext rfl ?_
  funext x k
  show (if x = 7 ∧ k = 1 then _ else if x = 7 ∧ k = 0 then _ else if x = 7 ∧ k = 1 then _ else if x = 7 ∧ k = 0 then _ else M.2 x k) = if x = 7 ∧ k = 1 then _ else if x = 7 ∧ k = 0 then _ else M.2 x k
  by_cases hz1 : x = 7 ∧ k = 1
  · rw [if_pos hz1, if_pos hz1]
  · by_cases hz2 : x = 7 ∧ k = 0
    · simp only [if_neg hz1, if_pos hz2]
    · simp only [if_neg hz1, if_neg hz2]
theorem al_round : ∀ x y, Alike (f_X8_round 0 x y) (f_X9_round 1 x y) := by
  refine al_rd (gX := fun x y M3 => bd (f_X5_tellThrough (fld 0 2) x y (fld 0 5) M3) fun M4 => bd (f_X2_set (fld 0 5) ((Int32.toInt64 y) * (mJ M4 (fld 0 5) 1)) (mJ M4 (fld 0 5) 0) M4) fun M5 => some (1, M5)) (gR := fun x y M => bd (f_X9_sumOf 1 y (-9) M) fun q5 => ck x 4 (bd (f_X9_sumOf 1 (y - 1) (-9) q5.2) fun q7 => bd (f_X9_share 1 ((Int32.toInt64 y) * q5.1) (((mJ q5.2 (fld 1 20) (Int32.toNatClampNeg x)) * 12) * q7.1) 1 q7.2) fun q8 => some (q8.1, q8.2))) (fun _ _ _ => rfl) (fun _ _ _ => rfl) ?_
  intro M M2 c n kd rr hd rm cm wy h s2 hc hn1 hn4 w h9 cl l3
  have cx := cx_of w cl
  have vb := vn_b w cl hc
  obtain ⟨M3, a1, a2⟩ := s_sumC (LdW_of l3) cx (n := n - 1) (by omega)
  obtain ⟨M4, b1, b2⟩ := s_sumC (LdW_St (LdW_of l3) a2) cx (n := n) (by omega)
  have s4 : Sc M M4 := (s2.tr a2.sc).tr b2.sc
  have q1 := sums cx (n := n - 1) (by omega)
  have q2 := sums cx (n := n) (by omega)
  have cr := cross cx (n := n) (m := n - 1) (by omega) (by omega)
  generalize hA1 : SCn kd hd (sn kd rr wy) (n - 1) = A1 at *
  generalize hA : SCn kd hd (sn kd rr wy) n = A at *
  generalize hB1 : SRm kd hd (sn kd rr wy) (n - 1) = B1 at *
  generalize hB : SRm kd hd (sn kd rr wy) n = B at *
  have hv := vb.2.1 h9
  have p1 := p768 (n := n) hn4
  have p0 : 768 ^ (n - 1) ≤ 452984832 := by
    have : 768 ^ (n - 1) ≤ 768 ^ 3 := Nat.pow_le_pow_right (by omega) (by omega)
    omega
  have v3v := (l3 c hc).1
  generalize vn kd wy c = v at *
  have bU : 12 * v * A1 ≤ 768 * 292229574819840 := Nat.mul_le_mul (by omega) q1.2.2.2.2
  have bU2 : v * 12 * B1 ≤ 768 * (452984832 * 3538944) := Nat.mul_le_mul (by omega) (Nat.le_trans q1.2.2.1 (Nat.mul_le_mul p0 (Nat.le_refl _)))
  have bB : B ≤ 347892350976 * 3538944 := Nat.le_trans q2.2.2.1 (Nat.mul_le_mul p1 (Nat.le_refl _))
  have bnB : n * B ≤ 4 * (347892350976 * 3538944) := Nat.mul_le_mul hn4 bB
  have pU : 1 * 1 * 1 ≤ 12 * v * A1 := Nat.mul_le_mul (Nat.mul_le_mul (by omega) hv) q1.2.2.2.1
  have pU2 : 1 * 1 * 1 ≤ v * 12 * B1 := Nat.mul_le_mul (Nat.mul_le_mul hv (by omega)) q1.2.1
  obtain ⟨g, g1, g2, g3, g4, g5, g6, g7⟩ := fr_f (u := lN (12 * v * A1)) (l := lN A) (by rw [lN_T (by omega)]; omega) (by rw [lN_T (by omega)]; omega)
  rw [lN_T (by omega)] at g2 g3 g6 g7
  have ex : frU (lN (12 * v * A1)) (lN A) = lN (frU (lN (12 * v * A1)) (lN A)).toInt.natAbs := lN_of g4
  have ey : frL (lN (12 * v * A1)) (lN A) = lN (frL (lN (12 * v * A1)) (lN A)).toInt.natAbs := lN_of (by omega)
  generalize hfx : frU (lN (12 * v * A1)) (lN A) = fx at *
  generalize hfy : frL (lN (12 * v * A1)) (lN A) = fy at *
  have gx : ((12 * v * A1 : Nat) : Int) = g * ((fx.toInt.natAbs : Nat) : Int) := by rw [g2]; congr 1; omega
  have gy : ((A : Nat) : Int) = g * ((fy.toInt.natAbs : Nat) : Int) := by rw [g3]; congr 1; omega
  have X0 : fx.toInt.natAbs ≤ 12 * v * A1 := by omega
  have Y0 : fy.toInt.natAbs ≤ A := by omega
  have Y1 : 0 < fy.toInt.natAbs := by omega
  generalize fx.toInt.natAbs = X at *
  generalize fy.toInt.natAbs = Y at *
  have X1 : 0 < X := by
    rcases Nat.eq_zero_or_pos X with z | z
    · rw [z] at gx
      have hz0 : g * ((0 : Nat) : Int) = 0 := by simp
      rw [hz0] at gx
      omega
    · exact z
  have bnY : n * Y ≤ 4 * 292229574819840 := Nat.mul_le_mul hn4 (by omega)
  have gxN : 12 * v * A1 = g.natAbs * X := by
    have : ((12 * v * A1 : Nat) : Int) = ((g.natAbs * X : Nat) : Int) := by rw [gx, Int.natCast_mul, Int.natAbs_of_nonneg (by omega)]
    exact Int.ofNat.inj this
  have gyN : A = g.natAbs * Y := by
    have : ((A : Nat) : Int) = ((g.natAbs * Y : Nat) : Int) := by rw [gy, Int.natCast_mul, Int.natAbs_of_nonneg (by omega)]
    exact Int.ofNat.inj this
  have fe := fr_N (u := n * Y) (l := X) (u2 := n * B) (l2 := v * 12 * B1) (by omega) (by omega) (by omega) (by omega) X1 (by omega) (by
    have g0 : 0 < g.natAbs := by omega
    generalize g.natAbs = G at *
    apply Nat.eq_of_mul_eq_mul_left g0
    have e1 : n * A * (12 * v * B1) = n * B * (12 * v * A1) := by
      have : n * 12 * v * (A1 * B) = n * 12 * v * (B1 * A) := by rw [cr]
      grind
    rw [gxN, gyN] at e1
    grind)
  refine ⟨1, sJ (sJ M4 7 0 (frU (lN (n * Y)) (lN X))) 7 1 (frL (lN (n * Y)) (lN X)), ?_, fun a k q => s4.1 a k (Or.inr q), fun Mv sv hvv nv => ?_⟩
  · show (bd (f_X5_tellThrough (fld 0 2) (nI c) (nI n) (fld 0 5) M2) fun M4 => bd (f_X2_set (fld 0 5) ((Int32.toInt64 (nI n)) * (mJ M4 (fld 0 5) 1)) (mJ M4 (fld 0 5) 0) M4) fun M5 => some (1, M5)) = _
    have st := set_N (a := 7) M4 (show 12 * v * A1 < 2 ^ 63 by omega) (show A < 2 ^ 63 by omega) (show 0 < A by omega)
    rw [hfx, hfy] at st
    have r70 : mJ (sJ (sJ M4 7 0 fx) 7 1 fy) 7 0 = lN X := by rw [mJ_sJ, if_neg (by omega), mJ_sJ, if_pos ⟨rfl, rfl⟩]; exact ex
    have r71 : mJ (sJ (sJ M4 7 0 fx) 7 1 fy) 7 1 = lN Y := by rw [mJ_sJ, if_pos ⟨rfl, rfl⟩]; exact ey
    have st2 := set_N (a := 7) (sJ (sJ M4 7 0 fx) 7 1 fy) (show n * Y < 2 ^ 63 by omega) (show X < 2 ^ 63 by omega) X1
    rw [sj7] at st2
    unfold f_X5_tellThrough
    simp only [fld_0_2, fld_0_5, fld_5_0, nI_cl (show c < 2 ^ 31 by omega), ck_k hc (show 4 < 1000 by omega), v3v, n_dec hn1, a1, b1, show (12 : Int64) = lN 12 from rfl, lN_mul, st, nm_q, bd_s, r70, r71, t64N (show n < 2 ^ 31 by omega), st2]
  · have ldr := LdR_of nv hvv
    obtain ⟨M5, d1, d2⟩ := s_sumR ldr cx hn4
    obtain ⟨M6, f1, f2⟩ := s_sumR (LdR_SR ldr d2) cx (n := n - 1) (by omega)
    rw [hB] at d1
    rw [hB1] at f1
    have vv : mJ M5 98 c = lN v := by
      show M5.2 98 c = _
      rw [d2.2]
      have := hvv c hc
      have e := (l3 c hc).1
      rw [v3v] at e
      rw [e]
      exact this
    have sh := share_N (x := 1) M6 (show n * B < 2 ^ 63 by omega) (show v * 12 * B1 < 2 ^ 63 by omega) (show 0 < v * 12 * B1 by omega)
    rw [← fe.1, ← fe.2] at sh
    refine ⟨sJ (sJ M6 1 3 (frU (lN (n * Y)) (lN X))) 1 4 (frL (lN (n * Y)) (lN X)), ?_, inv_frac h s4 (sv.tr (d2.sc.tr f2.sc))⟩
    simp only [d1, nm_q, bd_s, ck_k hc (show 4 < 1000 by omega), n_dec hn1, f1, t64N (show n < 2 ^ 31 by omega), lN_mul, nI_cl (show c < 2 ^ 31 by omega), fld_1_20, vv, show (12 : Int64) = lN 12 from rfl, sh]

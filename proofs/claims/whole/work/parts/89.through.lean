/-! through, round, meanOf -/
theorem lN_T {a : Nat} (h : a < 2 ^ 63) : (lN a).toInt = (a : Int) := pk_lT h
theorem fr_N {u l u2 l2 : Nat} (h1 : u < 2 ^ 63) (h2 : l < 2 ^ 63) (h3 : u2 < 2 ^ 63) (h4 : l2 < 2 ^ 63) (p1 : 0 < l) (p2 : 0 < l2) (e : u * l2 = u2 * l) : frU (lN u) (lN l) = frU (lN u2) (lN l2) ∧ frL (lN u) (lN l) = frL (lN u2) (lN l2) := by
  have e' : (u : Int) * l2 = u2 * l := by exact_mod_cast e
  exact fr_eq (by rw [lN_T h1]; omega) (by rw [lN_T h2]; omega) (by rw [lN_T h3]; omega) (by rw [lN_T h4]; omega) (by rw [lN_T h2]; omega) (by rw [lN_T h4]; omega) (by rw [lN_T h1, lN_T h2, lN_T h3, lN_T h4]; exact e')
theorem set_N {a u l : Nat} (M : Mm) (h1 : u < 2 ^ 63) (h2 : l < 2 ^ 63) (p1 : 0 < l) : f_X2_set a (lN u) (lN l) M = some (sJ (sJ M a 0 (frU (lN u) (lN l))) a 1 (frL (lN u) (lN l))) := s_set M (by rw [lN_T h1]; omega) (by rw [lN_T h2]; omega) (by rw [lN_T h2]; omega)
theorem share_N {u l : Nat} {x : Int32} (M : Mm) (h1 : u < 2 ^ 63) (h2 : l < 2 ^ 63) (p1 : 0 < l) : f_X9_share 1 (lN u) (lN l) x M = some (x, sJ (sJ M 1 3 (frU (lN u) (lN l))) 1 4 (frL (lN u) (lN l))) := s_share M (by rw [lN_T h1]; omega) (by rw [lN_T h2]; omega) (by rw [lN_T h2]; omega)
/-- what holds of a closed net's numbers -/
def CxN (kd rr hd q : Nf) : Prop := okKH kd hd ∧ (∀ c, c < 4 → hd c = 1 ∨ (hd c = 2 ∧ kd c = 0)) ∧ okR12 kd rr ∧ (∀ c, c < 4 → kd c = 9 → q c = 0) ∧ (∀ c, c < 4 → q c ≤ 768) ∧ (∀ c, c < 4 → kd c ≠ 9 → 1 ≤ q c) ∧ ∃ c, c < 4 ∧ kd c ≠ 9
theorem cx_of {kd rr hd rm cm : Nf} {wy : Nat → Nf} (w : wfN kd rr hd rm cm wy) (cl : ClN kd cm wy) : CxN kd rr hd (sn kd rr wy) := by
  refine ⟨fun c hc => ⟨(w c hc).1, by have := (w c hc).2.2.1; omega⟩, fun c hc => (w c hc).2.2.1, fun c hc => by have := (w c hc).2.1; omega, fun c hc h9 => ?_, fun c hc => ?_, fun c hc h9 => ?_, ?_⟩
  · unfold sn; rw [(vn_b w cl hc).2.2.1 h9, Nat.zero_mul]
  · unfold sn
    have a := (vn_b w cl hc).1
    have b := (r12 (w c hc).2.1).2.2
    exact Nat.mul_le_mul a b
  · unfold sn
    have a := (vn_b w cl hc).2.1 h9
    have b := (r12 (w c hc).2.1).2.1
    exact Nat.mul_le_mul a b
  · apply Classical.byContradiction
    intro hz
    apply cl.1
    apply Nat.eq_of_testBit_eq
    intro j
    rw [Nat.zero_testBit, Bool.eq_false_iff]
    intro hj
    exact hz ⟨j, tb_N.mp hj⟩
theorem LdW_of {kd rr hd : Nf} {wy : Nat → Nf} {M : Mm} (h : LdC kd rr hd wy M) : LdW kd hd (sn kd rr wy) M := fun c hc => ⟨(h c hc).2.1, (h c hc).2.2.2.1, (h c hc).2.2.2.2.1⟩
theorem LdR_of {kd rr hd rm cm : Nf} {wy : Nat → Nf} {M : Mm} (n : NetR kd rr hd rm cm wy M) (v : ∀ c, c < 4 → mJ M 98 c = lN (vn kd wy c)) : LdR kd rr hd (sn kd rr wy) M := fun c hc => ⟨(n.1 c hc).1, fun h9 => ⟨((n.1 c hc).2.1 h9).1, ((n.1 c hc).2.1 h9).2.1, ((n.1 c hc).2.1 h9).2.2.1, vn kd wy c, v c hc, rfl⟩⟩
/-- the sums -/
def SCn (kd hd q : Nf) (n : Nat) : Nat := slN (fun t => wC kd hd q (sO t)) (en 35 n)
def SRm (kd hd q : Nf) (n : Nat) : Nat := slN (fun t => PR kd hd q (sO t) 4 * 1) (gl (gd kd n) 625 0)
theorem sums {kd rr hd q : Nf} (x : CxN kd rr hd q) {n : Nat} (hn : n ≤ 4) : 24 * SRm kd hd q n = PH kd hd 4 * SCn kd hd q n ∧ 1 ≤ SRm kd hd q n ∧ SRm kd hd q n ≤ 768 ^ n * 3538944 ∧ 1 ≤ SCn kd hd q n ∧ SCn kd hd q n ≤ 292229574819840 := by
  obtain ⟨o, hh, o3, h9, h768, h1, hx⟩ := x
  have a := sum_alike o hh h9 hn (fun _ => 1)
  have b := SR_pos (hd := hd) h1 hn hx
  have c := SR_le (kd := kd) (hd := hd) h768 hn (T := fun _ => 1) (K := 1) (fun _ _ => Nat.le_refl _)
  have d := SC_le (kd := kd) (hd := hd) h768 hn (T := fun _ => 1) (K := 1) (fun _ _ => Nat.le_refl _)
  simp only [Nat.mul_one] at d a
  have a' : 24 * SRm kd hd q n = PH kd hd 4 * SCn kd hd q n := by
    unfold SRm SCn
    simp only [Nat.mul_one]
    exact a
  refine ⟨a', b, by unfold SRm; omega, ?_, by unfold SCn; omega⟩
  rcases Nat.eq_zero_or_pos (SCn kd hd q n) with z | z
  · rw [z, Nat.mul_zero] at a'
    have : 1 ≤ SRm kd hd q n := b
    omega
  · exact z
theorem cross {kd rr hd q : Nf} (x : CxN kd rr hd q) {n m : Nat} (hn : n ≤ 4) (hm : m ≤ 4) : SCn kd hd q m * SRm kd hd q n = SRm kd hd q m * SCn kd hd q n := by
  have a := (sums x hn).1
  have b := (sums x hm).1
  have : 24 * (SCn kd hd q m * SRm kd hd q n) = 24 * (SRm kd hd q m * SCn kd hd q n) := by
    generalize SCn kd hd q m = A at *
    generalize SCn kd hd q n = B at *
    generalize SRm kd hd q m = C at *
    generalize SRm kd hd q n = D at *
    generalize PH kd hd 4 = P at *
    have e1 : A * (24 * D) = A * (P * B) := by rw [a]
    have e2 : B * (24 * C) = B * (P * A) := by rw [b]
    grind
  exact Nat.eq_of_mul_eq_mul_left (by omega) this
theorem s_sumR {M : Mm} {kd rr hd q : Nf} (h : LdR kd rr hd q M) (x : CxN kd rr hd q) {n : Nat} (hn : n ≤ 4) : ∃ M', f_X9_sumOf 1 (nI n) (-9) M = some (lN (SRm kd hd q n), M') ∧ SR M M' := s_sumOf h x.2.2.1 x.1 hn (T := fun _ => 1) (Or.inl ⟨rfl, fun _ => rfl⟩)
theorem s_sumC {M : Mm} {kd rr hd q : Nf} (h : LdW kd hd q M) (x : CxN kd rr hd q) {n : Nat} (hn : n ≤ 4) : ∃ M', f_X5_weightOfAll 5 (nI n) M = some (lN (SCn kd hd q n), M') ∧ St M M' := s_wAll h x.1 hn
theorem n_split (y : Int32) : (∃ n, 1 ≤ n ∧ n ≤ 4 ∧ y = nI n) ∨ ¬ (1 ≤ y.toInt ∧ y.toInt ≤ 4) := by
  by_cases h : 1 ≤ y.toInt ∧ y.toInt ≤ 4
  · obtain ⟨n, hn, rfl⟩ := x_of (x := y) (n := 5) (in_iff.mpr (by omega)) (by omega)
    rw [t_nI (by omega)] at h
    exact Or.inl ⟨n, by omega, by omega, rfl⟩
  · exact Or.inr h
/-- a number of things that is none: both refuse -/
theorem jd_bad {M : Mm} {x y : Int32} (hy : ¬ (1 ≤ y.toInt ∧ y.toInt ≤ 4)) : f_X8_judgeRound 0 x y M = some (-1, M) := by
  unfold f_X8_judgeRound
  simp only [s_isCounterNumber, s_isThings, nm_q, bd_s, if_neg hy]
  by_cases hx : 0 ≤ x.toInt ∧ x.toInt < 4
  · simp only [if_pos hx]; rfl
  · simp only [if_neg hx]; rfl
theorem many_bad {M : Mm} {y : Int32} (hy : ¬ (1 ≤ y.toInt ∧ y.toInt ≤ 4)) : f_X9_isMany y M = some (0, M) := by rw [s_isMany, if_neg hy]
theorem many_ok {M : Mm} {n : Nat} (h1 : 1 ≤ n) (h4 : n ≤ 4) : f_X9_isMany (nI n) M = some (1, M) := by rw [s_isMany, if_pos (by rw [t_nI (by omega)]; omega)]
theorem al_through (x y : Int32) : Alike (f_X8_through 0 x y) (f_X9_through 1 x y) := by
  intro M h
  rcases n_split y with ⟨n, hn1, hn4, rfl⟩ | hy
  · have hyy : 1 ≤ (nI n).toInt ∧ (nI n).toInt ≤ 4 := by rw [t_nI (by omega)]; omega
    rcases rd_split h x (nI n) hyy with ⟨e1, e2⟩ | ⟨e1, e2⟩ | ⟨c, kd, rr, hd, rm, cm, wy, M1, hc, rfl, w, n1, n2, h9, s1, s1', hx⟩
    · refine ⟨-1, M, M, ?_, ?_, h⟩
      · unfold f_X8_through
        simp only [e1, nm_q, bd_s, show ¬ ((-1 : Int32) = 0) by decide, if_false]
      · unfold f_X9_through
        simp only [many_ok hn1 hn4, e2, nm_q, bd_s, show ¬ ((1 : Int32) = 0) by decide, show ¬ ((0 : Int32) ≤ -1) by decide, if_false]
    · refine ⟨-3, RF M 1, RM (RF M 1) 1, ?_, ?_, inv_ref h (by omega) (by omega) (Sc.rf _) (Sc.rf _)⟩
      · unfold f_X8_through
        simp only [e1, nm_q, bd_s, show ¬ ((-3 : Int32) = 0) by decide, if_false]
      · unfold f_X9_through
        simp only [many_ok hn1 hn4, e2, nm_q, bd_s, show ¬ ((1 : Int32) = 0) by decide, show ¬ ((0 : Int32) ≤ -3) by decide, if_false]
    · rcases hx with ⟨_, e1, e2⟩ | ⟨cl, e1, e2⟩
      · have n2' : NetR kd rr hd rm cm wy M1 := n2.sc (fun a k q => s1.1 a k (Or.inr q))
        refine ⟨-4, M1, M1, ?_, ?_, h.sc s1⟩
        · unfold f_X8_through
          simp only [e1, nm_q, bd_s, show ¬ ((-4 : Int32) = 0) by decide, if_false]
        · unfold f_X9_through
          simp only [many_ok hn1 hn4, e2 _ n2', nm_q, bd_s, show ¬ ((1 : Int32) = 0) by decide, show ¬ ((0 : Int32) ≤ -4) by decide, if_false]
      · have clN := cl_N cl
        have cx := cx_of w clN
        have n1' : NetC kd rr hd rm cm wy M1 := n1.sc (fun a k q => s1.1 a k (Or.inl q))
        obtain ⟨M2, l1, l2, l3⟩ := s_rload n1' w clN
        have vb := vn_b w clN hc
        obtain ⟨M3, a1, a2⟩ := s_sumC (LdW_of l3) cx (n := n - 1) (by omega)
        obtain ⟨M4, b1, b2⟩ := s_sumC (LdW_St (LdW_of l3) a2) cx (n := n) (by omega)
        have s4 : Sc M M4 := ((s1.tr l2).tr a2.sc).tr b2.sc
        have q1 := sums cx (n := n - 1) (by omega)
        have q2 := sums cx (n := n) (by omega)
        have cr := cross cx (n := n) (m := n - 1) (by omega) (by omega)
        generalize hA1 : SCn kd hd (sn kd rr wy) (n - 1) = A1 at *
        generalize hA : SCn kd hd (sn kd rr wy) n = A at *
        generalize hB1 : SRm kd hd (sn kd rr wy) (n - 1) = B1 at *
        generalize hB : SRm kd hd (sn kd rr wy) n = B at *
        have hv := vb.2.1 h9
        have p1 := p768 (n := n) hn4
        have p0 : 768 ^ (n - 1) ≤ 452984832 := by
          have : 768 ^ (n - 1) ≤ 768 ^ 3 := Nat.pow_le_pow_right (by omega) (by omega)
          omega
        have bU : 12 * vn kd wy c * A1 ≤ 768 * 292229574819840 := Nat.mul_le_mul (by omega) q1.2.2.2.2
        have bU2 : vn kd wy c * 12 * B1 ≤ 768 * (452984832 * 3538944) := Nat.mul_le_mul (by omega) (Nat.le_trans q1.2.2.1 (Nat.mul_le_mul p0 (Nat.le_refl _)))
        have bB : B ≤ 347892350976 * 3538944 := Nat.le_trans q2.2.2.1 (Nat.mul_le_mul p1 (Nat.le_refl _))
        have fe := fr_N (u := 12 * vn kd wy c * A1) (l := A) (u2 := vn kd wy c * 12 * B1) (l2 := B) (by omega) (by omega) (by omega) (by omega) (by omega) (by omega) (by
          generalize vn kd wy c = v at *
          have : 12 * v * (A1 * B) = 12 * v * (B1 * A) := by rw [cr]
          grind)
        have n2' : NetR kd rr hd rm cm wy (sJ (sJ M4 7 0 (frU (lN (12 * vn kd wy c * A1)) (lN A))) 7 1 (frL (lN (12 * vn kd wy c * A1)) (lN A))) := n2.sc (fun a k q => s4.1 a k (Or.inr q))
        obtain ⟨M5, v1, v2, v3⟩ := s_setVisits n2' w clN
        have n5 : NetR kd rr hd rm cm wy M5 := n2'.sc (fun a k q => v2.1 a k (Or.inr q))
        have ldr := LdR_of n5 v3
        obtain ⟨M6, d1, d2⟩ := s_sumR ldr cx (n := n - 1) (by omega)
        obtain ⟨M7, f1, f2⟩ := s_sumR (LdR_SR ldr d2) cx (n := n) (by omega)
        rw [hB1] at d1
        rw [hB] at f1
        have nm1 : nI n - 1 = nI (n - 1) := n_dec hn1
        have sh := share_N (x := 1) M7 (show vn kd wy c * 12 * B1 < 2 ^ 63 by omega) (show B < 2 ^ 63 by omega) (show 0 < B by omega)
        rw [← fe.1, ← fe.2] at sh
        refine ⟨1, sJ (sJ M4 7 0 (frU (lN (12 * vn kd wy c * A1)) (lN A))) 7 1 (frL (lN (12 * vn kd wy c * A1)) (lN A)), sJ (sJ M7 1 3 (frU (lN (12 * vn kd wy c * A1)) (lN A))) 1 4 (frL (lN (12 * vn kd wy c * A1)) (lN A)), ?_, ?_, inv_frac h s4 (v2.tr (d2.sc.tr f2.sc))⟩
        · unfold f_X8_through f_X5_tellThrough
          simp only [e1, nm_q, bd_s, if_true, fld_0_1, fld_0_2, fld_0_5, fld_5_0, l1, nI_cl (show c < 2 ^ 31 by omega), ck_k hc (show 4 < 1000 by omega), (l3 c hc).1, nm1, a1, b1, show (12 : Int64) = lN 12 from rfl, lN_mul, set_N M4 (show 12 * vn kd wy c * A1 < 2 ^ 63 by omega) (show A < 2 ^ 63 by omega) (show 0 < A by omega)]
        · unfold f_X9_through
          simp only [many_ok hn1 hn4, e2 _ n2', v1, nm_q, bd_s, show ¬ ((1 : Int32) = 0) by decide, if_false, show (0 : Int32) ≤ 0 by decide, if_true, nI_cl (show c < 2 ^ 31 by omega), ck_k hc (show 4 < 1000 by omega), fld_1_20, v3 c hc, nm1, d1, f1, show (12 : Int64) = lN 12 from rfl, lN_mul, sh]
  · refine ⟨-1, M, M, ?_, ?_, h⟩
    · unfold f_X8_through
      simp only [jd_bad hy, nm_q, bd_s, show ¬ ((-1 : Int32) = 0) by decide, if_false]
    · unfold f_X9_through
      simp only [many_bad hy, nm_q, bd_s, if_true]

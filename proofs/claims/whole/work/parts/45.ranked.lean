/-! ranked, roomed -/
def MINL : Int := -9223372036854775808
theorem rk_0_0 : ∀ r, r < 13 → ∀ a, a < 10 → ∀ b, b < 10 → a + b < r → Int32.toInt64 (nI a) = Int32.toInt64 (nI a) := by decide +kernel
theorem rk_0_1 : ∀ r, r < 13 → ∀ a, a < 10 → ∀ b, b < 10 → a + b < r → Int32.toInt64 (nI r - nI a - nI b + nI b) = Int32.toInt64 (nI r - nI a) := by decide +kernel
theorem rk_0_2 : ∀ r, r < 13 → ∀ a, a < 10 → ∀ b, b < 10 → a + b < r → (Int32.toInt64 (nI a)).toInt ≠ -9223372036854775808 := by decide +kernel
theorem rk_0_3 : ∀ r, r < 13 → ∀ a, a < 10 → ∀ b, b < 10 → a + b < r → (Int32.toInt64 (nI r - nI a)).toInt ≠ -9223372036854775808 := by decide +kernel
theorem rk_0_4 : ∀ r, r < 13 → ∀ a, a < 10 → ∀ b, b < 10 → a + b < r → (Int32.toInt64 (nI r - nI a)).toInt ≠ 0 := by decide +kernel
theorem rk_1_0 : ∀ r, r < 13 → ∀ a, a < 10 → ∀ b, b < 10 → a + b < r → Int32.toInt64 (nI a + nI b) * Int32.toInt64 (nI r - nI a - nI b + nI b) - Int32.toInt64 (nI a) * Int32.toInt64 (nI r - nI a - nI b) = Int32.toInt64 (nI a + nI b) * Int32.toInt64 (nI r - nI a) - Int32.toInt64 (nI a) * Int32.toInt64 (nI r - nI a - nI b) := by decide +kernel
theorem rk_1_1 : ∀ r, r < 13 → ∀ a, a < 10 → ∀ b, b < 10 → a + b < r → Int32.toInt64 (nI r - nI a - nI b) * Int32.toInt64 (nI r - nI a - nI b + nI b) = Int32.toInt64 (nI r - nI a) * Int32.toInt64 (nI r - nI a - nI b) := by decide +kernel
theorem rk_1_2 : ∀ r, r < 13 → ∀ a, a < 10 → ∀ b, b < 10 → a + b < r → (Int32.toInt64 (nI a + nI b) * Int32.toInt64 (nI r - nI a) - Int32.toInt64 (nI a) * Int32.toInt64 (nI r - nI a - nI b)).toInt ≠ -9223372036854775808 := by decide +kernel
theorem rk_1_3 : ∀ r, r < 13 → ∀ a, a < 10 → ∀ b, b < 10 → a + b < r → (Int32.toInt64 (nI r - nI a) * Int32.toInt64 (nI r - nI a - nI b)).toInt ≠ -9223372036854775808 := by decide +kernel
theorem rk_1_4 : ∀ r, r < 13 → ∀ a, a < 10 → ∀ b, b < 10 → a + b < r → (Int32.toInt64 (nI r - nI a) * Int32.toInt64 (nI r - nI a - nI b)).toInt ≠ 0 := by decide +kernel
theorem rk_2_0 : ∀ r, r < 13 → ∀ a, a < 10 → ∀ b, b < 10 → a + b < r → Int32.toInt64 (nI a) * (Int32.toInt64 (nI a + nI b) + Int32.toInt64 (nI r - nI a - nI b + nI b)) = Int32.toInt64 (nI a) * (Int32.toInt64 (nI a + nI b) + Int32.toInt64 (nI r - nI a)) := by decide +kernel
theorem rk_2_1 : ∀ r, r < 13 → ∀ a, a < 10 → ∀ b, b < 10 → a + b < r → (Int32.toInt64 (nI r - nI a - nI b + nI b) + Int32.toInt64 (nI a)) * Int32.toInt64 (nI r - nI a - nI b + nI b) = Int32.toInt64 (nI r) * Int32.toInt64 (nI r - nI a) := by decide +kernel
theorem rk_2_2 : ∀ r, r < 13 → ∀ a, a < 10 → ∀ b, b < 10 → a + b < r → (Int32.toInt64 (nI a) * (Int32.toInt64 (nI a + nI b) + Int32.toInt64 (nI r - nI a))).toInt ≠ -9223372036854775808 := by decide +kernel
theorem rk_2_3 : ∀ r, r < 13 → ∀ a, a < 10 → ∀ b, b < 10 → a + b < r → (Int32.toInt64 (nI r) * Int32.toInt64 (nI r - nI a)).toInt ≠ -9223372036854775808 := by decide +kernel
theorem rk_2_4 : ∀ r, r < 13 → ∀ a, a < 10 → ∀ b, b < 10 → a + b < r → (Int32.toInt64 (nI r) * Int32.toInt64 (nI r - nI a)).toInt ≠ 0 := by decide +kernel
theorem rk_3_0 : ∀ r, r < 13 → ∀ a, a < 10 → ∀ b, b < 10 → a + b < r → Int32.toInt64 (nI b) * (Int32.toInt64 (nI a + nI b) * (Int32.toInt64 (nI r - nI a - nI b + nI b) + Int32.toInt64 (nI a)) + Int32.toInt64 (nI r - nI a - nI b + nI b) * Int32.toInt64 (nI r - nI a - nI b)) = Int32.toInt64 (nI b) * (Int32.toInt64 ((nI a + nI b) * nI r) + Int32.toInt64 (nI r - nI a) * Int32.toInt64 (nI r - nI a - nI b)) := by decide +kernel
theorem rk_3_1 : ∀ r, r < 13 → ∀ a, a < 10 → ∀ b, b < 10 → a + b < r → Int32.toInt64 (nI r - nI a - nI b + nI b) * Int32.toInt64 (nI r - nI a - nI b) * (Int32.toInt64 (nI r - nI a - nI b + nI b) + Int32.toInt64 (nI a)) = Int32.toInt64 (nI r - nI a) * Int32.toInt64 (nI r - nI a - nI b) * Int32.toInt64 (nI r) := by decide +kernel
theorem rk_3_2 : ∀ r, r < 13 → ∀ a, a < 10 → ∀ b, b < 10 → a + b < r → (Int32.toInt64 (nI b) * (Int32.toInt64 ((nI a + nI b) * nI r) + Int32.toInt64 (nI r - nI a) * Int32.toInt64 (nI r - nI a - nI b))).toInt ≠ -9223372036854775808 := by decide +kernel
theorem rk_3_3 : ∀ r, r < 13 → ∀ a, a < 10 → ∀ b, b < 10 → a + b < r → (Int32.toInt64 (nI r - nI a) * Int32.toInt64 (nI r - nI a - nI b) * Int32.toInt64 (nI r)).toInt ≠ -9223372036854775808 := by decide +kernel
theorem rk_3_4 : ∀ r, r < 13 → ∀ a, a < 10 → ∀ b, b < 10 → a + b < r → (Int32.toInt64 (nI r - nI a) * Int32.toInt64 (nI r - nI a - nI b) * Int32.toInt64 (nI r)).toInt ≠ 0 := by decide +kernel
theorem rk_all (r : Nat) (hr : r ∈ [1, 2, 3, 4, 6, 12]) (a : Nat) (ha : a < 10) (b : Nat) (hb : b < 10) (h : a + b < r) :
    ((Int32.toInt64 (nI a) = Int32.toInt64 (nI a)) ∧ (Int32.toInt64 (nI r - nI a - nI b + nI b) = Int32.toInt64 (nI r - nI a)) ∧ ((Int32.toInt64 (nI a)).toInt ≠ -9223372036854775808) ∧ ((Int32.toInt64 (nI r - nI a)).toInt ≠ -9223372036854775808) ∧ ((Int32.toInt64 (nI r - nI a)).toInt ≠ 0)) ∧
    ((Int32.toInt64 (nI a + nI b) * Int32.toInt64 (nI r - nI a - nI b + nI b) - Int32.toInt64 (nI a) * Int32.toInt64 (nI r - nI a - nI b) = Int32.toInt64 (nI a + nI b) * Int32.toInt64 (nI r - nI a) - Int32.toInt64 (nI a) * Int32.toInt64 (nI r - nI a - nI b)) ∧ (Int32.toInt64 (nI r - nI a - nI b) * Int32.toInt64 (nI r - nI a - nI b + nI b) = Int32.toInt64 (nI r - nI a) * Int32.toInt64 (nI r - nI a - nI b)) ∧ ((Int32.toInt64 (nI a + nI b) * Int32.toInt64 (nI r - nI a) - Int32.toInt64 (nI a) * Int32.toInt64 (nI r - nI a - nI b)).toInt ≠ -9223372036854775808) ∧ ((Int32.toInt64 (nI r - nI a) * Int32.toInt64 (nI r - nI a - nI b)).toInt ≠ -9223372036854775808) ∧ ((Int32.toInt64 (nI r - nI a) * Int32.toInt64 (nI r - nI a - nI b)).toInt ≠ 0)) ∧
    ((Int32.toInt64 (nI a) * (Int32.toInt64 (nI a + nI b) + Int32.toInt64 (nI r - nI a - nI b + nI b)) = Int32.toInt64 (nI a) * (Int32.toInt64 (nI a + nI b) + Int32.toInt64 (nI r - nI a))) ∧ ((Int32.toInt64 (nI r - nI a - nI b + nI b) + Int32.toInt64 (nI a)) * Int32.toInt64 (nI r - nI a - nI b + nI b) = Int32.toInt64 (nI r) * Int32.toInt64 (nI r - nI a)) ∧ ((Int32.toInt64 (nI a) * (Int32.toInt64 (nI a + nI b) + Int32.toInt64 (nI r - nI a))).toInt ≠ -9223372036854775808) ∧ ((Int32.toInt64 (nI r) * Int32.toInt64 (nI r - nI a)).toInt ≠ -9223372036854775808) ∧ ((Int32.toInt64 (nI r) * Int32.toInt64 (nI r - nI a)).toInt ≠ 0)) ∧
    ((Int32.toInt64 (nI b) * (Int32.toInt64 (nI a + nI b) * (Int32.toInt64 (nI r - nI a - nI b + nI b) + Int32.toInt64 (nI a)) + Int32.toInt64 (nI r - nI a - nI b + nI b) * Int32.toInt64 (nI r - nI a - nI b)) = Int32.toInt64 (nI b) * (Int32.toInt64 ((nI a + nI b) * nI r) + Int32.toInt64 (nI r - nI a) * Int32.toInt64 (nI r - nI a - nI b))) ∧ (Int32.toInt64 (nI r - nI a - nI b + nI b) * Int32.toInt64 (nI r - nI a - nI b) * (Int32.toInt64 (nI r - nI a - nI b + nI b) + Int32.toInt64 (nI a)) = Int32.toInt64 (nI r - nI a) * Int32.toInt64 (nI r - nI a - nI b) * Int32.toInt64 (nI r)) ∧ ((Int32.toInt64 (nI b) * (Int32.toInt64 ((nI a + nI b) * nI r) + Int32.toInt64 (nI r - nI a) * Int32.toInt64 (nI r - nI a - nI b))).toInt ≠ -9223372036854775808) ∧ ((Int32.toInt64 (nI r - nI a) * Int32.toInt64 (nI r - nI a - nI b) * Int32.toInt64 (nI r)).toInt ≠ -9223372036854775808) ∧ ((Int32.toInt64 (nI r - nI a) * Int32.toInt64 (nI r - nI a - nI b) * Int32.toInt64 (nI r)).toInt ≠ 0)) := by
  have h13 : r < 13 := by simp at hr; omega
  exact ⟨⟨rk_0_0 r h13 a ha b hb h, rk_0_1 r h13 a ha b hb h, rk_0_2 r h13 a ha b hb h, rk_0_3 r h13 a ha b hb h, rk_0_4 r h13 a ha b hb h⟩, ⟨rk_1_0 r h13 a ha b hb h, rk_1_1 r h13 a ha b hb h, rk_1_2 r h13 a ha b hb h, rk_1_3 r h13 a ha b hb h, rk_1_4 r h13 a ha b hb h⟩, ⟨rk_2_0 r h13 a ha b hb h, rk_2_1 r h13 a ha b hb h, rk_2_2 r h13 a ha b hb h, rk_2_3 r h13 a ha b hb h, rk_2_4 r h13 a ha b hb h⟩, ⟨rk_3_0 r h13 a ha b hb h, rk_3_1 r h13 a ha b hb h, rk_3_2 r h13 a ha b hb h, rk_3_3 r h13 a ha b hb h, rk_3_4 r h13 a ha b hb h⟩⟩
def FMX (M : Mm) (u l : Int64) : Mm := sJ (sJ M 7 0 (frU u l)) 7 1 (frL u l)
def FMR (M : Mm) (u l : Int64) : Mm := sJ (sJ M 1 3 (frU u l)) 1 4 (frL u l)
theorem al_ranked (x1 x2 x3 x4 x5 : Int32) : Alike (f_X8_ranked 0 x1 x2 x3 x4 x5) (f_X9_ranked 1 x1 x2 x3 x4 x5) := by
  intro M h
  obtain ⟨⟨kd, rt, hd, rm, cm, wy, w, n1, n2⟩, hrow, hflg⟩ := id h
  by_cases hv : (0 ≤ x2.toInt ∧ x2.toInt ≤ 9) ∧ (0 ≤ x3.toInt ∧ x3.toInt ≤ 9) ∧ (0 ≤ x5.toInt ∧ x5.toInt ≤ 1)
  · obtain ⟨v2, v3, v5⟩ := hv
    obtain ⟨a, ha, rfl⟩ := x_of (x := x2) (n := 10) (in_iff.mpr (by omega)) (by omega)
    obtain ⟨b, hb, rfl⟩ := x_of (x := x3) (n := 10) (in_iff.mpr (by omega)) (by omega)
    rcases x_split4 x1 with ⟨c, hc, rfl⟩ | hx
    · have tc : (nI c).toInt = (c : Int) := t_nI (by omega)
      have wc := w c hc
      by_cases e : kd c = 9
      · refine ⟨-3, RF M 1, RM (RF M 1) 1, ?_, ?_, inv_ref h (by omega) (by omega) (Sc.rf _) (Sc.rf _)⟩
        · unfold f_X8_ranked
          simp only [s_isCounterNumber, s_isComing, i_lt x5, i_le x5, tc, li_m9, li_m4, li_m3, li_m2, li_m1, li_0, li_1, li_2, li_3, li_4, li_5, li_6, li_7, li_8, li_9, li_10, li_11, li_12, li_13, li_16, li_24, li_25, li_31, li_36, li_40, li_125, li_200, li_240, li_625, li_1000, li_100000, li_1000000, nm_q, bd_s, if_pos (show (0 : Int) ≤ c ∧ (c : Int) < 4 by omega), if_pos v2, if_pos v3, if_neg (show ¬ x5.toInt < 0 by omega), if_pos v5.2, fld_0_1, s_has n1 w hc, s_ref1, e]
          rfl
        · unfold f_X9_ranked
          simp only [s_in, li_m9, li_m4, li_m3, li_m2, li_m1, li_0, li_1, li_2, li_3, li_4, li_5, li_6, li_7, li_8, li_9, li_10, li_11, li_12, li_13, li_16, li_24, li_25, li_31, li_36, li_40, li_125, li_200, li_240, li_625, li_1000, li_100000, li_1000000, nm_q, bd_s, if_pos v2, if_pos v3, if_pos v5, s_askedFor (nr_RF n2) hc, e]
          rfl
      · have kk : nI (kd c) = 4 ↔ kd c = 4 := by rw [i_eq, t_nI (by omega), li_4]; omega
        by_cases e4 : kd c = 4
        · have tr : (nI (rt c)).toInt = (rt c : Int) := t_nI (by omega)
          have ta : (nI a).toInt = (a : Int) := t_nI (by omega)
          have tb : (nI b).toInt = (b : Int) := t_nI (by omega)
          have tab : (nI a + nI b).toInt = ((a + b : Nat) : Int) := by rw [nI_add, t_nI (by omega)]
          have d1 : (nI (rt c) - nI a).toInt = (rt c : Int) - a := by rw [i_sub (by rw [tr, ta]; omega) (by rw [tr, ta]; omega), tr, ta]
          have d2 : (nI (rt c) - nI a - nI b).toInt = (rt c : Int) - a - b := by rw [i_sub (by rw [d1, tb]; omega) (by rw [d1, tb]; omega), d1, tb]
          by_cases hs : a + b < rt c
          · obtain ⟨⟨p1, p2, p3, p4, p5⟩, ⟨q1, q2, q3, q4, q5⟩, ⟨s1, s2, s3, s4, s5⟩, ⟨t1, t2, t3, t4, t5⟩⟩ := rk_all (rt c) (by have := wc.2.1; simp; omega) a ha b hb hs
            have eX : ∀ (k : Int32 × Mm), (if x4 = 0 then bd (f_X8_tellWaitingTurn 0 (nI a) (nI b) (nI (rt c) - nI a - nI b) x5 M) fun M17 => some ((1 : Int32), M17) else bd (f_X8_tellBreakingIn 0 (nI a) (nI b) (nI (rt c) - nI a - nI b) x5 M) fun M18 => some ((1 : Int32), M18)) = some k → f_X8_ranked 0 (nI c) (nI a) (nI b) x4 x5 M = some k := by
              intro k hk
              rw [← hk]
              unfold f_X8_ranked
              simp only [s_isCounterNumber, s_isComing, i_lt x5, i_le x5, tc, li_m9, li_m4, li_m3, li_m2, li_m1, li_0, li_1, li_2, li_3, li_4, li_5, li_6, li_7, li_8, li_9, li_10, li_11, li_12, li_13, li_16, li_24, li_25, li_31, li_36, li_40, li_125, li_200, li_240, li_625, li_1000, li_100000, li_1000000, nm_q, bd_s, if_pos (show (0 : Int) ≤ c ∧ (c : Int) < 4 by omega), if_pos v2, if_pos v3, if_neg (show ¬ x5.toInt < 0 by omega), if_pos v5.2, fld_0_1, fld_4_0, elm_22, nI_cl (show c < 2 ^ 31 by omega), ck_k hc (show 4 < 1000 by omega), s_has n1 w hc, if_neg e, n1.1 c hc, kk, if_pos e4, if_pos (show (0 : Int32) < nI (rt c) - nI a - nI b by rw [i_lt, li_0, d2]; omega)]
              rfl
            have n2' : ∀ U L, NetR kd rt hd rm cm wy (sJ (sJ M 7 0 U) 7 1 L) := fun U L => n2.sc (fun _ _ _ => rfl)
            have eR : ∀ (U L : Int64) (k : Int32 × Mm), (if x4 = 0 then if x5 = 0 then bd (f_X9_share 1 ((Int32.toInt64 (nI a)) * ((Int32.toInt64 (nI a + nI b)) + Int32.toInt64 (nI (rt c) - nI a))) ((Int32.toInt64 (nI (rt c))) * Int32.toInt64 (nI (rt c) - nI a)) 1 (sJ (sJ M 7 0 U) 7 1 L)) fun q19 => some (q19.1, q19.2) else bd (f_X9_share 1 ((Int32.toInt64 (nI b)) * ((Int32.toInt64 ((nI a + nI b) * nI (rt c))) + (Int32.toInt64 (nI (rt c) - nI a) * Int32.toInt64 (nI (rt c) - nI a - nI b)))) ((Int32.toInt64 (nI (rt c) - nI a) * Int32.toInt64 (nI (rt c) - nI a - nI b)) * (Int32.toInt64 (nI (rt c)))) 1 (sJ (sJ M 7 0 U) 7 1 L)) fun q18 => some (q18.1, q18.2) else if x5 = 0 then bd (f_X9_share 1 (Int32.toInt64 (nI a)) (Int32.toInt64 (nI (rt c) - nI a)) 1 (sJ (sJ M 7 0 U) 7 1 L)) fun q22 => some (q22.1, q22.2) else bd (f_X9_share 1 (((Int32.toInt64 (nI a + nI b)) * Int32.toInt64 (nI (rt c) - nI a)) - ((Int32.toInt64 (nI a)) * Int32.toInt64 (nI (rt c) - nI a - nI b))) (Int32.toInt64 (nI (rt c) - nI a) * Int32.toInt64 (nI (rt c) - nI a - nI b)) 1 (sJ (sJ M 7 0 U) 7 1 L)) fun q21 => some (q21.1, q21.2)) = some k → f_X9_ranked 1 (nI c) (nI a) (nI b) x4 x5 (sJ (sJ M 7 0 U) 7 1 L) = some k := by
              intro U L k hk
              rw [← hk]
              have qr := ((n2' U L).1 c hc).2.1 e
              unfold f_X9_ranked
              simp only [s_in, li_m9, li_m4, li_m3, li_m2, li_m1, li_0, li_1, li_2, li_3, li_4, li_5, li_6, li_7, li_8, li_9, li_10, li_11, li_12, li_13, li_16, li_24, li_25, li_31, li_36, li_40, li_125, li_200, li_240, li_625, li_1000, li_100000, li_1000000, nm_q, bd_s, if_pos v2, if_pos v3, if_pos v5, s_askedFor (n2' U L) hc, if_neg e, fld_1_9, fld_1_10, nI_cl (show c < 2 ^ 31 by omega), ck_k hc (show 4 < 1000 by omega), qr, kk, if_pos e4, if_pos (show nI a + nI b < nI (rt c) by rw [i_lt, tab, tr]; omega)]
              rfl
            by_cases z4 : x4 = 0
            · by_cases z5 : x5 = 0
              · refine ⟨1, FMX M ((Int32.toInt64 (nI a)) * ((Int32.toInt64 (nI a + nI b)) + Int32.toInt64 (nI (rt c) - nI a))) ((Int32.toInt64 (nI (rt c))) * Int32.toInt64 (nI (rt c) - nI a)), FMR (FMX M ((Int32.toInt64 (nI a)) * ((Int32.toInt64 (nI a + nI b)) + Int32.toInt64 (nI (rt c) - nI a))) ((Int32.toInt64 (nI (rt c))) * Int32.toInt64 (nI (rt c) - nI a))) ((Int32.toInt64 (nI a)) * ((Int32.toInt64 (nI a + nI b)) + Int32.toInt64 (nI (rt c) - nI a))) ((Int32.toInt64 (nI (rt c))) * Int32.toInt64 (nI (rt c) - nI a)), eX _ ?_, eR (frU ((Int32.toInt64 (nI a)) * ((Int32.toInt64 (nI a + nI b)) + Int32.toInt64 (nI (rt c) - nI a))) ((Int32.toInt64 (nI (rt c))) * Int32.toInt64 (nI (rt c) - nI a))) (frL ((Int32.toInt64 (nI a)) * ((Int32.toInt64 (nI a + nI b)) + Int32.toInt64 (nI (rt c) - nI a))) ((Int32.toInt64 (nI (rt c))) * Int32.toInt64 (nI (rt c) - nI a))) _ ?_, inv_frac h (Sc.rf _) (Sc.rf _)⟩
                · rw [if_pos z4]
                  unfold f_X8_tellWaitingTurn
                  simp only [nm_q, bd_s, if_pos z5, fld_0_5, s1, s2, s_set M s3 s4 s5]
                  rfl
                · rw [if_pos z4, if_pos z5, s_share _ s3 s4 s5]
                  rfl
              · refine ⟨1, FMX M ((Int32.toInt64 (nI b)) * ((Int32.toInt64 ((nI a + nI b) * nI (rt c))) + (Int32.toInt64 (nI (rt c) - nI a) * Int32.toInt64 (nI (rt c) - nI a - nI b)))) ((Int32.toInt64 (nI (rt c) - nI a) * Int32.toInt64 (nI (rt c) - nI a - nI b)) * (Int32.toInt64 (nI (rt c)))), FMR (FMX M ((Int32.toInt64 (nI b)) * ((Int32.toInt64 ((nI a + nI b) * nI (rt c))) + (Int32.toInt64 (nI (rt c) - nI a) * Int32.toInt64 (nI (rt c) - nI a - nI b)))) ((Int32.toInt64 (nI (rt c) - nI a) * Int32.toInt64 (nI (rt c) - nI a - nI b)) * (Int32.toInt64 (nI (rt c))))) ((Int32.toInt64 (nI b)) * ((Int32.toInt64 ((nI a + nI b) * nI (rt c))) + (Int32.toInt64 (nI (rt c) - nI a) * Int32.toInt64 (nI (rt c) - nI a - nI b)))) ((Int32.toInt64 (nI (rt c) - nI a) * Int32.toInt64 (nI (rt c) - nI a - nI b)) * (Int32.toInt64 (nI (rt c)))), eX _ ?_, eR (frU ((Int32.toInt64 (nI b)) * ((Int32.toInt64 ((nI a + nI b) * nI (rt c))) + (Int32.toInt64 (nI (rt c) - nI a) * Int32.toInt64 (nI (rt c) - nI a - nI b)))) ((Int32.toInt64 (nI (rt c) - nI a) * Int32.toInt64 (nI (rt c) - nI a - nI b)) * (Int32.toInt64 (nI (rt c))))) (frL ((Int32.toInt64 (nI b)) * ((Int32.toInt64 ((nI a + nI b) * nI (rt c))) + (Int32.toInt64 (nI (rt c) - nI a) * Int32.toInt64 (nI (rt c) - nI a - nI b)))) ((Int32.toInt64 (nI (rt c) - nI a) * Int32.toInt64 (nI (rt c) - nI a - nI b)) * (Int32.toInt64 (nI (rt c))))) _ ?_, inv_frac h (Sc.rf _) (Sc.rf _)⟩
                · rw [if_pos z4]
                  unfold f_X8_tellWaitingTurn
                  simp only [nm_q, bd_s, if_neg z5, fld_0_5, t1, t2, s_set M t3 t4 t5]
                  rfl
                · rw [if_pos z4, if_neg z5, s_share _ t3 t4 t5]
                  rfl
            · by_cases z5 : x5 = 0
              · refine ⟨1, FMX M (Int32.toInt64 (nI a)) (Int32.toInt64 (nI (rt c) - nI a)), FMR (FMX M (Int32.toInt64 (nI a)) (Int32.toInt64 (nI (rt c) - nI a))) (Int32.toInt64 (nI a)) (Int32.toInt64 (nI (rt c) - nI a)), eX _ ?_, eR (frU (Int32.toInt64 (nI a)) (Int32.toInt64 (nI (rt c) - nI a))) (frL (Int32.toInt64 (nI a)) (Int32.toInt64 (nI (rt c) - nI a))) _ ?_, inv_frac h (Sc.rf _) (Sc.rf _)⟩
                · rw [if_neg z4]
                  unfold f_X8_tellBreakingIn
                  simp only [nm_q, bd_s, if_pos z5, fld_0_5, p2, s_set M p3 p4 p5]
                  rfl
                · rw [if_neg z4, if_pos z5, s_share _ p3 p4 p5]
                  rfl
              · refine ⟨1, FMX M (((Int32.toInt64 (nI a + nI b)) * Int32.toInt64 (nI (rt c) - nI a)) - ((Int32.toInt64 (nI a)) * Int32.toInt64 (nI (rt c) - nI a - nI b))) (Int32.toInt64 (nI (rt c) - nI a) * Int32.toInt64 (nI (rt c) - nI a - nI b)), FMR (FMX M (((Int32.toInt64 (nI a + nI b)) * Int32.toInt64 (nI (rt c) - nI a)) - ((Int32.toInt64 (nI a)) * Int32.toInt64 (nI (rt c) - nI a - nI b))) (Int32.toInt64 (nI (rt c) - nI a) * Int32.toInt64 (nI (rt c) - nI a - nI b))) (((Int32.toInt64 (nI a + nI b)) * Int32.toInt64 (nI (rt c) - nI a)) - ((Int32.toInt64 (nI a)) * Int32.toInt64 (nI (rt c) - nI a - nI b))) (Int32.toInt64 (nI (rt c) - nI a) * Int32.toInt64 (nI (rt c) - nI a - nI b)), eX _ ?_, eR (frU (((Int32.toInt64 (nI a + nI b)) * Int32.toInt64 (nI (rt c) - nI a)) - ((Int32.toInt64 (nI a)) * Int32.toInt64 (nI (rt c) - nI a - nI b))) (Int32.toInt64 (nI (rt c) - nI a) * Int32.toInt64 (nI (rt c) - nI a - nI b))) (frL (((Int32.toInt64 (nI a + nI b)) * Int32.toInt64 (nI (rt c) - nI a)) - ((Int32.toInt64 (nI a)) * Int32.toInt64 (nI (rt c) - nI a - nI b))) (Int32.toInt64 (nI (rt c) - nI a) * Int32.toInt64 (nI (rt c) - nI a - nI b))) _ ?_, inv_frac h (Sc.rf _) (Sc.rf _)⟩
                · rw [if_neg z4]
                  unfold f_X8_tellBreakingIn
                  simp only [nm_q, bd_s, if_neg z5, fld_0_5, q1, q2, s_set M q3 q4 q5]
                  rfl
                · rw [if_neg z4, if_neg z5, s_share _ q3 q4 q5]
                  rfl
          · refine ⟨-4, M, M, ?_, ?_, h⟩
            · unfold f_X8_ranked
              simp only [s_isCounterNumber, s_isComing, i_lt x5, i_le x5, tc, li_m9, li_m4, li_m3, li_m2, li_m1, li_0, li_1, li_2, li_3, li_4, li_5, li_6, li_7, li_8, li_9, li_10, li_11, li_12, li_13, li_16, li_24, li_25, li_31, li_36, li_40, li_125, li_200, li_240, li_625, li_1000, li_100000, li_1000000, nm_q, bd_s, if_pos (show (0 : Int) ≤ c ∧ (c : Int) < 4 by omega), if_pos v2, if_pos v3, if_neg (show ¬ x5.toInt < 0 by omega), if_pos v5.2, fld_0_1, fld_4_0, elm_22, nI_cl (show c < 2 ^ 31 by omega), ck_k hc (show 4 < 1000 by omega), s_has n1 w hc, if_neg e, n1.1 c hc, kk, if_pos e4, if_neg (show ¬ (0 : Int32) < nI (rt c) - nI a - nI b by rw [i_lt, li_0, d2]; omega)]
              rfl
            · have qr := (n2.1 c hc).2.1 e
              unfold f_X9_ranked
              simp only [s_in, li_m9, li_m4, li_m3, li_m2, li_m1, li_0, li_1, li_2, li_3, li_4, li_5, li_6, li_7, li_8, li_9, li_10, li_11, li_12, li_13, li_16, li_24, li_25, li_31, li_36, li_40, li_125, li_200, li_240, li_625, li_1000, li_100000, li_1000000, nm_q, bd_s, if_pos v2, if_pos v3, if_pos v5, s_askedFor n2 hc, if_neg e, fld_1_9, fld_1_10, nI_cl (show c < 2 ^ 31 by omega), ck_k hc (show 4 < 1000 by omega), qr, kk, if_pos e4, if_neg (show ¬ nI a + nI b < nI (rt c) by rw [i_lt, tab, tr]; omega)]
              rfl
        · refine ⟨-3, RF M 3, RM (RF M 3) 3, ?_, ?_, inv_ref h (by omega) (by omega) (Sc.rf _) (Sc.rf _)⟩
          · unfold f_X8_ranked
            simp only [s_isCounterNumber, s_isComing, i_lt x5, i_le x5, tc, li_m9, li_m4, li_m3, li_m2, li_m1, li_0, li_1, li_2, li_3, li_4, li_5, li_6, li_7, li_8, li_9, li_10, li_11, li_12, li_13, li_16, li_24, li_25, li_31, li_36, li_40, li_125, li_200, li_240, li_625, li_1000, li_100000, li_1000000, nm_q, bd_s, if_pos (show (0 : Int) ≤ c ∧ (c : Int) < 4 by omega), if_pos v2, if_pos v3, if_neg (show ¬ x5.toInt < 0 by omega), if_pos v5.2, fld_0_1, fld_4_0, elm_22, nI_cl (show c < 2 ^ 31 by omega), ck_k hc (show 4 < 1000 by omega), s_has n1 w hc, if_neg e, n1.1 c hc, kk, if_neg e4, s_ref3]
            rfl
          · have q2 := nr_RF (f := 3) n2
            have qr := (q2.1 c hc).2.1 e
            unfold f_X9_ranked
            simp only [s_in, li_m9, li_m4, li_m3, li_m2, li_m1, li_0, li_1, li_2, li_3, li_4, li_5, li_6, li_7, li_8, li_9, li_10, li_11, li_12, li_13, li_16, li_24, li_25, li_31, li_36, li_40, li_125, li_200, li_240, li_625, li_1000, li_100000, li_1000000, nm_q, bd_s, if_pos v2, if_pos v3, if_pos v5, s_askedFor q2 hc, if_neg e, fld_1_9, nI_cl (show c < 2 ^ 31 by omega), ck_k hc (show 4 < 1000 by omega), qr, kk, if_neg e4, s_met3]
            rfl
    · refine ⟨-1, M, M, ?_, ?_, h⟩
      · unfold f_X8_ranked
        simp only [s_isCounterNumber, nm_q, bd_s, if_neg hx]
        rfl
      · unfold f_X9_ranked
        simp only [s_in, li_m9, li_m4, li_m3, li_m2, li_m1, li_0, li_1, li_2, li_3, li_4, li_5, li_6, li_7, li_8, li_9, li_10, li_11, li_12, li_13, li_16, li_24, li_25, li_31, li_36, li_40, li_125, li_200, li_240, li_625, li_1000, li_100000, li_1000000, nm_q, bd_s, if_pos v2, if_pos v3, if_pos v5, s_askedFor_bad hx]
        rfl
  · refine ⟨-1, M, M, ?_, ?_, h⟩
    · unfold f_X8_ranked
      simp only [s_isCounterNumber, s_isComing, nm_q, bd_s, i_lt x5, i_le x5, li_m9, li_m4, li_m3, li_m2, li_m1, li_0, li_1, li_2, li_3, li_4, li_5, li_6, li_7, li_8, li_9, li_10, li_11, li_12, li_13, li_16, li_24, li_25, li_31, li_36, li_40, li_125, li_200, li_240, li_625, li_1000, li_100000, li_1000000]
      by_cases q : 0 ≤ x1.toInt ∧ x1.toInt < 4
      · by_cases q2 : 0 ≤ x2.toInt ∧ x2.toInt ≤ 9
        · by_cases q3 : 0 ≤ x3.toInt ∧ x3.toInt ≤ 9
          · by_cases q5 : x5.toInt < 0
            · simp [q, q2, q3, q5]
            · simp only [q, q2, q3, q5, if_neg (show ¬ x5.toInt ≤ 1 by omega)]
              simp
          · simp [q, q2, q3]
        · simp [q, q2]
      · simp [q]
    · unfold f_X9_ranked
      simp only [s_in, li_m9, li_m4, li_m3, li_m2, li_m1, li_0, li_1, li_2, li_3, li_4, li_5, li_6, li_7, li_8, li_9, li_10, li_11, li_12, li_13, li_16, li_24, li_25, li_31, li_36, li_40, li_125, li_200, li_240, li_625, li_1000, li_100000, li_1000000, nm_q, bd_s]
      by_cases q2 : 0 ≤ x2.toInt ∧ x2.toInt ≤ 9
      · by_cases q3 : 0 ≤ x3.toInt ∧ x3.toInt ≤ 9
        · have q5 : ¬ (0 ≤ x5.toInt ∧ x5.toInt ≤ 1) := by omega
          simp [q2, q3, q5]
        · simp [q2, q3]
      · simp [q2]

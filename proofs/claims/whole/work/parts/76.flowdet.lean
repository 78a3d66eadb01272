/-! the squares of flows: the class's and the reference's -/
def fE (v : Nat) (wy : Nat → Nf) (cm : Nf) (rp i j : Nat) : Int64 := if i = rp then Int32.toInt64 (nI (cm j)) else if v.testBit i = true ∧ v.testBit j = true then (if i = j then 4 else 0) - Int32.toInt64 (nI (wy i j)) else (if i = j then 4 else 0)
def FDn (M : Mm) (E : Nat → Nat → Int64) (i j : Nat) : Mm := (M.1, fun a c => if 55 ≤ a ∧ a < 59 ∧ c < 4 ∧ (a < 55 + i ∨ (a = 55 + i ∧ c < j)) then E (a - 55) c else M.2 a c)
theorem mJ_FDn (M : Mm) (E : Nat → Nat → Int64) (i j a c : Nat) : mJ (FDn M E i j) a c = if 55 ≤ a ∧ a < 59 ∧ c < 4 ∧ (a < 55 + i ∨ (a = 55 + i ∧ c < j)) then E (a - 55) c else mJ M a c := rfl
theorem FDn_0 (M : Mm) (E : Nat → Nat → Int64) : FDn M E 0 0 = M := by
  unfold FDn
  refine Prod.ext rfl ?_
  funext a c
  show (if 55 ≤ a ∧ a < 59 ∧ c < 4 ∧ (a < 55 + 0 ∨ (a = 55 + 0 ∧ c < 0)) then _ else M.2 a c) = M.2 a c
  rw [if_neg (by omega)]
theorem FDn_n (M : Mm) (E : Nat → Nat → Int64) (i : Nat) : FDn M E i 4 = FDn M E (i + 1) 0 := by
  unfold FDn
  refine Prod.ext rfl ?_
  funext a c
  show (if 55 ≤ a ∧ a < 59 ∧ c < 4 ∧ (a < 55 + i ∨ (a = 55 + i ∧ c < 4)) then E (a - 55) c else M.2 a c) = if 55 ≤ a ∧ a < 59 ∧ c < 4 ∧ (a < 55 + (i + 1) ∨ (a = 55 + (i + 1) ∧ c < 0)) then E (a - 55) c else M.2 a c
  by_cases h2 : 55 ≤ a ∧ a < 59 ∧ c < 4 ∧ (a < 55 + i ∨ (a = 55 + i ∧ c < 4))
  · rw [if_pos h2, if_pos (by omega)]
  · rw [if_neg h2, if_neg (by omega)]
theorem FDn_s (M : Mm) (E : Nat → Nat → Int64) {i j : Nat} (hi : i < 4) (hj : j < 4) : sJ (FDn M E i j) (55 + i) j (E i j) = FDn M E i (j + 1) := by
  unfold FDn sJ
  refine Prod.ext rfl ?_
  funext a c
  show (if a = 55 + i ∧ c = j then E i j else if 55 ≤ a ∧ a < 59 ∧ c < 4 ∧ (a < 55 + i ∨ (a = 55 + i ∧ c < j)) then E (a - 55) c else M.2 a c) = if 55 ≤ a ∧ a < 59 ∧ c < 4 ∧ (a < 55 + i ∨ (a = 55 + i ∧ c < j + 1)) then E (a - 55) c else M.2 a c
  by_cases h : a = 55 + i ∧ c = j
  · rw [if_pos h, if_pos (by omega), h.1, h.2, Nat.add_sub_cancel_left]
  · rw [if_neg h]
    by_cases h2 : 55 ≤ a ∧ a < 59 ∧ c < 4 ∧ (a < 55 + i ∨ (a = 55 + i ∧ c < j))
    · rw [if_pos h2, if_pos (by omega)]
    · rw [if_neg h2, if_neg (by omega)]
theorem fl39 (i : Nat) : elm (fld 39 0) i = 55 + i := by rw [fld_39_0, elm_42]
theorem s_flowDet {M : Mm} {kd rr hd rm cm : Nf} {wy : Nat → Nf} (n : NetC kd rr hd rm cm wy M) {v rp : Nat} {x : Int32} (hv : v < 16) (hx : ∀ i, i < 4 → (nI i = x ↔ i = rp)) : ∃ M', f_X4_flowDeterminant 4 (nI v) x M = some (detB (fE v wy cm rp) 4, M') ∧ Fw 39 55 M M' := by
  have n0 : ∀ i j, NetC kd rr hd rm cm wy (FDn (sI M 39 1 4) (fE v wy cm rp) i j) := fun i j => n.sc (fun a k q => by
    show (if a = 39 ∧ k = 1 then _ else mI M a k) = mI M a k
    rw [if_neg (by unfold pX at q; omega)])
  have l1 : ∀ (b i m : Nat), i + b = 4 → b < m → ∃ M', f_X4_flowDeterminant_b10 4 m (nI v) x (nI i) (FDn (sI M 39 1 4) (fE v wy cm rp) i 0) = some (detB (fE v wy cm rp) 4, M') ∧ Fw 39 55 M M' := by
    intro b
    induction b with
    | zero =>
      intro i m g1 g2
      obtain ⟨m, rfl⟩ : ∃ j, m = j + 1 := ⟨m - 1, by omega⟩
      have e : i = 4 := by omega
      subst e
      obtain ⟨M', e1, e2⟩ := s_det (o := 39) (q := 55) fl39 (n := 4) (by omega) (M := FDn (sI M 39 1 4) (fE v wy cm rp) 4 0) (A := fE v wy cm rp) (by show (if 39 = 39 ∧ 1 = 1 then (4 : Int32) else mI M 39 1) = _; rfl) (fun a c ha hc => by rw [mJ_FDn, if_pos (by omega), Nat.add_sub_cancel_left])
      refine ⟨M', ?_, fun a k z => ?_, fun a c z => ?_⟩
      · rw [f_X4_flowDeterminant_b10_s]
        unfold f_X4_flowDeterminant_b10B
        rw [if_pos (by decide), fld_4_2, e1, bd_s]
      · show M'.1 a k = _
        rw [e2.1]
        show (if a = 39 ∧ k = 1 then _ else mI M a k) = _
        rw [if_neg z]
      · rw [e2.2 a c z, mJ_FDn, if_neg (by omega)]
        rfl
    | succ b ih =>
      intro i m g1 g2
      obtain ⟨m, rfl⟩ : ∃ j, m = j + 1 := ⟨m - 1, by omega⟩
      have hih := ih (i + 1) m (by omega) (by omega)
      rw [f_X4_flowDeterminant_b10_s]
      unfold f_X4_flowDeterminant_b10B
      rw [if_neg (by rw [i_le, t_nI (by omega), li_4]; omega)]
      have inner : ∀ (c j m2 : Nat), j + c = 4 → c < m2 → ∃ M', f_X4_flowDeterminant_b18 (f_X4_flowDeterminant_b10 4 m) 4 m2 (nI v) x (nI i) (nI j) (FDn (sI M 39 1 4) (fE v wy cm rp) i j) = some (detB (fE v wy cm rp) 4, M') ∧ Fw 39 55 M M' := by
        intro c
        induction c with
        | zero =>
          intro j m2 k1 k2
          obtain ⟨m2, rfl⟩ : ∃ j, m2 = j + 1 := ⟨m2 - 1, by omega⟩
          have e : j = 4 := by omega
          subst e
          rw [f_X4_flowDeterminant_b18_s]
          unfold f_X4_flowDeterminant_b18B
          rw [if_pos (by decide), FDn_n, nm_q, nI_1]
          exact hih
        | succ c jh =>
          intro j m2 k1 k2
          obtain ⟨m2, rfl⟩ : ∃ j, m2 = j + 1 := ⟨m2 - 1, by omega⟩
          have hjh := jh (j + 1) m2 (by omega) (by omega)
          rw [← FDn_s (sI M 39 1 4) (fE v wy cm rp) (show i < 4 by omega) (show j < 4 by omega)] at hjh
          have ke : nI i = nI j ↔ i = j := n_inj (by omega) (by omega)
          have rj : mI (FDn (sI M 39 1 4) (fE v wy cm rp) i j) (23 + j) 5 = nI (cm j) := ((n0 i j).1 j (by omega)).2.2.2.2
          have rw' : mI (FDn (sI M 39 1 4) (fE v wy cm rp) i j) (27 + i) j = nI (wy i j) := (n0 i j).2 i j (by omega) (by omega)
          rw [f_X4_flowDeterminant_b18_s]
          unfold f_X4_flowDeterminant_b18B f_X4_flowDeterminant_b41 f_X4_flowDeterminant_b46 f_X4_flowDeterminant_b61 f_X4_flowDeterminant_b86 f_X4_flowDeterminant_b118
          rw [if_neg (by rw [i_le, t_nI (by omega), li_4]; omega)]
          simp only [tb0 v (by omega) i (by omega), tb0 v (by omega) j (by omega), fld_4_0, fld_4_2, fld_39_0, elm_42, elm_22, fld_cnt (show i < 4 by omega), nI_cl (show i < 2 ^ 31 by omega), nI_cl (show j < 2 ^ 31 by omega), ck_k (show i < 6 by omega) (show 6 < 1000 by omega), ck_k (show j < 6 by omega) (show 6 < 1000 by omega), ck_k (show i < 4 by omega) (show 4 < 1000 by omega), ck_k (show j < 4 by omega) (show 4 < 1000 by omega), hx i (by omega), ke, rj, rw', nm_q, bd_s, nI_1, show ¬ ((1 : Int32) = 0) by decide, if_true, if_false]
          by_cases hr : i = rp
          · rw [show fE v wy cm rp i j = Int32.toInt64 (nI (cm j)) by unfold fE; rw [if_pos hr]] at hjh
            simp only [if_pos hr]
            repeat' split
            all_goals exact hjh
          · simp only [if_neg hr]
            by_cases hi' : v.testBit i = true
            · by_cases hj' : v.testBit j = true
              · rw [show fE v wy cm rp i j = (if i = j then 4 else 0) - Int32.toInt64 (nI (wy i j)) by unfold fE; rw [if_neg hr, if_pos ⟨hi', hj'⟩]] at hjh
                rw [if_neg (by rw [hi']; decide), if_neg (by rw [hj']; decide)]
                by_cases hij : i = j
                · rw [if_pos hij] at hjh ⊢; exact hjh
                · rw [if_neg hij] at hjh ⊢; exact hjh
              · rw [show fE v wy cm rp i j = (if i = j then 4 else 0) by unfold fE; rw [if_neg hr, if_neg (fun hh => hj' hh.2)]] at hjh
                rw [if_neg (by rw [hi']; decide), if_pos (by simpa using hj')]
                by_cases hij : i = j
                · rw [if_pos hij] at hjh ⊢; exact hjh
                · rw [if_neg hij] at hjh ⊢; exact hjh
            · rw [show fE v wy cm rp i j = (if i = j then 4 else 0) by unfold fE; rw [if_neg hr, if_neg (fun hh => hi' hh.1)]] at hjh
              rw [if_pos (show v.testBit i = false by simpa using hi')]
              by_cases hij : i = j
              · rw [if_pos hij] at hjh ⊢; exact hjh
              · rw [if_neg hij] at hjh ⊢; exact hjh
      exact inner 4 0 fuel (by omega) (by show 4 < 1000; omega)
  have := l1 4 0 fuel (by omega) (by show 4 < 1000; omega)
  rw [FDn_0] at this
  unfold f_X4_flowDeterminant
  rw [nm_q, fld_4_2]
  exact this
/-- the reference's -/
def sE (wy : Nat → Nf) (i j : Nat) : Int64 := Int32.toInt64 ((if i = j then 4 else 0) - nI (wy j i))
def sEc (wy : Nat → Nf) (cm : Nf) (c t i j : Nat) : Int64 := if j = c ∧ i < t then 4 * Int32.toInt64 (nI (cm i)) else sE wy i j
/-- a square of the reference's, laid in part -/
def SRn (M : Mm) (E : Nat → Nat → Int64) (i j : Nat) : Mm := (M.1, fun a c => if a = 95 ∧ c < 36 ∧ c % 6 < 4 ∧ c / 6 < 4 ∧ (c / 6 < i ∨ (c / 6 = i ∧ c % 6 < j)) then E (c / 6) (c % 6) else M.2 a c)
theorem mJ_SRn (M : Mm) (E : Nat → Nat → Int64) (i j a c : Nat) : mJ (SRn M E i j) a c = if a = 95 ∧ c < 36 ∧ c % 6 < 4 ∧ c / 6 < 4 ∧ (c / 6 < i ∨ (c / 6 = i ∧ c % 6 < j)) then E (c / 6) (c % 6) else mJ M a c := rfl
theorem SRn_0 (M : Mm) (E : Nat → Nat → Int64) : SRn M E 0 0 = M := by
  unfold SRn
  refine Prod.ext rfl ?_
  funext a c
  show (if a = 95 ∧ c < 36 ∧ c % 6 < 4 ∧ c / 6 < 4 ∧ (c / 6 < 0 ∨ (c / 6 = 0 ∧ c % 6 < 0)) then _ else M.2 a c) = M.2 a c
  rw [if_neg (by omega)]
theorem SRn_n (M : Mm) (E : Nat → Nat → Int64) (i : Nat) : SRn M E i 4 = SRn M E (i + 1) 0 := by
  unfold SRn
  refine Prod.ext rfl ?_
  funext a c
  show (if a = 95 ∧ c < 36 ∧ c % 6 < 4 ∧ c / 6 < 4 ∧ (c / 6 < i ∨ (c / 6 = i ∧ c % 6 < 4)) then E (c / 6) (c % 6) else M.2 a c) = if a = 95 ∧ c < 36 ∧ c % 6 < 4 ∧ c / 6 < 4 ∧ (c / 6 < i + 1 ∨ (c / 6 = i + 1 ∧ c % 6 < 0)) then E (c / 6) (c % 6) else M.2 a c
  by_cases h2 : a = 95 ∧ c < 36 ∧ c % 6 < 4 ∧ c / 6 < 4 ∧ (c / 6 < i ∨ (c / 6 = i ∧ c % 6 < 4))
  · rw [if_pos h2, if_pos (by omega)]
  · rw [if_neg h2, if_neg (by omega)]
theorem SRn_s (M : Mm) (E : Nat → Nat → Int64) {i j : Nat} (hi : i < 4) (hj : j < 4) : sJ (SRn M E i j) 95 (6 * i + j) (E i j) = SRn M E i (j + 1) := by
  unfold SRn sJ
  refine Prod.ext rfl ?_
  funext a c
  show (if a = 95 ∧ c = 6 * i + j then E i j else if a = 95 ∧ c < 36 ∧ c % 6 < 4 ∧ c / 6 < 4 ∧ (c / 6 < i ∨ (c / 6 = i ∧ c % 6 < j)) then E (c / 6) (c % 6) else M.2 a c) = if a = 95 ∧ c < 36 ∧ c % 6 < 4 ∧ c / 6 < 4 ∧ (c / 6 < i ∨ (c / 6 = i ∧ c % 6 < j + 1)) then E (c / 6) (c % 6) else M.2 a c
  have e := d6 (i := i) (show j < 6 by omega)
  by_cases h : a = 95 ∧ c = 6 * i + j
  · rw [if_pos h, if_pos (by omega), h.2, e.1, e.2]
  · rw [if_neg h]
    by_cases h2 : a = 95 ∧ c < 36 ∧ c % 6 < 4 ∧ c / 6 < 4 ∧ (c / 6 < i ∨ (c / 6 = i ∧ c % 6 < j))
    · rw [if_pos h2, if_pos (by omega)]
    · rw [if_neg h2, if_neg (by omega)]
theorem ix4 (i j : Nat) : (4 : Int32) * nI i + nI j = nI (4 * i + j) := by rw [show (4 : Int32) = nI 4 from rfl, n_mul, nI_add]
/-- what setFlow leaves -/
theorem s_sf98 {M : Mm} {kd rr hd rm cm : Nf} {wy : Nat → Nf} (n : NetR kd rr hd rm cm wy M) {c : Nat} (hc : c < 4) {v : Nat} (hv16 : v < 2 ^ 4) {A U : Int64} (hU : detB (suB (sEc wy cm c 4) v 4) (bc v 4) = U) (ha : A.toInt ≠ 0 ∧ A.toInt ≠ -9223372036854775808) (hu : U.toInt ≠ -9223372036854775808) (h0 : 0 ≤ A.toInt) : ∀ (b t m : Nat) (Mj : Mm), t + b = 4 → b < m → (∀ a k, a ≠ 96 → mI Mj a k = mI M a k) → (∀ a k, ¬ (a = 95 ∨ a = 97 ∨ (a = 1 ∧ (k = 18 ∨ k = 19))) → mJ Mj a k = mJ M a k) → (∀ x y, x < 4 → y < 4 → mJ Mj 95 (6 * x + y) = sEc wy cm c t x y) → ∃ M', f_X9_setFlow_b98 1 m (nI c) (nI v) A (nI t) Mj = some M' ∧ Sc M M' ∧ mJ M' 1 18 = frU U A ∧ mJ M' 1 19 = frL U A := by
  have hAb := l_bd A
  obtain ⟨g1, g2⟩ := gcd_b (u := U.toInt) ha.1 (by omega)
  have tg : (lN (Nat.gcd U.toInt.natAbs A.toInt.natAbs)).toInt = (Nat.gcd U.toInt.natAbs A.toInt.natAbs : Int) := pk_lT g2
  have keep : ∀ M1 : Mm, (∀ a k, a ≠ 96 → mI M1 a k = mI M a k) → NetR kd rr hd rm cm wy M1 := fun M1 hk => n.sc (fun a k q => hk a k (by unfold pR at q; omega))
  intro b
  induction b with
  | zero =>
    intro t m Mj k1 k2 hI hJ hs
    obtain ⟨m, rfl⟩ : ∃ j, m = j + 1 := ⟨m - 1, by omega⟩
    have e : t = 4 := by omega
    subst e
    obtain ⟨M5, e1, e2⟩ := s_worth (M := Mj) (E := sEc wy cm c 4) (s := 4) (v := v) (by omega) hv16 hs
    rw [hU] at e1
    refine ⟨sJ (sJ M5 1 18 (frU U A)) 1 19 (frL U A), ?_, ⟨fun a k q => ?_, fun k => ?_, fun k q => ?_⟩, ?_, ?_⟩
    · rw [f_X9_setFlow_b98_s]
      unfold f_X9_setFlow_b98B frU frL
      rw [show nI 4 = 4 from rfl] at e1
      rw [if_pos (by decide), e1]
      simp only [nm_q, bd_s, s_divisor M5 hu ha.2]
      have nz : ¬ lN (Nat.gcd U.toInt.natAbs A.toInt.natAbs) = 0 := by rw [l_eq, tg]; show ¬ ((Nat.gcd U.toInt.natAbs A.toInt.natAbs : Int) = 0); omega
      rw [dvJ_ok nz, dvJ_ok nz, if_neg (show ¬ A.toInt < 0 by omega)]
    · show mI M5 a k = mI M a k
      rw [e2.1 a k (by unfold pX pR at q; omega), hI a k (by unfold pX pR at q; omega)]
    · rw [mJ_sJ, if_neg (by omega), mJ_sJ, if_neg (by omega), e2.2 7 k (by omega), hJ 7 k (by omega)]
    · rw [mJ_sJ, if_neg (by omega), mJ_sJ, if_neg (by omega), e2.2 1 k (by omega), hJ 1 k (by omega)]
    · rw [mJ_sJ, if_neg (by omega), mJ_sJ, if_pos ⟨rfl, rfl⟩]
    · rw [mJ_sJ, if_pos ⟨rfl, rfl⟩]
  | succ b ih =>
    intro t m Mj k1 k2 hI hJ hs
    obtain ⟨m, rfl⟩ : ∃ j, m = j + 1 := ⟨m - 1, by omega⟩
    have hcm : mI Mj 93 t = nI (cm t) := ((keep Mj hI).1 t (by omega)).2.2
    rw [f_X9_setFlow_b98_s]
    unfold f_X9_setFlow_b98B
    rw [if_neg (by rw [i_le, t_nI (by omega), li_4]; omega)]
    simp only [ix6, ck_k (show t < 4 by omega) (show 4 < 1000 by omega), ck_k (show 6 * t + c < 36 by omega) (show 36 < 1000 by omega), nI_cl (show t < 2 ^ 31 by omega), nI_cl (show 6 * t + c < 2 ^ 31 by omega), fld_1_13, fld_1_15, hcm, nm_q, bd_s, nI_1]
    refine ih (t + 1) m _ (by omega) (by omega) hI (fun a k q => ?_) (fun x y hx hy => ?_)
    · rw [mJ_sJ, if_neg (by omega)]; exact hJ a k q
    · rw [mJ_sJ]
      unfold sEc
      by_cases hxy : x = t ∧ y = c
      · rw [if_pos (by omega), if_pos (by omega), hxy.1]
      · rw [if_neg (by omega), hs x y hx hy]
        unfold sEc
        by_cases h2 : y = c ∧ x < t
        · rw [if_pos h2, if_pos (by omega)]
        · rw [if_neg h2, if_neg (by omega)]
theorem s_sf26 {M : Mm} {kd rr hd rm cm : Nf} {wy : Nat → Nf} (n : NetR kd rr hd rm cm wy M) {c : Nat} (hc : c < 4) {v : Nat} (hv16 : v < 2 ^ 4) {A U : Int64} (hA : detB (suB (sE wy) v 4) (bc v 4) = A) (hU : detB (suB (sEc wy cm c 4) v 4) (bc v 4) = U) (ha : A.toInt ≠ 0 ∧ A.toInt ≠ -9223372036854775808) (hu : U.toInt ≠ -9223372036854775808) (h0 : 0 ≤ A.toInt) : ∃ M', f_X9_setFlow_b26 1 fuel (nI c) (nI v) (nI 0) (sJ (sJ M 1 18 0) 1 19 1) = some M' ∧ Sc M M' ∧ mJ M' 1 18 = frU U A ∧ mJ M' 1 19 = frL U A := by
  have l3 := s_sf98 n hc hv16 hU ha hu h0
  have l1 : ∀ (b i m : Nat), i + b = 4 → b < m → ∃ M', f_X9_setFlow_b26 1 m (nI c) (nI v) (nI i) (SRn (sJ (sJ M 1 18 0) 1 19 1) (sE wy) i 0) = some M' ∧ Sc M M' ∧ mJ M' 1 18 = frU U A ∧ mJ M' 1 19 = frL U A := by
    intro b
    induction b with
    | zero =>
      intro i m k1 k2
      obtain ⟨m, rfl⟩ : ∃ j, m = j + 1 := ⟨m - 1, by omega⟩
      have e : i = 4 := by omega
      subst e
      obtain ⟨M5, e1, e2⟩ := s_worth (M := SRn (sJ (sJ M 1 18 0) 1 19 1) (sE wy) 4 0) (E := sE wy) (s := 4) (v := v) (by omega) hv16 (fun x y hx hy => by
        have q := d6 (i := x) (show y < 6 by omega)
        rw [mJ_SRn, q.1, q.2, if_pos (by omega)])
      rw [hA] at e1
      rw [show nI 4 = 4 from rfl] at e1
      rw [f_X9_setFlow_b26_s]
      unfold f_X9_setFlow_b26B
      rw [if_pos (by decide), e1, bd_s]
      refine l3 4 0 fuel M5 (by omega) (by show 4 < 1000; omega) (fun a k q => e2.1 a k q) (fun a k q => ?_) (fun x y hx hy => ?_)
      · rw [e2.2 a k (by omega), mJ_SRn, if_neg (by omega)]
        show mJ (sJ (sJ M 1 18 0) 1 19 1) a k = _
        rw [mJ_sJ, if_neg (by omega), mJ_sJ, if_neg (by omega)]
      · have q := d6 (i := x) (show y < 6 by omega)
        rw [e2.2 95 _ (by omega), mJ_SRn, q.1, q.2, if_pos (by omega)]
        unfold sEc
        rw [if_neg (by omega)]
    | succ b ih =>
      intro i m k1 k2
      obtain ⟨m, rfl⟩ : ∃ j, m = j + 1 := ⟨m - 1, by omega⟩
      have hih := ih (i + 1) m (by omega) (by omega)
      rw [f_X9_setFlow_b26_s]
      unfold f_X9_setFlow_b26B
      rw [if_neg (by rw [i_le, t_nI (by omega), li_4]; omega)]
      have inner : ∀ (d j m2 : Nat), j + d = 4 → d < m2 → ∃ M', f_X9_setFlow_b34 (f_X9_setFlow_b26 1 m) 1 m2 (nI c) (nI v) (nI i) (nI j) (SRn (sJ (sJ M 1 18 0) 1 19 1) (sE wy) i j) = some M' ∧ Sc M M' ∧ mJ M' 1 18 = frU U A ∧ mJ M' 1 19 = frL U A := by
        intro d
        induction d with
        | zero =>
          intro j m2 g1' g2'
          obtain ⟨m2, rfl⟩ : ∃ j, m2 = j + 1 := ⟨m2 - 1, by omega⟩
          have e : j = 4 := by omega
          subst e
          rw [f_X9_setFlow_b34_s]
          unfold f_X9_setFlow_b34B
          rw [if_pos (by decide), SRn_n, nm_q, nI_1]
          exact hih
        | succ d jh =>
          intro j m2 g1' g2'
          obtain ⟨m2, rfl⟩ : ∃ j, m2 = j + 1 := ⟨m2 - 1, by omega⟩
          have hjh := jh (j + 1) m2 (by omega) (by omega)
          rw [← SRn_s (sJ (sJ M 1 18 0) 1 19 1) (sE wy) (show i < 4 by omega) (show j < 4 by omega)] at hjh
          have ke : nI i = nI j ↔ i = j := n_inj (by omega) (by omega)
          have rw' : mI (SRn (sJ (sJ M 1 18 0) 1 19 1) (sE wy) i j) 94 (4 * j + i) = nI (wy j i) := n.2 j i (by omega) (by omega)
          rw [f_X9_setFlow_b34_s]
          unfold f_X9_setFlow_b34B f_X9_setFlow_b62
          rw [if_neg (by rw [i_le, t_nI (by omega), li_4]; omega)]
          simp only [ix6, ix4, ck_k (show 4 * j + i < 16 by omega) (show 16 < 1000 by omega), ck_k (show 6 * i + j < 36 by omega) (show 36 < 1000 by omega), nI_cl (show 4 * j + i < 2 ^ 31 by omega), nI_cl (show 6 * i + j < 2 ^ 31 by omega), fld_1_14, fld_1_15, rw', ke, nm_q, bd_s, nI_1]
          by_cases hij : i = j
          · rw [show sE wy i j = Int32.toInt64 (4 - nI (wy j i)) by unfold sE; rw [if_pos hij]] at hjh
            rw [if_pos hij]; exact hjh
          · rw [show sE wy i j = Int32.toInt64 (0 - nI (wy j i)) by unfold sE; rw [if_neg hij]] at hjh
            rw [if_neg hij]; exact hjh
      exact inner 4 0 fuel (by omega) (by show 4 < 1000; omega)
  have := l1 4 0 fuel (by omega) (by show 4 < 1000; omega)
  rw [SRn_0] at this
  exact this
theorem s_setFlow {M : Mm} {kd rr hd rm cm : Nf} {wy : Nat → Nf} (n : NetR kd rr hd rm cm wy M) (w : wfN kd rr hd rm cm wy) {c : Nat} (hc : c < 4) {v : Nat} (hv : v = RC kd cm wy) (hv16 : v < 2 ^ 4) (hb : v.testBit c = true) {A U : Int64} (hA : detB (suB (sE wy) v 4) (bc v 4) = A) (hU : detB (suB (sEc wy cm c 4) v 4) (bc v 4) = U) (ha : A.toInt ≠ 0 ∧ A.toInt ≠ -9223372036854775808) (hu : U.toInt ≠ -9223372036854775808) (h0 : 0 ≤ A.toInt) : ∃ M', f_X9_setFlow 1 (nI c) M = some M' ∧ Sc M M' ∧ mJ M' 1 18 = frU U A ∧ mJ M' 1 19 = frL U A := by
  obtain ⟨M', t1, t2⟩ := s_sf26 n hc hv16 hA hU ha hu h0
  refine ⟨M', ?_, t2⟩
  have hrc : f_X9_reached 1 M = some (nI v, M) := by rw [hv]; exact s_rreached n w
  unfold f_X9_setFlow
  rw [hrc, bd_s, nm_q, nm_q, if_neg (fun hh => by rw [tb0 v (by omega) c (by omega), hb] at hh; exact absurd hh (by decide))]
  exact t1

/-! way, product, mark -/
theorem al_way (x1 x2 x3 : Int32) : Alike (f_X8_way 0 x1 x2 x3) (f_X9_way 1 x1 x2 x3) := by
  intro M h
  obtain ⟨⟨kd, rt, hd, rm, cm, wy, w, n1, n2⟩, hrow, hflg⟩ := id h
  rcases x_split4 x1 with ⟨a, ha, rfl⟩ | hx
  · have ta : (nI a).toInt = (a : Int) := t_nI (by omega)
    rcases x_split4 x2 with ⟨b, hb, rfl⟩ | hx
    · have tb : (nI b).toInt = (b : Int) := t_nI (by omega)
      by_cases hv : 0 ≤ x3.toInt ∧ x3.toInt ≤ 4
      · obtain ⟨j, hj, rfl⟩ := x_of (x := x3) (n := 5) (in_iff.mpr (by omega)) (by omega)
        have tj : (nI j).toInt = (j : Int) := t_nI (by omega)
        rw [tj] at hv
        by_cases e : kd a = 9 ∨ kd b = 9
        · refine ⟨-3, RF M 1, RM (RF M 1) 1, ?_, ?_, inv_ref h (by omega) (by omega) (Sc.rf _) (Sc.rf _)⟩
          · unfold f_X8_way f_X8_way_b47
            simp only [s_isCounterNumber, i_lt, i_le, ta, tb, tj, li_m9, li_m4, li_m3, li_m2, li_m1, li_0, li_1, li_2, li_3, li_4, li_5, li_6, li_7, li_8, li_9, li_10, li_11, li_12, li_13, li_16, li_24, li_25, li_31, li_36, li_40, li_125, li_200, li_240, li_625, li_1000, li_100000, li_1000000, nm_q, bd_s, if_pos (show (0 : Int) ≤ a ∧ (a : Int) < 4 by omega), if_pos (show (0 : Int) ≤ b ∧ (b : Int) < 4 by omega), fld_0_1, s_has n1 w ha, s_has n1 w hb, if_neg (show ¬ (j : Int) < 0 by omega), if_pos (show (j : Int) ≤ 4 by omega), s_ref1]
            by_cases e1 : kd a = 9
            · simp [e1]
            · simp [e1, show kd b = 9 by omega]
          · have q2 := nr_RF (f := 1) n2
            unfold f_X9_way f_X9_way_b43
            simp only [s_isCounter, s_in, ta, tb, tj, li_m9, li_m4, li_m3, li_m2, li_m1, li_0, li_1, li_2, li_3, li_4, li_5, li_6, li_7, li_8, li_9, li_10, li_11, li_12, li_13, li_16, li_24, li_25, li_31, li_36, li_40, li_125, li_200, li_240, li_625, li_1000, li_100000, li_1000000, nm_q, bd_s, if_pos (show (0 : Int) ≤ a ∧ (a : Int) < 4 by omega), if_pos (show (0 : Int) ≤ b ∧ (b : Int) < 4 by omega), if_pos hv, fld_1_8, nI_cl (show a < 2 ^ 31 by omega), nI_cl (show b < 2 ^ 31 by omega), ck_k ha (show 4 < 1000 by omega), ck_k hb (show 4 < 1000 by omega), (q2.1 a ha).1, (q2.1 b hb).1, s_met1]
            by_cases e1 : kd a = 9
            · simp [e1]
            · simp [e1, show kd b = 9 by omega]
        · have ea : kd a ≠ 9 := by omega
          have eb : kd b ≠ 9 := by omega
          have hs := (w a ha).2.2.2.2.2.2
          have hwb : wy a b ≤ wy a 0 + wy a 1 + wy a 2 + wy a 3 := by
            have : b = 0 ∨ b = 1 ∨ b = 2 ∨ b = 3 := by omega
            rcases this with rfl | rfl | rfl | rfl <;> omega
          have tl : (nI (4 - (wy a 0 + wy a 1 + wy a 2 + wy a 3)) + nI (wy a b)).toInt = ((4 - (wy a 0 + wy a 1 + wy a 2 + wy a 3) + wy a b : Nat) : Int) := by rw [nI_add, t_nI (by omega)]
          have tr : (nI (wy a 0 + wy a 1 + wy a 2 + wy a 3) - nI (wy a b) + nI j).toInt = ((wy a 0 + wy a 1 + wy a 2 + wy a 3 - wy a b + j : Nat) : Int) := by rw [pk_sub hwb, nI_add, t_nI (by omega)]
          have eX : f_X8_way 0 (nI a) (nI b) (nI j) M = if wy a 0 + wy a 1 + wy a 2 + wy a 3 - wy a b + j ≤ 4 then some (nI (wy a b), sI M (27 + a) b (nI j)) else some (-4, M) := by
            unfold f_X8_way
            simp only [s_isCounterNumber, i_lt, i_le, ta, tb, tj, li_m9, li_m4, li_m3, li_m2, li_m1, li_0, li_1, li_2, li_3, li_4, li_5, li_6, li_7, li_8, li_9, li_10, li_11, li_12, li_13, li_16, li_24, li_25, li_31, li_36, li_40, li_125, li_200, li_240, li_625, li_1000, li_100000, li_1000000, nm_q, bd_s, if_pos (show (0 : Int) ≤ a ∧ (a : Int) < 4 by omega), if_pos (show (0 : Int) ≤ b ∧ (b : Int) < 4 by omega), fld_0_1, fld_4_0, elm_22, s_has n1 w ha, s_has n1 w hb, if_neg (show ¬ (j : Int) < 0 by omega), if_pos (show (j : Int) ≤ 4 by omega), if_neg ea, if_neg eb, nI_cl (show a < 2 ^ 31 by omega), nI_cl (show b < 2 ^ 31 by omega), ck_k ha (show 4 < 1000 by omega), ck_k hb (show 4 < 1000 by omega), fld_cnt ha, n1.2 a b ha hb, s_leaving n1 w ha, tl]
            rw [if_neg (by decide), if_neg (by decide), if_neg (by decide), if_neg (by decide)]
            by_cases q : wy a 0 + wy a 1 + wy a 2 + wy a 3 - wy a b + j ≤ 4
            · rw [if_pos q, if_pos (by omega)]
            · rw [if_neg q, if_neg (by omega)]
          have eR : ∀ Ma, NetR kd rt hd rm cm wy Ma → f_X9_way 1 (nI a) (nI b) (nI j) Ma = if wy a 0 + wy a 1 + wy a 2 + wy a 3 - wy a b + j ≤ 4 then some (nI (wy a b), sI Ma 94 (4 * a + b) (nI j)) else some (-4, Ma) := by
            intro Ma q2
            unfold f_X9_way
            simp only [s_isCounter, s_in, ta, tb, tj, li_m9, li_m4, li_m3, li_m2, li_m1, li_0, li_1, li_2, li_3, li_4, li_5, li_6, li_7, li_8, li_9, li_10, li_11, li_12, li_13, li_16, li_24, li_25, li_31, li_36, li_40, li_125, li_200, li_240, li_625, li_1000, li_100000, li_1000000, nm_q, bd_s, if_pos (show (0 : Int) ≤ a ∧ (a : Int) < 4 by omega), if_pos (show (0 : Int) ≤ b ∧ (b : Int) < 4 by omega), if_pos hv, fld_1_8, fld_1_14, nI_cl (show a < 2 ^ 31 by omega), nI_cl (show b < 2 ^ 31 by omega), ck_k ha (show 4 < 1000 by omega), ck_k hb (show 4 < 1000 by omega), (q2.1 a ha).1, (q2.1 b hb).1, if_neg ea, if_neg eb, ck_w ha hb, cl_w ha hb, q2.2 a b ha hb, s_outOf q2 ha, i_le (nI (wy a 0 + wy a 1 + wy a 2 + wy a 3) - nI (wy a b) + nI j), tr]
            rw [if_neg (by decide), if_neg (by decide), if_neg (by decide), if_neg (by decide), if_neg (by decide)]
            by_cases q : wy a 0 + wy a 1 + wy a 2 + wy a 3 - wy a b + j ≤ 4
            · rw [if_pos q, if_pos (by omega)]
            · rw [if_neg q, if_neg (by omega)]
          by_cases q : wy a 0 + wy a 1 + wy a 2 + wy a 3 - wy a b + j ≤ 4
          · rw [if_pos q] at eX
            have eR2 := eR _ (nr_sI (a := 27 + a) (k := b) (v := nI j) n2 (by omega))
            rw [if_pos q] at eR2
            refine ⟨_, _, _, eX, eR2, inv_net h (fun u k p z => ?_) rfl ⟨kd, rt, hd, rm, cm, fun c k => if c = a ∧ k = b then j else wy c k, ?_, ⟨fun d hd9 => ?_, fun d k hd9 hk => ?_⟩, ⟨fun d hd9 => ?_, fun d k hd9 hk => ?_⟩⟩⟩
            · rw [mI_sI, if_neg (by unfold netA at z; omega), mI_sI, if_neg (by unfold netA at z; omega)]
            · intro d hd9
              have qd := w d hd9
              refine ⟨qd.1, qd.2.1, qd.2.2.1, qd.2.2.2.1, qd.2.2.2.2.1, fun h9 => ⟨(qd.2.2.2.2.2.1 h9).1, fun k hk => ⟨?_, ?_⟩⟩, ?_⟩
              · show (if d = a ∧ k = b then j else wy d k) = 0
                rw [if_neg (show ¬ (d = a ∧ k = b) from fun z => ea (z.1 ▸ h9))]; exact ((qd.2.2.2.2.2.1 h9).2 k hk).1
              · show (if k = a ∧ d = b then j else wy k d) = 0
                rw [if_neg (show ¬ (k = a ∧ d = b) from fun z => eb (z.2 ▸ h9))]; exact ((qd.2.2.2.2.2.1 h9).2 k hk).2
              · show (if d = a ∧ 0 = b then j else wy d 0) + (if d = a ∧ 1 = b then j else wy d 1) + (if d = a ∧ 2 = b then j else wy d 2) + (if d = a ∧ 3 = b then j else wy d 3) ≤ 4
                by_cases z : d = a
                · subst z
                  have : b = 0 ∨ b = 1 ∨ b = 2 ∨ b = 3 := by omega
                  rcases this with rfl | rfl | rfl | rfl <;> simp <;> omega
                · simp [z]; exact qd.2.2.2.2.2.2
            · simp only [mI_sI, show ¬ (23 + d = 94) by omega, show ¬ (23 + d = 27 + a) by omega, false_and, if_false]
              exact n1.1 d hd9
            · show _ = nI (if d = a ∧ k = b then j else wy d k)
              rw [mI_sI, if_neg (by omega), mI_sI]
              by_cases z : d = a ∧ k = b
              · rw [if_pos z, if_pos (by omega)]
              · rw [if_neg z, if_neg (by omega)]; exact n1.2 d k hd9 hk
            · simp only [mI_sI, show ¬ (88 = 94) by omega, show ¬ (89 = 94) by omega, show ¬ (90 = 94) by omega, show ¬ (91 = 94) by omega, show ¬ (92 = 94) by omega, show ¬ (93 = 94) by omega, show ¬ (88 = 27 + a) by omega, show ¬ (89 = 27 + a) by omega, show ¬ (90 = 27 + a) by omega, show ¬ (91 = 27 + a) by omega, show ¬ (92 = 27 + a) by omega, show ¬ (93 = 27 + a) by omega, false_and, if_false]
              exact n2.1 d hd9
            · show _ = nI (if d = a ∧ k = b then j else wy d k)
              rw [mI_sI]
              by_cases z : d = a ∧ k = b
              · rw [if_pos z, if_pos (by omega)]
              · rw [if_neg z, if_neg (by omega), mI_sI, if_neg (by omega)]; exact n2.2 d k hd9 hk
          · rw [if_neg q] at eX
            have eR2 := eR M n2
            rw [if_neg q] at eR2
            exact ⟨_, _, _, eX, eR2, h⟩
      · refine ⟨-1, M, M, ?_, ?_, h⟩
        · unfold f_X8_way
          simp only [s_isCounterNumber, i_lt, i_le, ta, tb, li_m9, li_m4, li_m3, li_m2, li_m1, li_0, li_1, li_2, li_3, li_4, li_5, li_6, li_7, li_8, li_9, li_10, li_11, li_12, li_13, li_16, li_24, li_25, li_31, li_36, li_40, li_125, li_200, li_240, li_625, li_1000, li_100000, li_1000000, nm_q, bd_s, if_pos (show (0 : Int) ≤ a ∧ (a : Int) < 4 by omega), if_pos (show (0 : Int) ≤ b ∧ (b : Int) < 4 by omega)]
          by_cases q2 : x3.toInt < 0
          · simp [q2]
          · simp only [q2, if_neg (show ¬ x3.toInt ≤ 4 by omega)]
            simp
        · unfold f_X9_way
          simp only [s_isCounter, s_in, ta, tb, li_m9, li_m4, li_m3, li_m2, li_m1, li_0, li_1, li_2, li_3, li_4, li_5, li_6, li_7, li_8, li_9, li_10, li_11, li_12, li_13, li_16, li_24, li_25, li_31, li_36, li_40, li_125, li_200, li_240, li_625, li_1000, li_100000, li_1000000, nm_q, bd_s, if_pos (show (0 : Int) ≤ a ∧ (a : Int) < 4 by omega), if_pos (show (0 : Int) ≤ b ∧ (b : Int) < 4 by omega), if_neg hv]
          rfl
    · refine ⟨-1, M, M, ?_, ?_, h⟩
      · unfold f_X8_way
        simp only [s_isCounterNumber, ta, nm_q, bd_s, if_pos (show (0 : Int) ≤ a ∧ (a : Int) < 4 by omega), if_neg hx]
        rfl
      · unfold f_X9_way
        simp only [s_isCounter, ta, nm_q, bd_s, if_pos (show (0 : Int) ≤ a ∧ (a : Int) < 4 by omega), if_neg hx]
        rfl
  · refine ⟨-1, M, M, ?_, ?_, h⟩
    · unfold f_X8_way
      simp only [s_isCounterNumber, nm_q, bd_s, if_neg hx]
      rfl
    · unfold f_X9_way
      simp only [s_isCounter, nm_q, bd_s, if_neg hx]
      rfl
/-- whether the k counters from i on are no RANKED, no ROOMED ones -/
def gF (kd : Nf) : Nat → Nat → Bool
  | 0, _ => true
  | k + 1, i => !(kd i == 4 || kd i == 5) && gF kd k (i + 1)
theorem s_prodX_l {M : Mm} {kd rt hd rm cm : Nf} {wy : Nat → Nf} (n : NetC kd rt hd rm cm wy M) (w : wfN kd rt hd rm cm wy) : ∀ (k i m : Nat), i + k = 4 → k < m → f_X4_isProduct_b2 4 m (nI i) M = some (if gF kd k i = true then 1 else 0, M) := by
  intro k
  induction k with
  | zero =>
    intro i m h1 h2
    obtain ⟨m, rfl⟩ : ∃ j, m = j + 1 := ⟨m - 1, by omega⟩
    rw [f_X4_isProduct_b2_s]
    unfold f_X4_isProduct_b2B gF
    rw [if_pos (by rw [i_le, t_nI (by omega), li_4]; omega)]
    rfl
  | succ k ih =>
    intro i m h1 h2
    obtain ⟨m, rfl⟩ : ∃ j, m = j + 1 := ⟨m - 1, by omega⟩
    have k4 := kd_eq (kd := kd) (c := i) (j := 4) (w i (by omega)).1 (by omega)
    have k5 := kd_eq (kd := kd) (c := i) (j := 5) (w i (by omega)).1 (by omega)
    rw [show nI 4 = 4 from rfl] at k4
    rw [show nI 5 = 5 from rfl] at k5
    rw [f_X4_isProduct_b2_s]
    unfold f_X4_isProduct_b2B gF
    rw [if_neg (by rw [i_le, t_nI (by omega), li_4]; omega)]
    simp only [ck_k (show i < 4 by omega) (show 4 < 1000 by omega), nm_q, bd_s, fld_4_0, elm_22, nI_cl (show i < 2 ^ 31 by omega), nI_1, (n.1 i (by omega)).1, k4, k5, ih (i + 1) m (by omega) (by omega)]
    by_cases e4 : kd i = 4
    · simp [e4]
    · by_cases e5 : kd i = 5 <;> simp [e4, e5]
theorem s_prodX {M : Mm} {kd rt hd rm cm : Nf} {wy : Nat → Nf} (n : NetC kd rt hd rm cm wy M) (w : wfN kd rt hd rm cm wy) : f_X4_isProduct 4 M = some (if gF kd 4 0 = true then 1 else 0, M) := s_prodX_l n w 4 0 fuel (by omega) (by show 4 < 1000; omega)
theorem s_prodR_l {M : Mm} {kd rt hd rm cm : Nf} {wy : Nat → Nf} (n : NetR kd rt hd rm cm wy M) (w : wfN kd rt hd rm cm wy) : ∀ (k i m : Nat) (v : Int32), (v = 0 ∨ v = 1) → i + k = 4 → k < m → f_X9_isProduct_b4 1 m v (nI i) M = some (if v = 1 ∧ gF kd k i = true then 1 else 0, M) := by
  intro k
  induction k with
  | zero =>
    intro i m v hv h1 h2
    obtain ⟨m, rfl⟩ : ∃ j, m = j + 1 := ⟨m - 1, by omega⟩
    rw [f_X9_isProduct_b4_s]
    unfold f_X9_isProduct_b4B gF
    rw [if_pos (by rw [i_le, t_nI (by omega), li_4]; omega)]
    rcases hv with rfl | rfl <;> rfl
  | succ k ih =>
    intro i m v hv h1 h2
    obtain ⟨m, rfl⟩ : ∃ j, m = j + 1 := ⟨m - 1, by omega⟩
    have q := n.1 i (by omega)
    have wi := w i (by omega)
    rw [f_X9_isProduct_b4_s]
    unfold f_X9_isProduct_b4B f_X9_isProduct_b32 gF
    rw [if_neg (by rw [i_le, t_nI (by omega), li_4]; omega)]
    simp only [ck_k (show i < 4 by omega) (show 4 < 1000 by omega), nm_q, bd_s, fld_1_8, fld_1_9, nI_cl (show i < 2 ^ 31 by omega), nI_1, q.1, ih (i + 1) m 0 (Or.inl rfl) (by omega) (by omega), ih (i + 1) m 1 (Or.inr rfl) (by omega) (by omega)]
    rcases hv with rfl | rfl
    · simp
    · by_cases e : kd i = 9
      · simp [e]
      · rw [(q.2.1 e).1]
        have z : ((4 : Int32) ≤ nI (kd i)) ↔ (kd i = 4 ∨ kd i = 5) := by rw [i_le, t_nI (by omega), li_4]; omega
        simp only [z]
        by_cases e4 : kd i = 4
        · simp [e4]
        · by_cases e5 : kd i = 5 <;> simp [e, e4, e5]
theorem s_prodR {M : Mm} {kd rt hd rm cm : Nf} {wy : Nat → Nf} (n : NetR kd rt hd rm cm wy M) (w : wfN kd rt hd rm cm wy) : f_X9_isProduct 1 M = some (if gF kd 4 0 = true then 1 else 0, M) := by
  have := s_prodR_l n w 4 0 fuel 1 (Or.inr rfl) (by omega) (by show 4 < 1000; omega)
  unfold f_X9_isProduct
  refine this.trans ?_
  simp
theorem al_product : Alike (f_X8_product 0) (f_X9_product 1) := by
  intro M h
  obtain ⟨⟨kd, rt, hd, rm, cm, wy, w, n1, n2⟩, hrow, hflg⟩ := id h
  refine ⟨if gF kd 4 0 = true then 1 else 0, M, M, ?_, ?_, h⟩
  · unfold f_X8_product
    simp only [fld_0_1, s_prodX n1 w, nm_q, bd_s, b_if]
    by_cases e : gF kd 4 0 = true <;> simp [e]
  · unfold f_X9_product
    simp only [s_prodR n2 w, nm_q, bd_s, b_if]
    by_cases e : gF kd 4 0 = true <;> simp [e]

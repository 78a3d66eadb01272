/-! the parts, as the reference finds them; parts -/
theorem rr_23 {sz : Nf} {pl : Nat → Nat → Int32} {M : Mm} {v : Int32} (n : RowR sz pl M) : RowR sz pl (sI M 1 23 v) := n.sc (fun b j p => by rw [mI_sI, if_neg (by unfold pR at p; omega)])
theorem s_partsOf {M : Mm} {sz : Nf} {pl : Nat → Nat → Int32} {r s : Nat} (n : RowR sz pl M) (w : wfR sz) (hr : r < 6) (hs : sz r ≠ 41) (h6 : s ≤ 6) (e : sz r = s * s) : f_X9_partsOf 1 (nI r) (nI s) M = some (nI (pn (RR (pl r) s) s s), sI M 1 23 (nI (ff (RR (pl r) s) s s))) := by
  have h64 := p2_le h6
  have hRl : ∀ i, i < s → RR (pl r) s i < 2 ^ s := fun i hi => RR_lt hi
  have cm : ∀ (i : Nat) (v : Int32), i < s → f_X9_comesTo 1 (nI r) (nI s) (nI i) (sI M 1 23 v) = some (nI (RR (pl r) s i), sI M 1 23 v) := fun i v hi => s_comesTo (rr_23 n) w hr hs h6 e hi
  have l : ∀ (a i m : Nat), i + a = s → a < m → f_X9_partsOf_b13 1 m (nI r) (nI s) (nI (pn (RR (pl r) s) s i)) (nI (un (RR (pl r) s) s i)) (nI i) (sI M 1 23 (nI (ff (RR (pl r) s) s i))) = some (nI (pn (RR (pl r) s) s s), sI M 1 23 (nI (ff (RR (pl r) s) s s))) := by
    intro a
    induction a with
    | zero =>
      intro i m h1 h2
      obtain ⟨m, rfl⟩ : ∃ j, m = j + 1 := ⟨m - 1, by omega⟩
      rw [f_X9_partsOf_b13_s]
      unfold f_X9_partsOf_b13B
      rw [show i = s by omega, if_pos (Int32.le_refl _)]
    | succ a ih =>
      intro i m h1 h2
      obtain ⟨m, rfl⟩ : ∃ j, m = j + 1 := ⟨m - 1, by omega⟩
      have hih := ih (i + 1) m (by omega) (by omega)
      have hun := un_lt hRl i (by omega)
      have hpn := pn_le (R := RR (pl r) s) (s := s) i
      have hpu := po_un (R := RR (pl r) s) (s := s) (i := i) (fun _ _ => RR_self) (by omega)
      have hRi := hRl i (by omega)
      rw [show pn (RR (pl r) s) s (i + 1) = if poB (RR (pl r) s) s i 0 = true then pn (RR (pl r) s) s i + 1 else pn (RR (pl r) s) s i from rfl, show un (RR (pl r) s) s (i + 1) = if poB (RR (pl r) s) s i 0 = true then un (RR (pl r) s) s i ||| RR (pl r) s i else un (RR (pl r) s) s i from rfl, show ff (RR (pl r) s) s (i + 1) = if pn (RR (pl r) s) s i = 0 then (if poB (RR (pl r) s) s i 0 = true then RR (pl r) s i else 0) else ff (RR (pl r) s) s i from rfl] at hih
      have inner : ∀ (b j m2 : Nat) (v : Int32), (v = 0 ∨ v = 1) → j + b = s → b < m2 → (poB (RR (pl r) s) s i 0 = true ↔ v = 1 ∧ clB (RR (pl r) s) s i j = true) → f_X9_partsOf_b49 (f_X9_partsOf_b13 1 m) 1 m2 (nI r) (nI s) (nI (pn (RR (pl r) s) s i)) (nI (un (RR (pl r) s) s i)) (nI i) (nI (RR (pl r) s i)) v (nI j) (sI M 1 23 (nI (ff (RR (pl r) s) s i))) = some (nI (pn (RR (pl r) s) s s), sI M 1 23 (nI (ff (RR (pl r) s) s s))) := by
        intro b
        induction b with
        | zero =>
          intro j m2 v hv g1 g2 hq
          obtain ⟨m2, rfl⟩ : ∃ j, m2 = j + 1 := ⟨m2 - 1, by omega⟩
          have hc : clB (RR (pl r) s) s i j = true := cl_iff.mpr fun u a b => by omega
          have k0 : nI (pn (RR (pl r) s) s i) = 0 ↔ pn (RR (pl r) s) s i = 0 := by rw [show (0 : Int32) = nI 0 from rfl, n_inj (by omega) (by omega)]
          rw [f_X9_partsOf_b49_s]
          unfold f_X9_partsOf_b49B f_X9_partsOf_b115
          rw [show j = s by omega, if_pos (Int32.le_refl _)]
          simp only [nm_q, bd_s, nI_1, sI_sI, nI_or, k0, mI_sI M 1 23 1 23, and_self, if_true]
          rcases hv with rfl | rfl
          · have hn : ¬ poB (RR (pl r) s) s i 0 = true := fun z => absurd (hq.mp z).1 (by decide)
            simp only [if_neg hn] at hih
            rw [if_pos rfl]
            by_cases z : pn (RR (pl r) s) s i = 0
            · rw [if_pos z, ← ff_z i z] at hih
              exact hih
            · rw [if_neg z] at hih
              exact hih
          · have hp : poB (RR (pl r) s) s i 0 = true := hq.mpr ⟨rfl, hc⟩
            simp only [if_pos hp] at hih
            rw [if_neg (by decide)]
            by_cases z : pn (RR (pl r) s) s i = 0
            · rw [if_pos z] at hih ⊢
              exact hih
            · rw [if_neg z] at hih ⊢
              exact hih
        | succ b jh =>
          intro j m2 v hv g1 g2 hq
          obtain ⟨m2, rfl⟩ : ∃ j, m2 = j + 1 := ⟨m2 - 1, by omega⟩
          have hRj := hRl j (by omega)
          have jh1 := jh (j + 1) m2 1 (Or.inr rfl) (by omega) (by omega)
          have jh0 := jh (j + 1) m2 0 (Or.inl rfl) (by omega) (by omega)
          rw [f_X9_partsOf_b49_s]
          unfold f_X9_partsOf_b49B f_X9_partsOf_b83
          rw [if_neg (by rw [i_le, t_nI (by omega), t_nI (by omega)]; omega)]
          simp only [nm_q, bd_s, nI_1, cm j _ (show j < s by omega), tb0 (RR (pl r) s i) (by omega) j (by omega), n_inj (show RR (pl r) s j < 1000 by omega) (show RR (pl r) s i < 1000 by omega)]
          rcases hv with rfl | rfl
          · rw [if_pos rfl]
            refine jh0 ⟨fun z => absurd (hq.mp z).1 (by decide), fun z => absurd z.1 (by decide)⟩
          · rw [if_neg (by decide)]
            by_cases q : (RR (pl r) s i).testBit j = true
            · rw [cl_s2 (by omega) q] at hq
              rw [if_neg (by rw [q]; decide)]
              by_cases q2 : RR (pl r) s j = RR (pl r) s i
              · rw [if_pos q2]
                exact jh1 (hq.trans ⟨fun z => ⟨z.1, z.2.2⟩, fun z => ⟨z.1, q2, z.2⟩⟩)
              · rw [if_neg q2]
                exact jh0 ⟨fun z => absurd (hq.mp z).2.1 q2, fun z => absurd z.1 (by decide)⟩
            · have q' : (RR (pl r) s i).testBit j = false := by simpa using q
              rw [cl_s1 q'] at hq
              rw [if_pos q']
              exact jh1 hq
      rw [f_X9_partsOf_b13_s]
      unfold f_X9_partsOf_b13B
      rw [if_neg (by rw [i_le, t_nI (by omega), t_nI (by omega)]; omega), cm i _ (by omega), bd_s]
      simp only [tb0 (un (RR (pl r) s) s i) (by omega) i (by omega)]
      by_cases q : (un (RR (pl r) s) s i).testBit i = false
      · rw [if_pos q]
        exact inner s 0 fuel 1 (Or.inr rfl) (by omega) (by show s < 1000; omega) (hpu.trans ⟨fun z => ⟨rfl, z.2⟩, fun z => ⟨q, z.2⟩⟩)
      · rw [if_neg q]
        exact inner s 0 fuel 0 (Or.inl rfl) (by omega) (by show s < 1000; omega) (hpu.trans ⟨fun z => absurd z.1 q, fun z => absurd z.1 (by decide)⟩)
  exact l s 0 fuel (by omega) (by show s < 1000; omega)
/-- what both judge of a chain -/
theorem ch_split {M : Mm} (h : Inv M) (x : Int32) : (f_X8_judgeChain 0 x M = some (-1, M) ∧ f_X9_askedChain 1 x M = some (-1, M)) ∨ (∃ f, (f = 1 ∨ f = 5) ∧ f_X8_judgeChain 0 x M = some (-3, RF M f) ∧ f_X9_askedChain 1 x (RF M f) = some (-3, RM (RF M f) f)) ∨ ∃ (r : Nat) (sz : Nf) (pl : Nat → Nat → Int32), r < 6 ∧ x = nI r ∧ wfR sz ∧ RowC sz pl M ∧ RowR sz pl M ∧ sz r ≠ 41 ∧ sdN (sz r) ≠ 0 ∧ f_X8_judgeChain 0 x M = some (if okT (pl r) (sdN (sz r)) 0 then (0, M) else (-3, RF M 3)) ∧ ∀ Ma, RowR sz pl Ma → f_X9_askedChain 1 x Ma = some (nI (sdN (sz r)), Ma) ∧ f_X9_areRates 1 x (nI (sdN (sz r))) Ma = some (if okT (pl r) (sdN (sz r)) 0 then 1 else 0, Ma) := by
  rcases x_split6 x with ⟨r, hr, rfl⟩ | hx
  · obtain ⟨-, ⟨sz, pl, w, r1, r2⟩, -⟩ := id h
    have hwr := w r hr
    have tr : (nI r).toInt = (r : Int) := t_nI (by omega)
    have hsd := sd_le (sz r)
    by_cases er : sz r = 41
    · refine Or.inr (Or.inl ⟨1, Or.inl rfl, ?_, ?_⟩)
      · unfold f_X8_judgeChain
        simp only [s_isRowNumber, tr, nm_q, bd_s, if_pos (show (0 : Int) ≤ r ∧ (r : Int) < 6 by omega), show ¬ ((1 : Int32) = 0) by decide, if_false, fld_0_0, elm_2, nI_cl (show r < 2 ^ 31 by omega), ck_k hr (show 6 < 1000 by omega), s_rowThere r1 w hr, if_pos er, if_true, s_ref1]
      · unfold f_X9_askedChain
        simp only [s_askedRow (rr_RF r2) w hr, if_pos er, nm_q, bd_s, show ¬ (0 : Int32) ≤ -3 by decide, if_false]
    · have k0 : nI (sdN (sz r)) = 0 ↔ sdN (sz r) = 0 := by rw [i_eq, t_nI (by omega), li_0]; omega
      by_cases z0 : sdN (sz r) = 0
      · refine Or.inr (Or.inl ⟨5, Or.inr rfl, ?_, ?_⟩)
        · unfold f_X8_judgeChain
          simp only [s_isRowNumber, tr, nm_q, bd_s, if_pos (show (0 : Int) ≤ r ∧ (r : Int) < 6 by omega), show ¬ ((1 : Int32) = 0) by decide, if_false, fld_0_0, elm_2, nI_cl (show r < 2 ^ 31 by omega), ck_k hr (show 6 < 1000 by omega), s_rowThere r1 w hr, if_neg er, s_side r1 w hr er, k0, if_pos z0, s_ref5]
        · rw [s_askedChain (rr_RF r2) w hr er, if_pos z0]
      · refine Or.inr (Or.inr ⟨r, sz, pl, hr, rfl, w, r1, r2, er, z0, ?_, fun Ma r2 => ⟨?_, ?_⟩⟩)
        · unfold f_X8_judgeChain
          simp only [s_isRowNumber, tr, nm_q, bd_s, if_pos (show (0 : Int) ≤ r ∧ (r : Int) < 6 by omega), show ¬ ((1 : Int32) = 0) by decide, if_false, fld_0_0, elm_2, nI_cl (show r < 2 ^ 31 by omega), ck_k hr (show 6 < 1000 by omega), s_rowThere r1 w hr, if_neg er, s_side r1 w hr er, k0, if_neg z0, s_holds r1 w hr er (show sdN (sz r) ≤ 6 by omega) (show sz r = sdN (sz r) * sdN (sz r) by omega), s_ref3]
          by_cases q : okT (pl r) (sdN (sz r)) 0
          · simp only [if_pos q]; rfl
          · simp only [if_neg q]; rfl
        · rw [s_askedChain r2 w hr er, if_neg z0]
        · exact s_areRates r2 w hr er (show sdN (sz r) ≤ 6 by omega) (show sz r = sdN (sz r) * sdN (sz r) by omega)
  · refine Or.inl ⟨?_, ?_⟩
    · unfold f_X8_judgeChain
      simp only [s_isRowNumber, nm_q, bd_s, if_neg hx]
      rfl
    · unfold f_X9_askedChain
      simp only [s_askedRow_bad hx, nm_q, bd_s, show ¬ (0 : Int32) ≤ -1 by decide, if_false]
theorem Sc_08 {M M1 : Mm} (h : Sc M M1) (v : Int32) : Sc (sI M 0 8 v) (sI M1 0 8 v) := by
  refine ⟨fun a k p => ?_, h.2.1, h.2.2⟩
  rw [mI_sI, mI_sI]
  by_cases e : a = 0 ∧ k = 8
  · rw [if_pos e, if_pos e]
  · rw [if_neg e, if_neg e, h.1 a k p]
theorem ChC_08 {M : Mm} {p : Nat → Int32} {s : Nat} {v : Int32} (h : ChC M p s) : ChC (sI M 0 8 v) p s := by
  refine ⟨⟨by rw [mI_sI, if_neg (by omega)]; exact h.1.1, fun i hi j hj => ?_⟩, fun i hi => ?_⟩
  · rw [mI_sI, if_neg (by omega)]; exact h.1.2 i hi j hj
  · rw [mI_sI, if_neg (by omega)]; exact h.2 i hi
theorem al_parts (x : Int32) : Alike (f_X8_parts 0 x) (f_X9_parts 1 x) := by
  intro M h
  rcases ch_split h x with ⟨e1, e2⟩ | ⟨f, hf, e1, e2⟩ | ⟨r, sz, pl, hr, rfl, w, r1, r2, er, z0, e1, e2⟩
  · refine ⟨-1, M, M, ?_, ?_, h⟩
    · unfold f_X8_parts
      simp only [e1, nm_q, bd_s, show ¬ ((-1 : Int32) = 0) by decide, if_false]
    · unfold f_X9_parts
      simp only [e2, nm_q, bd_s, show ¬ ((0 : Int32) ≤ -1) by decide, if_false]
  · refine ⟨-3, RF M f, RM (RF M f) f, ?_, ?_, inv_ref h (by omega) (by omega) (Sc.rf _) (Sc.rf _)⟩
    · unfold f_X8_parts
      simp only [e1, nm_q, bd_s, show ¬ ((-3 : Int32) = 0) by decide, if_false]
    · unfold f_X9_parts
      simp only [e2, nm_q, bd_s, show ¬ ((0 : Int32) ≤ -3) by decide, if_false]
  · have hsd := sd_le (sz r)
    have p0 : 0 ≤ nI (sdN (sz r)) := by rw [i_le, li_0, t_nI (by omega)]; omega
    by_cases q : okT (pl r) (sdN (sz r)) 0
    · simp only [if_pos q] at e1 e2
      obtain ⟨M1, l1, l2, l3, l4⟩ := s_load r1 w hr er z0
      have r2' : RowR sz pl (sI M1 0 8 (nI (ff (RR (pl r) (sdN (sz r))) (sdN (sz r)) (sdN (sz r))))) := rr_sI (r2.sc (fun a k q => l3.1 a k (Or.inr q))) (by omega)
      have pp := s_partsOf r2' w hr er (show sdN (sz r) ≤ 6 by omega) (show sz r = sdN (sz r) * sdN (sz r) by omega)
      refine ⟨nI (pn (RR (pl r) (sdN (sz r))) (sdN (sz r)) (sdN (sz r))), sI M1 0 8 (nI (ff (RR (pl r) (sdN (sz r))) (sdN (sz r)) (sdN (sz r)))), sI (sI (sI M1 0 8 (nI (ff (RR (pl r) (sdN (sz r))) (sdN (sz r)) (sdN (sz r))))) 1 23 (nI (ff (RR (pl r) (sdN (sz r))) (sdN (sz r)) (sdN (sz r))))) 1 2 (nI (ff (RR (pl r) (sdN (sz r))) (sdN (sz r)) (sdN (sz r)))), ?_, ?_, inv_ask h ((Sc_08 l3 _).i (by unfold pX pR; omega))⟩
      · unfold f_X8_parts
        simp only [e1, nm_q, bd_s, if_true, fld_0_0, fld_0_3, elm_2, nI_cl (show r < 2 ^ 31 by omega), ck_k hr (show 6 < 1000 by omega), l1, s_firstPart (show sdN (sz r) ≤ 6 by omega) l2, s_partsThere (show sdN (sz r) ≤ 6 by omega) (ChC_08 l2)]
      · unfold f_X9_parts f_X9_ask
        simp only [(e2 _ r2').1, (e2 _ r2').2, nm_q, bd_s, p0, if_true, show ¬ ((1 : Int32) = 0) by decide, if_false, pp, mI_sI _ 1 23 1 23, and_self]
    · simp only [if_neg q] at e1 e2
      refine ⟨-3, RF M 3, RM (RF M 3) 3, ?_, ?_, inv_ref h (by omega) (by omega) (Sc.rf _) (Sc.rf _)⟩
      · unfold f_X8_parts
        simp only [e1, nm_q, bd_s, show ¬ ((-3 : Int32) = 0) by decide, if_false]
      · unfold f_X9_parts
        simp only [(e2 _ (rr_RF r2)).1, (e2 _ (rr_RF r2)).2, nm_q, bd_s, p0, if_true, s_met3]

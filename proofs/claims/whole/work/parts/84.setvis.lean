/-! the reference's visits; visits -/
def VE (wy : Nat → Nf) (i j : Nat) : Int64 := Int32.toInt64 ((if i = j then 4 else 0) - nI (wy i j))
theorem VE_en {kd rr hd rm cm : Nf} {wy : Nat → Nf} (w : wfN kd rr hd rm cm wy) (cl : ClN kd cm wy) {i j : Nat} (hi : i < 4) (hj : j < 4) (h9 : kd i ≠ 9) : VE wy i j = enC (pw wy) 4 i j := by
  have w4 := w4_of w
  have hs := (cl.2 i hi h9).2.1
  have hij := w4 i j hi hj
  have c4 : (if i = j then (4 : Int32) else 0).toInt = if i = j then (4 : Int) else 0 := by split <;> rfl
  have c5 : 0 ≤ (if i = j then (4 : Int) else 0) ∧ (if i = j then (4 : Int) else 0) ≤ 4 := by split <;> omega
  have e1 : (VE wy i j).toInt = (if i = j then (4 : Int) else 0) - (wy i j : Int) := by
    unfold VE
    rw [i2l, i_sub (by rw [c4, t_nI (by omega)]; omega) (by rw [c4, t_nI (by omega)]; omega), c4, t_nI (by omega)]
  rw [l_eq, e1, (en_b (pw_ok w4) (by omega) hi hj).1]
  have qx : ∀ y, y < 4 → qI (pw wy) 4 i y = (wy i y : Int) := fun y hy => by
    have := w4 i y hi hy
    unfold qI
    rw [pw_s wy i hy, t_nI (by omega)]
  by_cases e : i = j
  · subst e
    rw [if_pos rfl, if_pos rfl]
    show (4 : Int) - _ = (0 : Int) + (if 0 = i then 0 else qI (pw wy) 4 i 0) + (if 1 = i then 0 else qI (pw wy) 4 i 1) + (if 2 = i then 0 else qI (pw wy) 4 i 2) + (if 3 = i then 0 else qI (pw wy) 4 i 3)
    rw [qx 0 (by omega), qx 1 (by omega), qx 2 (by omega), qx 3 (by omega)]
    have h4 : i = 0 ∨ i = 1 ∨ i = 2 ∨ i = 3 := by omega
    rcases h4 with rfl | rfl | rfl | rfl
    · rw [if_pos rfl, if_neg (by decide), if_neg (by decide), if_neg (by decide)]; omega
    · rw [if_neg (by decide), if_pos rfl, if_neg (by decide), if_neg (by decide)]; omega
    · rw [if_neg (by decide), if_neg (by decide), if_pos rfl, if_neg (by decide)]; omega
    · rw [if_neg (by decide), if_neg (by decide), if_neg (by decide), if_pos rfl]; omega
  · rw [if_neg e, if_neg e, qx j hj]; omega
theorem s_sv146 {M : Mm} {kd rr hd rm cm : Nf} {wy : Nat → Nf} (w : wfN kd rr hd rm cm wy) (cl : ClN kd cm wy) : ∀ (b i m : Nat) (Mj : Mm), i + b = 4 → b < m → Sc M Mj → (∀ c, c < i → mJ Mj 98 c = lN (vn kd wy c)) → (∀ c, i ≤ c → c < 4 → mJ Mj 98 c = lN (wN kd wy c)) → ∃ M', f_X9_setVisits_b146 1 m (lN (gk kd wy 4)) (nI i) Mj = some M' ∧ Sc M M' ∧ ∀ c, c < 4 → mJ M' 98 c = lN (vn kd wy c) := by
  have g1 := gk_pos w cl
  have g2 := gk_lt (kd := kd) (wy := wy) (fun c hc => (wN_b w cl hc).2.1) 4 (by omega)
  intro b
  induction b with
  | zero =>
    intro i m Mj h1 h2 hS hL hW
    obtain ⟨m, rfl⟩ : ∃ j, m = j + 1 := ⟨m - 1, by omega⟩
    refine ⟨Mj, ?_, hS, fun c hc => hL c (by omega)⟩
    rw [f_X9_setVisits_b146_s]
    unfold f_X9_setVisits_b146B
    rw [if_pos (by rw [i_le, t_nI (by omega), li_4]; omega)]
  | succ b ih =>
    intro i m Mj h1 h2 hS hL hW
    obtain ⟨m, rfl⟩ : ∃ j, m = j + 1 := ⟨m - 1, by omega⟩
    have hi : i < 4 := by omega
    have gn : ¬ lN (gk kd wy 4) = 0 := by rw [l_eq, pk_lT (by omega)]; show ¬ (((gk kd wy 4 : Nat) : Int) = 0); omega
    have dv : lN (wN kd wy i) / lN (gk kd wy 4) = lN (vn kd wy i) := by
      have := (wN_b w cl hi).2.1
      rw [pk_lDiv (by omega) (by omega) (by omega)]
      rfl
    rw [f_X9_setVisits_b146_s]
    unfold f_X9_setVisits_b146B
    rw [if_neg (by rw [i_le, t_nI (by omega), li_4]; omega)]
    simp only [ck_k hi (show 4 < 1000 by omega), nI_cl (show i < 2 ^ 31 by omega), dvJ_ok gn, fld_1_20, hW i (by omega) hi, dv, nm_q, bd_s, nI_1]
    refine ih (i + 1) m _ (by omega) (by omega) (hS.j (by omega) (by omega)) (fun c hc => ?_) (fun c c1 c2 => ?_)
    · rw [mJ_sJ]
      by_cases e : c = i
      · rw [if_pos ⟨rfl, e⟩, e]
      · rw [if_neg (by omega)]; exact hL c (by omega)
    · rw [mJ_sJ, if_neg (by omega)]; exact hW c (by omega) c2
theorem s_sv85 {M : Mm} {kd rr hd rm cm : Nf} {wy : Nat → Nf} (n : NetR kd rr hd rm cm wy M) (w : wfN kd rr hd rm cm wy) (cl : ClN kd cm wy) : ∀ (b i m : Nat) (Mj : Mm), i + b = 4 → b < m → Sc M Mj → (∀ x y, x < 4 → y < 4 → mJ Mj 95 (6 * x + y) = VE wy x y) → (∀ c, c < i → mJ Mj 98 c = lN (wN kd wy c)) → ∃ M', f_X9_setVisits_b85 1 m (nI (tbN kd 4)) (lN (gk kd wy i)) (nI i) Mj = some M' ∧ Sc M M' ∧ ∀ c, c < 4 → mJ M' 98 c = lN (vn kd wy c) := by
  have hv : tbN kd 4 < 2 ^ 4 := mk_lt _ _
  have wb := fun c hc => (wN_b w cl (c := c) hc).2.1
  intro b
  induction b with
  | zero =>
    intro i m Mj h1 h2 hS hE hW
    obtain ⟨m, rfl⟩ : ∃ j, m = j + 1 := ⟨m - 1, by omega⟩
    have e : i = 4 := by omega
    subst e
    rw [f_X9_setVisits_b85_s]
    unfold f_X9_setVisits_b85B
    rw [if_pos (by decide)]
    exact s_sv146 w cl 4 0 fuel Mj (by omega) (by show 4 < 1000; omega) hS (fun c hc => by omega) (fun c _ hc => hW c hc)
  | succ b ih =>
    intro i m Mj h1 h2 hS hE hW
    obtain ⟨m, rfl⟩ : ∃ j, m = j + 1 := ⟨m - 1, by omega⟩
    have hi : i < 4 := by omega
    have nj : NetR kd rr hd rm cm wy Mj := n.sc (fun a k q => hS.1 a k (Or.inr q))
    have g64 := gk_lt (kd := kd) (wy := wy) (fun c hc => wb c hc) i (by omega)
    have w64 := wb i hi
    have dvs : ∀ Mx : Mm, f_X9_divisor (lN (gk kd wy i)) (lN (wN kd wy i)) Mx = some (lN (gk kd wy (i + 1)), Mx) := by
      intro Mx
      rw [s_divisor _ (by rw [pk_lT (by omega)]; omega) (by rw [pk_lT (by omega)]; omega), pk_lT (by omega), pk_lT (by omega), Int.natAbs_natCast, Int.natAbs_natCast]
      rfl
    have fin : ∀ Mx : Mm, Sc M Mx → (∀ x y, x < 4 → y < 4 → mJ Mx 95 (6 * x + y) = VE wy x y) → (∀ c, c < i → mJ Mx 98 c = lN (wN kd wy c)) → ∃ M', f_X9_setVisits_b124 (f_X9_setVisits_b85 1 m) 1 (nI (tbN kd 4)) (lN (gk kd wy i)) (nI i) 98 (nI i) (lN (wN kd wy i)) Mx = some M' ∧ Sc M M' ∧ ∀ c, c < 4 → mJ M' 98 c = lN (vn kd wy c) := by
      intro Mx hSx hEx hWx
      unfold f_X9_setVisits_b124
      simp only [ck_k hi (show 4 < 1000 by omega), nI_cl (show i < 2 ^ 31 by omega), fld_1_20, mJ_sJ Mx 98 i 98 i, and_self, if_true, dvs, nm_q, bd_s, nI_1]
      refine ih (i + 1) m _ (by omega) (by omega) (hSx.j (by omega) (by omega)) (fun x y hx hy => ?_) (fun c hc => ?_)
      · rw [mJ_sJ, if_neg (by omega)]; exact hEx x y hx hy
      · rw [mJ_sJ]
        by_cases e : c = i
        · rw [if_pos ⟨rfl, e⟩, e]
        · rw [if_neg (by omega)]; exact hWx c (by omega)
    rw [f_X9_setVisits_b85_s]
    unfold f_X9_setVisits_b85B
    rw [if_neg (by rw [i_le, t_nI (by omega), li_4]; omega)]
    simp only [ck_k hi (show 4 < 1000 by omega), nI_cl (show i < 2 ^ 31 by omega), fld_1_8, fld_1_20, (nj.1 i hi).1, s_rmv (tbN kd 4) (show tbN kd 4 < 64 by omega) i (show i < 6 by omega)]
    by_cases h9 : kd i = 9
    · rw [if_pos h9, if_pos rfl]
      have := fin Mj hS hE hW
      rw [(wN_b w cl hi).2.2.2 h9] at this
      exact this
    · rw [if_neg h9, if_neg (by decide)]
      obtain ⟨M', e1, e2⟩ := s_worth (M := Mj) (E := VE wy) (s := 4) (v := rmv (tbN kd 4) i) (by omega) (Nat.lt_of_le_of_lt (rmv_le _ _) hv) hE
      have ew : detB (suB (VE wy) (rmv (tbN kd 4) i) 4) (bc (rmv (tbN kd 4) i) 4) = lN (wN kd wy i) := by
        rw [← (wN_b w cl hi).1]
        unfold wtB
        rw [if_pos (tb_N.mpr ⟨hi, h9⟩)]
        have hb := bc_le (rmv (tbN kd 4) i) 4
        refine det_cg (by omega) (fun a c ha hc => ?_)
        have oa := ix_ok (v := rmv (tbN kd 4) i) 4 a ha
        have oc := ix_ok (v := rmv (tbN kd 4) i) 4 c hc
        unfold suB
        exact VE_en w cl oa.1 oc.1 (tb_N.mp ((rmv_tb (show tbN kd 4 < 64 by omega) (show i < 6 by omega)).mp oa.2.1).1).2
      rw [ew] at e1
      rw [show (4 : Int32) = nI 4 from rfl, e1, bd_s]
      exact fin M' (hS.tr e2.sc) (fun x y hx hy => by rw [e2.2 95 _ (by omega)]; exact hE x y hx hy) (fun c hc => by rw [e2.2 98 _ (by omega)]; exact hW c hc)
theorem s_sv4 {M : Mm} {kd rr hd rm cm : Nf} {wy : Nat → Nf} (n : NetR kd rr hd rm cm wy M) (w : wfN kd rr hd rm cm wy) (cl : ClN kd cm wy) : ∀ (b i m : Nat), i + b = 4 → b < m → ∃ M', f_X9_setVisits_b4 1 m (nI (tbN kd i)) (nI i) (SRn M (VE wy) i 0) = some M' ∧ Sc M M' ∧ ∀ c, c < 4 → mJ M' 98 c = lN (vn kd wy c) := by
  intro b
  induction b with
  | zero =>
    intro i m h1 h2
    obtain ⟨m, rfl⟩ : ∃ j, m = j + 1 := ⟨m - 1, by omega⟩
    have e : i = 4 := by omega
    subst e
    rw [f_X9_setVisits_b4_s]
    unfold f_X9_setVisits_b4B
    rw [if_pos (by decide)]
    refine s_sv85 n w cl 4 0 fuel _ (by omega) (by show 4 < 1000; omega) ⟨fun _ _ _ => rfl, fun k => by rw [mJ_SRn, if_neg (by omega)], fun k _ => by rw [mJ_SRn, if_neg (by omega)]⟩ (fun x y hx hy => ?_) (fun c hc => by omega)
    have q := d6 (i := x) (show y < 6 by omega)
    rw [mJ_SRn, q.1, q.2, if_pos (by omega)]
  | succ b ih =>
    intro i m h1 h2
    obtain ⟨m, rfl⟩ : ∃ j, m = j + 1 := ⟨m - 1, by omega⟩
    have hi : i < 4 := by omega
    have hih := ih (i + 1) m (by omega) (by omega)
    rw [show tbN kd (i + 1) = tbN kd i ||| (if decide (kd i ≠ 9) = true then 2 ^ i else 0) from rfl] at hih
    have inner : ∀ (v : Int32), (∃ M', f_X9_setVisits_b4 1 m v (nI (i + 1)) (SRn M (VE wy) (i + 1) 0) = some M' ∧ Sc M M' ∧ ∀ c, c < 4 → mJ M' 98 c = lN (vn kd wy c)) → ∀ (d j m2 : Nat), j + d = 4 → d < m2 → ∃ M', f_X9_setVisits_b30 (f_X9_setVisits_b4 1 m) 1 m2 v (nI i) (nI j) (SRn M (VE wy) i j) = some M' ∧ Sc M M' ∧ ∀ c, c < 4 → mJ M' 98 c = lN (vn kd wy c) := by
      intro v hv d
      induction d with
      | zero =>
        intro j m2 k1 k2
        obtain ⟨m2, rfl⟩ : ∃ j, m2 = j + 1 := ⟨m2 - 1, by omega⟩
        have e : j = 4 := by omega
        subst e
        rw [f_X9_setVisits_b30_s]
        unfold f_X9_setVisits_b30B
        rw [if_pos (by decide), SRn_n, nm_q, nI_1]
        exact hv
      | succ d jh =>
        intro j m2 k1 k2
        obtain ⟨m2, rfl⟩ : ∃ j, m2 = j + 1 := ⟨m2 - 1, by omega⟩
        have hjh := jh (j + 1) m2 (by omega) (by omega)
        rw [← SRn_s M (VE wy) hi (show j < 4 by omega)] at hjh
        have ke : nI i = nI j ↔ i = j := n_inj (by omega) (by omega)
        have rw' : mI (SRn M (VE wy) i j) 94 (4 * i + j) = nI (wy i j) := n.2 i j (by omega) (by omega)
        rw [f_X9_setVisits_b30_s]
        unfold f_X9_setVisits_b30B f_X9_setVisits_b55
        rw [if_neg (by rw [i_le, t_nI (by omega), li_4]; omega)]
        simp only [ix6, ix4, ck_k (show 4 * i + j < 16 by omega) (show 16 < 1000 by omega), ck_k (show 6 * i + j < 36 by omega) (show 36 < 1000 by omega), nI_cl (show 4 * i + j < 2 ^ 31 by omega), nI_cl (show 6 * i + j < 2 ^ 31 by omega), fld_1_14, fld_1_15, rw', ke, nm_q, bd_s, nI_1]
        by_cases hij : i = j
        · rw [show VE wy i j = Int32.toInt64 (4 - nI (wy i j)) by unfold VE; rw [if_pos hij]] at hjh
          rw [if_pos hij]; exact hjh
        · rw [show VE wy i j = Int32.toInt64 (0 - nI (wy i j)) by unfold VE; rw [if_neg hij]] at hjh
          rw [if_neg hij]; exact hjh
    have hth : mI (SRn M (VE wy) i 0) 88 i = (if kd i = 9 then 0 else 1) := (n.1 i hi).1
    rw [f_X9_setVisits_b4_s]
    unfold f_X9_setVisits_b4B f_X9_setVisits_b26
    rw [if_neg (by rw [i_le, t_nI (by omega), li_4]; omega)]
    simp only [ck_k hi (show 4 < 1000 by omega), nI_cl (show i < 2 ^ 31 by omega), fld_1_8, hth, sh1 i (by omega), nm_q, bd_s]
    by_cases h9 : kd i = 9
    · rw [if_pos h9, if_pos rfl, show (0 : Int32) = nI 0 from rfl, nI_or]
      rw [if_neg (by simp [h9])] at hih
      exact inner _ hih 4 0 fuel (by omega) (by show 4 < 1000; omega)
    · rw [if_neg h9, if_neg (by decide), nI_or]
      rw [if_pos (by simp [h9])] at hih
      exact inner _ hih 4 0 fuel (by omega) (by show 4 < 1000; omega)
theorem s_setVisits {M : Mm} {kd rr hd rm cm : Nf} {wy : Nat → Nf} (n : NetR kd rr hd rm cm wy M) (w : wfN kd rr hd rm cm wy) (cl : ClN kd cm wy) : ∃ M', f_X9_setVisits 1 M = some M' ∧ Sc M M' ∧ ∀ c, c < 4 → mJ M' 98 c = lN (vn kd wy c) := by
  have := s_sv4 n w cl 4 0 fuel (by omega) (by show 4 < 1000; omega)
  rw [SRn_0] at this
  exact this
theorem al_visits (x : Int32) : Alike (f_X8_visits 0 x) (f_X9_visits 1 x) := by
  intro M h
  rcases rd_split h x 1 (by decide) with ⟨e1, e2⟩ | ⟨e1, e2⟩ | ⟨c, kd, rr, hd, rm, cm, wy, M1, hc, rfl, w, n1, n2, h9, s1, s1', hx⟩
  · refine ⟨-1, M, M, ?_, ?_, h⟩
    · unfold f_X8_visits
      simp only [e1, nm_q, bd_s, show ¬ ((-1 : Int32) = 0) by decide, if_false]
    · unfold f_X9_visits
      simp only [e2, nm_q, bd_s, show ¬ ((0 : Int32) ≤ -1) by decide, if_false]
  · refine ⟨-3, RF M 1, RM (RF M 1) 1, ?_, ?_, inv_ref h (by omega) (by omega) (Sc.rf _) (Sc.rf _)⟩
    · unfold f_X8_visits
      simp only [e1, nm_q, bd_s, show ¬ ((-3 : Int32) = 0) by decide, if_false]
    · unfold f_X9_visits
      simp only [e2, nm_q, bd_s, show ¬ ((0 : Int32) ≤ -3) by decide, if_false]
  · rcases hx with ⟨_, e1, e2⟩ | ⟨cl, e1, e2⟩
    · have n2' : NetR kd rr hd rm cm wy M1 := n2.sc (fun a k q => s1.1 a k (Or.inr q))
      refine ⟨-4, M1, M1, ?_, ?_, h.sc s1⟩
      · unfold f_X8_visits
        simp only [e1, nm_q, bd_s, show ¬ ((-4 : Int32) = 0) by decide, if_false]
      · unfold f_X9_visits
        simp only [e2 _ n2', nm_q, bd_s, show ¬ ((0 : Int32) ≤ -4) by decide, if_false]
    · have clN := cl_N cl
      have n1' : NetC kd rr hd rm cm wy M1 := n1.sc (fun a k q => s1.1 a k (Or.inl q))
      obtain ⟨M2, l1, l2, l3⟩ := s_rload n1' w clN
      have s2 : Sc M M2 := s1.tr l2
      have n2' : NetR kd rr hd rm cm wy M2 := n2.sc (fun a k q => s2.1 a k (Or.inr q))
      obtain ⟨M3, v1, v2, v3⟩ := s_setVisits n2' w clN
      refine ⟨Int64.toInt32 (lN (vn kd wy c)), M2, M3, ?_, ?_, h.sc (s2.tr v2)⟩
      · unfold f_X8_visits
        simp only [e1, nm_q, bd_s, if_true, fld_0_1, fld_0_2, fld_5_0, l1, nI_cl (show c < 2 ^ 31 by omega), ck_k hc (show 4 < 1000 by omega), (l3 c hc).1]
      · unfold f_X9_visits
        simp only [e2 _ n2', v1, nm_q, bd_s, show (0 : Int32) ≤ 0 by decide, if_true, nI_cl (show c < 2 ^ 31 by omega), ck_k hc (show 4 < 1000 by omega), fld_1_20, v3 c hc]

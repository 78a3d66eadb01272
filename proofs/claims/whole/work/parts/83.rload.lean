/-! a closed net loaded; visits told -/
theorem fl31 (i : Nat) : elm (fld 31 0) i = 61 + i := by rw [fld_31_0, elm_33]
theorem fl37 (i : Nat) : elm (fld 37 0) i = 43 + i := by rw [fld_37_0, elm_40]
def LdAt (kd rr hd : Nf) (wy : Nat → Nf) (M : Mm) (c : Nat) : Prop := mJ M 73 c = lN (vn kd wy c) ∧ mI M 74 c = (if kd c = 9 then -1 else nI (kd c)) ∧ mI M 75 c = nI (rr c) ∧ mI M 76 c = nI (hd c) ∧ mJ M 77 c = lN (sn kd rr wy c) ∧ ∀ k, k < 4 → mI M (79 + c) k = nI (wy c k)
def LdC (kd rr hd : Nf) (wy : Nat → Nf) (M : Mm) : Prop := ∀ c, c < 4 → LdAt kd rr hd wy M c
def WYn (M : Mm) (wy : Nat → Nf) (c j : Nat) : Mm := (fun a k => if a = 79 + c ∧ k < j then nI (wy c k) else M.1 a k, M.2)
theorem mI_WYn (M : Mm) (wy : Nat → Nf) (c j a k : Nat) : mI (WYn M wy c j) a k = if a = 79 + c ∧ k < j then nI (wy c k) else mI M a k := rfl
theorem WYn_0 (M : Mm) (wy : Nat → Nf) (c : Nat) : WYn M wy c 0 = M := by
  unfold WYn
  refine Prod.ext ?_ rfl
  funext a k
  show (if a = 79 + c ∧ k < 0 then _ else M.1 a k) = M.1 a k
  rw [if_neg (by omega)]
theorem WYn_s (M : Mm) (wy : Nat → Nf) (c j : Nat) : sI (WYn M wy c j) (79 + c) j (nI (wy c j)) = WYn M wy c (j + 1) := by
  unfold WYn sI
  refine Prod.ext ?_ rfl
  funext a k
  show (if a = 79 + c ∧ k = j then nI (wy c j) else if a = 79 + c ∧ k < j then nI (wy c k) else M.1 a k) = if a = 79 + c ∧ k < j + 1 then nI (wy c k) else M.1 a k
  by_cases h : a = 79 + c ∧ k = j
  · rw [if_pos h, if_pos (by omega), h.2]
  · rw [if_neg h]
    by_cases h2 : a = 79 + c ∧ k < j
    · rw [if_pos h2, if_pos (by omega)]
    · rw [if_neg h2, if_neg (by omega)]
theorem s_days {M : Mm} {kd rr hd rm cm : Nf} {wy : Nat → Nf} (n : NetC kd rr hd rm cm wy M) (w : wfN kd rr hd rm cm wy) {c : Nat} (hc : c < 4) : f_X1_daysOf (23 + c) M = some (nI (12 / rr c), M) := by
  have hr := (w c hc).2.1
  unfold f_X1_daysOf
  rw [(n.1 c hc).2.1, if_neg (by rw [i_le, t_nI (by omega), li_0]; omega), dvI_ok (fun hz => by have := (n_inj (a := rr c) (b := 0) (by omega) (by omega)).mp hz; omega), show (12 : Int32) = nI 12 from rfl, pk_div (by omega) (by omega) (by omega)]
theorem s_load2 {M : Mm} {kd rr hd rm cm : Nf} {wy : Nat → Nf} (n : NetC kd rr hd rm cm wy M) (w : wfN kd rr hd rm cm wy) (cl : ClN kd cm wy) : ∀ (b i m : Nat) (Mj : Mm), i + b = 4 → b < m → Sc M Mj → (∀ c, c < i → LdAt kd rr hd wy Mj c) → (∀ c, i ≤ c → c < 4 → mJ Mj 73 c = lN (wN kd wy c)) → ∃ M', f_X5_load_b58 5 m 4 (lN (gk kd wy 4)) (nI i) Mj = some M' ∧ Sc M M' ∧ LdC kd rr hd wy M' := by
  have g1 := gk_pos w cl
  have g2 := gk_lt (kd := kd) (wy := wy) (fun c hc => (wN_b w cl hc).2.1) 4 (by omega)
  intro b
  induction b with
  | zero =>
    intro i m Mj h1 h2 hS hL hW
    obtain ⟨m, rfl⟩ : ∃ j, m = j + 1 := ⟨m - 1, by omega⟩
    refine ⟨Mj, ?_, hS, fun c hc => hL c (by omega)⟩
    rw [f_X5_load_b58_s]
    unfold f_X5_load_b58B
    rw [if_pos (by rw [i_le, t_nI (by omega), li_4]; omega)]
  | succ b ih =>
    intro i m Mj h1 h2 hS hL hW
    obtain ⟨m, rfl⟩ : ∃ j, m = j + 1 := ⟨m - 1, by omega⟩
    have hi : i < 4 := by omega
    have nj : NetC kd rr hd rm cm wy Mj := n.sc (fun a k q => hS.1 a k (Or.inl q))
    have hk := (nj.1 i hi)
    have gz : ¬ lg_cmp (lN (gk kd wy 4)) 0 ≤ 0 := by rw [q_le, pk_lT (by omega)]; show ¬ ((gk kd wy 4 : Nat) : Int) ≤ 0; omega
    have gn : ¬ lN (gk kd wy 4) = 0 := by rw [l_eq, pk_lT (by omega)]; show ¬ (((gk kd wy 4 : Nat) : Int) = 0); omega
    have dv : lN (wN kd wy i) / lN (gk kd wy 4) = lN (vn kd wy i) := by
      have := (wN_b w cl hi).2.1
      rw [pk_lDiv (by omega) (by omega) (by omega)]
      rfl
    let M1 : Mm := sI (sI (sI (sJ Mj 73 i (lN (vn kd wy i))) 74 i (if kd i = 9 then -1 else nI (kd i))) 75 i (nI (rr i))) 76 i (nI (hd i))
    let M2 : Mm := sJ M1 77 i (lN (sn kd rr wy i))
    have sM2 : Sc M M2 := ((((hS.j (by omega) (by omega)).i (by unfold pX pR; omega)).i (by unfold pX pR; omega)).i (by unfold pX pR; omega)).j (by omega) (by omega)
    have n1 : NetC kd rr hd rm cm wy M1 := n.sc (fun a k q => sM2.1 a k (Or.inl q))
    have s3 : ∀ j, Sc M (WYn M2 wy i j) := fun j => sM2.tr ⟨fun a k q => by rw [mI_WYn, if_neg (by unfold pX pR at q; omega)], fun _ => rfl, fun _ _ => rfl⟩
    have inner : ∀ (d j m2 : Nat), j + d = 4 → d < m2 → ∃ M', f_X5_load_b159 (f_X5_load_b58 5 m) 5 m2 4 (lN (gk kd wy 4)) (nI i) (23 + i) (nI j) (WYn M2 wy i j) = some M' ∧ Sc M M' ∧ LdC kd rr hd wy M' := by
      intro d
      induction d with
      | zero =>
        intro j m2 k1 k2
        obtain ⟨m2, rfl⟩ : ∃ j, m2 = j + 1 := ⟨m2 - 1, by omega⟩
        have e : j = 4 := by omega
        subst e
        rw [f_X5_load_b159_s]
        unfold f_X5_load_b159B
        rw [if_pos (by decide), nm_q, nI_1]
        refine ih (i + 1) m (WYn M2 wy i 4) (by omega) (by omega) (s3 4) (fun c hc => ?_) (fun c c1 c2 => ?_)
        · by_cases e : c = i
          · subst e
            refine ⟨?_, ?_, ?_, ?_, ?_, fun k hk' => ?_⟩
            · show mJ (sJ (sJ Mj 73 c (lN (vn kd wy c))) 77 c (lN (sn kd rr wy c))) 73 c = _
              rw [mJ_sJ, if_neg (by omega), mJ_sJ, if_pos ⟨rfl, rfl⟩]
            · rw [mI_WYn, if_neg (by omega)]
              show mI (sI (sI (sI Mj 74 c (if kd c = 9 then -1 else nI (kd c))) 75 c (nI (rr c))) 76 c (nI (hd c))) 74 c = _
              rw [mI_sI, if_neg (by omega), mI_sI, if_neg (by omega), mI_sI, if_pos ⟨rfl, rfl⟩]
            · rw [mI_WYn, if_neg (by omega)]
              show mI (sI (sI (sI Mj 74 c (if kd c = 9 then -1 else nI (kd c))) 75 c (nI (rr c))) 76 c (nI (hd c))) 75 c = _
              rw [mI_sI, if_neg (by omega), mI_sI, if_pos ⟨rfl, rfl⟩]
            · rw [mI_WYn, if_neg (by omega)]
              show mI (sI (sI (sI Mj 74 c (if kd c = 9 then -1 else nI (kd c))) 75 c (nI (rr c))) 76 c (nI (hd c))) 76 c = _
              rw [mI_sI, if_pos ⟨rfl, rfl⟩]
            · show mJ (sJ (sJ Mj 73 c (lN (vn kd wy c))) 77 c (lN (sn kd rr wy c))) 77 c = _
              rw [mJ_sJ, if_pos ⟨rfl, rfl⟩]
            · rw [mI_WYn, if_pos ⟨rfl, hk'⟩]
          · have o := hL c (by omega)
            refine ⟨?_, ?_, ?_, ?_, ?_, fun k hk' => ?_⟩
            · show mJ (sJ (sJ Mj 73 i (lN (vn kd wy i))) 77 i (lN (sn kd rr wy i))) 73 c = _
              rw [mJ_sJ, if_neg (by omega), mJ_sJ, if_neg (by omega)]; exact o.1
            · rw [mI_WYn, if_neg (by omega)]
              show mI (sI (sI (sI Mj 74 i (if kd i = 9 then -1 else nI (kd i))) 75 i (nI (rr i))) 76 i (nI (hd i))) 74 c = _
              rw [mI_sI, if_neg (by omega), mI_sI, if_neg (by omega), mI_sI, if_neg (by omega)]; exact o.2.1
            · rw [mI_WYn, if_neg (by omega)]
              show mI (sI (sI (sI Mj 74 i (if kd i = 9 then -1 else nI (kd i))) 75 i (nI (rr i))) 76 i (nI (hd i))) 75 c = _
              rw [mI_sI, if_neg (by omega), mI_sI, if_neg (by omega), mI_sI, if_neg (by omega)]; exact o.2.2.1
            · rw [mI_WYn, if_neg (by omega)]
              show mI (sI (sI (sI Mj 74 i (if kd i = 9 then -1 else nI (kd i))) 75 i (nI (rr i))) 76 i (nI (hd i))) 76 c = _
              rw [mI_sI, if_neg (by omega), mI_sI, if_neg (by omega), mI_sI, if_neg (by omega)]; exact o.2.2.2.1
            · show mJ (sJ (sJ Mj 73 i (lN (vn kd wy i))) 77 i (lN (sn kd rr wy i))) 77 c = _
              rw [mJ_sJ, if_neg (by omega), mJ_sJ, if_neg (by omega)]; exact o.2.2.2.2.1
            · rw [mI_WYn, if_neg (by omega)]
              show mI (sI (sI (sI Mj 74 i (if kd i = 9 then -1 else nI (kd i))) 75 i (nI (rr i))) 76 i (nI (hd i))) (79 + c) k = _
              rw [mI_sI, if_neg (by omega), mI_sI, if_neg (by omega), mI_sI, if_neg (by omega)]; exact o.2.2.2.2.2 k hk'
        · show mJ (sJ (sJ Mj 73 i (lN (vn kd wy i))) 77 i (lN (sn kd rr wy i))) 73 c = _
          rw [mJ_sJ, if_neg (by omega), mJ_sJ, if_neg (by omega)]; exact hW c (by omega) c2
      | succ d jh =>
        intro j m2 k1 k2
        obtain ⟨m2, rfl⟩ : ∃ j, m2 = j + 1 := ⟨m2 - 1, by omega⟩
        have hjh := jh (j + 1) m2 (by omega) (by omega)
        rw [← WYn_s] at hjh
        have nw : NetC kd rr hd rm cm wy (WYn M2 wy i j) := n.sc (fun a k q => (s3 j).1 a k (Or.inl q))
        rw [f_X5_load_b159_s]
        unfold f_X5_load_b159B
        rw [if_neg (by rw [i_le, t_nI (by omega), li_4]; omega)]
        simp only [ck_k hi (show 4 < 1000 by omega), ck_k (show j < 4 by omega) (show 4 < 1000 by omega), nI_cl (show i < 2 ^ 31 by omega), nI_cl (show j < 2 ^ 31 by omega), fld_5_5, elm_78, fld_cnt hi, nw.2 i j hi (by omega), nm_q, bd_s, nI_1]
        exact hjh
    have in0 := inner 4 0 fuel (by omega) (by show 4 < 1000; omega)
    rw [WYn_0] at in0
    have snE : lN (vn kd wy i) * Int32.toInt64 (nI (12 / rr i)) = lN (sn kd rr wy i) := by
      have h12 : 12 / rr i ≤ 12 := Nat.div_le_self _ _
      rw [show Int32.toInt64 (nI (12 / rr i)) = lN (12 / rr i) by rw [l_eq, t64 (by omega), pk_lT (by omega)], lN_mul]
      rfl
    have v1 : mJ M1 73 i = lN (vn kd wy i) := by
      show mJ (sJ Mj 73 i (lN (vn kd wy i))) 73 i = _
      rw [mJ_sJ, if_pos ⟨rfl, rfl⟩]
    have kI1 : mI (sJ Mj 73 i (lN (vn kd wy i))) (23 + i) 1 = (if kd i = 9 then -1 else nI (kd i)) := hk.1
    have kI2 : ∀ x, mI (sI (sJ Mj 73 i (lN (vn kd wy i))) 74 i x) (23 + i) 2 = nI (rr i) := fun x => by rw [mI_sI, if_neg (by omega)]; exact hk.2.1
    have kI3 : ∀ x y, mI (sI (sI (sJ Mj 73 i (lN (vn kd wy i))) 74 i x) 75 i y) (23 + i) 3 = nI (hd i) := fun x y => by rw [mI_sI, if_neg (by omega), mI_sI, if_neg (by omega)]; exact hk.2.2.1
    have dy := s_days n1 w hi
    rw [f_X5_load_b58_s]
    unfold f_X5_load_b58B f_X5_load_b98
    rw [if_neg (by rw [i_le, t_nI (by omega), li_4]; omega)]
    simp only [ck_k hi (show 4 < 1000 by omega), nI_cl (show i < 2 ^ 31 by omega), gz, if_false, dvJ_ok gn, fld_4_0, elm_22, fld_5_0, fld_5_1, fld_5_2, fld_5_3, fld_5_4, hW i (by omega) hi, dv, kI1, kI2, kI3, nm_q, bd_s]
    have dy' : f_X1_daysOf (23 + i) (sI (sI (sI (sJ Mj 73 i (lN (vn kd wy i))) 74 i (if kd i = 9 then -1 else nI (kd i))) 75 i (nI (rr i))) 76 i (nI (hd i))) = some (nI (12 / rr i), M1) := dy
    have v1' : mJ (sI (sI (sI (sJ Mj 73 i (lN (vn kd wy i))) 74 i (if kd i = 9 then -1 else nI (kd i))) 75 i (nI (rr i))) 76 i (nI (hd i))) 73 i = lN (vn kd wy i) := v1
    rw [dy', bd_s]
    simp only [v1', snE]
    exact in0
theorem s_rload {M : Mm} {kd rr hd rm cm : Nf} {wy : Nat → Nf} (n : NetC kd rr hd rm cm wy M) (w : wfN kd rr hd rm cm wy) (cl : ClN kd cm wy) : ∃ M', f_X5_load 5 4 M = some M' ∧ Sc M M' ∧ LdC kd rr hd wy M' := by
  obtain ⟨M1, a1, a2, a3, a4⟩ := s_loadPaths n
  have n1 : NetC kd rr hd rm cm wy M1 := n.sc (fun a k q => a3.1 a k (Or.inl q))
  have hv : tbN kd 4 < 2 ^ 4 := mk_lt _ _
  have wb := fun c hc => (wN_b w cl (c := c) hc).2.1
  have lp : ∀ (b i m : Nat) (Mj : Mm), i + b = 4 → b < m → Sc M Mj → ChG 31 61 Mj (pw wy) 4 → (∀ c, c < i → mJ Mj 73 c = lN (wN kd wy c)) → ∃ M', f_X5_load_b14 5 m 4 (nI (tbN kd 4)) (lN (gk kd wy i)) (nI i) Mj = some M' ∧ Sc M M' ∧ LdC kd rr hd wy M' := by
    intro b
    induction b with
    | zero =>
      intro i m Mj h1 h2 hS hG hW
      obtain ⟨m, rfl⟩ : ∃ j, m = j + 1 := ⟨m - 1, by omega⟩
      have e : i = 4 := by omega
      subst e
      rw [f_X5_load_b14_s]
      unfold f_X5_load_b14B
      rw [if_pos (by decide)]
      exact s_load2 n w cl 4 0 fuel Mj (by omega) (by show 4 < 1000; omega) hS (fun c hc => by omega) (fun c _ hc => hW c hc)
    | succ b ih =>
      intro i m Mj h1 h2 hS hG hW
      obtain ⟨m, rfl⟩ : ∃ j, m = j + 1 := ⟨m - 1, by omega⟩
      have hi : i < 4 := by omega
      obtain ⟨M', e1, e2⟩ := s_weightOf fl31 fld_31_2 fl37 (by omega) (by omega) (show 4 ≤ 6 by omega) hG hi hv
      have e1' : f_X0_weightOf 31 (nI i) (nI (tbN kd 4)) Mj = some (lN (wN kd wy i), M') := by
        rw [e1]
        show some (wtB (pw wy) 4 (tbN kd 4) i, M') = _
        rw [(wN_b w cl hi).1]
      have g64 := gk_lt (kd := kd) (wy := wy) (fun c hc => wb c hc) i (by omega)
      have w64 := wb i hi
      have cp : f_X2_commonPart (lN (gk kd wy i)) (lN (wN kd wy i)) (sJ M' 73 i (lN (wN kd wy i))) = some (lN (gk kd wy (i + 1)), sJ M' 73 i (lN (wN kd wy i))) := by
        rw [s_commonPart _ (by rw [pk_lT (by omega)]; omega) (by rw [pk_lT (by omega)]; omega), pk_lT (by omega), pk_lT (by omega), Int.natAbs_natCast, Int.natAbs_natCast]
        rfl
      rw [f_X5_load_b14_s]
      unfold f_X5_load_b14B
      rw [if_neg (by rw [i_le, t_nI (by omega), li_4]; omega)]
      simp only [fld_4_1, e1', nm_q, bd_s, ck_k hi (show 4 < 1000 by omega), nI_cl (show i < 2 ^ 31 by omega), fld_5_0, mJ_sJ M' 73 i 73 i, and_self, if_true, cp, nI_1]
      refine ih (i + 1) m _ (by omega) (by omega) ((hS.tr (e2.sc (by omega) (by omega) (by omega))).j (by omega) (by omega)) ?_ (fun c hc => ?_)
      · refine ⟨?_, fun x hx y hy => ?_⟩
        · show mI M' 31 3 = _
          rw [e2.1 _ _ (by omega)]; exact hG.1
        · show mI M' (61 + x) y = _
          rw [e2.1 _ _ (by omega)]; exact hG.2 x hx y hy
      · rw [mJ_sJ]
        by_cases e : c = i
        · rw [if_pos ⟨rfl, e⟩, e]
        · rw [if_neg (by omega), e2.2 73 c (by omega)]
          exact hW c (by omega)
  unfold f_X5_load
  rw [a1, bd_s, s_bitsThere n1 w, bd_s]
  exact lp 4 0 fuel M1 (by omega) (by show 4 < 1000; omega) a3 a2.1 (fun c hc => by omega)

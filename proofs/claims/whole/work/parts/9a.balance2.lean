/-! balance: the reference's states, and the call -/
theorem sN_swap (G : Nat → Nat → Nat) : sN (fun c => sN (fun d => G c d) 4) 4 = sN (fun d => sN (fun c => G c d) 4) 4 := by
  show 0 + (0 + G 0 0 + G 0 1 + G 0 2 + G 0 3) + (0 + G 1 0 + G 1 1 + G 1 2 + G 1 3) + (0 + G 2 0 + G 2 1 + G 2 2 + G 2 3) + (0 + G 3 0 + G 3 1 + G 3 2 + G 3 3) = 0 + (0 + G 0 0 + G 1 0 + G 2 0 + G 3 0) + (0 + G 0 1 + G 1 1 + G 2 1 + G 3 1) + (0 + G 0 2 + G 1 2 + G 2 2 + G 3 2) + (0 + G 0 3 + G 1 3 + G 2 3 + G 3 3)
  omega
theorem sN_zero : ∀ k, sN (fun _ => 0) k = 0
  | 0 => rfl
  | k + 1 => by rw [sN_s, sN_zero k]
theorem bal_R {kd rr hd rm cm : Nf} {wy : Nat → Nf} (w : wfN kd rr hd rm cm wy) (cl : ClN kd cm wy) {s : Nf} (hs : s4 s ≤ 4) (h9 : ∀ c, c < 4 → kd c = 9 → s c = 0) : sN (fun c => sN (CRi kd rr hd wy (fun s => PR kd hd (sn kd rr wy) s 4) s c) 4) 4 = GRs kd rr hd s (PR kd hd (sn kd rr wy) s 4) 4 := by
  have cx := cx_of w cl
  have b := balC w cl (W := fun s => PR kd hd (sn kd rr wy) s 4) (fun s f hf hf9 h3 => K_R cx.1 cx.2.1 hf hf9 (by
    unfold s4 at h3
    rcases c4 hf with rfl | rfl | rfl | rfl <;> omega) (q_rr w hf)) hs h9
  have e1 : sN (fun c => sN (CRi kd rr hd wy (fun s => PR kd hd (sn kd rr wy) s 4) s c) 4) 4 = CIs kd rr hd wy (fun s => PR kd hd (sn kd rr wy) s 4) s := by
    rw [show (fun c => sN (CRi kd rr hd wy (fun s => PR kd hd (sn kd rr wy) s 4) s c) 4) = fun c => sN (fun d => CRi kd rr hd wy (fun s => PR kd hd (sn kd rr wy) s 4) s c d) 4 from rfl, sN_swap]
    unfold CIs
    apply sN_cg
    intro d hd4
    show sN (fun c => CRi kd rr hd wy (fun s => PR kd hd (sn kd rr wy) s 4) s c d) 4 = if s d = 0 then 0 else CTs kd rr hd wy (fun s => PR kd hd (sn kd rr wy) s 4) (dn1 s d) d
    by_cases e : s d = 0
    · rw [if_pos e, sN_cg (G := fun _ => 0) 4 (fun c _ => by show CRi kd rr hd wy _ s c d = 0; unfold CRi; rw [if_pos e]), sN_zero]
    · rw [if_neg e]
      unfold CTs
      apply sN_cg
      intro c _
      show CRi kd rr hd wy _ s c d = _
      unfold CRi
      rw [if_neg e]
  rw [e1, b]
  unfold GRs
  apply sN_cg
  intro c hc
  show (if s c = 0 then 0 else 4 * (rr c * bq kd hd c (s c)) * PR kd hd (sn kd rr wy) s 4) = if kd c = 9 then 0 else 4 * (rr c * bq kd hd c (s c)) * PR kd hd (sn kd rr wy) s 4
  by_cases e : s c = 0
  · rw [if_pos e]
    by_cases e9 : kd c = 9
    · rw [if_pos e9]
    · rw [if_neg e9, e, bq_0]; simp
  · rw [if_neg e, if_neg (show ¬ kd c = 9 from fun hz => e (h9 c hc hz))]
theorem s_b46 {M : Mm} {kd rr hd rm cm : Nf} {wy : Nat → Nf} (w : wfN kd rr hd rm cm wy) (cl : ClN kd cm wy) (hL : LdR kd rr hd (sn kd rr wy) M) (hW : ∀ c d, c < 4 → d < 4 → mI M 94 (4 * c + d) = nI (wy c d)) {s : Nf} (hs : s4 s ≤ 4) (h9 : ∀ c, c < 4 → kd c = 9 → s c = 0) {k30 : Int32 → Int32 → Mm → Option (Int32 × Mm)} {n m0 : Int32} (hk : ∀ k, k < 4 → mI M 99 k = nI (s k)) : ∃ M', f_X9_balance_b46 k30 1 fuel n m0 0 0 0 M = k30 n (m0 + 1) M' ∧ S9 M M' := by
  have cx := cx_of w cl
  have w4 := w4_of w
  have z9 : ∀ c d, c < 4 → d < 4 → kd c = 9 → wy c d = 0 := fun c d hc hd4 hz => (((w c hc).2.2.2.2.2.1 hz).2 d hd4).1
  have sle : ∀ c, c < 4 → s c ≤ 4 := fun c hc => by
    unfold s4 at hs
    rcases c4 hc with rfl | rfl | rfl | rfl <;> omega
  have lp : ∀ (b c m : Nat) (Mj : Mm), c + b = 4 → b < m → S9 M Mj → (∀ k, k < 4 → mI Mj 99 k = nI (s k)) → ∃ M', f_X9_balance_b46 k30 1 m n m0 (lN (GRs kd rr hd s (PR kd hd (sn kd rr wy) s 4) c)) (lN (sN (fun c => sN (CRi kd rr hd wy (fun s => PR kd hd (sn kd rr wy) s 4) s c) 4) c)) (nI c) Mj = k30 n (m0 + 1) M' ∧ S9 M M' := by
    intro b
    induction b with
    | zero =>
      intro c m Mj h1 h2' hS hk
      obtain ⟨m, rfl⟩ : ∃ j, m = j + 1 := ⟨m - 1, by omega⟩
      have e : c = 4 := by omega
      subst e
      refine ⟨Mj, ?_, hS⟩
      rw [f_X9_balance_b46_s]
      unfold f_X9_balance_b46B
      rw [if_pos (show (4 : Int32) ≤ nI 4 by decide), bal_R w cl hs h9, if_pos ((lg_cmp_eq _ _).mpr rfl), nm_q]
    | succ b ih =>
      intro c m Mj h1 h2' hS hk
      obtain ⟨m, rfl⟩ : ∃ j, m = j + 1 := ⟨m - 1, by omega⟩
      have hc : c < 4 := by omega
      have Lj := LdR_SR hL hS.sr
      have hWj : ∀ c d, c < 4 → d < 4 → mI Mj 94 (4 * c + d) = nI (wy c d) := fun c d hc hd4 => by rw [hS.1 _ _ (by omega)]; exact hW c d hc hd4
      have i95 := s_b95 (k30 := k30) (k46 := f_X9_balance_b46 k30 1 m) (n := n) (m0 := m0) (g := lN (GRs kd rr hd s (PR kd hd (sn kd rr wy) s 4) (c + 1))) Lj hWj cx w4 z9 hs hc 4 0 fuel (sN (fun c => sN (CRi kd rr hd wy (fun s => PR kd hd (sn kd rr wy) s 4) s c) 4) c) Mj (by omega) (by show 4 < 1000; omega) (S9.rf Mj) hk
      obtain ⟨M2, b1, b2, b3⟩ := i95
      obtain ⟨M3, c1, c2⟩ := ih (c + 1) m M2 (by omega) (by omega) (hS.tr b2) b3
      refine ⟨M3, ?_, c2⟩
      have fin := b1.trans c1
      rw [f_X9_balance_b46_s]
      unfold f_X9_balance_b46B f_X9_balance_b90
      rw [if_neg (show ¬ (4 : Int32) ≤ nI c by rw [i_le, t_nI (by omega), li_4]; omega)]
      simp only [ck_k hc (show 4 < 1000 by omega), nI_cl (show c < 2 ^ 31 by omega), fld_1_8, fld_1_21, (Lj c hc).1, hk c hc, nm_q, bd_s]
      have ge : GRs kd rr hd s (PR kd hd (sn kd rr wy) s 4) (c + 1) = GRs kd rr hd s (PR kd hd (sn kd rr wy) s 4) c + (if kd c = 9 then 0 else 4 * (rr c * bq kd hd c (s c)) * PR kd hd (sn kd rr wy) s 4) := rfl
      rw [ge] at fin
      by_cases y : kd c = 9
      · rw [if_pos y] at fin
        rw [if_pos y, if_pos (show (0 : Int32) = 0 from rfl), show (0 : Int64) = lN 0 from rfl, lN_add]
        exact fin
      · rw [if_neg y] at fin
        have bb := bq_le cx.1 hc (sle c hc)
        have r12' := cx.2.2.1 c hc
        have p48 : rr c * bq kd hd c (s c) ≤ 12 * 4 := Nat.mul_le_mul r12'.2 bb
        rw [if_neg y, if_neg (show ¬ (1 : Int32) = 0 by decide), s_sends Lj cx.1 hc y (sle c hc), bd_s]
        simp only [s_weightR Lj cx.2.2.1 cx.1 sle hk, nm_q, bd_s, t64N (show rr c * bq kd hd c (s c) < 2 ^ 31 by omega), show (4 : Int64) = lN 4 from rfl, lN_mul, lN_add]
        exact fin
  exact lp 4 0 fuel M (by omega) (by show 4 < 1000; omega) (S9.rf M) hk
theorem s_balR {M : Mm} {kd rr hd rm cm : Nf} {wy : Nat → Nf} (w : wfN kd rr hd rm cm wy) (cl : ClN kd cm wy) (hL : LdR kd rr hd (sn kd rr wy) M) (hW : ∀ c d, c < 4 → d < 4 → mI M 94 (4 * c + d) = nI (wy c d)) {n : Nat} (hn : n ≤ 4) : ∃ M', f_X9_balance_b30 1 fuel (nI n) 0 (sI M 1 22 0) = some (nI (gl (gd kd n) 625 0).length, M') ∧ SR M M' := by
  have lp : ∀ (D d t m a : Nat) (Mj : Mm), d ≤ D → t + d = 625 → D + 1 < m → SR M Mj → mI Mj 1 22 = nI t → ∃ M', f_X9_balance_b30 1 m (nI n) (nI a) Mj = some (nI (a + (gl (gd kd n) d t).length), M') ∧ SR M M' := by
    intro D
    induction D with
    | zero =>
      intro d t m a Mj hd' h1 h2' hS hc
      obtain ⟨m, rfl⟩ : ∃ j, m = j + 1 := ⟨m - 1, by omega⟩
      have e : d = 0 := by omega
      subst e
      have hj := LdR_SR hL hS
      obtain ⟨M', b1, b2⟩ := (s_nextR (kd := kd) (n := n) (by omega) 0 t fuel Mj h1 (by show 0 < 1000; omega) (fun c hc' => (hj c hc').1) hc).1 rfl
      refine ⟨M', ?_, hS.tr b2⟩
      rw [f_X9_balance_b30_s]
      unfold f_X9_balance_b30B f_X9_nextState
      rw [b1, bd_s, if_pos rfl]
      rfl
    | succ D ih =>
      intro d t m a Mj hd' h1 h2' hS hc
      obtain ⟨m, rfl⟩ : ∃ j, m = j + 1 := ⟨m - 1, by omega⟩
      have hj := LdR_SR hL hS
      have ns := s_nextR (kd := kd) (n := n) (by omega) d t fuel Mj h1 (by show d < 1000; omega) (fun c hc' => (hj c hc').1) hc
      cases hg : gl (gd kd n) d t with
      | nil =>
        obtain ⟨M', b1, b2⟩ := ns.1 hg
        refine ⟨M', ?_, hS.tr b2⟩
        rw [f_X9_balance_b30_s]
        unfold f_X9_balance_b30B f_X9_nextState
        rw [b1, bd_s, if_pos rfl]
        rfl
      | cons t' l =>
        obtain ⟨M1, b1, b2, b3, b4, b5, b6, d', b7, b8, b9⟩ := ns.2 t' l hg
        have hS1 := hS.tr b2
        have g6 := b6
        unfold gd at g6
        rw [Bool.and_eq_true, decide_eq_true_eq, tp_tot] at g6
        have hW1 : ∀ c d, c < 4 → d < 4 → mI M1 94 (4 * c + d) = nI (wy c d) := fun c d hc hd4 => by rw [hS1.1 _ _ (by omega)]; exact hW c d hc hd4
        obtain ⟨M2, e1, e2⟩ := s_b46 (k30 := f_X9_balance_b30 1 m) (n := nI n) (m0 := nI a) w cl (LdR_SR hL hS1) hW1 (s := sO t') (by rw [sO4]; omega) ((ok_P 4).mp g6.1) b3
        obtain ⟨M3, f1, f2⟩ := ih d' (t' + 1) m (a + 1) M2 (by omega) b7 (by omega) (hS1.tr e2.sr) (by rw [e2.1 _ _ (by omega)]; exact b4)
        refine ⟨M3, ?_, f2⟩
        rw [b9, List.length_cons, show a + ((gl (gd kd n) d' (t' + 1)).length + 1) = a + 1 + (gl (gd kd n) d' (t' + 1)).length by omega, ← f1, f_X9_balance_b30_s]
        unfold f_X9_balance_b30B f_X9_nextState
        rw [b1, bd_s, if_neg (show ¬ ((1, M1) : Int32 × Mm).1 = 0 from (show ¬ (1 : Int32) = 0 by decide))]
        rw [nI_1] at e1
        exact e1
  have := lp 625 625 0 fuel 0 (sI M 1 22 0) (by omega) (by omega) (by show 626 < 1000; omega) ((SR.rf M).c _) (by rw [mI_sI, if_pos ⟨rfl, rfl⟩]; rfl)
  rw [Nat.zero_add] at this
  exact this
theorem al_balance (y : Int32) : Alike (f_X8_balance 0 y) (f_X9_balance 1 y) := by
  rcases n_split y with ⟨n, hn1, hn4, rfl⟩ | hy
  · have ht : 1 ≤ (nI n).toInt ∧ (nI n).toInt ≤ 4 := by rw [t_nI (by omega)]; omega
    refine al_c0 (gX := fun M3 => bd (f_X5_balanced (fld 0 2) (nI n) M3) fun q6 => some (q6.1, q6.2)) (gR := fun M => f_X9_balance_b30 1 fuel (nI n) 0 (sI M 1 22 0)) (fun M => ?_) (fun M => ?_) ?_
    · unfold f_X8_balance
      rw [s_isThings, if_pos ht, bd_s, if_neg (show ¬ (1 : Int32) = 0 by decide)]
    · unfold f_X9_balance
      rw [many_ok hn1 hn4, bd_s, if_neg (show ¬ (1 : Int32) = 0 by decide)]
      rfl
    · intro M M2 kd rr hd rm cm wy h s2 w cl l3
      obtain ⟨Mx, x1, x2⟩ := s_balX l3 w cl hn4
      have sX := s2.tr x2.sc
      have ce : slN (fun t => if okP kd t 4 = true then 1 else 0) (en 35 n) = (gl (gd kd n) 625 0).length := by
        rw [slN_perm (en_P hn4), ← slN_one, gl_gd]
      refine ⟨nI (gl (gd kd n) 625 0).length, Mx, ?_, fun a k q => sX.1 a k (Or.inr q), fun Mv sv hv nv => ?_⟩
      · show (bd (f_X5_balanced (fld 0 2) (nI n) M2) fun q6 => some (q6.1, q6.2)) = _
        rw [fld_0_2, x1, bd_s, ce]
      · obtain ⟨Mb, b1, b2⟩ := s_balR w cl (LdR_of nv hv) nv.2 hn4
        exact ⟨Mb, b1, h.sc (sX.tr (sv.tr b2.sc))⟩
  · intro M h
    refine ⟨-1, M, M, ?_, ?_, h⟩
    · unfold f_X8_balance
      rw [s_isThings, if_neg hy, bd_s, if_pos (show (0 : Int32) = 0 from rfl)]
    · unfold f_X9_balance
      rw [many_bad hy, bd_s, if_pos (show (0 : Int32) = 0 from rfl)]

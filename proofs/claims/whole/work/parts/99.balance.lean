/-! balance -/
theorem sO4 (t : Nat) : s4 (sO t) = tot t := by
  unfold s4 tot
  rw [sO_0, sO_1, sO_2, sO_3]
theorem bq_0 (kd hd : Nf) (c : Nat) : bq kd hd c 0 = 0 := by
  unfold bq
  repeat' split
  all_goals omega
theorem balC {kd rr hd rm cm : Nf} {wy : Nat → Nf} (w : wfN kd rr hd rm cm wy) (cl : ClN kd cm wy) {W : Nf → Nat} (K : ∀ s f, f < 4 → kd f ≠ 9 → s4 s ≤ 3 → W (up1 s f) * (rr f * bq kd hd f (s f + 1)) = 12 * vn kd wy f * W s) {s : Nf} (hs : s4 s ≤ 4) (h9 : ∀ c, c < 4 → kd c = 9 → s c = 0) : CIs kd rr hd wy W s = sN (fun d => if s d = 0 then 0 else 4 * (rr d * bq kd hd d (s d)) * W s) 4 := bal K (fun d hd4 hd9 => traV w cl hd4 hd9) (fun c d hc hd4 hz => (((w c hc).2.2.2.2.2.1 hz).2 d hd4).1) hs h9
theorem go_E {kd rr hd rm cm : Nf} {wy : Nat → Nf} (w : wfN kd rr hd rm cm wy) (cl : ClN kd cm wy) {s : Nf} {x : Nat} (h9 : ∀ c, c < 4 → kd c = 9 → s c = 0) : sN (fun d => if s d = 0 then 0 else 4 * (rr d * bq kd hd d (s d)) * x) 4 = GOs kd rr hd wy s * x := by
  unfold GOs
  rw [Nat.mul_comm, sN_mul]
  apply sN_cg
  intro c hc
  show (if s c = 0 then 0 else 4 * (rr c * bq kd hd c (s c)) * x) = x * sN (fun to => rr c * bq kd hd c (s c) * wy c to) 4
  by_cases e : s c = 0
  · rw [if_pos e, ← sN_mul, e, bq_0]; simp
  · have h9' : kd c ≠ 9 := fun hz => e (h9 c hc hz)
    have sm' : sN (fun to => wy c to) 4 = 4 := by
      show 0 + wy c 0 + wy c 1 + wy c 2 + wy c 3 = 4
      have := (cl.2 c hc h9').2.1
      omega
    rw [if_neg e, ← sN_mul, sm']
    generalize rr c * bq kd hd c (s c) = y
    grind
theorem q_rr {kd rr hd rm cm : Nf} {wy : Nat → Nf} (w : wfN kd rr hd rm cm wy) {f : Nat} (hf : f < 4) : sn kd rr wy f * rr f = 12 * vn kd wy f := by
  have := (r12 (w f hf).2.1).1
  unfold sn
  rw [Nat.mul_assoc, this, Nat.mul_comm]
theorem s_balX {M : Mm} {kd rr hd rm cm : Nf} {wy : Nat → Nf} (h : LdC kd rr hd wy M) (w : wfN kd rr hd rm cm wy) (cl : ClN kd cm wy) {n : Nat} (hn : n ≤ 4) : ∃ M', f_X5_balanced 5 (nI n) M = some (nI (slN (fun t => if okP kd t 4 = true then 1 else 0) (en 35 n)), M') ∧ St M M' := by
  have cx := cx_of w cl
  have w4 := w4_of w
  have lp : ∀ (k t m a : Nat) (Mj : Mm), k ≤ 35 → k + 1 < m → t < 625 → tot t ≤ 4 → St M Mj → (∀ c, c < 4 → mI Mj 83 c = nI (sO t c)) → ∃ M', f_X5_balanced_b12 5 m (nI a) 1 (nI (35 - k)) Mj = some (nI (a + slN (fun t => if okP kd t 4 = true then 1 else 0) (en k t)), M') ∧ St M M' := by
    intro k
    induction k with
    | zero =>
      intro t m a Mj k1 k2 t1 t2 hS hm
      obtain ⟨m, rfl⟩ : ∃ j, m = j + 1 := ⟨m - 1, by omega⟩
      refine ⟨Mj, ?_, hS⟩
      rw [f_X5_balanced_b12_s]
      unfold f_X5_balanced_b12B
      rw [if_neg (show ¬ (1 : Int32) = 0 by decide), if_pos (show (35 : Int32) ≤ nI (35 - 0) by decide)]
      rfl
    | succ k ih =>
      intro t m a Mj k1 k2 t1 t2 hS hm
      obtain ⟨m, rfl⟩ : ∃ j, m = j + 1 := ⟨m - 1, by omega⟩
      have hj := LdC_St h hS
      have next : ∀ (a : Nat) (Mx : Mm), St M Mx → (∀ c, c < 4 → mI Mx 83 c = nI (sO t c)) → ∃ M', f_X5_balanced_b45 (f_X5_balanced_b12 5 m) 5 (nI a) (nI (35 - (k + 1))) Mx = some (nI (a + slN (fun t => if okP kd t 4 = true then 1 else 0) (oL (nx t) (en k))), M') ∧ St M M' := by
        intro a Mx hSx hmx
        have ns := s_next5 t1 t2 hmx
        unfold f_X5_balanced_b45
        cases hx : nx t with
        | none =>
          rw [ns.1 hx, bd_s, nm_q, nI_1]
          obtain ⟨m, rfl⟩ : ∃ j, m = j + 1 := ⟨m - 1, by omega⟩
          refine ⟨Mx, ?_, hSx⟩
          rw [f_X5_balanced_b12_s]
          unfold f_X5_balanced_b12B
          rw [if_pos rfl]
          rfl
        | some t' =>
          obtain ⟨M2, n1, n2, n3⟩ := ns.2 t' hx
          have q := nx_ok hx t1 t2
          rw [n1, bd_s, nm_q, nI_1, show 35 - (k + 1) + 1 = 35 - k by omega]
          exact ih t' m _ M2 (by omega) (by omega) q.1 (by omega) (hSx.tr n3) n2
      rw [f_X5_balanced_b12_s]
      unfold f_X5_balanced_b12B
      rw [if_neg (show ¬ (1 : Int32) = 0 by decide), if_neg (show ¬ (35 : Int32) ≤ nI (35 - (k + 1)) by rw [i_le, t_nI (by omega), show (35 : Int32).toInt = 35 from rfl]; omega), s_isState hj cx.1 t2 hm, bd_s]
      show ∃ M', (if (if okP kd t 4 = true then (1 : Int32) else 0) = 0 then f_X5_balanced_b45 (f_X5_balanced_b12 5 m) 5 (nI a) (nI (35 - (k + 1))) Mj else bd (f_X5_comingHere 5 Mj) fun q7 => bd (f_X5_goingFromHere 5 q7.2) fun q8 => if lg_cmp q7.1 q8.1 = 0 then nm (nI a + 1) fun t10 => f_X5_balanced_b45 (f_X5_balanced_b12 5 m) 5 t10 (nI (35 - (k + 1))) q8.2 else f_X5_balanced_b45 (f_X5_balanced_b12 5 m) 5 (nI a) (nI (35 - (k + 1))) q8.2) = some (nI (a + ((if okP kd t 4 = true then 1 else 0) + slN (fun t => if okP kd t 4 = true then 1 else 0) (oL (nx t) (en k)))), M') ∧ St M M'
      by_cases z : okP kd t 4 = true
      · have h9 : ∀ c, c < 4 → kd c = 9 → sO t c = 0 := (ok_P 4).mp z
        obtain ⟨M2, c1, c2, c3⟩ := s_ci hj cx.1 cx.2.2.1 w4 (s := sO t) hm (by rw [sO4]; exact t2)
        have hS2 := hS.tr c2
        have g1 := s_goF (LdC_St h hS2) cx.1 cx.2.2.1 w4 (s := sO t) c3 (fun c hc => sO_le t2 hc)
        have be : CIs kd rr hd wy (wC kd hd (sn kd rr wy)) (sO t) = GOs kd rr hd wy (sO t) * wC kd hd (sn kd rr wy) (sO t) := by
          rw [balC w cl (W := wC kd hd (sn kd rr wy)) (fun s f hf hf9 h3 => K_C cx.2.1 hf h3 (q_rr w hf)) (by rw [sO4]; exact t2) h9]
          exact go_E w cl h9
        rw [if_pos z, if_neg (show ¬ (1 : Int32) = 0 by decide), c1, bd_s, g1, bd_s, be, if_pos ((lg_cmp_eq _ _).mpr rfl), nm_q, nI_1, if_pos z, ← Nat.add_assoc]
        exact next (a + 1) M2 hS2 c3
      · rw [if_neg z, if_pos (show (0 : Int32) = 0 from rfl), if_neg z, Nat.zero_add]
        exact next a Mj hS hm
  obtain ⟨M1, b1, b2, b3⟩ := s_begin (M := M) hn
  unfold f_X5_balanced
  rw [b1, bd_s]
  have := lp 35 n fuel 0 M1 (by omega) (by show 36 < 1000; omega) (by omega) (by rw [tot_n hn]; exact hn) b3 b2
  rw [Nat.zero_add] at this
  exact this
/-- only the reference's state cells differ -/
def S9 (M M1 : Mm) : Prop := (∀ a k, a ≠ 99 → mI M1 a k = mI M a k) ∧ M1.2 = M.2
theorem S9.rf (M : Mm) : S9 M M := ⟨fun _ _ _ => rfl, rfl⟩
theorem S9.tr {M M1 M2 : Mm} (h : S9 M M1) (g : S9 M1 M2) : S9 M M2 := ⟨fun a k p => (g.1 a k p).trans (h.1 a k p), g.2.trans h.2⟩
theorem S9.i {M M1 : Mm} (h : S9 M M1) (k : Nat) (v : Int32) : S9 M (sI M1 99 k v) := ⟨fun a j p => by rw [mI_sI, if_neg (fun hz => p hz.1)]; exact h.1 a j p, h.2⟩
theorem S9.sr {M M1 : Mm} (h : S9 M M1) : SR M M1 := ⟨fun a k p => h.1 a k (by omega), h.2⟩
theorem s_sends {M : Mm} {kd rr hd q : Nf} (h : LdR kd rr hd q M) (o : okKH kd hd) {c j : Nat} (hc : c < 4) (h9 : kd c ≠ 9) (hj : j ≤ 4) : f_X9_sends 1 (nI c) (nI j) M = some (nI (rr c * bq kd hd c j), M) := by
  obtain ⟨hk, hr, hh, _⟩ := (h c hc).2 h9
  have ok := o c hc
  have k3 : nI (kd c) = 3 ↔ kd c = 3 := by rw [show (3 : Int32) = nI 3 from rfl, n_inj (by omega) (by omega)]
  have le : nI (hd c) ≤ nI j ↔ hd c ≤ j := by rw [i_le, t_nI (by omega), t_nI (by omega)]; omega
  unfold f_X9_sends bq
  simp only [ck_k hc (show 4 < 1000 by omega), nI_cl (show c < 2 ^ 31 by omega), fld_1_9, fld_1_10, fld_1_11, hk, hr, hh, k3, le, n_mul]
  by_cases e : kd c = 3
  · rw [if_pos e, if_pos e]
  · rw [if_neg e, if_neg e]
    by_cases y : hd c ≤ j
    · rw [if_pos y]
      by_cases y2 : hd c < j
      · rw [if_pos y2]
      · rw [if_neg y2, show hd c = j by omega]
    · rw [if_neg y, if_neg (show ¬ hd c < j by omega)]
def GRs (kd rr hd : Nf) (s : Nf) (x : Nat) : Nat → Nat := sN (fun c => if kd c = 9 then 0 else 4 * (rr c * bq kd hd c (s c)) * x)
def CRi (kd rr hd : Nf) (wy : Nat → Nf) (W : Nf → Nat) (s : Nf) (c d : Nat) : Nat := if s d = 0 then 0 else W (up1 (dn1 s d) c) * (rr c * bq kd hd c (dn1 s d c + 1)) * wy c d
theorem s_b95 {M : Mm} {kd rr hd q : Nf} {wy : Nat → Nf} (hL : LdR kd rr hd q M) (hW : ∀ c d, c < 4 → d < 4 → mI M 94 (4 * c + d) = nI (wy c d)) (x : CxN kd rr hd q) (w4 : ∀ i j, i < 4 → j < 4 → wy i j ≤ 4) (z9 : ∀ c d, c < 4 → d < 4 → kd c = 9 → wy c d = 0) {s : Nf} (hs : s4 s ≤ 4) {k30 : Int32 → Int32 → Mm → Option (Int32 × Mm)} {k46 : Int32 → Int32 → Int64 → Int64 → Int32 → Mm → Option (Int32 × Mm)} {n m0 : Int32} {g : Int64} {c : Nat} (hc : c < 4) : ∀ (b d m a : Nat) (Mj : Mm), d + b = 4 → b < m → S9 M Mj → (∀ k, k < 4 → mI Mj 99 k = nI (s k)) → ∃ M', f_X9_balance_b95 k30 k46 1 m n m0 g (lN (a + sN (CRi kd rr hd wy (fun s => PR kd hd q s 4) s c) d)) (nI c) (nI d) Mj = k46 n m0 g (lN (a + sN (CRi kd rr hd wy (fun s => PR kd hd q s 4) s c) 4)) (nI (c + 1)) M' ∧ S9 M M' ∧ ∀ k, k < 4 → mI M' 99 k = nI (s k) := by
  have sle : ∀ c, c < 4 → s c ≤ 4 := fun c hc => by
    unfold s4 at hs
    rcases c4 hc with rfl | rfl | rfl | rfl <;> omega
  intro b
  induction b with
  | zero =>
    intro d m a Mj h1 h2' hS hk
    obtain ⟨m, rfl⟩ : ∃ j, m = j + 1 := ⟨m - 1, by omega⟩
    have e : d = 4 := by omega
    subst e
    refine ⟨Mj, ?_, hS, hk⟩
    rw [f_X9_balance_b95_s]
    unfold f_X9_balance_b95B
    rw [if_pos (show (4 : Int32) ≤ nI 4 by decide), nm_q, nI_1]
  | succ b ih =>
    intro d m a Mj h1 h2' hS hk
    obtain ⟨m, rfl⟩ : ∃ j, m = j + 1 := ⟨m - 1, by omega⟩
    have hd4 : d < 4 := by omega
    have hw := w4 c d hc hd4
    have sd := sle d hd4
    have rW : mI Mj 94 (4 * c + d) = nI (wy c d) := by rw [hS.1 _ _ (by omega)]; exact hW c d hc hd4
    have zw : nI (wy c d) ≤ 0 ↔ wy c d = 0 := by rw [i_le, t_nI (by omega), li_0]; omega
    have zs : nI (s d) ≤ 0 ↔ s d = 0 := by rw [i_le, t_nI (by omega), li_0]; omega
    rw [f_X9_balance_b95_s]
    unfold f_X9_balance_b95B
    rw [if_neg (show ¬ (4 : Int32) ≤ nI d by rw [i_le, t_nI (by omega), li_4]; omega)]
    simp only [ix4, ck_k (show 4 * c + d < 16 by omega) (show 16 < 1000 by omega), ck_k hd4 (show 4 < 1000 by omega), ck_k hc (show 4 < 1000 by omega), nI_cl (show 4 * c + d < 2 ^ 31 by omega), nI_cl (show d < 2 ^ 31 by omega), nI_cl (show c < 2 ^ 31 by omega), fld_1_14, fld_1_21, rW, hk d hd4, zw, zs, nm_q, bd_s, nI_1]
    by_cases y : wy c d = 0
    · rw [if_pos y]
      have := ih (d + 1) m a Mj (by omega) (by omega) hS hk
      rw [sN_s, show CRi kd rr hd wy (fun s => PR kd hd q s 4) s c d = 0 by unfold CRi; rw [y]; simp, Nat.add_zero] at this
      exact this
    · rw [if_neg y]
      by_cases ys : s d = 0
      · rw [if_pos ys]
        have := ih (d + 1) m a Mj (by omega) (by omega) hS hk
        rw [sN_s, show CRi kd rr hd wy (fun s => PR kd hd q s 4) s c d = 0 by unfold CRi; rw [if_pos ys], Nat.add_zero] at this
        exact this
      · have c9 : kd c ≠ 9 := fun hz => y (z9 c d hc hd4 hz)
        have nd : nI (s d) - 1 = nI (s d - 1) := n_dec (by omega)
        have d3 : ∀ k, k < 4 → dn1 s d k ≤ 3 := fun k hk4 => by
          unfold s4 at hs
          unfold dn1
          by_cases e : k = d
          · rw [if_pos e]; have := sle k hk4; omega
          · rw [if_neg e]
            rcases c4 hk4 with rfl | rfl | rfl | rfl <;> rcases c4 hd4 with rfl | rfl | rfl | rfl <;> omega
        have hk1 : ∀ k, k < 4 → mI (sI Mj 99 d (nI (s d - 1))) 99 k = nI (dn1 s d k) := fun k hk4 => by
          rw [mI_sI]
          by_cases e : k = d
          · rw [if_pos ⟨rfl, e⟩, e, dn_c]
          · rw [if_neg (fun hz => e hz.2), dn_n s e]; exact hk k hk4
        have hk2 : ∀ k, k < 4 → mI (sI (sI Mj 99 d (nI (s d - 1))) 99 c (nI (dn1 s d c + 1))) 99 k = nI (up1 (dn1 s d) c k) := fun k hk4 => by
          rw [mI_sI]
          by_cases e : k = c
          · rw [if_pos ⟨rfl, e⟩, e, up_c]
          · rw [if_neg (fun hz => e hz.2), up_n _ e]; exact hk1 k hk4
        have S2 := (hS.i d (nI (s d - 1))).i c (nI (dn1 s d c + 1))
        have L2 := LdR_SR hL S2.sr
        have dc := d3 c hc
        have u4 : ∀ k, k < 4 → up1 (dn1 s d) c k ≤ 4 := fun k hk4 => by
          have := d3 k hk4
          unfold up1
          split <;> omega
        have sd2 := s_sends L2 x.1 hc c9 (show dn1 s d c + 1 ≤ 4 by omega)
        have wt := s_weightR L2 x.2.2.1 x.1 u4 hk2
        have bb := bq_le x.1 hc (show dn1 s d c + 1 ≤ 4 by omega)
        have r12' := x.2.2.1 c hc
        have p48 : rr c * bq kd hd c (dn1 s d c + 1) ≤ 12 * 4 := Nat.mul_le_mul r12'.2 bb
        have p192 : wy c d * (rr c * bq kd hd c (dn1 s d c + 1)) ≤ 4 * 48 := Nat.mul_le_mul hw p48
        have rW2 : mI (sI (sI Mj 99 d (nI (s d - 1))) 99 c (nI (dn1 s d c + 1))) 94 (4 * c + d) = nI (wy c d) := by rw [S2.1 _ _ (by omega)]; exact hW c d hc hd4
        have nu : nI (dn1 s d c + 1) - 1 = nI (dn1 s d c) := n_dec (by omega)
        have S4 := (S2.i c (nI (dn1 s d c))).i d (nI (dn1 s d d + 1))
        have hk3 : ∀ k, k < 4 → mI (sI (sI (sI Mj 99 d (nI (s d - 1))) 99 c (nI (dn1 s d c + 1))) 99 c (nI (dn1 s d c))) 99 k = nI (dn1 s d k) := fun k hk4 => by
          rw [sI_sI, mI_sI]
          by_cases e : k = c
          · rw [if_pos ⟨rfl, e⟩, e]
          · rw [if_neg (fun hz => e hz.2)]; exact hk1 k hk4
        have hk4' : ∀ k, k < 4 → mI (sI (sI (sI (sI Mj 99 d (nI (s d - 1))) 99 c (nI (dn1 s d c + 1))) 99 c (nI (dn1 s d c))) 99 d (nI (dn1 s d d + 1))) 99 k = nI (s k) := fun k hk4 => by
          rw [mI_sI]
          by_cases e : k = d
          · rw [if_pos ⟨rfl, e⟩, e, dn_c, show s d - 1 + 1 = s d by omega]
          · rw [if_neg (fun hz => e hz.2), hk3 k hk4, dn_n s e]
        have := ih (d + 1) m a _ (by omega) (by omega) S4 hk4'
        rw [sN_s, show CRi kd rr hd wy (fun s => PR kd hd q s 4) s c d = wy c d * (rr c * bq kd hd c (dn1 s d c + 1)) * PR kd hd q (up1 (dn1 s d) c) 4 by unfold CRi; rw [if_neg ys]; show PR kd hd q (up1 (dn1 s d) c) 4 * (rr c * bq kd hd c (dn1 s d c + 1)) * wy c d = _; generalize PR kd hd q (up1 (dn1 s d) c) 4 = X; generalize rr c * bq kd hd c (dn1 s d c + 1) = Y; grind, ← Nat.add_assoc] at this
        rw [if_neg ys]
        simp only [nd, hk1 c hc, nI_1, hk2 c hc, up_c, sd2, nm_q, bd_s, wt, rW2, n_mul, t64N (show wy c d * (rr c * bq kd hd c (dn1 s d c + 1)) < 2 ^ 31 by omega), lN_mul, lN_add, nu, hk3 d hd4]
        exact this

/-! balance: the class's side -/
theorem LdC_St {kd rr hd : Nf} {wy : Nat → Nf} {M M1 : Mm} (h : LdC kd rr hd wy M) (s : St M M1) : LdC kd rr hd wy M1 := fun c hc => by
  have := h c hc
  refine ⟨?_, by rw [s.1 _ _ (by omega)]; exact this.2.1, by rw [s.1 _ _ (by omega)]; exact this.2.2.1, by rw [s.1 _ _ (by omega)]; exact this.2.2.2.1, ?_, fun k hk => by rw [s.1 _ _ (by omega)]; exact this.2.2.2.2.2 k hk⟩
  · show M1.2 73 c = _; rw [s.2]; exact this.1
  · show M1.2 77 c = _; rw [s.2]; exact this.2.2.2.2.1
theorem bq_le {kd hd : Nf} (o : okKH kd hd) {c j : Nat} (hc : c < 4) (hj : j ≤ 4) : bq kd hd c j ≤ 4 := by
  have := (o c hc).2
  unfold bq
  repeat' split
  all_goals omega
theorem s_served {M : Mm} {kd rr hd : Nf} {wy : Nat → Nf} (h : LdC kd rr hd wy M) (o : okKH kd hd) (o3 : okR12 kd rr) {c : Nat} {s : Nf} (hc : c < 4) (hm : mI M 83 c = nI (s c)) (hs : s c ≤ 4) : f_X5_served 5 (nI c) M = some (lN (rr c * bq kd hd c (s c)), M) := by
  have hb := bq_le o hc hs
  have hr := o3 c hc
  unfold f_X5_served
  simp only [ck_k hc (show 4 < 1000 by omega), nI_cl (show c < 2 ^ 31 by omega), fld_5_2, fld_5_6, hm, s_busy (LdW_of h) o hc (show s c < 1000 by omega), nm_q, bd_s, (h c hc).2.2.1, t64N (show rr c < 2 ^ 31 by omega), t64N (show bq kd hd c (s c) < 2 ^ 31 by omega), lN_mul]
theorem sN_s (F : Nat → Nat) (k : Nat) : sN F (k + 1) = sN F k + F k := rfl
def GOs (kd rr hd : Nf) (wy : Nat → Nf) (s : Nf) : Nat := sN (fun c => sN (fun to => rr c * bq kd hd c (s c) * wy c to) 4) 4
theorem s_goF {M : Mm} {kd rr hd : Nf} {wy : Nat → Nf} (h : LdC kd rr hd wy M) (o : okKH kd hd) (o3 : okR12 kd rr) (w4 : ∀ i j, i < 4 → j < 4 → wy i j ≤ 4) {s : Nf} (hm : ∀ c, c < 4 → mI M 83 c = nI (s c)) (hs : ∀ c, c < 4 → s c ≤ 4) : f_X5_goingFromHere 5 M = some (lN (GOs kd rr hd wy s * wC kd hd (sn kd rr wy) s), M) := by
  have lp : ∀ (b c m : Nat), c + b = 4 → b < m → f_X5_goingFromHere_b4 5 m (lN (sN (fun c => sN (fun to => rr c * bq kd hd c (s c) * wy c to) 4) c)) (nI c) M = some (lN (GOs kd rr hd wy s * wC kd hd (sn kd rr wy) s), M) := by
    intro b
    induction b with
    | zero =>
      intro c m h1 h2'
      obtain ⟨m, rfl⟩ : ∃ j, m = j + 1 := ⟨m - 1, by omega⟩
      have e : c = 4 := by omega
      subst e
      rw [f_X5_goingFromHere_b4_s]
      unfold f_X5_goingFromHere_b4B
      rw [if_pos (show (4 : Int32) ≤ nI 4 by decide), s_weight (LdW_of h) o hs hm, bd_s]
      show some (lN _ * lN _, M) = _
      rw [lN_mul]
      rfl
    | succ b ih =>
      intro c m h1 h2'
      obtain ⟨m, rfl⟩ : ∃ j, m = j + 1 := ⟨m - 1, by omega⟩
      have hc : c < 4 := by omega
      have hih := ih (c + 1) m (by omega) (by omega)
      have inner : ∀ (d j m2 : Nat), j + d = 4 → d < m2 → f_X5_goingFromHere_b12 (f_X5_goingFromHere_b4 5 m) 5 m2 (lN (sN (fun c => sN (fun to => rr c * bq kd hd c (s c) * wy c to) 4) c + sN (fun to => rr c * bq kd hd c (s c) * wy c to) j)) (nI c) (nI j) M = some (lN (GOs kd rr hd wy s * wC kd hd (sn kd rr wy) s), M) := by
        intro d
        induction d with
        | zero =>
          intro j m2 k1 k2
          obtain ⟨m2, rfl⟩ : ∃ j, m2 = j + 1 := ⟨m2 - 1, by omega⟩
          have e : j = 4 := by omega
          subst e
          rw [f_X5_goingFromHere_b12_s]
          unfold f_X5_goingFromHere_b12B
          rw [if_pos (show (4 : Int32) ≤ nI 4 by decide), nm_q, nI_1]
          exact hih
        | succ d jh =>
          intro j m2 k1 k2
          obtain ⟨m2, rfl⟩ : ∃ j, m2 = j + 1 := ⟨m2 - 1, by omega⟩
          have hj : j < 4 := by omega
          have hjh := jh (j + 1) m2 (by omega) (by omega)
          have hw := w4 c j hc hj
          rw [f_X5_goingFromHere_b12_s]
          unfold f_X5_goingFromHere_b12B
          rw [if_neg (show ¬ (4 : Int32) ≤ nI j by rw [i_le, t_nI (by omega), li_4]; omega), s_served h o o3 hc (hm c hc) (hs c hc), bd_s]
          simp only [ck_k hc (show 4 < 1000 by omega), ck_k hj (show 4 < 1000 by omega), nI_cl (show c < 2 ^ 31 by omega), nI_cl (show j < 2 ^ 31 by omega), fld_5_5, elm_78, (h c hc).2.2.2.2.2 j hj, t64N (show wy c j < 2 ^ 31 by omega), lN_mul, lN_add, nm_q, bd_s, nI_1]
          rw [sN_s, ← Nat.add_assoc] at hjh
          exact hjh
      rw [f_X5_goingFromHere_b4_s]
      unfold f_X5_goingFromHere_b4B
      rw [if_neg (show ¬ (4 : Int32) ≤ nI c by rw [i_le, t_nI (by omega), li_4]; omega)]
      exact inner 4 0 fuel (by omega) (by show 4 < 1000; omega)
  exact lp 4 0 fuel (by omega) (by show 4 < 1000; omega)
def CTs (kd rr hd : Nf) (wy : Nat → Nf) (W : Nf → Nat) (s : Nf) (d : Nat) : Nat := sN (fun c => W (up1 s c) * (rr c * bq kd hd c (s c + 1)) * wy c d) 4
theorem up_c (s : Nf) (c : Nat) : up1 s c c = s c + 1 := by unfold up1; rw [if_pos rfl]
theorem up_n (s : Nf) {c k : Nat} (h : k ≠ c) : up1 s c k = s k := by unfold up1; rw [if_neg h]
theorem dn_c (s : Nf) (c : Nat) : dn1 s c c = s c - 1 := by unfold dn1; rw [if_pos rfl]
theorem dn_n (s : Nf) {c k : Nat} (h : k ≠ c) : dn1 s c k = s k := by unfold dn1; rw [if_neg h]
theorem s_ct {M : Mm} {kd rr hd : Nf} {wy : Nat → Nf} (h : LdC kd rr hd wy M) (o : okKH kd hd) (o3 : okR12 kd rr) (w4 : ∀ i j, i < 4 → j < 4 → wy i j ≤ 4) {s : Nf} {d : Nat} (hd4 : d < 4) (hm : ∀ c, c < 4 → mI M 83 c = nI (s c)) (hs : ∀ c, c < 4 → s c ≤ 3) : ∃ M', f_X5_comingTo 5 (nI d) M = some (lN (CTs kd rr hd wy (wC kd hd (sn kd rr wy)) s d), M') ∧ St M M' ∧ ∀ c, c < 4 → mI M' 83 c = nI (s c) := by
  have lp : ∀ (b c m : Nat) (Mj : Mm), c + b = 4 → b < m → St M Mj → (∀ c, c < 4 → mI Mj 83 c = nI (s c)) → ∃ M', f_X5_comingTo_b5 5 m (nI d) (lN (sN (fun c => wC kd hd (sn kd rr wy) (up1 s c) * (rr c * bq kd hd c (s c + 1)) * wy c d) c)) (nI c) Mj = some (lN (CTs kd rr hd wy (wC kd hd (sn kd rr wy)) s d), M') ∧ St M M' ∧ ∀ c, c < 4 → mI M' 83 c = nI (s c) := by
    intro b
    induction b with
    | zero =>
      intro c m Mj h1 h2' hS hk
      obtain ⟨m, rfl⟩ : ∃ j, m = j + 1 := ⟨m - 1, by omega⟩
      have e : c = 4 := by omega
      subst e
      refine ⟨Mj, ?_, hS, hk⟩
      rw [f_X5_comingTo_b5_s]
      unfold f_X5_comingTo_b5B
      rw [if_pos (show (4 : Int32) ≤ nI 4 by decide)]
      rfl
    | succ b ih =>
      intro c m Mj h1 h2' hS hk
      obtain ⟨m, rfl⟩ : ∃ j, m = j + 1 := ⟨m - 1, by omega⟩
      have hc : c < 4 := by omega
      have hj := LdC_St h hS
      have hw := w4 c d hc hd4
      have sc := hs c hc
      have zw : nI (wy c d) ≤ 0 ↔ wy c d = 0 := by rw [i_le, t_nI (by omega), li_0]; omega
      rw [f_X5_comingTo_b5_s]
      unfold f_X5_comingTo_b5B
      rw [if_neg (show ¬ (4 : Int32) ≤ nI c by rw [i_le, t_nI (by omega), li_4]; omega)]
      simp only [ck_k hc (show 4 < 1000 by omega), ck_k hd4 (show 4 < 1000 by omega), nI_cl (show c < 2 ^ 31 by omega), nI_cl (show d < 2 ^ 31 by omega), fld_5_5, fld_5_6, elm_78, (hj c hc).2.2.2.2.2 d hd4, hk c hc, zw, nI_1, nm_q, bd_s]
      by_cases y : wy c d = 0
      · rw [if_pos y]
        have := ih (c + 1) m Mj (by omega) (by omega) hS hk
        rw [sN_s, y, Nat.mul_zero, Nat.add_zero] at this
        exact this
      · have hS1 := hS.i c (nI (s c + 1))
        have hk1 : ∀ k, k < 4 → mI (sI Mj 83 c (nI (s c + 1))) 83 k = nI (up1 s c k) := fun k hk4 => by
          rw [mI_sI]
          by_cases e : k = c
          · rw [if_pos ⟨rfl, e⟩, e, up_c]
          · rw [if_neg (fun hz => e hz.2), up_n s e]; exact hk k hk4
        have hj1 := LdC_St h hS1
        have u4 : ∀ k, k < 4 → up1 s c k ≤ 4 := fun k hk4 => by
          have := hs k hk4
          unfold up1
          split <;> omega
        have wt := s_weight (LdW_of hj1) o u4 hk1
        have sv := s_served hj1 o o3 hc (hk1 c hc) (u4 c hc)
        rw [up_c] at sv
        have hS2 := hS1.i c (nI (s c + 1) - 1)
        have nd : nI (s c + 1) - 1 = nI (s c) := n_dec (by omega)
        have hk2 : ∀ k, k < 4 → mI (sI (sI Mj 83 c (nI (s c + 1))) 83 c (nI (s c))) 83 k = nI (s k) := fun k hk4 => by
          rw [sI_sI, mI_sI]
          by_cases e : k = c
          · rw [if_pos ⟨rfl, e⟩, e]
          · rw [if_neg (fun hz => e hz.2)]; exact hk k hk4
        rw [nd] at hS2
        have := ih (c + 1) m _ (by omega) (by omega) hS2 hk2
        rw [sN_s] at this
        rw [if_neg y, wt, bd_s]
        simp only [sv, nm_q, bd_s, (hj1 c hc).2.2.2.2.2 d hd4, hk1 c hc, up_c, nd, t64N (show wy c d < 2 ^ 31 by omega), lN_mul, lN_add]
        exact this
  exact lp 4 0 fuel M (by omega) (by show 4 < 1000; omega) (St.rf M) hm
def CIs (kd rr hd : Nf) (wy : Nat → Nf) (W : Nf → Nat) (s : Nf) : Nat := sN (fun d => if s d = 0 then 0 else CTs kd rr hd wy W (dn1 s d) d) 4
theorem s_ci {M : Mm} {kd rr hd : Nf} {wy : Nat → Nf} (h : LdC kd rr hd wy M) (o : okKH kd hd) (o3 : okR12 kd rr) (w4 : ∀ i j, i < 4 → j < 4 → wy i j ≤ 4) {s : Nf} (hm : ∀ c, c < 4 → mI M 83 c = nI (s c)) (hs : s4 s ≤ 4) : ∃ M', f_X5_comingHere 5 M = some (lN (CIs kd rr hd wy (wC kd hd (sn kd rr wy)) s), M') ∧ St M M' ∧ ∀ c, c < 4 → mI M' 83 c = nI (s c) := by
  have sle : ∀ c, c < 4 → s c ≤ 4 := fun c hc => by
    unfold s4 at hs
    rcases c4 hc with rfl | rfl | rfl | rfl <;> omega
  have lp : ∀ (b d m : Nat) (Mj : Mm), d + b = 4 → b < m → St M Mj → (∀ c, c < 4 → mI Mj 83 c = nI (s c)) → ∃ M', f_X5_comingHere_b4 5 m (lN (sN (fun d => if s d = 0 then 0 else CTs kd rr hd wy (wC kd hd (sn kd rr wy)) (dn1 s d) d) d)) (nI d) Mj = some (lN (CIs kd rr hd wy (wC kd hd (sn kd rr wy)) s), M') ∧ St M M' ∧ ∀ c, c < 4 → mI M' 83 c = nI (s c) := by
    intro b
    induction b with
    | zero =>
      intro d m Mj h1 h2' hS hk
      obtain ⟨m, rfl⟩ : ∃ j, m = j + 1 := ⟨m - 1, by omega⟩
      have e : d = 4 := by omega
      subst e
      refine ⟨Mj, ?_, hS, hk⟩
      rw [f_X5_comingHere_b4_s]
      unfold f_X5_comingHere_b4B
      rw [if_pos (show (4 : Int32) ≤ nI 4 by decide)]
      rfl
    | succ b ih =>
      intro d m Mj h1 h2' hS hk
      obtain ⟨m, rfl⟩ : ∃ j, m = j + 1 := ⟨m - 1, by omega⟩
      have hd4 : d < 4 := by omega
      have sd := sle d hd4
      have zs : nI (s d) ≤ 0 ↔ s d = 0 := by rw [i_le, t_nI (by omega), li_0]; omega
      rw [f_X5_comingHere_b4_s]
      unfold f_X5_comingHere_b4B
      rw [if_neg (show ¬ (4 : Int32) ≤ nI d by rw [i_le, t_nI (by omega), li_4]; omega)]
      simp only [ck_k hd4 (show 4 < 1000 by omega), nI_cl (show d < 2 ^ 31 by omega), fld_5_6, hk d hd4, zs, nI_1, nm_q, bd_s]
      by_cases y : s d = 0
      · rw [if_pos y]
        have := ih (d + 1) m Mj (by omega) (by omega) hS hk
        rw [sN_s, if_pos y, Nat.add_zero] at this
        exact this
      · have nd : nI (s d) - 1 = nI (s d - 1) := n_dec (by omega)
        rw [if_neg y, nd]
        have hS1 := hS.i d (nI (s d - 1))
        have hk1 : ∀ k, k < 4 → mI (sI Mj 83 d (nI (s d - 1))) 83 k = nI (dn1 s d k) := fun k hk4 => by
          rw [mI_sI]
          by_cases e : k = d
          · rw [if_pos ⟨rfl, e⟩, e, dn_c]
          · rw [if_neg (fun hz => e hz.2), dn_n s e]; exact hk k hk4
        have d3 : ∀ k, k < 4 → dn1 s d k ≤ 3 := fun k hk4 => by
          unfold s4 at hs
          unfold dn1
          by_cases e : k = d
          · rw [if_pos e]; have := sle k hk4; omega
          · rw [if_neg e]
            rcases c4 hk4 with rfl | rfl | rfl | rfl <;> rcases c4 hd4 with rfl | rfl | rfl | rfl <;> omega
        obtain ⟨M2, t1, t2, t3⟩ := s_ct (LdC_St h hS1) o o3 w4 hd4 hk1 d3
        have hS2 := (hS1.tr t2).i d (nI (s d - 1) + 1)
        have ni : nI (s d - 1) + 1 = nI (s d) := by rw [nI_1]; congr 1; omega
        rw [ni] at hS2
        have hk2 : ∀ k, k < 4 → mI (sI M2 83 d (nI (s d))) 83 k = nI (s k) := fun k hk4 => by
          rw [mI_sI]
          by_cases e : k = d
          · rw [if_pos ⟨rfl, e⟩, e]
          · rw [if_neg (fun hz => e hz.2), t3 k hk4, dn_n s e]
        have := ih (d + 1) m _ (by omega) (by omega) hS2 hk2
        rw [sN_s, if_neg y] at this
        rw [t1, bd_s]
        simp only [t3 d hd4, dn_c, ni, lN_add]
        exact this
  exact lp 4 0 fuel M (by omega) (by show 4 < 1000; omega) (St.rf M) hm
def okS (kd : Nf) (t c : Nat) : Bool := decide (kd c = 9 → sO t c = 0)
theorem s_isState {M : Mm} {kd rr hd : Nf} {wy : Nat → Nf} (h : LdC kd rr hd wy M) (o : okKH kd hd) {t : Nat} (h4 : tot t ≤ 4) (hm : ∀ c, c < 4 → mI M 83 c = nI (sO t c)) : f_X5_isState 5 M = some (if okP kd t 4 = true then 1 else 0, M) := by
  have lp : ∀ (b c m : Nat), c + b = 4 → b < m → f_X5_isState_b2 5 m (nI c) M = some (if AF (okS kd t) b c = true then 1 else 0, M) := by
    intro b
    induction b with
    | zero =>
      intro c m h1 h2'
      obtain ⟨m, rfl⟩ : ∃ j, m = j + 1 := ⟨m - 1, by omega⟩
      rw [f_X5_isState_b2_s]
      unfold f_X5_isState_b2B AF
      rw [if_pos (show (4 : Int32) ≤ nI c by rw [i_le, t_nI (by omega), li_4]; omega), if_pos rfl]
    | succ b ih =>
      intro c m h1 h2'
      obtain ⟨m, rfl⟩ : ∃ j, m = j + 1 := ⟨m - 1, by omega⟩
      have hc : c < 4 := by omega
      have sl := sO_le h4 hc
      have zs : nI (sO t c) ≤ 0 ↔ sO t c = 0 := by rw [i_le, t_nI (by omega), li_0]; omega
      have hih := ih (c + 1) m (by omega) (by omega)
      rw [f_X5_isState_b2_s, AF_s]
      unfold f_X5_isState_b2B
      rw [if_neg (show ¬ (4 : Int32) ≤ nI c by rw [i_le, t_nI (by omega), li_4]; omega)]
      simp only [ck_k hc (show 4 < 1000 by omega), nI_cl (show c < 2 ^ 31 by omega), fld_5_1, fld_5_6, hm c hc, (h c hc).2.1, kd_m1 (o c hc).1, zs, nI_1, nm_q, bd_s]
      by_cases y : sO t c = 0
      · rw [if_pos y, hih, show okS kd t c = true from decide_eq_true (fun _ => y), Bool.true_and]
      · rw [if_neg y]
        by_cases y9 : kd c = 9
        · rw [if_pos y9, show okS kd t c = false from decide_eq_false (fun hz => y (hz y9)), Bool.false_and, if_neg (show ¬ (false = true) by decide)]
        · rw [if_neg y9, hih, show okS kd t c = true from decide_eq_true (fun hz => absurd hz y9), Bool.true_and]
  have e : AF (okS kd t) 4 0 = okP kd t 4 := by
    rw [Bool.eq_iff_iff, AF_iff, ok_P]
    unfold okS
    simp only [decide_eq_true_eq]
    exact ⟨fun a c hc => a c (by omega) (by omega), fun a c _ hc => a c (by omega)⟩
  have := lp 4 0 fuel (by omega) (by show 4 < 1000; omega)
  rw [e] at this
  exact this

/-! the reference's states and sums -/
def okP (kd : Nf) (t : Nat) : Nat → Bool
  | 0 => true
  | c + 1 => okP kd t c && (decide (kd c ≠ 9) || decide (sO t c = 0))
def tp (t : Nat) : Nat → Nat
  | 0 => 0
  | c + 1 => tp t c + sO t c
def gd (kd : Nf) (n t : Nat) : Bool := okP kd t 4 && decide (tp t 4 = n)
def gl (g : Nat → Bool) : Nat → Nat → List Nat
  | 0, _ => []
  | d + 1, t => if g t = true then t :: gl g d (t + 1) else gl g d (t + 1)
/-- only the reference's state cells and code differ -/
def SR (M M1 : Mm) : Prop := (∀ a k, ¬ (a = 99 ∨ (a = 1 ∧ k = 22)) → mI M1 a k = mI M a k) ∧ M1.2 = M.2
theorem SR.rf (M : Mm) : SR M M := ⟨fun _ _ _ => rfl, rfl⟩
theorem SR.tr {M M1 M2 : Mm} (h : SR M M1) (g : SR M1 M2) : SR M M2 := ⟨fun a k p => (g.1 a k p).trans (h.1 a k p), g.2.trans h.2⟩
theorem SR.sc {M M1 : Mm} (h : SR M M1) : Sc M M1 := ⟨fun a k p => h.1 a k (by unfold pX pR at p; omega), fun k => by show M1.2 7 k = _; rw [h.2]; rfl, fun k _ => by show M1.2 1 k = _; rw [h.2]; rfl⟩
theorem SR.s {M M1 : Mm} (h : SR M M1) (k : Nat) (v : Int32) : SR M (sI M1 99 k v) := ⟨fun a j p => by rw [mI_sI, if_neg (by omega)]; exact h.1 a j p, h.2⟩
theorem SR.c {M M1 : Mm} (h : SR M M1) (v : Int32) : SR M (sI M1 1 22 v) := ⟨fun a j p => by rw [mI_sI, if_neg (by omega)]; exact h.1 a j p, h.2⟩
theorem LdR_SR {kd rr hd q : Nf} {M M1 : Mm} (h : LdR kd rr hd q M) (s : SR M M1) : LdR kd rr hd q M1 := fun c hc => by
  have := h c hc
  refine ⟨by rw [s.1 _ _ (by omega)]; exact this.1, fun h9 => ?_⟩
  obtain ⟨a, b, d, v, e, f⟩ := this.2 h9
  refine ⟨by rw [s.1 _ _ (by omega)]; exact a, by rw [s.1 _ _ (by omega)]; exact b, by rw [s.1 _ _ (by omega)]; exact d, v, ?_, f⟩
  show M1.2 98 c = _
  rw [s.2]; exact e
theorem sO_lt {t : Nat} (ht : t < 625) {c : Nat} (hc : c < 4) : sO t c < 5 := by
  rcases c4 hc with rfl | rfl | rfl | rfl
  · rw [sO_0]; exact Nat.mod_lt _ (by omega)
  · rw [sO_1]; exact Nat.mod_lt _ (by omega)
  · rw [sO_2]; exact Nat.mod_lt _ (by omega)
  · rw [sO_3]; omega
theorem tp_le {t : Nat} (ht : t < 625) : ∀ c, c ≤ 4 → tp t c ≤ 5 * c
  | 0, _ => Nat.le_refl _
  | c + 1, hc => by
    have := tp_le ht c (by omega)
    have := sO_lt ht (c := c) (by omega)
    show tp t c + sO t c ≤ 5 * (c + 1)
    omega
/-- one look at a code -/
theorem s_look {k0 : Int32 → Mm → Option (Int32 × Mm)} {kd : Nf} {n t : Nat} (hn : n < 1000) (ht : t < 625) {M : Mm} (hth : ∀ c, c < 4 → mI M 88 c = (if kd c = 9 then 0 else 1)) (hc : mI M 1 22 = nI t) : ∃ M', f_X9_nextState_b17 k0 1 fuel (nI n) 0 1 0 M = (if gd kd n t = true then some (1, M') else k0 (nI n) M') ∧ SR M M' ∧ (∀ c, c < 4 → mI M' 99 c = nI (sO t c)) ∧ mI M' 1 22 = nI (t + 1) := by
  have lp : ∀ (b c m : Nat) (Mj : Mm), c + b = 4 → b < m → SR M Mj → mI Mj 1 22 = nI t → (∀ k, k < c → mI Mj 99 k = nI (sO t k)) → ∃ M', f_X9_nextState_b17 k0 1 m (nI n) (nI (tp t c)) (if okP kd t c = true then 1 else 0) (nI c) Mj = (if gd kd n t = true then some (1, M') else k0 (nI n) M') ∧ SR M M' ∧ (∀ c, c < 4 → mI M' 99 c = nI (sO t c)) ∧ mI M' 1 22 = nI (t + 1) := by
    intro b
    induction b with
    | zero =>
      intro c m Mj h1 h2 hS hcj hk
      obtain ⟨m, rfl⟩ : ∃ j, m = j + 1 := ⟨m - 1, by omega⟩
      have e : c = 4 := by omega
      subst e
      have tl := tp_le ht 4 (by omega)
      refine ⟨sI Mj 1 22 (nI (t + 1)), ?_, hS.c _, fun c hc' => ?_, ?_⟩
      · rw [f_X9_nextState_b17_s]
        unfold f_X9_nextState_b17B gd
        rw [if_pos (by decide), nm_q, hcj, nI_1]
        have kn : nI (tp t 4) = nI n ↔ tp t 4 = n := n_inj (by omega) (by omega)
        by_cases z : okP kd t 4 = true
        · rw [if_pos z, if_neg (by decide), z]
          simp only [kn, Bool.true_and, decide_eq_true_eq]
        · rw [if_neg z, if_pos rfl, show okP kd t 4 = false by simpa using z]
          simp
      · rw [mI_sI, if_neg (by omega)]; exact hk c hc'
      · rw [mI_sI, if_pos ⟨rfl, rfl⟩]
    | succ b ih =>
      intro c m Mj h1 h2 hS hcj hk
      obtain ⟨m, rfl⟩ : ∃ j, m = j + 1 := ⟨m - 1, by omega⟩
      have hc4 : c < 4 := by omega
      have sl := sO_lt ht hc4
      have tl := tp_le ht c (by omega)
      have w85 : ∃ M', f_X9_nextState_b85 k0 (f_X9_nextState_b17 k0 1 m) 1 (nI n) (nI (tp t c)) (if okP kd t c = true then 1 else 0) (nI c) 99 (nI c) (nI (sO t c)) Mj = (if gd kd n t = true then some (1, M') else k0 (nI n) M') ∧ SR M M' ∧ (∀ c, c < 4 → mI M' 99 c = nI (sO t c)) ∧ mI M' 1 22 = nI (t + 1) := by
        have nx' := ih (c + 1) m (sI Mj 99 c (nI (sO t c))) (by omega) (by omega) (hS.s _ _) (by rw [mI_sI, if_neg (by omega)]; exact hcj) (fun k hk' => by
          rw [mI_sI]
          by_cases e : k = c
          · rw [if_pos ⟨rfl, e⟩, e]
          · rw [if_neg (by omega)]; exact hk k (by omega))
        have r99 : mI (sI Mj 99 c (nI (sO t c))) 99 c = nI (sO t c) := by rw [mI_sI, if_pos ⟨rfl, rfl⟩]
        have r88 : mI (sI Mj 99 c (nI (sO t c))) 88 c = (if kd c = 9 then 0 else 1) := by rw [mI_sI, if_neg (by omega), hS.1 _ _ (by omega)]; exact hth c hc4
        have z0 : nI (sO t c) = 0 ↔ sO t c = 0 := by rw [show (0 : Int32) = nI 0 from rfl, n_inj (by omega) (by omega)]
        rw [show tp t (c + 1) = tp t c + sO t c from rfl, show okP kd t (c + 1) = (okP kd t c && (decide (kd c ≠ 9) || decide (sO t c = 0))) from rfl] at nx'
        unfold f_X9_nextState_b85 f_X9_nextState_b120
        simp only [ck_k hc4 (show 4 < 1000 by omega), nI_cl (show c < 2 ^ 31 by omega), fld_1_8, fld_1_21, r99, r88, nI_add, z0, nm_q, bd_s, nI_1]
        by_cases y : okP kd t c = true
        · rw [if_pos y, if_neg (by decide)]
          by_cases y9 : kd c = 9
          · rw [if_pos y9, if_pos rfl]
            by_cases ys : sO t c = 0
            · rw [if_pos ys]
              rw [y, show (true && (decide (kd c ≠ 9) || decide (sO t c = 0))) = true by simp [ys], if_pos rfl] at nx'
              exact nx'
            · rw [if_neg ys]
              rw [y, show (true && (decide (kd c ≠ 9) || decide (sO t c = 0))) = false by simp [ys, y9], if_neg (by decide)] at nx'
              exact nx'
          · rw [if_neg y9, if_neg (by decide)]
            rw [y, show (true && (decide (kd c ≠ 9) || decide (sO t c = 0))) = true by simp [y9], if_pos rfl] at nx'
            exact nx'
        · rw [if_neg y, if_pos rfl]
          rw [show okP kd t c = false by simpa using y, Bool.false_and, if_neg (by decide)] at nx'
          exact nx'
      rw [f_X9_nextState_b17_s]
      unfold f_X9_nextState_b17B
      rw [if_neg (by rw [i_le, t_nI (by omega), li_4]; omega)]
      have dv5 : ∀ {α : Type} (x : Option α), dvI 5 x = x := fun x => rfl
      have dv25 : ∀ {α : Type} (x : Option α), dvI 25 x = x := fun x => rfl
      have dv125 : ∀ {α : Type} (x : Option α), dvI 125 x = x := fun x => rfl
      have t5 : t / 5 < 625 := Nat.lt_of_le_of_lt (Nat.div_le_self _ _) ht
      have t25 : t / 25 < 625 := Nat.lt_of_le_of_lt (Nat.div_le_self _ _) ht
      have e0 : nI t - nI t / 5 * 5 = nI (t % 5) := pk_rem (d := 5) (by omega) (by omega) (by omega)
      have e1 : nI t / 5 - nI t / 5 / 5 * 5 = nI (t / 5 % 5) := by rw [show nI t / 5 = nI (t / 5) from pk_div (d := 5) (by omega) (by omega) (by omega)]; exact pk_rem (d := 5) (by omega) (by omega) (by omega)
      have e2 : nI t / 25 - nI t / 25 / 5 * 5 = nI (t / 25 % 5) := by rw [show nI t / 25 = nI (t / 25) from pk_div (d := 25) (by omega) (by omega) (by omega)]; exact pk_rem (d := 5) (by omega) (by omega) (by omega)
      have e3 : nI t / 125 = nI (t / 125) := pk_div (d := 125) (by omega) (by omega) (by omega)
      simp only [dv5, dv25, dv125, hcj, fld_1_21, e0, e1, e2, e3]
      rcases c4 hc4 with rfl | rfl | rfl | rfl
      · rw [if_pos (show nI 0 = 0 from rfl)]; exact w85
      · rw [if_neg (show ¬ nI 1 = 0 by decide), if_pos (show nI 1 = 1 from rfl)]; exact w85
      · rw [if_neg (show ¬ nI 2 = 0 by decide), if_neg (show ¬ nI 2 = 1 by decide), if_pos (show nI 2 = 2 from rfl)]; exact w85
      · rw [if_neg (show ¬ nI 3 = 0 by decide), if_neg (show ¬ nI 3 = 1 by decide), if_neg (show ¬ nI 3 = 2 by decide)]; exact w85
  exact lp 4 0 fuel M (by omega) (by show 4 < 1000; omega) (SR.rf M) hc (fun k hk => by omega)
theorem s_nextR {kd : Nf} {n : Nat} (hn : n < 1000) : ∀ (d t m : Nat) (M : Mm), t + d = 625 → d < m → (∀ c, c < 4 → mI M 88 c = (if kd c = 9 then 0 else 1)) → mI M 1 22 = nI t → (gl (gd kd n) d t = [] → ∃ M', f_X9_nextState_b0 1 m (nI n) M = some (0, M') ∧ SR M M') ∧ ∀ t' l, gl (gd kd n) d t = t' :: l → ∃ M', f_X9_nextState_b0 1 m (nI n) M = some (1, M') ∧ SR M M' ∧ (∀ c, c < 4 → mI M' 99 c = nI (sO t' c)) ∧ mI M' 1 22 = nI (t' + 1) ∧ t' < 625 ∧ gd kd n t' = true ∧ ∃ d', t' + 1 + d' = 625 ∧ d' < d ∧ l = gl (gd kd n) d' (t' + 1) := by
  intro d
  induction d with
  | zero =>
    intro t m M h1 h2 hth hc
    obtain ⟨m, rfl⟩ : ∃ j, m = j + 1 := ⟨m - 1, by omega⟩
    refine ⟨fun _ => ⟨M, ?_, SR.rf M⟩, fun t' l h => by simp [gl] at h⟩
    rw [f_X9_nextState_b0_s]
    unfold f_X9_nextState_b0B
    rw [hc, if_pos (by rw [i_le, t_nI (by omega), li_625]; omega)]
  | succ d ih =>
    intro t m M h1 h2 hth hc
    obtain ⟨m, rfl⟩ : ∃ j, m = j + 1 := ⟨m - 1, by omega⟩
    obtain ⟨M1, a1, a2, a3, a4⟩ := s_look (k0 := f_X9_nextState_b0 1 m) (kd := kd) hn (show t < 625 by omega) hth hc
    have hth1 : ∀ c, c < 4 → mI M1 88 c = (if kd c = 9 then 0 else 1) := fun c hc' => by rw [a2.1 _ _ (by omega)]; exact hth c hc'
    have r := ih (t + 1) m M1 (by omega) (by omega) hth1 a4
    have go : f_X9_nextState_b0 1 (m + 1) (nI n) M = (if gd kd n t = true then some (1, M1) else f_X9_nextState_b0 1 m (nI n) M1) := by
      rw [f_X9_nextState_b0_s]
      unfold f_X9_nextState_b0B
      rw [hc, if_neg (by rw [i_le, t_nI (by omega), li_625]; omega)]
      exact a1
    rw [go]
    by_cases g : gd kd n t = true
    · rw [if_pos g]
      rw [show gl (gd kd n) (d + 1) t = t :: gl (gd kd n) d (t + 1) by unfold gl; rw [if_pos g]; cases d <;> rfl]
      refine ⟨fun h => by simp at h, fun t' l h => ?_⟩
      have e1 : t = t' := (List.cons.inj h).1
      have e2 : gl (gd kd n) d (t + 1) = l := (List.cons.inj h).2
      subst e1
      exact ⟨M1, rfl, a2, a3, a4, by omega, g, d, by omega, by omega, e2.symm⟩
    · rw [if_neg g]
      rw [show gl (gd kd n) (d + 1) t = gl (gd kd n) d (t + 1) by rw [show gl (gd kd n) (d + 1) t = (if gd kd n t = true then t :: gl (gd kd n) d (t + 1) else gl (gd kd n) d (t + 1)) from rfl, if_neg g]]
      refine ⟨fun h => ?_, fun t' l h => ?_⟩
      · obtain ⟨M', b1, b2⟩ := r.1 h
        exact ⟨M', b1, a2.tr b2⟩
      · obtain ⟨M', b1, b2, b3, b4, b5, b6, d', b7, b8, b9⟩ := r.2 t' l h
        exact ⟨M', b1, a2.tr b2, b3, b4, b5, b6, d', b7, by omega, b9⟩
theorem s_sumOf {M : Mm} {kd rr hd q : Nf} (h : LdR kd rr hd q M) (o : okR12 kd rr) (o2 : okKH kd hd) {n : Nat} (hn : n ≤ 4) {x : Int32} {T : Nat → Nat} (hx : (x = -9 ∧ ∀ t, T t = 1) ∨ ∃ c, c < 4 ∧ x = nI c ∧ ∀ t, T t = sO t c) : ∃ M', f_X9_sumOf 1 (nI n) x M = some (lN (slN (fun t => PR kd hd q (sO t) 4 * T t) (gl (gd kd n) 625 0)), M') ∧ SR M M' := by
  have lp : ∀ (D d t m a : Nat) (Mj : Mm), d ≤ D → t + d = 625 → D + 1 < m → SR M Mj → mI Mj 1 22 = nI t → ∃ M', f_X9_sumOf_b7 1 m (nI n) x (lN a) Mj = some (lN (a + slN (fun t => PR kd hd q (sO t) 4 * T t) (gl (gd kd n) d t)), M') ∧ SR M M' := by
    intro D
    induction D with
    | zero =>
      intro d t m a Mj hd' h1 h2 hS hc
      obtain ⟨m, rfl⟩ : ∃ j, m = j + 1 := ⟨m - 1, by omega⟩
      have e : d = 0 := by omega
      subst e
      have hj := LdR_SR h hS
      obtain ⟨M', b1, b2⟩ := (s_nextR (kd := kd) (n := n) (by omega) 0 t fuel Mj h1 (by show 0 < 1000; omega) (fun c hc' => (hj c hc').1) hc).1 rfl
      refine ⟨M', ?_, hS.tr b2⟩
      rw [f_X9_sumOf_b7_s]
      unfold f_X9_sumOf_b7B f_X9_nextState
      rw [b1, bd_s, if_pos rfl]
      rfl
    | succ D ih =>
      intro d t m a Mj hd' h1 h2 hS hc
      obtain ⟨m, rfl⟩ : ∃ j, m = j + 1 := ⟨m - 1, by omega⟩
      have hj := LdR_SR h hS
      have ns := s_nextR (kd := kd) (n := n) (by omega) d t fuel Mj h1 (by show d < 1000; omega) (fun c hc' => (hj c hc').1) hc
      cases hg : gl (gd kd n) d t with
      | nil =>
        obtain ⟨M', b1, b2⟩ := ns.1 hg
        refine ⟨M', ?_, hS.tr b2⟩
        rw [f_X9_sumOf_b7_s]
        unfold f_X9_sumOf_b7B f_X9_nextState
        rw [b1, bd_s, if_pos rfl]
        rfl
      | cons t' l =>
        obtain ⟨M1, b1, b2, b3, b4, b5, b6, d', b7, b8, b9⟩ := ns.2 t' l hg
        have hS1 := hS.tr b2
        have h1' := LdR_SR h hS1
        have wr := s_weightR h1' o o2 (s := sO t') (fun c hc' => by have := sO_lt b5 hc'; omega) b3
        have hih := fun a' => ih d' (t' + 1) m a' M1 (by omega) b7 (by omega) hS1 b4
        rw [b9]
        show ∃ M', _ = some (lN (a + (PR kd hd q (sO t') 4 * T t' + slN (fun t => PR kd hd q (sO t) 4 * T t) (gl (gd kd n) d' (t' + 1)))), M') ∧ SR M M'
        rw [← Nat.add_assoc]
        rw [f_X9_sumOf_b7_s]
        unfold f_X9_sumOf_b7B f_X9_nextState f_X9_sumOf_b34
        rw [b1, bd_s, if_neg (show ¬ ((1, M1) : Int32 × Mm).1 = 0 from (show ¬ (1 : Int32) = 0 by decide)), wr, bd_s]
        rcases hx with ⟨rfl, hT⟩ | ⟨c, hc4, rfl, hT⟩
        · rw [if_neg (by decide), nm_q, show Int32.toInt64 1 = lN 1 from rfl, lN_mul, lN_add, hT t']
          exact hih _
        · have sl := sO_lt b5 hc4
          rw [if_pos (by rw [i_le, t_nI (by omega), li_0]; omega), ck_k hc4 (by omega), nm_q, nI_cl (by omega), fld_1_21, b3 c hc4, t64N (by omega), lN_mul, lN_add, hT t']
          exact hih _
  have := lp 625 625 0 fuel 0 (sI M 1 22 0) (by omega) (by omega) (by show 626 < 1000; omega) ((SR.rf M).c _) (by rw [mI_sI, if_pos ⟨rfl, rfl⟩]; rfl)
  rw [Nat.zero_add] at this
  unfold f_X9_sumOf
  rw [nm_q]
  exact this

/-! what a state weighs, on both sides -/
def bq (kd hd : Nf) (c j : Nat) : Nat := if kd c = 3 then j else if hd c < j then hd c else j
def gb (kd hd : Nf) (c : Nat) : Nat → Nat
  | 0 => 1
  | k + 1 => gb kd hd c k * bq kd hd c (k + 1)
def Pw (q : Nf) (s : Nf) : Nat → Nat
  | 0 => 1
  | c + 1 => Pw q s c * q c ^ s c
def Dv (kd hd s : Nf) : Nat → Nat
  | 0 => 1
  | c + 1 => Dv kd hd s c * gb kd hd c (s c)
def wC (kd hd q s : Nf) : Nat := Pw q s 4 * (24 / Dv kd hd s 4)
/-- the class's cells of a loaded net -/
def LdW (kd hd q : Nf) (M : Mm) : Prop := ∀ c, c < 4 → mI M 74 c = (if kd c = 9 then -1 else nI (kd c)) ∧ mI M 76 c = nI (hd c) ∧ mJ M 77 c = lN (q c)
def okKH (kd hd : Nf) : Prop := ∀ c, c < 4 → (kd c ≤ 5 ∨ kd c = 9) ∧ (hd c = 1 ∨ hd c = 2)
theorem k9_3 {kd : Nf} {c : Nat} (h : kd c ≤ 5 ∨ kd c = 9) : (if kd c = 9 then (-1 : Int32) else nI (kd c)) = 3 ↔ kd c = 3 := kd_eq (j := 3) h (by omega)
theorem s_busy {M : Mm} {kd hd q : Nf} (h : LdW kd hd q M) (o : okKH kd hd) {c j : Nat} (hc : c < 4) (hj : j < 1000) : f_X5_busy 5 (nI c) (nI j) M = some (nI (bq kd hd c j), M) := by
  have oh := (o c hc).2
  have lt : nI (hd c) < nI j ↔ hd c < j := by rw [i_lt, t_nI (by omega), t_nI (by omega)]; omega
  unfold f_X5_busy bq
  simp only [ck_k hc (show 4 < 1000 by omega), nI_cl (show c < 2 ^ 31 by omega), fld_5_1, fld_5_3, (h c hc).1, (h c hc).2.1, k9_3 (o c hc).1, lt]
  by_cases e : kd c = 3
  · rw [if_pos e, if_pos e]
  · rw [if_neg e, if_neg e]
    by_cases e2 : hd c < j
    · rw [if_pos e2, if_pos e2]
    · rw [if_neg e2, if_neg e2]
theorem bq_b {kd hd : Nf} (o : okKH kd hd) {c j : Nat} (hc : c < 4) (hj : 1 ≤ j) (h4 : j ≤ 4) : 1 ≤ bq kd hd c j ∧ bq kd hd c j ≤ j := by
  have oh := (o c hc).2
  unfold bq
  repeat' split
  all_goals omega
theorem gb_b {kd hd : Nf} (o : okKH kd hd) {c : Nat} (hc : c < 4) : ∀ k, k ≤ 4 → 1 ≤ gb kd hd c k ∧ gb kd hd c k ≤ 24 := by
  have q1 := bq_b o hc (j := 1) (by omega) (by omega)
  have q2 := bq_b o hc (j := 2) (by omega) (by omega)
  have q3 := bq_b o hc (j := 3) (by omega) (by omega)
  have q4 := bq_b o hc (j := 4) (by omega) (by omega)
  have g1 : gb kd hd c 1 = 1 := by
    show 1 * bq kd hd c 1 = 1
    omega
  have g2 : 1 ≤ gb kd hd c 2 ∧ gb kd hd c 2 ≤ 2 := by
    show 1 ≤ gb kd hd c 1 * bq kd hd c 2 ∧ gb kd hd c 1 * bq kd hd c 2 ≤ 2
    rw [g1]; omega
  have g3 : 1 ≤ gb kd hd c 3 ∧ gb kd hd c 3 ≤ 6 := by
    show 1 ≤ gb kd hd c 2 * bq kd hd c 3 ∧ gb kd hd c 2 * bq kd hd c 3 ≤ 6
    have a := Nat.mul_le_mul g2.1 q3.1
    have b := Nat.mul_le_mul g2.2 q3.2
    omega
  have g4 : 1 ≤ gb kd hd c 4 ∧ gb kd hd c 4 ≤ 24 := by
    show 1 ≤ gb kd hd c 3 * bq kd hd c 4 ∧ gb kd hd c 3 * bq kd hd c 4 ≤ 24
    have a := Nat.mul_le_mul g3.1 q4.1
    have b := Nat.mul_le_mul g3.2 q4.2
    omega
  intro k hk
  have : k = 0 ∨ k = 1 ∨ k = 2 ∨ k = 3 ∨ k = 4 := by omega
  rcases this with rfl | rfl | rfl | rfl | rfl
  · exact ⟨Nat.le_refl _, by show 1 ≤ 24; omega⟩
  · omega
  · omega
  · omega
  · omega
theorem Dv_b {kd hd s : Nf} (o : okKH kd hd) (hs : ∀ c, c < 4 → s c ≤ 4) : 1 ≤ Dv kd hd s 4 ∧ Dv kd hd s 4 ≤ 331776 := by
  have a := gb_b o (c := 0) (by omega) (s 0) (hs 0 (by omega))
  have b := gb_b o (c := 1) (by omega) (s 1) (hs 1 (by omega))
  have c := gb_b o (c := 2) (by omega) (s 2) (hs 2 (by omega))
  have d := gb_b o (c := 3) (by omega) (s 3) (hs 3 (by omega))
  show 1 ≤ 1 * gb kd hd 0 (s 0) * gb kd hd 1 (s 1) * gb kd hd 2 (s 2) * gb kd hd 3 (s 3) ∧ 1 * gb kd hd 0 (s 0) * gb kd hd 1 (s 1) * gb kd hd 2 (s 2) * gb kd hd 3 (s 3) ≤ 331776
  have l1 := Nat.mul_le_mul a.1 b.1
  have u1 := Nat.mul_le_mul a.2 b.2
  have l2 := Nat.mul_le_mul l1 c.1
  have u2 := Nat.mul_le_mul u1 c.2
  have l3 := Nat.mul_le_mul l2 d.1
  have u3 := Nat.mul_le_mul u2 d.2
  rw [Nat.one_mul]
  exact ⟨l3, u3⟩
theorem t64N {k : Nat} (h : k < 2 ^ 31) : Int32.toInt64 (nI k) = lN k := by rw [l_eq, t64 h, pk_lT (by omega)]
theorem s_weight {M : Mm} {kd hd q s : Nf} (h : LdW kd hd q M) (o : okKH kd hd) (hs : ∀ c, c < 4 → s c ≤ 4) (hm : ∀ c, c < 4 → mI M 83 c = nI (s c)) : f_X5_weight 5 M = some (lN (wC kd hd q s), M) := by
  have lp : ∀ (b c m : Nat), c + b = 4 → b < m → f_X5_weight_b7 5 m (lN (Pw q s c)) (lN (Dv kd hd s c)) (nI c) M = some (lN (wC kd hd q s), M) := by
    intro b
    induction b with
    | zero =>
      intro c m h1 h2
      obtain ⟨m, rfl⟩ : ∃ j, m = j + 1 := ⟨m - 1, by omega⟩
      have e : c = 4 := by omega
      subst e
      have db := Dv_b o hs
      rw [f_X5_weight_b7_s]
      unfold f_X5_weight_b7B
      rw [if_pos (by decide), if_neg (by rw [q_le, pk_lT (by omega)]; show ¬ ((Dv kd hd s 4 : Nat) : Int) ≤ 0; omega), dvJ_ok (by rw [l_eq, pk_lT (by omega)]; show ¬ (((Dv kd hd s 4 : Nat) : Int) = 0); omega), show (24 : Int64) = lN 24 from rfl, pk_lDiv (by omega) (by omega) (by omega), lN_mul]
      rfl
    | succ b ih =>
      intro c m h1 h2
      obtain ⟨m, rfl⟩ : ∃ j, m = j + 1 := ⟨m - 1, by omega⟩
      have hc : c < 4 := by omega
      have sc := hs c hc
      have hih := ih (c + 1) m (by omega) (by omega)
      have inner : ∀ (d k m2 : Nat), k + d = s c → d < m2 → f_X5_weight_b16 (f_X5_weight_b7 5 m) 5 m2 (lN (Pw q s c * q c ^ k)) (lN (Dv kd hd s c * gb kd hd c k)) (nI c) (nI (k + 1)) M = some (lN (wC kd hd q s), M) := by
        intro d
        induction d with
        | zero =>
          intro k m2 k1 k2
          obtain ⟨m2, rfl⟩ : ∃ j, m2 = j + 1 := ⟨m2 - 1, by omega⟩
          rw [f_X5_weight_b16_s]
          unfold f_X5_weight_b16B
          simp only [ck_k hc (show 4 < 1000 by omega), nI_cl (show c < 2 ^ 31 by omega), fld_5_6, hm c hc]
          rw [if_pos (by rw [i_lt, t_nI (by omega), t_nI (by omega)]; omega), nm_q, nI_1, show k = s c by omega]
          exact hih
        | succ d jh =>
          intro k m2 k1 k2
          obtain ⟨m2, rfl⟩ : ∃ j, m2 = j + 1 := ⟨m2 - 1, by omega⟩
          have hjh := jh (k + 1) m2 (by omega) (by omega)
          have bb := bq_b o hc (j := k + 1) (by omega) (by omega)
          rw [f_X5_weight_b16_s]
          unfold f_X5_weight_b16B
          simp only [ck_k hc (show 4 < 1000 by omega), nI_cl (show c < 2 ^ 31 by omega), fld_5_4, fld_5_6, hm c hc, (h c hc).2.2, s_busy h o hc (show k + 1 < 1000 by omega), nm_q, bd_s, nI_1, t64N (show bq kd hd c (k + 1) < 2 ^ 31 by omega), lN_mul]
          rw [if_neg (by rw [i_lt, t_nI (by omega), t_nI (by omega)]; omega)]
          rw [Nat.pow_succ, ← Nat.mul_assoc, show gb kd hd c (k + 1) = gb kd hd c k * bq kd hd c (k + 1) from rfl, ← Nat.mul_assoc] at hjh
          exact hjh
      have := inner (s c) 0 fuel (by omega) (by show s c < 1000; omega)
      rw [Nat.pow_zero, Nat.mul_one, show gb kd hd c 0 = 1 from rfl, Nat.mul_one] at this
      rw [f_X5_weight_b7_s]
      unfold f_X5_weight_b7B
      rw [if_neg (by rw [i_le, t_nI (by omega), li_4]; omega)]
      exact this
  exact lp 4 0 fuel (by omega) (by show 4 < 1000; omega)
/-- the reference's -/
def frw (kd hd : Nf) (c k : Nat) : Nat := if kd c = 3 then (if 2 ≤ k then (if k = 2 then 12 else if k = 3 then 4 else 1) else 24) else if kd c = 0 ∧ hd c = 2 then (if 2 ≤ k then (if k = 2 then 4 else if k = 3 then 2 else 1) else 8) else 1
def phw (kd hd : Nf) (c : Nat) : Nat := if kd c = 3 then 24 else if kd c = 0 ∧ hd c = 2 then 8 else 1
def PR (kd hd q s : Nf) : Nat → Nat
  | 0 => 1
  | c + 1 => PR kd hd q s c * (if kd c = 9 then 1 else q c ^ s c * frw kd hd c (s c))
def PH (kd hd : Nf) : Nat → Nat
  | 0 => 1
  | c + 1 => PH kd hd c * (if kd c = 9 then 1 else phw kd hd c)
/-- the reference's cells of a net with visits -/
def LdR (kd rr hd q : Nf) (M : Mm) : Prop := ∀ c, c < 4 → mI M 88 c = (if kd c = 9 then 0 else 1) ∧ (kd c ≠ 9 → mI M 89 c = nI (kd c) ∧ mI M 90 c = nI (rr c) ∧ mI M 91 c = nI (hd c) ∧ ∃ v, mJ M 98 c = lN v ∧ v * (12 / rr c) = q c)
def okR12 (kd rr : Nf) : Prop := ∀ c, c < 4 → 1 ≤ rr c ∧ rr c ≤ 12
theorem s_part {M : Mm} {kd rr hd q : Nf} (h : LdR kd rr hd q M) (o : okR12 kd rr) {c : Nat} (hc : c < 4) (h9 : kd c ≠ 9) : f_X9_part 1 (nI c) M = some (lN (q c), M) := by
  obtain ⟨_, hr, _, v, hv, hq⟩ := (h c hc).2 h9
  have r := o c hc
  have h12 : 12 / rr c ≤ 12 := Nat.div_le_self _ _
  unfold f_X9_part
  simp only [ck_k hc (show 4 < 1000 by omega), nI_cl (show c < 2 ^ 31 by omega), fld_1_10, fld_1_20, hr, hv]
  rw [dvI_ok (fun hz => by have := (n_inj (a := rr c) (b := 0) (by omega) (by omega)).mp hz; omega), show (12 : Int32) = nI 12 from rfl, pk_div (by omega) (by omega) (by omega), t64N (by omega), lN_mul, hq]
theorem s_weightAt {M : Mm} {kd rr hd q : Nf} (h : LdR kd rr hd q M) (o : okR12 kd rr) (o2 : okKH kd hd) {c j : Nat} (hc : c < 4) (h9 : kd c ≠ 9) (hj : j ≤ 4) : f_X9_weightAt 1 (nI c) (nI j) M = some (lN (q c ^ j * frw kd hd c j), M) := by
  obtain ⟨hk, _, hh, _⟩ := (h c hc).2 h9
  have ok := o2 c hc
  have k3 : nI (kd c) = 3 ↔ kd c = 3 := by rw [show (3 : Int32) = nI 3 from rfl, n_inj (by omega) (by omega)]
  have k0 : nI (kd c) = 0 ↔ kd c = 0 := by rw [show (0 : Int32) = nI 0 from rfl, n_inj (by omega) (by omega)]
  have kh : nI (hd c) = 2 ↔ hd c = 2 := by rw [show (2 : Int32) = nI 2 from rfl, n_inj (by omega) (by omega)]
  have j2 : 2 ≤ nI j ↔ 2 ≤ j := by rw [i_le, t_nI (by omega), li_2]; omega
  have je2 : nI j = 2 ↔ j = 2 := by rw [show (2 : Int32) = nI 2 from rfl, n_inj (by omega) (by omega)]
  have je3 : nI j = 3 ↔ j = 3 := by rw [show (3 : Int32) = nI 3 from rfl, n_inj (by omega) (by omega)]
  have lp : ∀ (d k m : Nat), k + d = j → d < m → f_X9_weightAt_b5 1 m (nI c) (nI j) (lN (q c ^ k)) (nI k) M = some (lN (q c ^ j * frw kd hd c j), M) := by
    intro d
    induction d with
    | zero =>
      intro k m k1 k2
      obtain ⟨m, rfl⟩ : ∃ j, m = j + 1 := ⟨m - 1, by omega⟩
      have e : k = j := by omega
      subst e
      rw [f_X9_weightAt_b5_s]
      unfold f_X9_weightAt_b5B f_X9_weightAt_b66 f_X9_weightAt_b118 frw
      rw [if_pos (Int32.le_refl _)]
      simp only [ck_k hc (show 4 < 1000 by omega), nI_cl (show c < 2 ^ 31 by omega), fld_1_9, fld_1_11, hk, hh, k3, k0, kh, j2, je2, je3]
      have m1 : ∀ x : Nat, x < 100 → some (lN (q c ^ k) * Int32.toInt64 (nI x), M) = some (lN (q c ^ k * x), M) := fun x hx => by rw [t64N (by omega), lN_mul]
      by_cases e3 : kd c = 3
      · rw [if_pos e3, if_pos e3]
        by_cases e2 : 2 ≤ k
        · rw [if_pos e2, if_pos e2]
          by_cases e4 : k = 2
          · rw [if_pos e4, if_pos e4]; exact m1 12 (by omega)
          · rw [if_neg e4, if_neg e4]
            by_cases e5 : k = 3
            · rw [if_pos e5, if_pos e5]; exact m1 4 (by omega)
            · rw [if_neg e5, if_neg e5]; exact m1 1 (by omega)
        · rw [if_neg e2, if_neg e2]; exact m1 24 (by omega)
      · rw [if_neg e3, if_neg e3]
        by_cases e0 : kd c = 0
        · rw [if_pos e0]
          by_cases eh : hd c = 2
          · rw [if_pos eh, if_pos (show kd c = 0 ∧ hd c = 2 from ⟨e0, eh⟩)]
            by_cases e2 : 2 ≤ k
            · rw [if_pos e2, if_pos e2]
              by_cases e4 : k = 2
              · rw [if_pos e4, if_pos e4]; exact m1 4 (by omega)
              · rw [if_neg e4, if_neg e4]
                by_cases e5 : k = 3
                · rw [if_pos e5, if_pos e5]; exact m1 2 (by omega)
                · rw [if_neg e5, if_neg e5]; exact m1 1 (by omega)
            · rw [if_neg e2, if_neg e2]; exact m1 8 (by omega)
          · rw [if_neg eh, if_neg (fun hz => eh hz.2), Nat.mul_one]
        · rw [if_neg e0, if_neg (fun hz => e0 hz.1), Nat.mul_one]
    | succ d ih =>
      intro k m k1 k2
      obtain ⟨m, rfl⟩ : ∃ j, m = j + 1 := ⟨m - 1, by omega⟩
      have hih := ih (k + 1) m (by omega) (by omega)
      rw [f_X9_weightAt_b5_s]
      unfold f_X9_weightAt_b5B
      rw [if_neg (by rw [i_le, t_nI (by omega), t_nI (by omega)]; omega), s_part h o hc h9, bd_s]
      simp only [nm_q, bd_s, nI_1, lN_mul]
      rw [Nat.pow_succ] at hih
      exact hih
  have := lp j 0 fuel (by omega) (by show j < 1000; omega)
  rw [Nat.pow_zero] at this
  exact this
theorem s_weightR {M : Mm} {kd rr hd q s : Nf} (h : LdR kd rr hd q M) (o : okR12 kd rr) (o2 : okKH kd hd) (hs : ∀ c, c < 4 → s c ≤ 4) (hm : ∀ c, c < 4 → mI M 99 c = nI (s c)) : f_X9_weight 1 M = some (lN (PR kd hd q s 4), M) := by
  have lp : ∀ (b c m : Nat), c + b = 4 → b < m → f_X9_weight_b4 1 m (lN (PR kd hd q s c)) (nI c) M = some (lN (PR kd hd q s 4), M) := by
    intro b
    induction b with
    | zero =>
      intro c m h1 h2
      obtain ⟨m, rfl⟩ : ∃ j, m = j + 1 := ⟨m - 1, by omega⟩
      have e : c = 4 := by omega
      subst e
      rw [f_X9_weight_b4_s]
      unfold f_X9_weight_b4B
      rw [if_pos (by decide)]
    | succ b ih =>
      intro c m h1 h2
      obtain ⟨m, rfl⟩ : ∃ j, m = j + 1 := ⟨m - 1, by omega⟩
      have hc : c < 4 := by omega
      have hih := ih (c + 1) m (by omega) (by omega)
      rw [show PR kd hd q s (c + 1) = PR kd hd q s c * (if kd c = 9 then 1 else q c ^ s c * frw kd hd c (s c)) from rfl] at hih
      rw [f_X9_weight_b4_s]
      unfold f_X9_weight_b4B f_X9_weight_b34
      rw [if_neg (by rw [i_le, t_nI (by omega), li_4]; omega)]
      simp only [ck_k hc (show 4 < 1000 by omega), nI_cl (show c < 2 ^ 31 by omega), fld_1_8, fld_1_21, (h c hc).1, hm c hc]
      by_cases e : kd c = 9
      · rw [if_pos e, if_pos rfl, nm_q, nm_q, nI_1, show (1 : Int64) = lN 1 from rfl, lN_mul]
        rw [if_pos e] at hih
        exact hih
      · rw [if_neg e, if_neg (by decide), s_weightAt h o o2 hc e (hs c hc), bd_s, nm_q, nm_q, nI_1, lN_mul]
        rw [if_neg e] at hih
        exact hih
  exact lp 4 0 fuel (by omega) (by show 4 < 1000; omega)
/-- both weigh alike -/
theorem gf_ph {kd hd : Nf} (o : okKH kd hd) (hh : ∀ c, c < 4 → hd c = 1 ∨ (hd c = 2 ∧ kd c = 0)) {c k : Nat} (hc : c < 4) (hk : k ≤ 4) : frw kd hd c k * gb kd hd c k = phw kd hd c := by
  have h1 := hh c hc
  have hk4 : k = 0 ∨ k = 1 ∨ k = 2 ∨ k = 3 ∨ k = 4 := by omega
  by_cases e3 : kd c = 3
  · have b : ∀ j, bq kd hd c j = j := fun j => by unfold bq; rw [if_pos e3]
    have f : ∀ j, frw kd hd c j = (if 2 ≤ j then (if j = 2 then 12 else if j = 3 then 4 else 1) else 24) := fun j => by unfold frw; rw [if_pos e3]
    have p : phw kd hd c = 24 := by unfold phw; rw [if_pos e3]
    rw [f, p]
    rcases hk4 with rfl | rfl | rfl | rfl | rfl <;> simp [gb, b]
  · by_cases e2 : hd c = 2
    · have e0 : kd c = 0 := by omega
      have b : ∀ j, bq kd hd c j = if 2 < j then 2 else j := fun j => by unfold bq; rw [if_neg e3, e2]
      have f : ∀ j, frw kd hd c j = (if 2 ≤ j then (if j = 2 then 4 else if j = 3 then 2 else 1) else 8) := fun j => by unfold frw; rw [if_neg e3, if_pos ⟨e0, e2⟩]
      have p : phw kd hd c = 8 := by unfold phw; rw [if_neg e3, if_pos ⟨e0, e2⟩]
      rw [f, p]
      rcases hk4 with rfl | rfl | rfl | rfl | rfl <;> simp [gb, b]
    · have b : ∀ j, bq kd hd c j = if 1 < j then 1 else j := fun j => by unfold bq; rw [if_neg e3, show hd c = 1 by omega]
      have f : ∀ j, frw kd hd c j = 1 := fun j => by unfold frw; rw [if_neg e3, if_neg (fun hz => e2 hz.2)]
      have p : phw kd hd c = 1 := by unfold phw; rw [if_neg e3, if_neg (fun hz => e2 hz.2)]
      rw [f, p]
      rcases hk4 with rfl | rfl | rfl | rfl | rfl <;> simp [gb, b]
theorem PR_Dv {kd hd q s : Nf} (o : okKH kd hd) (hh : ∀ c, c < 4 → hd c = 1 ∨ (hd c = 2 ∧ kd c = 0)) (hs : ∀ c, c < 4 → s c ≤ 4) (h9 : ∀ c, c < 4 → kd c = 9 → s c = 0) : ∀ c, c ≤ 4 → PR kd hd q s c * Dv kd hd s c = Pw q s c * PH kd hd c
  | 0, _ => rfl
  | c + 1, hc => by
    have r := PR_Dv (q := q) o hh hs h9 c (by omega)
    show PR kd hd q s c * (if kd c = 9 then 1 else q c ^ s c * frw kd hd c (s c)) * (Dv kd hd s c * gb kd hd c (s c)) = Pw q s c * q c ^ s c * (PH kd hd c * (if kd c = 9 then 1 else phw kd hd c))
    by_cases e : kd c = 9
    · rw [if_pos e, if_pos e, h9 c (by omega) e, show gb kd hd c 0 = 1 from rfl, Nat.pow_zero]
      simp only [Nat.mul_one]
      exact r
    · rw [if_neg e, if_neg e, ← gf_ph o hh (show c < 4 by omega) (hs c (by omega))]
      generalize PR kd hd q s c = A at *
      generalize Dv kd hd s c = B at *
      generalize Pw q s c = C at *
      generalize PH kd hd c = D at *
      generalize q c ^ s c = x
      generalize frw kd hd c (s c) = y
      generalize gb kd hd c (s c) = z
      have : A * B * (x * y * z) = C * D * (x * y * z) := by rw [r]
      grind

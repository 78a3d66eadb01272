/-! chance -/
def okA (kd : Nf) (P : Nat → Int) (c : Nat) : Bool := decide (0 ≤ P c ∧ (kd c = 9 → P c = 0))
def okG (kd : Nf) (P : Nat → Int) (c : Nat) : Bool := decide (0 ≤ P c ∧ P c ≤ 4 ∧ (kd c = 9 → P c = 0))
theorem AF_iff {P : Nat → Bool} : ∀ k i, AF P k i = true ↔ ∀ c, i ≤ c → c < i + k → P c = true
  | 0, i => by simp [AF]; intro c a b; omega
  | k + 1, i => by
    rw [AF_s, Bool.and_eq_true, AF_iff k (i + 1)]
    constructor
    · intro ⟨a, b⟩ c c1 c2
      by_cases e : c = i
      · subst e; exact a
      · exact b c (by omega) (by omega)
    · intro a
      exact ⟨a i (by omega) (by omega), fun c c1 c2 => a c (by omega) (by omega)⟩
theorem s_things {M : Mm} {kd rr hd rm cm : Nf} {wy : Nat → Nf} {sz : Nf} {pl : Nat → Nat → Int32} {r : Nat} (n : NetC kd rr hd rm cm wy M) (w : wfN kd rr hd rm cm wy) (rc : RowC sz pl M) (wr : wfR sz) (hr : r < 6) (h4 : sz r = 4) : f_X4_thingsOf 4 (10 + r) M = some (if AF (okA kd (fun c => (pl r c).toInt)) 4 0 = true ∧ sm (fun c => (pl r c).toInt) 4 ≤ 4 then nI (sm (fun c => (pl r c).toInt) 4).toNat else 0, M) := by
  have at' : ∀ c, c < 4 → f_X6_at (10 + r) (nI c) M = some (pl r c, M) := fun c hc => s_rat rc wr hr (by omega) (by omega)
  have lp : ∀ (b i m : Nat) (acc : Int64), i + b = 4 → b < m → acc.toInt = sm (fun c => (pl r c).toInt) i → 0 ≤ acc.toInt → acc.toInt ≤ 2147483648 * i → f_X4_thingsOf_b5 4 m (10 + r) acc (nI i) M = some (if AF (okA kd (fun c => (pl r c).toInt)) b i = true ∧ sm (fun c => (pl r c).toInt) 4 ≤ 4 then nI (sm (fun c => (pl r c).toInt) 4).toNat else 0, M) := by
    intro b
    induction b with
    | zero =>
      intro i m acc h1 h2 ha a0 a1
      obtain ⟨m, rfl⟩ : ∃ j, m = j + 1 := ⟨m - 1, by omega⟩
      have e : i = 4 := by omega
      subst e
      rw [f_X4_thingsOf_b5_s]
      unfold f_X4_thingsOf_b5B AF
      rw [if_pos (by decide)]
      simp only [q_gt, show (4 : Int64).toInt = 4 from rfl, ha, true_and]
      by_cases z : sm (fun c => (pl r c).toInt) 4 ≤ 4
      · rw [if_neg (by omega), if_pos z]
        have : acc = lN (sm (fun c => (pl r c).toInt) 4).toNat := by rw [l_eq, lN_T (by omega), ha]; omega
        rw [this, lN_i]
      · rw [if_pos (by omega), if_neg z]
    | succ b ih =>
      intro i m acc h1 h2 ha a0 a1
      obtain ⟨m, rfl⟩ : ∃ j, m = j + 1 := ⟨m - 1, by omega⟩
      have hi : i < 4 := by omega
      have pb := i_bd (pl r i)
      have okE : AF (okA kd (fun c => (pl r c).toInt)) (b + 1) i = (decide (0 ≤ (pl r i).toInt ∧ (kd i = 9 → (pl r i).toInt = 0)) && AF (okA kd (fun c => (pl r c).toInt)) b (i + 1)) := rfl
      have nxt : 0 ≤ (pl r i).toInt → f_X4_thingsOf_b40 (f_X4_thingsOf_b5 4 m) 4 (10 + r) acc (nI i) M = some (if AF (okA kd (fun c => (pl r c).toInt)) b (i + 1) = true ∧ sm (fun c => (pl r c).toInt) 4 ≤ 4 then nI (sm (fun c => (pl r c).toInt) 4).toNat else 0, M) := by
        intro p0
        have e : (acc + Int32.toInt64 (pl r i)).toInt = acc.toInt + (pl r i).toInt := by rw [l_add (by rw [i2l]; omega) (by rw [i2l]; omega), i2l]
        unfold f_X4_thingsOf_b40
        rw [at' i hi, bd_s, nm_q, nm_q, nI_1]
        exact ih (i + 1) m (acc + Int32.toInt64 (pl r i)) (by omega) (by omega) (by rw [e, ha]; rfl) (by rw [e]; omega) (by rw [e]; omega)
      rw [f_X4_thingsOf_b5_s]
      unfold f_X4_thingsOf_b5B
      rw [if_neg (by rw [i_le, t_nI (by omega), li_4]; omega), okE]
      simp only [at' i hi, nm_q, bd_s, s_has n w hi, i_lt, i_le, li_0]
      by_cases p0 : (pl r i).toInt < 0
      · rw [if_pos p0, show decide (0 ≤ (pl r i).toInt ∧ (kd i = 9 → (pl r i).toInt = 0)) = false by simp; intro y; omega, Bool.false_and, if_neg (by simp)]
      · rw [if_neg p0]
        by_cases p1 : (pl r i).toInt ≤ 0
        · rw [if_pos p1, nxt (by omega), show decide (0 ≤ (pl r i).toInt ∧ (kd i = 9 → (pl r i).toInt = 0)) = true from decide_eq_true ⟨by omega, fun _ => by omega⟩, Bool.true_and]
        · rw [if_neg p1]
          by_cases h9 : kd i = 9
          · rw [if_pos h9, if_pos rfl, show decide (0 ≤ (pl r i).toInt ∧ (kd i = 9 → (pl r i).toInt = 0)) = false by simp [h9]; intro _; omega, Bool.false_and, if_neg (by simp)]
          · rw [if_neg h9, if_neg (by decide), nxt (by omega), show decide (0 ≤ (pl r i).toInt ∧ (kd i = 9 → (pl r i).toInt = 0)) = true by simp [h9]; omega, Bool.true_and]
  exact lp 4 0 fuel 0 (by omega) (by show 4 < 1000; omega) rfl (by decide) (by decide)
theorem s_chl {M : Mm} {kd rr hd rm cm : Nf} {wy : Nat → Nf} {sz : Nf} {pl : Nat → Nat → Int32} {r : Nat} (n : NetR kd rr hd rm cm wy M) (rc : RowR sz pl M) (wr : wfR sz) (hr : r < 6) (h4 : sz r = 4) : f_X9_chance_b57 1 fuel (nI r) 0 1 0 M = (if AF (okG kd (fun c => (pl r c).toInt)) 4 0 = true ∧ 1 ≤ sm (fun c => (pl r c).toInt) 4 ∧ sm (fun c => (pl r c).toInt) 4 ≤ 4 then (bd (f_X9_setVisits 1 M) fun M20 => bd (f_X9_sumOf 1 (nI (sm (fun c => (pl r c).toInt) 4).toNat) (-9) M20) fun q21 => f_X9_chance_b165 1 fuel (nI r) (nI (sm (fun c => (pl r c).toInt) 4).toNat) q21.1 0 q21.2) else some (-3, RM M 3)) := by
  have rd : ∀ c, c < 4 → mI M 86 (40 * r + c) = pl r c := fun c hc => (rc r hr).2 (by omega) c (by omega)
  have bad : ∀ (b i m : Nat) (v : Int32), i + b = 4 → b < m → f_X9_chance_b57 1 m (nI r) v 0 (nI i) M = some (-3, RM M 3) := by
    intro b
    induction b with
    | zero =>
      intro i m v h1 h2
      obtain ⟨m, rfl⟩ : ∃ j, m = j + 1 := ⟨m - 1, by omega⟩
      rw [f_X9_chance_b57_s]
      unfold f_X9_chance_b57B f_X9_chance_b143
      rw [if_pos (by rw [i_le, t_nI (by omega), li_4]; omega), if_pos rfl, s_met3, bd_s]
    | succ b ih =>
      intro i m v h1 h2
      obtain ⟨m, rfl⟩ : ∃ j, m = j + 1 := ⟨m - 1, by omega⟩
      rw [f_X9_chance_b57_s]
      unfold f_X9_chance_b57B f_X9_chance_b109 f_X9_chance_b110
      rw [if_neg (by rw [i_le, t_nI (by omega), li_4]; omega), ck_p hr (by omega), nm_q, if_pos rfl, if_pos rfl, nm_q, nm_q, nI_1]
      exact ih (i + 1) m _ (by omega) (by omega)
  have lp : ∀ (b i m : Nat), i + b = 4 → b < m → 0 ≤ sm (fun c => (pl r c).toInt) i → sm (fun c => (pl r c).toInt) i ≤ 4 * i → f_X9_chance_b57 1 m (nI r) (nI (sm (fun c => (pl r c).toInt) i).toNat) 1 (nI i) M = (if AF (okG kd (fun c => (pl r c).toInt)) b i = true ∧ 1 ≤ sm (fun c => (pl r c).toInt) 4 ∧ sm (fun c => (pl r c).toInt) 4 ≤ 4 then (bd (f_X9_setVisits 1 M) fun M20 => bd (f_X9_sumOf 1 (nI (sm (fun c => (pl r c).toInt) 4).toNat) (-9) M20) fun q21 => f_X9_chance_b165 1 fuel (nI r) (nI (sm (fun c => (pl r c).toInt) 4).toNat) q21.1 0 q21.2) else some (-3, RM M 3)) := by
    intro b
    induction b with
    | zero =>
      intro i m h1 h2 s0 s1
      obtain ⟨m, rfl⟩ : ∃ j, m = j + 1 := ⟨m - 1, by omega⟩
      have e : i = 4 := by omega
      subst e
      rw [f_X9_chance_b57_s]
      unfold f_X9_chance_b57B f_X9_chance_b143 AF
      rw [if_pos (by decide), if_neg (by decide), s_in, bd_s]
      simp only [li_1, li_4, t_nI (show (sm (fun c => (pl r c).toInt) 4).toNat < 2 ^ 31 by omega), Int.toNat_of_nonneg s0, true_and]
      by_cases z : 1 ≤ sm (fun c => (pl r c).toInt) 4 ∧ sm (fun c => (pl r c).toInt) 4 ≤ 4
      · rw [if_pos z, if_pos z, if_neg (by decide)]
      · rw [if_neg z, if_neg z, if_pos rfl, s_met3, bd_s]
    | succ b ih =>
      intro i m h1 h2 s0 s1
      obtain ⟨m, rfl⟩ : ∃ j, m = j + 1 := ⟨m - 1, by omega⟩
      have hi : i < 4 := by omega
      have smE : sm (fun c => (pl r c).toInt) (i + 1) = sm (fun c => (pl r c).toInt) i + (pl r i).toInt := rfl
      have okE : AF (okG kd (fun c => (pl r c).toInt)) (b + 1) i = (decide (0 ≤ (pl r i).toInt ∧ (pl r i).toInt ≤ 4 ∧ (kd i = 9 → (pl r i).toInt = 0)) && AF (okG kd (fun c => (pl r c).toInt)) b (i + 1)) := rfl
      have idx : (40 : Int32) * nI r + nI i = nI (40 * r + i) := by rw [show (40 : Int32) = nI 40 from rfl, n_mul, nI_add]
      have yes : 0 ≤ (pl r i).toInt → (pl r i).toInt ≤ 4 → f_X9_chance_b57 1 m (nI r) (nI (sm (fun c => (pl r c).toInt) i).toNat + pl r i) 1 (nI (i + 1)) M = (if AF (okG kd (fun c => (pl r c).toInt)) b (i + 1) = true ∧ 1 ≤ sm (fun c => (pl r c).toInt) 4 ∧ sm (fun c => (pl r c).toInt) 4 ≤ 4 then (bd (f_X9_setVisits 1 M) fun M20 => bd (f_X9_sumOf 1 (nI (sm (fun c => (pl r c).toInt) 4).toNat) (-9) M20) fun q21 => f_X9_chance_b165 1 fuel (nI r) (nI (sm (fun c => (pl r c).toInt) 4).toNat) q21.1 0 q21.2) else some (-3, RM M 3)) := by
        intro p0 p4
        have e : nI (sm (fun c => (pl r c).toInt) i).toNat + pl r i = nI (sm (fun c => (pl r c).toInt) (i + 1)).toNat := by
          have e1 : pl r i = nI (pl r i).toInt.toNat := by rw [i_eq, t_nI (by omega)]; omega
          rw [e1, nI_add]
          congr 1
          rw [smE]
          omega
        rw [e]
        exact ih (i + 1) m (by omega) (by omega) (by rw [smE]; omega) (by rw [smE]; omega)
      rw [f_X9_chance_b57_s]
      unfold f_X9_chance_b57B f_X9_chance_b99 f_X9_chance_b109 f_X9_chance_b110
      rw [if_neg (by rw [i_le, t_nI (by omega), li_4]; omega), ck_p hr (by omega), idx, nm_q, nI_cl (by omega), fld_1_6, rd i hi, if_neg (by decide), ck_k hi (by omega), nI_cl (by omega), fld_1_8, (n.1 i hi).1, okE]
      simp only [s_in, nm_q, bd_s, li_0, li_4, nI_1, if_true, show ¬ ((1 : Int32) = 0) by decide, if_false]
      by_cases h9 : kd i = 9
      · rw [if_pos h9, if_pos rfl]
        by_cases z : 0 ≤ (pl r i).toInt ∧ (pl r i).toInt ≤ 0
        · rw [if_pos z, if_neg (by decide), yes (by omega) (by omega), show decide (0 ≤ (pl r i).toInt ∧ (pl r i).toInt ≤ 4 ∧ (kd i = 9 → (pl r i).toInt = 0)) = true from decide_eq_true ⟨by omega, by omega, fun _ => by omega⟩, Bool.true_and]
        · rw [if_neg z, if_pos rfl, bad b (i + 1) m _ (by omega) (by omega), show decide (0 ≤ (pl r i).toInt ∧ (pl r i).toInt ≤ 4 ∧ (kd i = 9 → (pl r i).toInt = 0)) = false by simp [h9]; intro _ _; omega, Bool.false_and, if_neg (by simp)]
      · rw [if_neg h9, if_neg (by decide)]
        by_cases z : 0 ≤ (pl r i).toInt ∧ (pl r i).toInt ≤ 4
        · rw [if_pos z, if_neg (by decide), yes (by omega) (by omega), show decide (0 ≤ (pl r i).toInt ∧ (pl r i).toInt ≤ 4 ∧ (kd i = 9 → (pl r i).toInt = 0)) = true by simp [h9]; omega, Bool.true_and]
        · rw [if_neg z, if_pos rfl, bad b (i + 1) m _ (by omega) (by omega), show decide (0 ≤ (pl r i).toInt ∧ (pl r i).toInt ≤ 4 ∧ (kd i = 9 → (pl r i).toInt = 0)) = false by simp [h9]; intro _; omega, Bool.false_and, if_neg (by simp)]
  exact lp 4 0 fuel (by omega) (by show 4 < 1000; omega) (by simp [sm]) (by simp [sm])
theorem sm_4 (P : Nat → Int) : sm P 4 = P 0 + P 1 + P 2 + P 3 := by
  show 0 + P 0 + P 1 + P 2 + P 3 = _
  omega
/-- both judge a told state alike -/
theorem ok_AG {kd : Nf} {P : Nat → Int} : (AF (okG kd P) 4 0 = true ∧ 1 ≤ sm P 4 ∧ sm P 4 ≤ 4) ↔ (AF (okA kd P) 4 0 = true ∧ sm P 4 ≤ 4) ∧ 1 ≤ sm P 4 := by
  rw [AF_iff, AF_iff, sm_4]
  unfold okG okA
  simp only [decide_eq_true_eq]
  constructor
  · rintro ⟨a, b, c⟩
    exact ⟨⟨fun k k1 k2 => ⟨(a k k1 k2).1, (a k k1 k2).2.2⟩, c⟩, b⟩
  · rintro ⟨⟨a, b⟩, c⟩
    have p0 := (a 0 (by omega) (by omega)).1
    have p1 := (a 1 (by omega) (by omega)).1
    have p2 := (a 2 (by omega) (by omega)).1
    have p3 := (a 3 (by omega) (by omega)).1
    refine ⟨fun k k1 k2 => ⟨(a k k1 k2).1, ?_, (a k k1 k2).2⟩, c, b⟩
    rcases c4 (show k < 4 by omega) with rfl | rfl | rfl | rfl <;> omega
theorem dg4 {a b c d : Nat} (ha : a < 5) (hb : b < 5) (hc : c < 5) : (a + 5 * b + 25 * c + 125 * d) % 5 = a ∧ (a + 5 * b + 25 * c + 125 * d) / 5 % 5 = b ∧ (a + 5 * b + 25 * c + 125 * d) / 25 % 5 = c ∧ (a + 5 * b + 25 * c + 125 * d) / 125 = d := by
  have e1 : (a + 5 * b + 25 * c + 125 * d) / 5 = b + 5 * c + 25 * d := by omega
  have e2 : (a + 5 * b + 25 * c + 125 * d) / 25 = c + 5 * d := by omega
  have e3 : (a + 5 * b + 25 * c + 125 * d) / 125 = d := by omega
  refine ⟨by omega, ?_, ?_, e3⟩
  · rw [e1]; omega
  · rw [e2]; omega
theorem fE4_le (t : Nat) : fE4 t ≤ 331776 := by
  have f : ∀ k, fEw k ≤ 24 := fun k => by
    unfold fEw
    repeat' split
    all_goals omega
  exact Nat.mul_le_mul (Nat.mul_le_mul (Nat.mul_le_mul (Nat.mul_le_mul (Nat.le_refl 1) (f _)) (f _)) (f _)) (f _)
theorem s_tellChance {M : Mm} {kd hd q : Nf} {sz : Nf} {pl : Nat → Nat → Int32} {r t n : Nat} (h : LdW kd hd q M) (o : okKH kd hd) (rc : RowC sz pl M) (wr : wfR sz) (hr : r < 6) (h4 : sz r = 4) (ht : tot t = n) (hn : n ≤ 4) (hp : ∀ c, c < 4 → pl r c = nI (sO t c)) (bA : 0 < SCn kd hd q n ∧ SCn kd hd q n < 2 ^ 63) (bW : wC kd hd q (sO t) < 2 ^ 63) : ∃ M', f_X5_tellChance 5 (10 + r) (nI n) 7 M = some (sJ (sJ M' 7 0 (frU (lN (wC kd hd q (sO t))) (lN (SCn kd hd q n)))) 7 1 (frL (lN (wC kd hd q (sO t))) (lN (SCn kd hd q n)))) ∧ St M M' := by
  obtain ⟨M1, a1, a2⟩ := s_wAll h o (n := n) hn
  have a1' : f_X5_weightOfAll 5 (nI n) M = some (lN (SCn kd hd q n), M1) := a1
  have lp : ∀ (b i m : Nat) (Mj : Mm), i + b = 4 → b < m → St M Mj → (∀ c, c < i → mI Mj 83 c = nI (sO t c)) → ∃ M', f_X5_tellChance_b10 5 m (10 + r) 7 (lN (SCn kd hd q n)) (nI i) Mj = some (sJ (sJ M' 7 0 (frU (lN (wC kd hd q (sO t))) (lN (SCn kd hd q n)))) 7 1 (frL (lN (wC kd hd q (sO t))) (lN (SCn kd hd q n)))) ∧ St M M' := by
    intro b
    induction b with
    | zero =>
      intro i m Mj h1 h2 hS hk
      obtain ⟨m, rfl⟩ : ∃ j, m = j + 1 := ⟨m - 1, by omega⟩
      have e : i = 4 := by omega
      subst e
      refine ⟨Mj, ?_, hS⟩
      rw [f_X5_tellChance_b10_s]
      unfold f_X5_tellChance_b10B
      rw [if_pos (by decide), s_weight (LdW_St h hS) o (fun c hc => sO_le (by omega) hc) hk, bd_s]
      simp only []
      rw [set_N Mj bW bA.2 bA.1, bd_s]
    | succ b ih =>
      intro i m Mj h1 h2 hS hk
      obtain ⟨m, rfl⟩ : ∃ j, m = j + 1 := ⟨m - 1, by omega⟩
      have rj : RowC sz pl Mj := rc.sc (fun a k q => hS.1 a k (by unfold pX at q; omega))
      rw [f_X5_tellChance_b10_s]
      unfold f_X5_tellChance_b10B
      rw [if_neg (by rw [i_le, t_nI (by omega), li_4]; omega), s_rat rj wr hr (by omega) (show i < sz r by omega), bd_s]
      simp only [ck_k (show i < 4 by omega) (show 4 < 1000 by omega), nI_cl (show i < 2 ^ 31 by omega), fld_5_6, hp i (by omega), nm_q, bd_s, nI_1]
      refine ih (i + 1) m _ (by omega) (by omega) (hS.i _ _) (fun c hc => ?_)
      rw [mI_sI]
      by_cases e : c = i
      · rw [if_pos ⟨rfl, e⟩, e]
      · rw [if_neg (by omega)]; exact hk c (by omega)
  unfold f_X5_tellChance
  rw [a1', bd_s]
  exact lp 4 0 fuel M1 (by omega) (by show 4 < 1000; omega) a2 (fun c hc => by omega)
theorem s_chW {M : Mm} {kd rr hd q : Nf} {sz : Nf} {pl : Nat → Nat → Int32} {r t n : Nat} (h : LdR kd rr hd q M) (o : okR12 kd rr) (o2 : okKH kd hd) (rc : RowR sz pl M) (hr : r < 6) (h4 : sz r = 4) (ht : tot t ≤ 4) (hp : ∀ c, c < 4 → pl r c = nI (sO t c)) {B : Nat} (bB : 0 < B ∧ B < 2 ^ 63) (bW : PR kd hd q (sO t) 4 < 2 ^ 63) : ∃ M', f_X9_chance_b165 1 fuel (nI r) (nI n) (lN B) 0 M = some (nI n, sJ (sJ M' 1 3 (frU (lN (PR kd hd q (sO t) 4)) (lN B))) 1 4 (frL (lN (PR kd hd q (sO t) 4)) (lN B))) ∧ SR M M' := by
  have lp : ∀ (b i m : Nat) (Mj : Mm), i + b = 4 → b < m → SR M Mj → (∀ c, c < i → mI Mj 99 c = nI (sO t c)) → ∃ M', f_X9_chance_b165 1 m (nI r) (nI n) (lN B) (nI i) Mj = some (nI n, sJ (sJ M' 1 3 (frU (lN (PR kd hd q (sO t) 4)) (lN B))) 1 4 (frL (lN (PR kd hd q (sO t) 4)) (lN B))) ∧ SR M M' := by
    intro b
    induction b with
    | zero =>
      intro i m Mj h1 h2 hS hk
      obtain ⟨m, rfl⟩ : ∃ j, m = j + 1 := ⟨m - 1, by omega⟩
      have e : i = 4 := by omega
      subst e
      refine ⟨Mj, ?_, hS⟩
      rw [f_X9_chance_b165_s]
      unfold f_X9_chance_b165B
      rw [if_pos (by decide), s_weightR (LdR_SR h hS) o o2 (fun c hc => sO_le ht hc) hk, bd_s]
      simp only []
      rw [share_N Mj bW bB.2 bB.1, bd_s]
    | succ b ih =>
      intro i m Mj h1 h2 hS hk
      obtain ⟨m, rfl⟩ : ∃ j, m = j + 1 := ⟨m - 1, by omega⟩
      have rd : mI Mj 86 (40 * r + i) = nI (sO t i) := by
        rw [hS.1 _ _ (by omega), ← hp i (by omega)]
        exact (rc r hr).2 (by omega) i (by omega)
      have idx : (40 : Int32) * nI r + nI i = nI (40 * r + i) := by rw [show (40 : Int32) = nI 40 from rfl, n_mul, nI_add]
      rw [f_X9_chance_b165_s]
      unfold f_X9_chance_b165B
      rw [if_neg (by rw [i_le, t_nI (by omega), li_4]; omega), ck_p hr (by omega)]
      simp only [idx, ck_k (show i < 4 by omega) (show 4 < 1000 by omega), nI_cl (show i < 2 ^ 31 by omega), nI_cl (show 40 * r + i < 2 ^ 31 by omega), fld_1_6, fld_1_21, rd, nm_q, bd_s, nI_1]
      refine ih (i + 1) m _ (by omega) (by omega) (hS.s _ _) (fun c hc => ?_)
      rw [mI_sI]
      by_cases e : c = i
      · rw [if_pos ⟨rfl, e⟩, e]
      · rw [if_neg (by omega)]; exact hk c (by omega)
  exact lp 4 0 fuel M (by omega) (by show 4 < 1000; omega) (SR.rf M) (fun c hc => by omega)
theorem al_chance (x : Int32) : Alike (f_X8_chance 0 x) (f_X9_chance 1 x) := by
  intro M h
  rcases x_split6 x with ⟨r, hr, rfl⟩ | hx
  · obtain ⟨⟨kd, rr, hd, rm, cm, wy, w, n1, n2⟩, ⟨sz, pl, wr, r1, r2⟩, -⟩ := id h
    have tr : (nI r).toInt = (r : Int) := t_nI (by omega)
    have hwr := wr r hr
    obtain ⟨M1, e1, e2, e3⟩ := s_closedX n1 w
    have rX : ∀ M : Mm, f_X8_isRowNumber (nI r) M = some (1, M) := fun M => by rw [s_isRowNumber, tr, if_pos (by omega)]
    have rR : ∀ M : Mm, f_X9_isRow (nI r) M = some (1, M) := fun M => by rw [s_isRow, tr, if_pos (by omega)]
    by_cases z : tbN kd 4 ≠ 0 ∧ gF kd 4 0 = true ∧ AF (cPA kd cm wy) 4 0 = true ∧ AF (cPB kd wy) 4 0 = true
    · rw [if_pos z] at e1
      have cl := cl_N (show clP kd cm wy from z)
      have cx := cx_of w cl
      have clR : ∀ Ma, NetR kd rr hd rm cm wy Ma → f_X9_isClosed 1 Ma = some (1, Ma) := fun Ma na => by
        have := s_closedR na w
        rw [if_pos z] at this
        exact this
      have n1' : NetC kd rr hd rm cm wy M1 := n1.sc (fun a k q => e2.1 a k (Or.inl q))
      have n2' : NetR kd rr hd rm cm wy M1 := n2.sc (fun a k q => e2.1 a k (Or.inr q))
      have r1' : RowC sz pl M1 := r1.sc (fun a k q => e2.1 a k (Or.inl q))
      have r2' : RowR sz pl M1 := r2.sc (fun a k q => e2.1 a k (Or.inr q))
      by_cases er : sz r = 41
      · refine ⟨-3, RF M1 1, RM (RF M1 1) 1, ?_, ?_, inv_ref h (by omega) (by omega) e2 (Sc.rf _)⟩
        · unfold f_X8_chance
          simp only [rX, nm_q, bd_s, show ¬ ((1 : Int32) = 0) by decide, if_false, fld_0_1, fld_0_0, elm_2, e1, nI_cl (show r < 2 ^ 31 by omega), ck_k hr (show 6 < 1000 by omega), s_rowThere r1' wr hr, if_pos er, if_true, s_ref1]
        · have q := rr_RF (f := 1) r2'
          unfold f_X9_chance
          simp only [rR, nm_q, bd_s, show ¬ ((1 : Int32) = 0) by decide, if_false, clR _ (nr_RF n2'), nI_cl (show r < 2 ^ 31 by omega), ck_k hr (show 6 < 1000 by omega), fld_1_5, (q r hr).1, if_pos er, show ¬ ((0 : Int32) ≤ -9) by decide, s_met1]
      · have s0 : (0 : Int32) ≤ nI (sz r) := by rw [i_le, t_nI (by omega), li_0]; omega
        have k4 : nI (sz r) = 4 ↔ sz r = 4 := by rw [show (4 : Int32) = nI 4 from rfl, n_inj (by omega) (by omega)]
        by_cases e4 : sz r = 4
        · have thg := s_things n1' w r1' wr hr e4
          by_cases good : AF (okG kd (fun c => (pl r c).toInt)) 4 0 = true ∧ 1 ≤ sm (fun c => (pl r c).toInt) 4 ∧ sm (fun c => (pl r c).toInt) 4 ≤ 4
          · have ga := ok_AG.mp good
            rw [if_pos ga.1] at thg
            have gg := fun c (hc : c < 4) => (decide_eq_true_eq.mp ((AF_iff 4 0).mp good.1 c (by omega) (by omega)) : 0 ≤ (pl r c).toInt ∧ (pl r c).toInt ≤ 4 ∧ (kd c = 9 → (pl r c).toInt = 0))
            obtain ⟨t, ht, hp⟩ : ∃ t, tot t = (sm (fun c => (pl r c).toInt) 4).toNat ∧ ∀ c, c < 4 → pl r c = nI (sO t c) := by
              have g0 := gg 0 (by omega)
              have g1 := gg 1 (by omega)
              have g2 := gg 2 (by omega)
              have g3 := gg 3 (by omega)
              have d := dg4 (a := (pl r 0).toInt.toNat) (b := (pl r 1).toInt.toNat) (c := (pl r 2).toInt.toNat) (d := (pl r 3).toInt.toNat) (by omega) (by omega) (by omega)
              refine ⟨(pl r 0).toInt.toNat + 5 * (pl r 1).toInt.toNat + 25 * (pl r 2).toInt.toNat + 125 * (pl r 3).toInt.toNat, ?_, fun c hc => ?_⟩
              · unfold tot
                rw [d.1, d.2.1, d.2.2.1, d.2.2.2, sm_4]
                omega
              · rcases c4 hc with rfl | rfl | rfl | rfl
                · rw [sO_0, d.1, i_eq, t_nI (by omega)]; omega
                · rw [sO_1, d.2.1, i_eq, t_nI (by omega)]; omega
                · rw [sO_2, d.2.2.1, i_eq, t_nI (by omega)]; omega
                · rw [sO_3, d.2.2.2, i_eq, t_nI (by omega)]; omega
            generalize hn : (sm (fun c => (pl r c).toInt) 4).toNat = n at *
            have hn4 : n ≤ 4 := by omega
            have hn1 : 1 ≤ n := by omega
            obtain ⟨M2, l1, l2, l3⟩ := s_rload n1' w cl
            have s2 := e2.tr l2
            have sq := sums cx hn4
            have p1 := p768 hn4
            have bB : SRm kd hd (sn kd rr wy) n ≤ 347892350976 * 3538944 := Nat.le_trans sq.2.2.1 (Nat.mul_le_mul p1 (Nat.le_refl _))
            have bW := wC_le (kd := kd) (hd := hd) (s := sO t) cx.2.2.2.2.1 (by rw [sO_0, sO_1, sO_2, sO_3]; show tot t ≤ 4; omega)
            have bP : PR kd hd (sn kd rr wy) (sO t) 4 ≤ 347892350976 * 331776 := Nat.le_trans (PR_le cx.2.2.2.2.1 t) (Nat.mul_le_mul (p768 (by omega)) (fE4_le t))
            obtain ⟨M3, t1, t2⟩ := s_tellChance (LdW_of l3) cx.1 (r1.sc (fun a k q => s2.1 a k (Or.inl q))) wr hr e4 ht hn4 hp (by omega) (by omega)
            have s3 := s2.tr t2.sc
            have okp : okP kd t 4 = true := (ok_P 4).mpr (fun c hc h9 => by
              have a := (gg c hc).2.2 h9
              have b := hp c hc
              have c' := sO_le (t := t) (by omega) hc
              rw [b, t_nI (by omega)] at a
              omega)
            have pa := pt_alike (q := sn kd rr wy) cx.1 cx.2.1 cx.2.2.2.1 (t := t) (by omega)
            rw [if_pos okp] at pa
            have sa := sq.1
            have fe := fr_N (u := wC kd hd (sn kd rr wy) (sO t)) (l := SCn kd hd (sn kd rr wy) n) (u2 := PR kd hd (sn kd rr wy) (sO t) 4) (l2 := SRm kd hd (sn kd rr wy) n) (by omega) (by omega) (by omega) (by omega) (by omega) (by omega) (by
              generalize wC kd hd (sn kd rr wy) (sO t) = A at *
              generalize SCn kd hd (sn kd rr wy) n = B at *
              generalize PR kd hd (sn kd rr wy) (sO t) 4 = C at *
              generalize SRm kd hd (sn kd rr wy) n = D at *
              generalize PH kd hd 4 = P at *
              have e1 : A * (24 * D) = A * (P * B) := by rw [sa]
              have e2 : B * (24 * C) = B * (P * A) := by rw [pa]
              have : 24 * (A * D) = 24 * (C * B) := by grind
              exact Nat.eq_of_mul_eq_mul_left (by omega) this)
            generalize hU : frU (lN (wC kd hd (sn kd rr wy) (sO t))) (lN (SCn kd hd (sn kd rr wy) n)) = U at *
            generalize hL : frL (lN (wC kd hd (sn kd rr wy) (sO t))) (lN (SCn kd hd (sn kd rr wy) n)) = L at *
            have na : NetR kd rr hd rm cm wy (sJ (sJ M3 7 0 U) 7 1 L) := n2.sc (fun a k q => s3.1 a k (Or.inr q))
            have ra : RowR sz pl (sJ (sJ M3 7 0 U) 7 1 L) := r2.sc (fun a k q => s3.1 a k (Or.inr q))
            obtain ⟨Mv, v1, v2, v3⟩ := s_setVisits na w cl
            have nv : NetR kd rr hd rm cm wy Mv := na.sc (fun a k q => v2.1 a k (Or.inr q))
            have ldr := LdR_of nv v3
            obtain ⟨M5, f1, f2⟩ := s_sumR ldr cx hn4
            have s5 := v2.tr f2.sc
            obtain ⟨M6, g1, g2⟩ := s_chW (n := n) (LdR_SR ldr f2) cx.2.2.1 cx.1 (ra.sc (fun a k q => s5.1 a k (Or.inr q))) hr e4 (show tot t ≤ 4 by omega) hp (B := SRm kd hd (sn kd rr wy) n) (by omega) (by omega)
            rw [← fe.1, ← fe.2] at g1
            have chl := s_chl na ra wr hr e4
            rw [if_pos good, hn, v1, bd_s, f1, bd_s] at chl
            have k1 : (1 : Int32) ≤ nI n := by rw [i_le, t_nI (by omega), li_1]; omega
            refine ⟨nI n, sJ (sJ M3 7 0 U) 7 1 L, sJ (sJ M6 1 3 U) 1 4 L, ?_, ?_, inv_frac h s3 (s5.tr g2.sc)⟩
            · unfold f_X8_chance
              simp only [rX, nm_q, bd_s, show ¬ ((1 : Int32) = 0) by decide, if_false, fld_0_1, fld_0_0, fld_0_2, fld_0_5, elm_2, e1, nI_cl (show r < 2 ^ 31 by omega), ck_k hr (show 6 < 1000 by omega), s_rowThere r1' wr hr, if_neg er, (r1' r hr).1, k4, if_pos e4, thg, if_pos k1, l1, t1]
            · unfold f_X9_chance
              simp only [rR, nm_q, bd_s, show ¬ ((1 : Int32) = 0) by decide, if_false, clR _ na, nI_cl (show r < 2 ^ 31 by omega), ck_k hr (show 6 < 1000 by omega), fld_1_5, (ra r hr).1, if_neg er, s0, if_true, k4, if_pos e4]
              exact chl.trans g1
          · have na := nr_RF (f := 3) n2'
            have ra := rr_RF (f := 3) r2'
            have chl := s_chl na ra wr hr e4
            rw [if_neg good] at chl
            refine ⟨-3, RF M1 3, RM (RF M1 3) 3, ?_, ?_, inv_ref h (by omega) (by omega) e2 (Sc.rf _)⟩
            · have k1 : ¬ (1 : Int32) ≤ (if AF (okA kd (fun c => (pl r c).toInt)) 4 0 = true ∧ sm (fun c => (pl r c).toInt) 4 ≤ 4 then nI (sm (fun c => (pl r c).toInt) 4).toNat else 0) := by
                by_cases y : AF (okA kd (fun c => (pl r c).toInt)) 4 0 = true ∧ sm (fun c => (pl r c).toInt) 4 ≤ 4
                · have y2 : ¬ 1 ≤ sm (fun c => (pl r c).toInt) 4 := fun hz => good (ok_AG.mpr ⟨y, hz⟩)
                  rw [if_pos y, i_le, t_nI (by omega), li_1]
                  omega
                · rw [if_neg y]; decide
              unfold f_X8_chance
              simp only [rX, nm_q, bd_s, show ¬ ((1 : Int32) = 0) by decide, if_false, fld_0_1, fld_0_0, fld_0_2, fld_0_5, elm_2, e1, nI_cl (show r < 2 ^ 31 by omega), ck_k hr (show 6 < 1000 by omega), s_rowThere r1' wr hr, if_neg er, (r1' r hr).1, k4, if_pos e4, thg, if_neg k1, s_ref3]
            · unfold f_X9_chance
              simp only [rR, nm_q, bd_s, show ¬ ((1 : Int32) = 0) by decide, if_false, clR _ na, nI_cl (show r < 2 ^ 31 by omega), ck_k hr (show 6 < 1000 by omega), fld_1_5, (ra r hr).1, if_neg er, s0, if_true, k4, if_pos e4]
              exact chl
        · refine ⟨-3, RF M1 5, RM (RF M1 5) 5, ?_, ?_, inv_ref h (by omega) (by omega) e2 (Sc.rf _)⟩
          · unfold f_X8_chance
            simp only [rX, nm_q, bd_s, show ¬ ((1 : Int32) = 0) by decide, if_false, fld_0_1, fld_0_0, elm_2, e1, nI_cl (show r < 2 ^ 31 by omega), ck_k hr (show 6 < 1000 by omega), s_rowThere r1' wr hr, if_neg er, (r1' r hr).1, k4, if_neg e4, s_ref5]
          · have q := rr_RF (f := 5) r2'
            unfold f_X9_chance
            simp only [rR, nm_q, bd_s, show ¬ ((1 : Int32) = 0) by decide, if_false, clR _ (nr_RF n2'), nI_cl (show r < 2 ^ 31 by omega), ck_k hr (show 6 < 1000 by omega), fld_1_5, (q r hr).1, if_neg er, s0, if_true, k4, if_neg e4, s_met5]
    · rw [if_neg z] at e1
      have na : NetR kd rr hd rm cm wy M1 := n2.sc (fun a k q => e2.1 a k (Or.inr q))
      have e4 := s_closedR na w
      rw [if_neg z] at e4
      refine ⟨-4, M1, M1, ?_, ?_, h.sc e2⟩
      · unfold f_X8_chance
        simp only [rX, nm_q, bd_s, show ¬ ((1 : Int32) = 0) by decide, if_false, fld_0_1, e1, if_true]
      · unfold f_X9_chance
        simp only [rR, nm_q, bd_s, show ¬ ((1 : Int32) = 0) by decide, if_false, e4, if_true]
  · refine ⟨-1, M, M, ?_, ?_, h⟩
    · unfold f_X8_chance
      simp only [s_isRowNumber, nm_q, bd_s, if_neg hx, if_true]
    · unfold f_X9_chance
      simp only [s_isRow, nm_q, bd_s, if_neg hx, if_true]

/-! the states of so many things, as numbers of four digits; the class's order -/
def sO (t c : Nat) : Nat := if c = 0 then t % 5 else if c = 1 then t / 5 % 5 else if c = 2 then t / 25 % 5 else t / 125
def tot (t : Nat) : Nat := t % 5 + t / 5 % 5 + t / 25 % 5 + t / 125
theorem sO_0 (t : Nat) : sO t 0 = t % 5 := rfl
theorem sO_1 (t : Nat) : sO t 1 = t / 5 % 5 := rfl
theorem sO_2 (t : Nat) : sO t 2 = t / 25 % 5 := rfl
theorem sO_3 (t : Nat) : sO t 3 = t / 125 := rfl
theorem c4 {c : Nat} (h : c < 4) : c = 0 ∨ c = 1 ∨ c = 2 ∨ c = 3 := by omega
theorem sO_le {t : Nat} (h : tot t ≤ 4) {c : Nat} (hc : c < 4) : sO t c ≤ 4 := by
  unfold tot at h
  rcases c4 hc with rfl | rfl | rfl | rfl
  · rw [sO_0]; omega
  · rw [sO_1]; omega
  · rw [sO_2]; omega
  · rw [sO_3]; omega
def nx (t : Nat) : Option Nat := if t / 25 % 5 ≠ 0 then some (t + 100) else if t / 5 % 5 ≠ 0 then some (t - 5 + 25 * (t / 125 + 1) - 125 * (t / 125)) else if t % 5 ≠ 0 then some (t - 1 + 5 * (t / 125 + 1) - 125 * (t / 125)) else none
def oL (o : Option Nat) (f : Nat → List Nat) : List Nat := match o with
  | none => []
  | some t => f t
def en : Nat → Nat → List Nat
  | 0, _ => []
  | k + 1, t => t :: oL (nx t) (en k)
def slN (F : Nat → Nat) : List Nat → Nat
  | [] => 0
  | t :: l => F t + slN F l
/-- only the class's state cells differ -/
def St (M M1 : Mm) : Prop := (∀ a k, a ≠ 83 → mI M1 a k = mI M a k) ∧ M1.2 = M.2
theorem St.rf (M : Mm) : St M M := ⟨fun _ _ _ => rfl, rfl⟩
theorem St.tr {M M1 M2 : Mm} (h : St M M1) (g : St M1 M2) : St M M2 := ⟨fun a k p => (g.1 a k p).trans (h.1 a k p), g.2.trans h.2⟩
theorem St.i {M M1 : Mm} (h : St M M1) (k : Nat) (v : Int32) : St M (sI M1 83 k v) := ⟨fun a j p => by rw [mI_sI, if_neg (by omega)]; exact h.1 a j p, h.2⟩
theorem St.sc {M M1 : Mm} (h : St M M1) : Sc M M1 := ⟨fun a k p => h.1 a k (by unfold pX pR at p; omega), fun k => by show M1.2 7 k = _; rw [h.2]; rfl, fun k _ => by show M1.2 1 k = _; rw [h.2]; rfl⟩
theorem LdW_St {kd hd q : Nf} {M M1 : Mm} (h : LdW kd hd q M) (s : St M M1) : LdW kd hd q M1 := fun c hc => by
  have := h c hc
  refine ⟨by rw [s.1 _ _ (by omega)]; exact this.1, by rw [s.1 _ _ (by omega)]; exact this.2.1, ?_⟩
  show M1.2 77 c = _
  rw [s.2]; exact this.2.2
theorem nx_0 {t : Nat} (h : nx t = none) : t / 25 % 5 = 0 ∧ t / 5 % 5 = 0 ∧ t % 5 = 0 := by
  unfold nx at h
  by_cases a : t / 25 % 5 ≠ 0
  · rw [if_pos a] at h; exact absurd h (by simp)
  · rw [if_neg a] at h
    by_cases b : t / 5 % 5 ≠ 0
    · rw [if_pos b] at h; exact absurd h (by simp)
    · rw [if_neg b] at h
      by_cases c : t % 5 ≠ 0
      · rw [if_pos c] at h; exact absurd h (by simp)
      · omega
theorem nxD : ∀ t, t < 625 → tot t ≤ 4 → ((nx t).getD 0 < 625 ∧ (nx t = none ∨ tot ((nx t).getD 0) = tot t)) := by decide +kernel
theorem nxA : ∀ t, t < 625 → tot t ≤ 4 → t / 25 % 5 ≠ 0 → sO t 0 = sO (t + 100) 0 ∧ sO t 1 = sO (t + 100) 1 ∧ sO t 2 - 1 = sO (t + 100) 2 ∧ t / 125 + 1 = sO (t + 100) 3 := by decide +kernel
def nB (t : Nat) : Nat := t - 5 + 25 * (t / 125 + 1) - 125 * (t / 125)
def nC (t : Nat) : Nat := t - 1 + 5 * (t / 125 + 1) - 125 * (t / 125)
theorem nxB0 : ∀ t, t < 625 → (tot t ≤ 4 ∧ t / 25 % 5 = 0 ∧ t / 5 % 5 ≠ 0) → (sO t 0 = sO (nB t) 0 ∧ sO t 1 - 1 = sO (nB t) 1 ∧ t / 125 + 1 = sO (nB t) 2 ∧ 0 = sO (nB t) 3) := by decide +kernel
theorem nxC0 : ∀ t, t < 625 → (tot t ≤ 4 ∧ t / 25 % 5 = 0 ∧ t / 5 % 5 = 0 ∧ t % 5 ≠ 0) → (sO t 0 - 1 = sO (nC t) 0 ∧ t / 125 + 1 = sO (nC t) 1 ∧ sO t 2 = sO (nC t) 2 ∧ 0 = sO (nC t) 3) := by decide +kernel
theorem nx_ok {t t' : Nat} (h : nx t = some t') (ht : t < 625) (h4 : tot t ≤ 4) : t' < 625 ∧ tot t' = tot t := by
  have q := nxD t ht h4
  rw [h] at q
  refine ⟨q.1, ?_⟩
  rcases q.2 with hz | hz
  · exact absurd hz (by simp)
  · exact hz
theorem n_dec {k : Nat} (h : 1 ≤ k) : nI k - 1 = nI (k - 1) := by rw [show (1 : Int32) = nI 1 from rfl, pk_sub (by omega)]
theorem s_next5 {M : Mm} {t : Nat} (ht : t < 625) (h4 : tot t ≤ 4) (hm : ∀ c, c < 4 → mI M 83 c = nI (sO t c)) : (nx t = none → f_X5_nextState 5 M = some (0, M)) ∧ ∀ t', nx t = some t' → ∃ M', f_X5_nextState 5 M = some (1, M') ∧ (∀ c, c < 4 → mI M' 83 c = nI (sO t' c)) ∧ St M M' := by
  have m0 : mI M 83 0 = nI (t % 5) := hm 0 (by omega)
  have m1 : mI M 83 1 = nI (t / 5 % 5) := hm 1 (by omega)
  have m2 : mI M 83 2 = nI (t / 25 % 5) := hm 2 (by omega)
  have m3 : mI M 83 3 = nI (t / 125) := hm 3 (by omega)
  have z : ∀ x : Nat, x < 1000 → (nI x ≤ 0 ↔ x = 0) := fun x hx => by rw [i_le, t_nI (by omega), li_0]; omega
  have st : ∀ (c m : Nat), c < 3 → f_X5_nextState_b6 5 (m + 1) 3 (nI c) M = if nI (sO t c) ≤ 0 then f_X5_nextState_b6 5 m 3 (nI c + (-1)) M else some (1, sI (sI (sI M 83 3 0) 83 c (nI (sO t c) - 1)) 83 (c + 1) (nI (t / 125 + 1))) := by
    intro c m hc
    rw [f_X5_nextState_b6_s]
    unfold f_X5_nextState_b6B
    rw [if_neg (by rw [i_lt, t_nI (by omega), li_0]; omega)]
    have r8 : mI (sI M 83 3 0) 83 c = nI (sO t c) := by rw [mI_sI, if_neg (by omega)]; exact hm c (by omega)
    simp only [ck_k (show c < 4 by omega) (show 4 < 1000 by omega), nI_cl (show c < 2 ^ 31 by omega), show ck 3 4 = ck (nI 3) 4 from rfl, show Int32.toNatClampNeg 3 = 3 from rfl, fld_5_6, hm c (by omega), m3, nI_1, r8, ck_k (show c + 1 < 4 by omega) (show 4 < 1000 by omega), nI_cl (show c + 1 < 2 ^ 31 by omega), nm_q, bd_s]
    by_cases y : nI (sO t c) ≤ 0
    · rw [if_pos y, if_pos y]
    · rw [if_neg y, if_neg y]; rfl
  have d2 : nI 2 + (-1) = nI 1 := by decide
  have d1 : nI 1 + (-1) = nI 0 := by decide
  have s2 : nI (sO t 2) ≤ 0 ↔ t / 25 % 5 = 0 := z (t / 25 % 5) (by omega)
  have s1 : nI (sO t 1) ≤ 0 ↔ t / 5 % 5 = 0 := z (t / 5 % 5) (by omega)
  have s0 : nI (sO t 0) ≤ 0 ↔ t % 5 = 0 := z (t % 5) (by omega)
  have fn : ∀ c, c < 3 → ∀ t', (∀ k, k < 4 → (if k = c + 1 then t / 125 + 1 else if k = c then sO t c - 1 else if k = 3 then 0 else sO t k) = sO t' k) → 1 ≤ sO t c → (∀ k, k < 4 → mI (sI (sI (sI M 83 3 0) 83 c (nI (sO t c) - 1)) 83 (c + 1) (nI (t / 125 + 1))) 83 k = nI (sO t' k)) ∧ St M (sI (sI (sI M 83 3 0) 83 c (nI (sO t c) - 1)) 83 (c + 1) (nI (t / 125 + 1))) := by
    intro c hc t' ht' h1
    refine ⟨fun k hk => ?_, (((St.rf M).i _ _).i _ _).i _ _⟩
    rw [← ht' k hk, mI_sI, mI_sI, mI_sI, n_dec h1]
    by_cases e1 : k = c + 1
    · rw [if_pos ⟨rfl, e1⟩, if_pos e1]
    · rw [if_neg (by omega), if_neg e1]
      by_cases e2 : k = c
      · rw [if_pos ⟨rfl, e2⟩, if_pos e2]
      · rw [if_neg (by omega), if_neg e2]
        by_cases e3 : k = 3
        · rw [if_pos ⟨rfl, e3⟩, if_pos e3]; rfl
        · rw [if_neg (by omega), if_neg e3]; exact hm k hk
  have go : f_X5_nextState 5 M = f_X5_nextState_b6 5 (996 + 1 + 1 + 1 + 1) 3 (nI 2) M := rfl
  refine ⟨fun h => ?_, fun t' h => ?_⟩
  · have q := nx_0 h
    rw [go, st 2 _ (by omega), if_pos (s2.mpr q.1), d2, st 1 _ (by omega), if_pos (s1.mpr q.2.1), d1, st 0 _ (by omega), if_pos (s0.mpr q.2.2), f_X5_nextState_b6_s]
    unfold f_X5_nextState_b6B
    rw [if_pos (by decide)]
  · unfold nx at h
    by_cases a : t / 25 % 5 ≠ 0
    · rw [if_pos a] at h
      have e := Option.some.inj h
      have dg := nxA t ht h4 a
      rw [e] at dg
      have := fn 2 (by omega) t' (fun k hk => by
        rcases c4 hk with rfl | rfl | rfl | rfl
        · exact dg.1
        · exact dg.2.1
        · exact dg.2.2.1
        · exact dg.2.2.2) (by rw [sO_2]; omega)
      refine ⟨_, ?_, this.1, this.2⟩
      rw [go, st 2 _ (by omega), if_neg (fun y => a (s2.mp y))]
    · rw [if_neg a] at h
      have a' : t / 25 % 5 = 0 := by omega
      by_cases b : t / 5 % 5 ≠ 0
      · rw [if_pos b] at h
        have e := Option.some.inj h
        have dg := nxB0 t ht ⟨h4, a', b⟩
        rw [show nB t = t' from e] at dg
        have := fn 1 (by omega) t' (fun k hk => by
          rcases c4 hk with rfl | rfl | rfl | rfl
          · exact dg.1
          · exact dg.2.1
          · exact dg.2.2.1
          · exact dg.2.2.2) (by rw [sO_1]; omega)
        refine ⟨_, ?_, this.1, this.2⟩
        rw [go, st 2 _ (by omega), if_pos (s2.mpr a'), d2, st 1 _ (by omega), if_neg (fun y => b (s1.mp y))]
      · rw [if_neg b] at h
        have b' : t / 5 % 5 = 0 := by omega
        by_cases c : t % 5 ≠ 0
        · rw [if_pos c] at h
          have e := Option.some.inj h
          have dg := nxC0 t ht ⟨h4, a', b', c⟩
          rw [show nC t = t' from e] at dg
          have := fn 0 (by omega) t' (fun k hk => by
            rcases c4 hk with rfl | rfl | rfl | rfl
            · exact dg.1
            · exact dg.2.1
            · exact dg.2.2.1
            · exact dg.2.2.2) (by rw [sO_0]; omega)
          refine ⟨_, ?_, this.1, this.2⟩
          rw [go, st 2 _ (by omega), if_pos (s2.mpr a'), d2, st 1 _ (by omega), if_pos (s1.mpr b'), d1, st 0 _ (by omega), if_neg (fun y => c (s0.mp y))]
        · rw [if_neg c] at h; exact absurd h (by simp)
theorem s_begin {M : Mm} {n : Nat} (hn : n ≤ 4) : ∃ M', f_X5_beginStates 5 (nI n) M = some M' ∧ (∀ c, c < 4 → mI M' 83 c = nI (sO n c)) ∧ St M M' := by
  have lp : ∀ (b i m : Nat) (Mj : Mm), i + b = 4 → b < m → St M Mj → (∀ c, c < i → mI Mj 83 c = 0) → ∃ M', f_X5_beginStates_b2 5 m (nI n) (nI i) Mj = some M' ∧ (∀ c, c < 4 → mI M' 83 c = nI (sO n c)) ∧ St M M' := by
    intro b
    induction b with
    | zero =>
      intro i m Mj h1 h2 hS hz
      obtain ⟨m, rfl⟩ : ∃ j, m = j + 1 := ⟨m - 1, by omega⟩
      refine ⟨sI Mj 83 0 (nI n), ?_, fun c hc => ?_, hS.i _ _⟩
      · rw [f_X5_beginStates_b2_s]
        unfold f_X5_beginStates_b2B
        rw [if_pos (by rw [i_le, t_nI (by omega), li_4]; omega)]
        rfl
      · rw [mI_sI]
        rcases c4 hc with rfl | rfl | rfl | rfl
        · rw [if_pos ⟨rfl, rfl⟩, sO_0, show n % 5 = n by omega]
        · rw [if_neg (by omega), hz 1 (by omega), sO_1, show n / 5 % 5 = 0 by omega]; rfl
        · rw [if_neg (by omega), hz 2 (by omega), sO_2, show n / 25 % 5 = 0 by omega]; rfl
        · rw [if_neg (by omega), hz 3 (by omega), sO_3, show n / 125 = 0 by omega]; rfl
    | succ b ih =>
      intro i m Mj h1 h2 hS hz
      obtain ⟨m, rfl⟩ : ∃ j, m = j + 1 := ⟨m - 1, by omega⟩
      rw [f_X5_beginStates_b2_s]
      unfold f_X5_beginStates_b2B
      rw [if_neg (by rw [i_le, t_nI (by omega), li_4]; omega)]
      simp only [ck_k (show i < 4 by omega) (show 4 < 1000 by omega), nI_cl (show i < 2 ^ 31 by omega), fld_5_6, nm_q, bd_s, nI_1]
      refine ih (i + 1) m _ (by omega) (by omega) (hS.i _ _) (fun c hc => ?_)
      rw [mI_sI]
      by_cases e : c = i
      · rw [if_pos ⟨rfl, e⟩]
      · rw [if_neg (by omega)]; exact hz c (by omega)
  exact lp 4 0 fuel M (by omega) (by show 4 < 1000; omega) (St.rf M) (fun c hc => by omega)
theorem tot_n {n : Nat} (hn : n ≤ 4) : tot n = n := by unfold tot; omega
theorem s_wAll {M : Mm} {kd hd q : Nf} (h : LdW kd hd q M) (o : okKH kd hd) {n : Nat} (hn : n ≤ 4) : ∃ M', f_X5_weightOfAll 5 (nI n) M = some (lN (slN (fun t => wC kd hd q (sO t)) (en 35 n)), M') ∧ St M M' := by
  have lp : ∀ (k t m a : Nat) (Mj : Mm), k ≤ 35 → k + 1 < m → t < 625 → tot t ≤ 4 → St M Mj → (∀ c, c < 4 → mI Mj 83 c = nI (sO t c)) → ∃ M', f_X5_weightOfAll_b13 5 m (lN a) 1 (nI (35 - k)) Mj = some (lN (a + slN (fun t => wC kd hd q (sO t)) (en k t)), M') ∧ St M M' := by
    intro k
    induction k with
    | zero =>
      intro t m a Mj k1 k2 t1 t2 hS hm
      obtain ⟨m, rfl⟩ : ∃ j, m = j + 1 := ⟨m - 1, by omega⟩
      refine ⟨Mj, ?_, hS⟩
      rw [f_X5_weightOfAll_b13_s]
      unfold f_X5_weightOfAll_b13B
      rw [if_neg (by decide), if_pos (by decide)]
      rfl
    | succ k ih =>
      intro t m a Mj k1 k2 t1 t2 hS hm
      obtain ⟨m, rfl⟩ : ∃ j, m = j + 1 := ⟨m - 1, by omega⟩
      have sw := s_weight (LdW_St h hS) o (fun c hc => sO_le t2 hc) hm
      have ns := s_next5 t1 t2 hm
      rw [f_X5_weightOfAll_b13_s]
      unfold f_X5_weightOfAll_b13B
      rw [if_neg (by decide), if_neg (by rw [i_le, t_nI (by omega), show (35 : Int32).toInt = 35 from rfl]; omega), sw, bd_s, nm_q, lN_add]
      show ∃ M', _ = some (lN (a + (wC kd hd q (sO t) + slN (fun t => wC kd hd q (sO t)) (oL (nx t) (en k)))), M') ∧ St M M'
      rw [← Nat.add_assoc]
      cases hx : nx t with
      | none =>
        rw [ns.1 hx, bd_s, nm_q, nI_1]
        obtain ⟨m, rfl⟩ : ∃ j, m = j + 1 := ⟨m - 1, by omega⟩
        refine ⟨Mj, ?_, hS⟩
        rw [f_X5_weightOfAll_b13_s]
        unfold f_X5_weightOfAll_b13B
        rw [if_pos rfl]
        rfl
      | some t' =>
        obtain ⟨M2, n1, n2, n3⟩ := ns.2 t' hx
        have q := nx_ok hx t1 t2
        rw [n1, bd_s, nm_q, nI_1, show 35 - (k + 1) + 1 = 35 - k by omega]
        exact ih t' m _ M2 (by omega) (by omega) q.1 (by omega) (hS.tr n3) n2
  obtain ⟨M1, b1, b2, b3⟩ := s_begin (M := M) hn
  unfold f_X5_weightOfAll
  rw [b1, bd_s]
  have := lp 35 n fuel 0 M1 (by omega) (by show 36 < 1000; omega) (by omega) (by rw [tot_n hn]; exact hn) b3 b2
  rw [Nat.zero_add] at this
  exact this

/-! best -/
def h2 (hd : Nf) (f c : Nat) : Nat := if c = f then 2 else hd c
def btF (kd hd : Nf) (ab : Nat → Nat → Bool) : Nat → Nat → Nat → Nat
  | 0, _, f => f
  | k + 1, c, f => if kd c = 0 ∧ hd c = 1 then (if f = 9 then btF kd hd ab k (c + 1) c else if ab c f = true then btF kd hd ab k (c + 1) c else btF kd hd ab k (c + 1) f) else btF kd hd ab k (c + 1) f
def bOk (kd hd : Nf) (f : Nat) : Prop := f = 9 ∨ (f < 4 ∧ kd f = 0 ∧ hd f = 1)
theorem btF_ok {kd hd : Nf} {ab : Nat → Nat → Bool} : ∀ k c f, c + k = 4 → bOk kd hd f → bOk kd hd (btF kd hd ab k c f)
  | 0, _, _, _, hf => hf
  | k + 1, c, f, hc, hf => by
    unfold btF
    by_cases a : kd c = 0 ∧ hd c = 1
    · have hcc : bOk kd hd c := Or.inr ⟨by omega, a.1, a.2⟩
      rw [if_pos a]
      split
      · exact btF_ok k (c + 1) c (by omega) hcc
      · split
        · exact btF_ok k (c + 1) c (by omega) hcc
        · exact btF_ok k (c + 1) f (by omega) hf
    · rw [if_neg a]; exact btF_ok k (c + 1) f (by omega) hf
theorem btF_cg {kd hd : Nf} {ab ab' : Nat → Nat → Bool} (h : ∀ c f, c < 4 → kd c = 0 → hd c = 1 → f < 4 → kd f = 0 → hd f = 1 → ab c f = ab' c f) : ∀ k c f, c + k = 4 → bOk kd hd f → btF kd hd ab k c f = btF kd hd ab' k c f
  | 0, _, _, _, _ => rfl
  | k + 1, c, f, hc, hf => by
    unfold btF
    by_cases a : kd c = 0 ∧ hd c = 1
    · have hcc : bOk kd hd c := Or.inr ⟨by omega, a.1, a.2⟩
      rw [if_pos a, if_pos a]
      by_cases b : f = 9
      · rw [if_pos b, if_pos b]; exact btF_cg h k (c + 1) c (by omega) hcc
      · have hf' := hf.resolve_left b
        rw [if_neg b, if_neg b, h c f (by omega) a.1 a.2 hf'.1 hf'.2.1 hf'.2.2]
        split
        · exact btF_cg h k (c + 1) c (by omega) hcc
        · exact btF_cg h k (c + 1) f (by omega) hf
    · rw [if_neg a, if_neg a]; exact btF_cg h k (c + 1) f (by omega) hf
theorem cx_h2 {kd rr hd q : Nf} (x : CxN kd rr hd q) {f : Nat} (hk : kd f = 0) : CxN kd rr (h2 hd f) q := by
  refine ⟨fun c hc => ⟨(x.1 c hc).1, ?_⟩, fun c hc => ?_, x.2.2.1, x.2.2.2⟩
  · unfold h2
    by_cases e : c = f
    · rw [if_pos e]; exact Or.inr rfl
    · rw [if_neg e]; exact (x.1 c hc).2
  · unfold h2
    by_cases e : c = f
    · rw [if_pos e]; exact Or.inr ⟨rfl, by rw [e]; exact hk⟩
    · rw [if_neg e]; exact x.2.1 c hc
def UC (kd hd q : Nf) (n f : Nat) : Nat := if f = 9 then 0 else SCn kd (h2 hd f) q (n - 1)
def LC (kd hd q : Nf) (n f : Nat) : Nat := if f = 9 then 1 else SCn kd (h2 hd f) q n
def VR (kd hd q : Nf) (v n f : Nat) : Nat := if f = 9 then 0 else v * 12 * SRm kd (h2 hd f) q (n - 1)
def LR (kd hd q : Nf) (n f : Nat) : Nat := if f = 9 then 1 else SRm kd (h2 hd f) q n
theorem LdW_2 {kd hd q : Nf} {M : Mm} (h : LdW kd hd q M) (f : Nat) : LdW kd (h2 hd f) q (sI M 76 f 2) := fun c hc => by
  have := h c hc
  refine ⟨by rw [mI_sI, if_neg (by omega)]; exact this.1, ?_, this.2.2⟩
  rw [mI_sI]
  unfold h2
  by_cases e : c = f
  · rw [if_pos ⟨rfl, e⟩, if_pos e]; rfl
  · rw [if_neg (fun hz => e hz.2), if_neg e]; exact this.2.1
theorem LdW_1 {kd hd q : Nf} {M : Mm} {f : Nat} (h : LdW kd (h2 hd f) q M) (hf : hd f = 1) : LdW kd hd q (sI M 76 f 1) := fun c hc => by
  have := h c hc
  refine ⟨by rw [mI_sI, if_neg (by omega)]; exact this.1, ?_, this.2.2⟩
  rw [mI_sI]
  by_cases e : c = f
  · rw [if_pos ⟨rfl, e⟩, e, hf]; rfl
  · rw [if_neg (fun hz => e hz.2), this.2.1]
    unfold h2
    rw [if_neg e]
def ftF (kd : Nf) : Nat → Nat → Nat
  | 0, _ => 0
  | k + 1, c => if kd c = 9 then ftF kd k (c + 1) else c
theorem ftF_ok {kd : Nf} : ∀ k c, c + k = 4 → (∃ x, c ≤ x ∧ x < 4 ∧ kd x ≠ 9) → ftF kd k c < 4 ∧ kd (ftF kd k c) ≠ 9
  | 0, c, h, hx => by obtain ⟨x, a, b, _⟩ := hx; omega
  | k + 1, c, h, hx => by
    unfold ftF
    by_cases e : kd c = 9
    · rw [if_pos e]
      obtain ⟨x, a, b, d⟩ := hx
      have : x ≠ c := fun hz => d (by rw [hz]; exact e)
      exact ftF_ok k (c + 1) (by omega) ⟨x, by omega, b, d⟩
    · rw [if_neg e]; exact ⟨by omega, e⟩
theorem s_first {M : Mm} {kd hd q : Nf} (h : LdW kd hd q M) (o : okKH kd hd) : f_X5_firstThere 5 M = some (nI (ftF kd 4 0), M) := by
  have lp : ∀ (b i m : Nat), i + b = 4 → b < m → f_X5_firstThere_b2 5 m (nI i) M = some (nI (ftF kd b i), M) := by
    intro b
    induction b with
    | zero =>
      intro i m h1 h2'
      obtain ⟨m, rfl⟩ : ∃ j, m = j + 1 := ⟨m - 1, by omega⟩
      rw [f_X5_firstThere_b2_s]
      unfold f_X5_firstThere_b2B ftF
      rw [if_pos (by rw [i_le, t_nI (by omega), li_4]; omega)]
      rfl
    | succ b ih =>
      intro i m h1 h2'
      obtain ⟨m, rfl⟩ : ∃ j, m = j + 1 := ⟨m - 1, by omega⟩
      have hi : i < 4 := by omega
      rw [f_X5_firstThere_b2_s]
      unfold f_X5_firstThere_b2B ftF
      rw [if_neg (by rw [i_le, t_nI (by omega), li_4]; omega)]
      simp only [ck_k hi (show 4 < 1000 by omega), nI_cl (show i < 2 ^ 31 by omega), fld_5_1, (h i hi).1, kd_m1 (o i hi).1, nm_q, bd_s, nI_1]
      by_cases e : kd i = 9
      · rw [if_pos e, if_pos e]; exact ih (i + 1) m (by omega) (by omega)
      · rw [if_neg e, if_neg e]
  exact lp 4 0 fuel (by omega) (by show 4 < 1000; omega)
def abC (kd hd q : Nf) (n c f : Nat) : Bool := decide (UC kd hd q n f * LC kd hd q n c < UC kd hd q n c * LC kd hd q n f)
def abR (kd hd q : Nf) (v n c f : Nat) : Bool := decide (VR kd hd q v n f * LR kd hd q n c < VR kd hd q v n c * LR kd hd q n f)
theorem ab_eq {kd rr hd q : Nf} (x : CxN kd rr hd q) {v n c f : Nat} (hv : 1 ≤ v) (hn1 : 1 ≤ n) (hn4 : n ≤ 4) (hc : c < 4) (hkc : kd c = 0) (hf : f < 4) (hkf : kd f = 0) : abC kd hd q n c f = abR kd hd q v n c f := by
  have xc := cx_h2 x hkc
  have xf := cx_h2 x hkf
  have a1 := (sums xc (n := n - 1) (by omega))
  have a2 := (sums xc (n := n) hn4)
  have b1 := (sums xf (n := n - 1) (by omega))
  have b2 := (sums xf (n := n) hn4)
  unfold abC abR UC LC VR LR
  rw [if_neg (show ¬ c = 9 by omega), if_neg (show ¬ c = 9 by omega), if_neg (show ¬ f = 9 by omega), if_neg (show ¬ f = 9 by omega), if_neg (show ¬ c = 9 by omega), if_neg (show ¬ c = 9 by omega), if_neg (show ¬ f = 9 by omega), if_neg (show ¬ f = 9 by omega)]
  generalize SCn kd (h2 hd c) q (n - 1) = A1 at *
  generalize SCn kd (h2 hd c) q n = A at *
  generalize SCn kd (h2 hd f) q (n - 1) = B1 at *
  generalize SCn kd (h2 hd f) q n = B at *
  generalize SRm kd (h2 hd c) q (n - 1) = C1 at *
  generalize SRm kd (h2 hd c) q n = C at *
  generalize SRm kd (h2 hd f) q (n - 1) = D1 at *
  generalize SRm kd (h2 hd f) q n = D at *
  generalize PH kd (h2 hd c) 4 = P at *
  generalize PH kd (h2 hd f) 4 = Q at *
  have p0 : 0 < P := by
    rcases Nat.eq_zero_or_pos P with hz | hz
    · have := a2.1; rw [hz, Nat.zero_mul] at this; omega
    · exact hz
  have q0 : 0 < Q := by
    rcases Nat.eq_zero_or_pos Q with hz | hz
    · have := b2.1; rw [hz, Nat.zero_mul] at this; omega
    · exact hz
  have e1 : 576 * (D1 * C) = P * Q * (B1 * A) := by
    have : (24 * D1) * (24 * C) = (Q * B1) * (P * A) := by rw [b1.1, a2.1]
    grind
  have e2 : 576 * (C1 * D) = P * Q * (A1 * B) := by
    have : (24 * C1) * (24 * D) = (P * A1) * (Q * B) := by rw [a1.1, b2.1]
    grind
  have pq : 0 < P * Q := Nat.mul_pos p0 q0
  have v12 : 0 < v * 12 := by omega
  apply decide_eq_decide.mpr
  have r1 : v * 12 * D1 * C = v * 12 * (D1 * C) := Nat.mul_assoc _ _ _
  have r2 : v * 12 * C1 * D = v * 12 * (C1 * D) := Nat.mul_assoc _ _ _
  rw [r1, r2]
  constructor
  · intro hz
    have h1 : P * Q * (B1 * A) < P * Q * (A1 * B) := Nat.mul_lt_mul_of_pos_left hz pq
    rw [← e1, ← e2] at h1
    exact Nat.mul_lt_mul_of_pos_left (by omega) v12
  · intro hz
    have h1 : D1 * C < C1 * D := Nat.lt_of_mul_lt_mul_left hz
    have h2' : P * Q * (B1 * A) < P * Q * (A1 * B) := by rw [← e1, ← e2]; omega
    exact Nat.lt_of_mul_lt_mul_left h2'
theorem s_bestX {M : Mm} {kd rr hd q : Nf} (x : CxN kd rr hd q) {n : Nat} (hn1 : 1 ≤ n) (hn4 : n ≤ 4) : ∀ (b i m f : Nat) (Mj : Mm), i + b = 4 → b < m → bOk kd hd f → Sc M Mj → Mj.2 = M.2 → LdW kd hd q Mj → ∃ M', f_X5_tellBest_b12 5 m (nI n) 7 (enc f) (lN (UC kd hd q n f)) (lN (LC kd hd q n f)) (nI i) Mj = f_X5_tellBest_b12 5 1 (nI n) 7 (enc (btF kd hd (abC kd hd q n) b i f)) (lN (UC kd hd q n (btF kd hd (abC kd hd q n) b i f))) (lN (LC kd hd q n (btF kd hd (abC kd hd q n) b i f))) (nI 4) M' ∧ Sc M M' ∧ M'.2 = M.2 ∧ LdW kd hd q M' := by
  intro b
  induction b with
  | zero =>
    intro i m f Mj h1 h2' hf hS hJ hL
    obtain ⟨m, rfl⟩ : ∃ j, m = j + 1 := ⟨m - 1, by omega⟩
    have e : i = 4 := by omega
    subst e
    refine ⟨Mj, ?_, hS, hJ, hL⟩
    show _ = f_X5_tellBest_b12 5 (0 + 1) (nI n) 7 (enc f) (lN (UC kd hd q n f)) (lN (LC kd hd q n f)) (nI 4) Mj
    rw [f_X5_tellBest_b12_s, f_X5_tellBest_b12_s]
    unfold f_X5_tellBest_b12B
    rw [if_pos (show (4 : Int32) ≤ nI 4 by decide), if_pos (show (4 : Int32) ≤ nI 4 by decide)]
  | succ b ih =>
    intro i m f Mj h1 h2' hf hS hJ hL
    obtain ⟨m, rfl⟩ : ∃ j, m = j + 1 := ⟨m - 1, by omega⟩
    have hi : i < 4 := by omega
    have ok := x.1 i hi
    have k0 : (if kd i = 9 then (-1 : Int32) else nI (kd i)) = 0 ↔ kd i = 0 := kd_eq (j := 0) ok.1 (by omega)
    have kh : nI (hd i) = 1 ↔ hd i = 1 := by rw [show (1 : Int32) = nI 1 from rfl, n_inj (by omega) (by omega)]
    rw [f_X5_tellBest_b12_s]
    unfold f_X5_tellBest_b12B f_X5_tellBest_b94
    rw [if_neg (by rw [i_le, t_nI (by omega), li_4]; omega)]
    simp only [ck_k hi (show 4 < 1000 by omega), nI_cl (show i < 2 ^ 31 by omega), fld_5_1, fld_5_3, (hL i hi).1, (hL i hi).2.1, k0, kh, n_dec hn1, nm_q, bd_s, nI_1]
    rw [show btF kd hd (abC kd hd q n) (b + 1) i f = (if kd i = 0 ∧ hd i = 1 then (if f = 9 then btF kd hd (abC kd hd q n) b (i + 1) i else if abC kd hd q n i f = true then btF kd hd (abC kd hd q n) b (i + 1) i else btF kd hd (abC kd hd q n) b (i + 1) f) else btF kd hd (abC kd hd q n) b (i + 1) f) from rfl]
    by_cases a0 : kd i = 0
    · rw [if_pos a0]
      by_cases a1 : hd i = 1
      · have hii : bOk kd hd i := Or.inr ⟨hi, a0, a1⟩
        have xi := cx_h2 x a0
        obtain ⟨M3, c1, c2⟩ := s_sumC (LdW_2 hL i) xi (n := n - 1) (by omega)
        obtain ⟨M4, d1, d2⟩ := s_sumC (LdW_St (LdW_2 hL i) c2) xi (n := n) hn4
        have St2 := c2.tr d2
        have hL4 := LdW_1 (LdW_St (LdW_2 hL i) St2) a1
        have hS4 : Sc M (sI M4 76 i 1) := ((hS.i (by unfold pX pR; omega)).tr St2.sc).i (by unfold pX pR; omega)
        have hJ4 : (sI M4 76 i 1).2 = M.2 := by show M4.2 = M.2; rw [St2.2]; exact hJ
        have s1 := sums xi (n := n - 1) (by omega)
        have s2 := sums xi (n := n) hn4
        have eU : UC kd hd q n i = SCn kd (h2 hd i) q (n - 1) := by unfold UC; rw [if_neg (by omega)]
        have eL : LC kd hd q n i = SCn kd (h2 hd i) q n := by unfold LC; rw [if_neg (by omega)]
        rw [if_pos a1, if_pos (show kd i = 0 ∧ hd i = 1 from ⟨a0, a1⟩), c1, bd_s]
        simp only [d1, nm_q, bd_s]
        have ihi := ih (i + 1) m i (sI M4 76 i 1) (by omega) (by omega) hii hS4 hJ4 hL4
        rw [show enc i = nI i by unfold enc; rw [if_neg (by omega)], eU, eL] at ihi
        by_cases f9 : f = 9
        · rw [if_pos (show enc f = -9 by unfold enc; rw [if_pos f9]), if_pos f9]
          exact ihi
        · have hf' := hf.resolve_left f9
          have xf := cx_h2 x hf'.2.1
          have t1 := sums xf (n := n - 1) (by omega)
          have t2 := sums xf (n := n) hn4
          have gU : UC kd hd q n f = SCn kd (h2 hd f) q (n - 1) := by unfold UC; rw [if_neg f9]
          have gL : LC kd hd q n f = SCn kd (h2 hd f) q n := by unfold LC; rw [if_neg f9]
          rw [if_neg (show ¬ enc f = -9 by unfold enc; rw [if_neg f9, i_eq, t_nI (by omega), li_m9]; omega), if_neg f9]
          rw [s_aboveX (sI M4 76 i 1) (a := SCn kd (h2 hd i) q (n - 1)) (b := SCn kd (h2 hd i) q n) (c := UC kd hd q n f) (d := LC kd hd q n f) (by omega) (by omega) (by omega) (by omega) (by omega) (by omega) (by omega) (by omega), bd_s]
          by_cases y : abC kd hd q n i f = true
          · have y' := y
            unfold abC at y'
            rw [decide_eq_true_eq, eU, eL] at y'
            rw [if_pos y]
            simp only [if_pos y', show ¬ ((1 : Int32) = 0) by decide, if_false]
            exact ihi
          · have y' := y
            unfold abC at y'
            rw [decide_eq_true_eq, eU, eL] at y'
            rw [if_neg y]
            simp only [if_neg y', if_true]
            exact ih (i + 1) m f (sI M4 76 i 1) (by omega) (by omega) hf hS4 hJ4 hL4
      · rw [if_neg a1, if_neg (show ¬ (kd i = 0 ∧ hd i = 1) from fun hz => a1 hz.2)]
        exact ih (i + 1) m f Mj (by omega) (by omega) hf hS hJ hL
    · rw [if_neg a0, if_neg (show ¬ (kd i = 0 ∧ hd i = 1) from fun hz => a0 hz.1)]
      exact ih (i + 1) m f Mj (by omega) (by omega) hf hS hJ hL
theorem LdR_2 {kd rr hd q : Nf} {M : Mm} (h : LdR kd rr hd q M) (f : Nat) : LdR kd rr (h2 hd f) q (sI M 91 f 2) := fun c hc => by
  have := h c hc
  refine ⟨by rw [mI_sI, if_neg (by omega)]; exact this.1, fun h9 => ?_⟩
  obtain ⟨a, b, d, v, e, g⟩ := this.2 h9
  refine ⟨by rw [mI_sI, if_neg (by omega)]; exact a, by rw [mI_sI, if_neg (by omega)]; exact b, ?_, v, e, g⟩
  rw [mI_sI]
  unfold h2
  by_cases y : c = f
  · rw [if_pos ⟨rfl, y⟩, if_pos y]; rfl
  · rw [if_neg (fun hz => y hz.2), if_neg y]; exact d
theorem LdR_1 {kd rr hd q : Nf} {M : Mm} {f : Nat} (h : LdR kd rr (h2 hd f) q M) (hf : hd f = 1) : LdR kd rr hd q (sI M 91 f 1) := fun c hc => by
  have := h c hc
  refine ⟨by rw [mI_sI, if_neg (by omega)]; exact this.1, fun h9 => ?_⟩
  obtain ⟨a, b, d, v, e, g⟩ := this.2 h9
  refine ⟨by rw [mI_sI, if_neg (by omega)]; exact a, by rw [mI_sI, if_neg (by omega)]; exact b, ?_, v, e, g⟩
  rw [mI_sI]
  by_cases y : c = f
  · rw [if_pos ⟨rfl, y⟩, y, hf]; rfl
  · rw [if_neg (fun hz => y hz.2), d]
    unfold h2
    rw [if_neg y]
theorem s_bestR {M : Mm} {kd rr hd q : Nf} (x : CxN kd rr hd q) {n F v : Nat} (hn1 : 1 ≤ n) (hn4 : n ≤ 4) (hF : F < 4) (hv1 : 1 ≤ v) (hv64 : v ≤ 64) (hvF : mJ M 98 F = lN v) : ∀ (b i m f : Nat) (Mj : Mm), i + b = 4 → b < m → bOk kd hd f → Sc M Mj → Mj.2 = M.2 → LdR kd rr hd q Mj → ∃ M', f_X9_best_b52 1 m (nI n) (nI F) (enc f) (lN (VR kd hd q v n f)) (lN (LR kd hd q n f)) (nI i) Mj = f_X9_best_b52 1 1 (nI n) (nI F) (enc (btF kd hd (abR kd hd q v n) b i f)) (lN (VR kd hd q v n (btF kd hd (abR kd hd q v n) b i f))) (lN (LR kd hd q n (btF kd hd (abR kd hd q v n) b i f))) (nI 4) M' ∧ Sc M M' := by
  have bnd : ∀ f, f < 4 → kd f = 0 → 1 ≤ v * 12 * SRm kd (h2 hd f) q (n - 1) ∧ v * 12 * SRm kd (h2 hd f) q (n - 1) < 2 ^ 63 ∧ 1 ≤ SRm kd (h2 hd f) q n ∧ SRm kd (h2 hd f) q n < 2 ^ 63 := by
    intro f hf hk
    have xf := cx_h2 x hk
    have t1 := sums xf (n := n - 1) (by omega)
    have t2 := sums xf (n := n) hn4
    have p0 : 768 ^ (n - 1) ≤ 452984832 := by
      have : 768 ^ (n - 1) ≤ 768 ^ 3 := Nat.pow_le_pow_right (by omega) (by omega)
      omega
    have u1 : v * 12 * SRm kd (h2 hd f) q (n - 1) ≤ 768 * (452984832 * 3538944) := Nat.mul_le_mul (by omega) (Nat.le_trans t1.2.2.1 (Nat.mul_le_mul p0 (Nat.le_refl _)))
    have u2 : SRm kd (h2 hd f) q n ≤ 347892350976 * 3538944 := Nat.le_trans t2.2.2.1 (Nat.mul_le_mul (p768 hn4) (Nat.le_refl _))
    have l1 : 1 * 1 ≤ v * 12 * SRm kd (h2 hd f) q (n - 1) := Nat.mul_le_mul (by omega) t1.2.1
    exact ⟨by omega, by omega, t2.2.1, by omega⟩
  intro b
  induction b with
  | zero =>
    intro i m f Mj h1 h2' hf hS hJ hL
    obtain ⟨m, rfl⟩ : ∃ j, m = j + 1 := ⟨m - 1, by omega⟩
    have e : i = 4 := by omega
    subst e
    refine ⟨Mj, ?_, hS⟩
    show _ = f_X9_best_b52 1 (0 + 1) (nI n) (nI F) (enc f) (lN (VR kd hd q v n f)) (lN (LR kd hd q n f)) (nI 4) Mj
    rw [f_X9_best_b52_s, f_X9_best_b52_s]
    unfold f_X9_best_b52B
    rw [if_pos (show (4 : Int32) ≤ nI 4 by decide), if_pos (show (4 : Int32) ≤ nI 4 by decide)]
  | succ b ih =>
    intro i m f Mj h1 h2' hf hS hJ hL
    obtain ⟨m, rfl⟩ : ∃ j, m = j + 1 := ⟨m - 1, by omega⟩
    have hi : i < 4 := by omega
    have ok := x.1 i hi
    rw [f_X9_best_b52_s]
    unfold f_X9_best_b52B f_X9_best_b154
    rw [if_neg (by rw [i_le, t_nI (by omega), li_4]; omega)]
    simp only [ck_k hi (show 4 < 1000 by omega), ck_k hF (show 4 < 1000 by omega), nI_cl (show i < 2 ^ 31 by omega), nI_cl (show F < 2 ^ 31 by omega), fld_1_8, fld_1_9, fld_1_11, fld_1_20, (hL i hi).1, n_dec hn1, nm_q, bd_s, nI_1]
    rw [show btF kd hd (abR kd hd q v n) (b + 1) i f = (if kd i = 0 ∧ hd i = 1 then (if f = 9 then btF kd hd (abR kd hd q v n) b (i + 1) i else if abR kd hd q v n i f = true then btF kd hd (abR kd hd q v n) b (i + 1) i else btF kd hd (abR kd hd q v n) b (i + 1) f) else btF kd hd (abR kd hd q v n) b (i + 1) f) from rfl]
    by_cases a9 : kd i = 9
    · rw [if_pos a9, if_pos (show (0 : Int32) = 0 from rfl), if_neg (show ¬ (kd i = 0 ∧ hd i = 1) from fun hz => by have := hz.1; omega)]
      exact ih (i + 1) m f Mj (by omega) (by omega) hf hS hJ hL
    · obtain ⟨hk, _, hh, _⟩ := (hL i hi).2 a9
      have k0 : nI (kd i) = 0 ↔ kd i = 0 := by rw [show (0 : Int32) = nI 0 from rfl, n_inj (by omega) (by omega)]
      have kh : nI (hd i) = 1 ↔ hd i = 1 := by rw [show (1 : Int32) = nI 1 from rfl, n_inj (by omega) (by omega)]
      rw [if_neg a9, if_neg (show ¬ (1 : Int32) = 0 by decide), hk, hh]
      simp only [k0, kh]
      by_cases a0 : kd i = 0
      · rw [if_pos a0]
        by_cases a1 : hd i = 1
        · have hii : bOk kd hd i := Or.inr ⟨hi, a0, a1⟩
          have xi := cx_h2 x a0
          obtain ⟨M3, c1, c2⟩ := s_sumR (LdR_2 hL i) xi (n := n - 1) (by omega)
          obtain ⟨M4, d1, d2⟩ := s_sumR (LdR_SR (LdR_2 hL i) c2) xi (n := n) hn4
          have St2 := c2.tr d2
          have hL4 := LdR_1 (LdR_SR (LdR_2 hL i) St2) a1
          have hJ4 : (sI M4 91 i 1).2 = M.2 := by show M4.2 = M.2; rw [St2.2]; exact hJ
          have hS4 : Sc M (sI M4 91 i 1) := by
            refine hS.tr ⟨fun a k p => ?_, fun k => ?_, fun k _ => ?_⟩
            · rw [mI_sI]
              by_cases e : a = 91 ∧ k = i
              · rw [if_pos e, e.1, e.2, hh, a1]; rfl
              · rw [if_neg e, St2.1 a k (by unfold pX pR at p; omega), mI_sI, if_neg e]
            · show M4.2 7 k = _; rw [St2.2]; rfl
            · show M4.2 1 k = _; rw [St2.2]; rfl
          have bi := bnd i hi a0
          have vF : mJ (sI Mj 91 i 2) 98 F = lN v := by show Mj.2 98 F = _; rw [hJ]; exact hvF
          have eU : VR kd hd q v n i = v * 12 * SRm kd (h2 hd i) q (n - 1) := by unfold VR; rw [if_neg (by omega)]
          have eL : LR kd hd q n i = SRm kd (h2 hd i) q n := by unfold LR; rw [if_neg (by omega)]
          rw [if_pos a1, if_pos (show kd i = 0 ∧ hd i = 1 from ⟨a0, a1⟩), c1, bd_s]
          simp only [vF, show (12 : Int64) = lN 12 from rfl, lN_mul, d1, nm_q, bd_s]
          have ihi := ih (i + 1) m i (sI M4 91 i 1) (by omega) (by omega) hii hS4 hJ4 hL4
          rw [show enc i = nI i by unfold enc; rw [if_neg (by omega)], eU, eL] at ihi
          by_cases f9 : f = 9
          · rw [show enc f = -9 by unfold enc; rw [if_pos f9], if_pos (show (-9 : Int32) < 0 by decide), if_pos f9]
            exact ihi
          · have hf' := hf.resolve_left f9
            have bf := bnd f hf'.1 hf'.2.1
            have gU : VR kd hd q v n f = v * 12 * SRm kd (h2 hd f) q (n - 1) := by unfold VR; rw [if_neg f9]
            have gL : LR kd hd q n f = SRm kd (h2 hd f) q n := by unfold LR; rw [if_neg f9]
            rw [if_neg (show ¬ enc f < 0 by unfold enc; rw [if_neg f9, i_lt, t_nI (by omega), li_0]; omega), if_neg f9]
            rw [s_aboveR (sI M4 91 i 1) (a := v * 12 * SRm kd (h2 hd i) q (n - 1)) (b := SRm kd (h2 hd i) q n) (c := VR kd hd q v n f) (d := LR kd hd q n f) (by omega) (by omega) (by omega) (by omega) (by omega) (by omega), bd_s]
            by_cases y : abR kd hd q v n i f = true
            · have y' := y
              unfold abR at y'
              rw [decide_eq_true_eq, eU, eL] at y'
              rw [if_pos y]
              simp only [if_pos y', show ¬ ((1 : Int32) = 0) by decide, if_false]
              exact ihi
            · have y' := y
              unfold abR at y'
              rw [decide_eq_true_eq, eU, eL] at y'
              rw [if_neg y]
              simp only [if_neg y', if_true]
              exact ih (i + 1) m f (sI M4 91 i 1) (by omega) (by omega) hf hS4 hJ4 hL4
        · rw [if_neg a1, if_neg (show ¬ (kd i = 0 ∧ hd i = 1) from fun hz => a1 hz.2)]
          exact ih (i + 1) m f Mj (by omega) (by omega) hf hS hJ hL
      · rw [if_neg a0, if_neg (show ¬ (kd i = 0 ∧ hd i = 1) from fun hz => a0 hz.1)]
        exact ih (i + 1) m f Mj (by omega) (by omega) hf hS hJ hL
theorem s_best25 {M : Mm} {kd rr hd q : Nf} (h : LdR kd rr hd q M) {n : Nat} : ∀ (b i m : Nat), i + b = 4 → b < m → (∃ x, i ≤ x ∧ x < 4 ∧ kd x ≠ 9) → f_X9_best_b25 1 m (nI n) (nI i) M = f_X9_best_b52 1 fuel (nI n) (nI (ftF kd b i)) (-9) 0 1 0 M := by
  intro b
  induction b with
  | zero => intro i m h1 h2' hx; obtain ⟨x, a, b, _⟩ := hx; omega
  | succ b ih =>
    intro i m h1 h2' hx
    obtain ⟨m, rfl⟩ : ∃ j, m = j + 1 := ⟨m - 1, by omega⟩
    have hi : i < 4 := by omega
    rw [f_X9_best_b25_s]
    unfold f_X9_best_b25B ftF
    simp only [ck_k hi (show 4 < 1000 by omega), nI_cl (show i < 2 ^ 31 by omega), fld_1_8, (h i hi).1, nm_q, bd_s, nI_1]
    by_cases e : kd i = 9
    · rw [if_pos e, if_pos (show (0 : Int32) = 0 from rfl), if_pos e]
      obtain ⟨x, a, b', d⟩ := hx
      have : x ≠ i := fun hz => d (by rw [hz]; exact e)
      exact ih (i + 1) m (by omega) (by omega) ⟨x, by omega, b', d⟩
    · rw [if_neg e, if_neg (show ¬ (1 : Int32) = 0 by decide), if_neg e]
theorem al_best (y : Int32) : Alike (f_X8_best 0 y) (f_X9_best 1 y) := by
  rcases n_split y with ⟨n, hn1, hn4, rfl⟩ | hy
  · have ht : 1 ≤ (nI n).toInt ∧ (nI n).toInt ≤ 4 := by rw [t_nI (by omega)]; omega
    refine al_c0 (gX := fun M3 => bd (f_X5_tellBest (fld 0 2) (nI n) (fld 0 5) M3) fun q6 => some (q6.1, q6.2)) (gR := fun M => f_X9_best_b25 1 fuel (nI n) 0 M) (fun M => ?_) (fun M => ?_) ?_
    · unfold f_X8_best
      rw [s_isThings, if_pos ht, bd_s, if_neg (show ¬ (1 : Int32) = 0 by decide)]
    · unfold f_X9_best
      rw [many_ok hn1 hn4, bd_s, if_neg (show ¬ (1 : Int32) = 0 by decide)]
    · intro M M2 kd rr hd rm cm wy h s2 w cl l3
      have cx := cx_of w cl
      have ldw := LdW_of l3
      have fo := ftF_ok (kd := kd) 4 0 (by omega) (by obtain ⟨c, a, b⟩ := cx.2.2.2.2.2.2; exact ⟨c, by omega, a, b⟩)
      obtain ⟨Mx, x1, x2, x3, x4⟩ := s_bestX (M := M2) cx hn1 hn4 4 0 fuel 9 M2 (by omega) (by show 4 < 1000; omega) (Or.inl rfl) (Sc.rf M2) rfl ldw
      have bo := btF_ok (kd := kd) (hd := hd) (ab := abC kd hd (sn kd rr wy) n) 4 0 9 (by omega) (Or.inl rfl)
      have vb := vn_b w cl fo.1
      have vp := vb.2.1 fo.2
      have cg := btF_cg (kd := kd) (hd := hd) (ab := abC kd hd (sn kd rr wy) n) (ab' := abR kd hd (sn kd rr wy) (vn kd wy (ftF kd 4 0)) n) (fun c f hc k1 _ hf k2 _ => ab_eq cx vp hn1 hn4 hc k1 hf k2) 4 0 9 (by omega) (Or.inl rfl)
      generalize hf : btF kd hd (abC kd hd (sn kd rr wy) n) 4 0 9 = f at *
      have tb : f_X5_tellBest 5 (nI n) 7 M2 = f_X5_tellBest_b12 5 1 (nI n) 7 (enc f) (lN (UC kd hd (sn kd rr wy) n f)) (lN (LC kd hd (sn kd rr wy) n f)) (nI 4) Mx := x1
      have sX := s2.tr x2
      have goR : ∀ Mv, (∀ c, c < 4 → mJ Mv 98 c = lN (vn kd wy c)) → NetR kd rr hd rm cm wy Mv → ∃ M', f_X9_best_b25 1 fuel (nI n) 0 Mv = f_X9_best_b52 1 1 (nI n) (nI (ftF kd 4 0)) (enc f) (lN (VR kd hd (sn kd rr wy) (vn kd wy (ftF kd 4 0)) n f)) (lN (LR kd hd (sn kd rr wy) n f)) (nI 4) M' ∧ Sc Mv M' := by
        intro Mv hv nv
        have ldr := LdR_of nv hv
        have e := s_best25 ldr (n := n) 4 0 fuel (by omega) (by show 4 < 1000; omega) (by obtain ⟨c, a, b⟩ := cx.2.2.2.2.2.2; exact ⟨c, by omega, a, b⟩)
        obtain ⟨M', r1, r2⟩ := s_bestR (M := Mv) cx hn1 hn4 fo.1 vp vb.1 (hv _ fo.1) 4 0 fuel 9 Mv (by omega) (by show 4 < 1000; omega) (Or.inl rfl) (Sc.rf Mv) rfl ldr
        rw [← cg] at r1
        exact ⟨M', e.trans r1, r2⟩
      by_cases f9 : f = 9
      · have ef : enc f = -9 := by unfold enc; rw [if_pos f9]
        refine ⟨-9, Mx, ?_, fun a k q => sX.1 a k (Or.inr q), fun Mv sv hv nv => ?_⟩
        · show (bd (f_X5_tellBest (fld 0 2) (nI n) (fld 0 5) M2) fun q6 => some (q6.1, q6.2)) = _
          rw [fld_0_2, fld_0_5, tb, show f_X5_tellBest_b12 5 1 = f_X5_tellBest_b12 5 (0 + 1) from rfl, f_X5_tellBest_b12_s]
          unfold f_X5_tellBest_b12B
          rw [if_pos (show (4 : Int32) ≤ nI 4 by decide), ef, if_pos (show (-9 : Int32) = -9 from rfl), bd_s]
        · obtain ⟨M', r1, r2⟩ := goR Mv hv nv
          refine ⟨M', ?_, h.sc (sX.tr (sv.tr r2))⟩
          rw [r1, show f_X9_best_b52 1 1 = f_X9_best_b52 1 (0 + 1) from rfl, f_X9_best_b52_s]
          unfold f_X9_best_b52B
          rw [if_pos (show (4 : Int32) ≤ nI 4 by decide), ef, if_neg (show ¬ (0 : Int32) ≤ -9 by decide)]
      · have bf := bo.resolve_left f9
        have ef : enc f = nI f := by unfold enc; rw [if_neg f9]
        have xf := cx_h2 cx bf.2.1
        have t1 := sums xf (n := n - 1) (by omega)
        have t2 := sums xf (n := n) hn4
        have cr := cross xf (n := n) (m := n - 1) hn4 (by omega)
        have p0 : 768 ^ (n - 1) ≤ 452984832 := by
          have : 768 ^ (n - 1) ≤ 768 ^ 3 := Nat.pow_le_pow_right (by omega) (by omega)
          omega
        have eU : UC kd hd (sn kd rr wy) n f = SCn kd (h2 hd f) (sn kd rr wy) (n - 1) := by unfold UC; rw [if_neg f9]
        have eL : LC kd hd (sn kd rr wy) n f = SCn kd (h2 hd f) (sn kd rr wy) n := by unfold LC; rw [if_neg f9]
        have eV : VR kd hd (sn kd rr wy) (vn kd wy (ftF kd 4 0)) n f = vn kd wy (ftF kd 4 0) * 12 * SRm kd (h2 hd f) (sn kd rr wy) (n - 1) := by unfold VR; rw [if_neg f9]
        have eR : LR kd hd (sn kd rr wy) n f = SRm kd (h2 hd f) (sn kd rr wy) n := by unfold LR; rw [if_neg f9]
        rw [eU, eL] at tb
        rw [eV, eR] at goR
        generalize hA1 : SCn kd (h2 hd f) (sn kd rr wy) (n - 1) = A1 at *
        generalize hA : SCn kd (h2 hd f) (sn kd rr wy) n = A at *
        generalize hB1 : SRm kd (h2 hd f) (sn kd rr wy) (n - 1) = B1 at *
        generalize hB : SRm kd (h2 hd f) (sn kd rr wy) n = B at *
        have vJ : mJ Mx 73 (ftF kd 4 0) = lN (vn kd wy (ftF kd 4 0)) := by show Mx.2 73 _ = _; rw [x3]; exact (l3 _ fo.1).1
        have sf := s_first x4 cx.1
        generalize ftF kd 4 0 = F at *
        generalize vn kd wy F = v at *
        have bU : 12 * v * A1 ≤ 768 * 292229574819840 := Nat.mul_le_mul (by omega) t1.2.2.2.2
        have bU2 : v * 12 * B1 ≤ 768 * (452984832 * 3538944) := Nat.mul_le_mul (by omega) (Nat.le_trans t1.2.2.1 (Nat.mul_le_mul p0 (Nat.le_refl _)))
        have bB : B ≤ 347892350976 * 3538944 := Nat.le_trans t2.2.2.1 (Nat.mul_le_mul (p768 hn4) (Nat.le_refl _))
        have fe := fr_N (u := 12 * v * A1) (l := A) (u2 := v * 12 * B1) (l2 := B) (by omega) (by omega) (by omega) (by omega) (by omega) (by omega) (by
          have : 12 * v * (A1 * B) = 12 * v * (B1 * A) := by rw [cr]
          grind)
        have st := set_N (a := 7) Mx (show 12 * v * A1 < 2 ^ 63 by omega) (show A < 2 ^ 63 by omega) (show 0 < A by omega)
        generalize hU : frU (lN (12 * v * A1)) (lN A) = U at *
        generalize hLq : frL (lN (12 * v * A1)) (lN A) = L at *
        refine ⟨nI f, sJ (sJ Mx 7 0 U) 7 1 L, ?_, fun a k q => sX.1 a k (Or.inr q), fun Mv sv hv nv => ?_⟩
        · show (bd (f_X5_tellBest (fld 0 2) (nI n) (fld 0 5) M2) fun q6 => some (q6.1, q6.2)) = _
          rw [fld_0_2, fld_0_5, tb, show f_X5_tellBest_b12 5 1 = f_X5_tellBest_b12 5 (0 + 1) from rfl, f_X5_tellBest_b12_s]
          unfold f_X5_tellBest_b12B
          rw [if_pos (show (4 : Int32) ≤ nI 4 by decide), ef, if_neg (show ¬ nI f = -9 by rw [i_eq, t_nI (by omega), li_m9]; omega)]
          simp only [sf, nm_q, bd_s, ck_k fo.1 (show 4 < 1000 by omega), nI_cl (show F < 2 ^ 31 by omega), fld_5_0, vJ, show (12 : Int64) = lN 12 from rfl, lN_mul, st]
        · obtain ⟨M', r1, r2⟩ := goR Mv hv nv
          have sh := share_N (x := nI f) M' (show v * 12 * B1 < 2 ^ 63 by omega) (show B < 2 ^ 63 by omega) (show 0 < B by omega)
          rw [← fe.1, ← fe.2] at sh
          refine ⟨sJ (sJ M' 1 3 U) 1 4 L, ?_, inv_frac h sX (sv.tr r2)⟩
          rw [r1, show f_X9_best_b52 1 1 = f_X9_best_b52 1 (0 + 1) from rfl, f_X9_best_b52_s]
          unfold f_X9_best_b52B
          rw [if_pos (show (4 : Int32) ≤ nI 4 by decide), ef, if_pos (show (0 : Int32) ≤ nI f by rw [i_le, t_nI (by omega), li_0]; omega), sh, bd_s]
  · intro M h
    refine ⟨-1, M, M, ?_, ?_, h⟩
    · unfold f_X8_best
      rw [s_isThings, if_neg hy, bd_s, if_pos (show (0 : Int32) = 0 from rfl)]
    · unfold f_X9_best
      rw [many_bad hy, bd_s, if_pos (show (0 : Int32) = 0 from rfl)]

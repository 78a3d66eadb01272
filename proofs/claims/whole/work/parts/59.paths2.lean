/-! the paths, laid -/
def LDq (M : Mm) (p : Nat → Int32) (s i j : Nat) : Mm := (fun a k => if a = 31 ∧ k = 3 then nI s else if 61 ≤ a ∧ a < 67 ∧ k < s ∧ (a < 61 + i ∨ (a = 61 + i ∧ k < j)) then p ((a - 61) * s + k) else M.1 a k, M.2)
theorem mI_LDq (M : Mm) (p : Nat → Int32) (s i j a k : Nat) : mI (LDq M p s i j) a k = if a = 31 ∧ k = 3 then nI s else if 61 ≤ a ∧ a < 67 ∧ k < s ∧ (a < 61 + i ∨ (a = 61 + i ∧ k < j)) then p ((a - 61) * s + k) else mI M a k := rfl
theorem LD_0q (M : Mm) (p : Nat → Int32) (s : Nat) : LDq M p s 0 0 = sI M 31 3 (nI s) := by
  unfold LDq sI
  refine Prod.ext ?_ rfl
  funext a k
  show (if a = 31 ∧ k = 3 then nI s else if 61 ≤ a ∧ a < 67 ∧ k < s ∧ (a < 61 + 0 ∨ (a = 61 + 0 ∧ k < 0)) then p ((a - 61) * s + k) else M.1 a k) = if a = 31 ∧ k = 3 then nI s else M.1 a k
  by_cases h : a = 31 ∧ k = 3
  · rw [if_pos h, if_pos h]
  · rw [if_neg h, if_neg h, if_neg (by omega)]
theorem LD_sq (M : Mm) (p : Nat → Int32) {s i j : Nat} (hi : i < 6) (hj : j < s) : sI (LDq M p s i j) (61 + i) j (p (i * s + j)) = LDq M p s i (j + 1) := by
  unfold LDq sI
  refine Prod.ext ?_ rfl
  funext a k
  show (if a = 61 + i ∧ k = j then p (i * s + j) else if a = 31 ∧ k = 3 then nI s else if 61 ≤ a ∧ a < 67 ∧ k < s ∧ (a < 61 + i ∨ (a = 61 + i ∧ k < j)) then p ((a - 61) * s + k) else M.1 a k) = if a = 31 ∧ k = 3 then nI s else if 61 ≤ a ∧ a < 67 ∧ k < s ∧ (a < 61 + i ∨ (a = 61 + i ∧ k < j + 1)) then p ((a - 61) * s + k) else M.1 a k
  by_cases h : a = 61 + i ∧ k = j
  · rw [if_pos h, if_neg (by omega), if_pos (by omega), h.1, h.2, Nat.add_sub_cancel_left]
  · rw [if_neg h]
    by_cases h2 : a = 31 ∧ k = 3
    · rw [if_pos h2, if_pos h2]
    · rw [if_neg h2, if_neg h2]
      by_cases h3 : 61 ≤ a ∧ a < 67 ∧ k < s ∧ (a < 61 + i ∨ (a = 61 + i ∧ k < j))
      · rw [if_pos h3, if_pos (by omega)]
      · rw [if_neg h3, if_neg (by omega)]
theorem LD_nq (M : Mm) (p : Nat → Int32) {s i : Nat} : LDq M p s i s = LDq M p s (i + 1) 0 := by
  unfold LDq
  refine Prod.ext ?_ rfl
  funext a k
  show (if a = 31 ∧ k = 3 then nI s else if 61 ≤ a ∧ a < 67 ∧ k < s ∧ (a < 61 + i ∨ (a = 61 + i ∧ k < s)) then p ((a - 61) * s + k) else M.1 a k) = if a = 31 ∧ k = 3 then nI s else if 61 ≤ a ∧ a < 67 ∧ k < s ∧ (a < 61 + (i + 1) ∨ (a = 61 + (i + 1) ∧ k < 0)) then p ((a - 61) * s + k) else M.1 a k
  by_cases h2 : a = 31 ∧ k = 3
  · rw [if_pos h2, if_pos h2]
  · rw [if_neg h2, if_neg h2]
    by_cases h3 : 61 ≤ a ∧ a < 67 ∧ k < s ∧ (a < 61 + i ∨ (a = 61 + i ∧ k < s))
    · rw [if_pos h3, if_pos (by omega)]
    · rw [if_neg h3, if_neg (by omega)]
theorem Sc_LDq (M : Mm) (p : Nat → Int32) (s i j : Nat) : Sc M (LDq M p s i j) := by
  refine ⟨fun a k h => ?_, fun _ => rfl, fun _ _ => rfl⟩
  rw [mI_LDq, if_neg (by unfold pX pR at h; omega), if_neg (by unfold pX pR at h; omega)]
theorem ChR_LDq (M : Mm) (p : Nat → Int32) {s : Nat} (h6 : s ≤ 6) : ChRq (LDq M p s s 0) p s := by
  refine ⟨by rw [mI_LDq, if_pos ⟨rfl, rfl⟩], fun i hi j hj => ?_⟩
  rw [mI_LDq, if_neg (by omega), if_pos (by omega), Nat.add_sub_cancel_left]
def pw (wy : Nat → Nf) (t : Nat) : Int32 := nI (wy (t / 4) (t % 4))
theorem pw_s (wy : Nat → Nf) (i : Nat) {j : Nat} (hj : j < 4) : pw wy (i * 4 + j) = nI (wy i j) := by
  unfold pw
  rw [show (i * 4 + j) / 4 = i by omega, show (i * 4 + j) % 4 = j by omega]
theorem s_lp {M : Mm} {kd rt hd rm cm : Nf} {wy : Nat → Nf} (n : NetC kd rt hd rm cm wy M) : ∀ (a i m : Nat), i + a = 4 → a < m → f_X4_loadPaths_b10 4 m (nI i) (LDq M (pw wy) 4 i 0) = some (NLq (LDq M (pw wy) 4 4 0) (pw wy) 4 4) := by
  have n' : ∀ i j, NetC kd rt hd rm cm wy (LDq M (pw wy) 4 i j) := fun i j => n.sc (fun a k q => (Sc_LDq M (pw wy) 4 i j).1 a k (Or.inl q))
  intro a
  induction a with
  | zero =>
    intro i m h1 h2
    obtain ⟨m, rfl⟩ : ∃ j, m = j + 1 := ⟨m - 1, by omega⟩
    rw [f_X4_loadPaths_b10_s]
    unfold f_X4_loadPaths_b10B f_X0_noteLeads
    rw [if_pos (by rw [i_le, t_nI (by omega), li_4]; omega), fld_4_1]
    have := s_nlq (show 4 ≤ 6 by omega) (ChR_LDq M (pw wy) (show 4 ≤ 6 by omega)) 4 0 fuel (by omega) (by show 4 < 1000; omega)
    rw [NL_0q] at this
    rw [show (0 : Int32) = nI 0 from rfl, show i = 4 by omega, this]
    rfl
  | succ a ih =>
    intro i m h1 h2
    obtain ⟨m, rfl⟩ : ∃ j, m = j + 1 := ⟨m - 1, by omega⟩
    have hih := ih (i + 1) m (by omega) (by omega)
    rw [f_X4_loadPaths_b10_s]
    unfold f_X4_loadPaths_b10B
    rw [if_neg (by rw [i_le, t_nI (by omega), li_4]; omega)]
    have inner : ∀ (b j m2 : Nat), j + b = 4 → b < m2 → f_X4_loadPaths_b17 (f_X4_loadPaths_b10 4 m) 4 m2 (nI i) (nI j) (LDq M (pw wy) 4 i j) = some (NLq (LDq M (pw wy) 4 4 0) (pw wy) 4 4) := by
      intro b
      induction b with
      | zero =>
        intro j m2 g1 g2
        obtain ⟨m2, rfl⟩ : ∃ j, m2 = j + 1 := ⟨m2 - 1, by omega⟩
        rw [f_X4_loadPaths_b17_s]
        unfold f_X4_loadPaths_b17B
        rw [if_pos (by rw [i_le, t_nI (by omega), li_4]; omega), show j = 4 by omega, LD_nq, nm_q, nI_1]
        exact hih
      | succ b jh =>
        intro j m2 g1 g2
        obtain ⟨m2, rfl⟩ : ∃ j, m2 = j + 1 := ⟨m2 - 1, by omega⟩
        have hjh := jh (j + 1) m2 (by omega) (by omega)
        rw [← LD_sq M (pw wy) (show i < 6 by omega) (show j < 4 by omega), pw_s wy i (show j < 4 by omega)] at hjh
        rw [f_X4_loadPaths_b17_s]
        unfold f_X4_loadPaths_b17B
        rw [if_neg (by rw [i_le, t_nI (by omega), li_4]; omega)]
        simp only [ck_k (show i < 6 by omega) (show 6 < 1000 by omega), ck_k (show j < 6 by omega) (show 6 < 1000 by omega), ck_k (show i < 4 by omega) (show 4 < 1000 by omega), ck_k (show j < 4 by omega) (show 4 < 1000 by omega), nI_cl (show i < 2 ^ 31 by omega), nI_cl (show j < 2 ^ 31 by omega), fld_4_0, fld_4_1, fld_31_0, elm_33, elm_22, fld_cnt (show i < 4 by omega), (n' i j).2 i j (by omega) (by omega), nm_q, bd_s, nI_1]
        exact hjh
    exact inner 4 0 fuel (by omega) (by show 4 < 1000; omega)
theorem s_loadPaths {M : Mm} {kd rt hd rm cm : Nf} {wy : Nat → Nf} (n : NetC kd rt hd rm cm wy M) : ∃ M1, f_X4_loadPaths 4 M = some M1 ∧ ChCq M1 (pw wy) 4 ∧ Sc M M1 ∧ M1.2 = M.2 := by
  refine ⟨NLq (LDq M (pw wy) 4 4 0) (pw wy) 4 4, ?_, ⟨ChR_NLq (by omega) (ChR_LDq M (pw wy) (by omega)), fun i hi => ?_⟩, ?_, rfl⟩
  · unfold f_X4_loadPaths
    have := s_lp n 4 0 fuel (by omega) (by show 4 < 1000; omega)
    rw [LD_0q] at this
    rw [nm_q, fld_4_1]
    exact this
  · rw [mI_NLq, if_pos ⟨rfl, hi⟩]
  · refine Sc.tr (Sc_LDq M (pw wy) 4 4 0) ⟨fun a k h => ?_, fun _ => rfl, fun _ _ => rfl⟩
    rw [mI_NLq, if_neg (by unfold pX pR at h; omega)]
theorem or_self_bit {v x i : Nat} (h : v.testBit i = true) : v ||| x ||| 2 ^ i = v ||| x := by
  apply Nat.eq_of_testBit_eq
  intro j
  rw [Nat.testBit_or, Nat.testBit_two_pow]
  by_cases e : i = j
  · subst e; rw [Nat.testBit_or, h]; simp
  · simp [e]
theorem ld_pw {wy : Nat → Nf} {i j : Nat} (hj : j < 4) (hw : wy i j ≤ 4) : ld (pw wy) 4 i j = true ↔ i ≠ j ∧ wy i j ≠ 0 := by
  unfold ld
  rw [pw_s wy i hj, t_nI (by omega)]
  simp only [Bool.and_eq_true, decide_eq_true_eq]
  omega
theorem s_leadsTo {M : Mm} {kd rr hd rm cm : Nf} {wy : Nat → Nf} (n : NetR kd rr hd rm cm wy M) (w : wfN kd rr hd rm cm wy) {i : Nat} (hi : i < 4) : f_X9_leadsTo 1 (nI i) M = some (nI (RR (pw wy) 4 i), M) := by
  have l : ∀ (a t m v : Nat), t + a = 4 → a < m → v < 2 ^ 4 → f_X9_leadsTo_b6 1 m (nI v) (nI t) M = some (nI (rt (pw wy) 4 a v), M) := by
    intro a
    induction a with
    | zero =>
      intro t m v h1 h2 hv
      obtain ⟨m, rfl⟩ : ∃ j, m = j + 1 := ⟨m - 1, by omega⟩
      rw [f_X9_leadsTo_b6_s]
      unfold f_X9_leadsTo_b6B rt
      rw [if_pos (by rw [i_le, t_nI (by omega), li_4]; omega)]
    | succ a ih =>
      intro t m v h1 h2 hv
      obtain ⟨m, rfl⟩ : ∃ j, m = j + 1 := ⟨m - 1, by omega⟩
      rw [f_X9_leadsTo_b6_s]
      unfold f_X9_leadsTo_b6B rt
      rw [if_neg (by rw [i_le, t_nI (by omega), li_4]; omega)]
      have mid : ∀ (b i m2 v : Nat), i + b = 4 → b < m2 → v < 2 ^ 4 → f_X9_leadsTo_b14 (f_X9_leadsTo_b6 1 m) 1 m2 (nI v) (nI t) (nI i) M = some (nI (rt (pw wy) 4 a (rp (pw wy) 4 b i v)), M) := by
        intro b
        induction b with
        | zero =>
          intro i m2 v g1 g2 hv
          obtain ⟨m2, rfl⟩ : ∃ j, m2 = j + 1 := ⟨m2 - 1, by omega⟩
          rw [f_X9_leadsTo_b14_s]
          unfold f_X9_leadsTo_b14B rp
          rw [if_pos (by rw [i_le, t_nI (by omega), li_4]; omega), nm_q, nI_1]
          exact ih (t + 1) m v (by omega) (by omega) hv
        | succ b jh =>
          intro i m2 v g1 g2 hv
          obtain ⟨m2, rfl⟩ : ∃ j, m2 = j + 1 := ⟨m2 - 1, by omega⟩
          have hjh := jh (i + 1) m2 (st1 (pw wy) 4 v i) (by omega) (by omega) (st_lt i hv)
          rw [f_X9_leadsTo_b14_s]
          unfold f_X9_leadsTo_b14B rp
          rw [if_neg (by rw [i_le, t_nI (by omega), li_4]; omega)]
          have inner : ∀ (c j m3 : Nat), j + c = 4 → c < m3 → f_X9_leadsTo_b23 (f_X9_leadsTo_b6 1 m) (f_X9_leadsTo_b14 (f_X9_leadsTo_b6 1 m) 1 m2) 1 m3 (nI (if v.testBit i = true then v ||| mk (ld (pw wy) 4 i) j else v)) (nI t) (nI i) (nI j) M = some (nI (rt (pw wy) 4 a (rp (pw wy) 4 b (i + 1) (st1 (pw wy) 4 v i))), M) := by
            intro c
            induction c with
            | zero =>
              intro j m3 k1 k2
              obtain ⟨m3, rfl⟩ : ∃ j, m3 = j + 1 := ⟨m3 - 1, by omega⟩
              rw [f_X9_leadsTo_b23_s]
              unfold f_X9_leadsTo_b23B
              rw [if_pos (by rw [i_le, t_nI (by omega), li_4]; omega), show j = 4 by omega, nm_q, nI_1]
              exact hjh
            | succ c kh =>
              intro j m3 k1 k2
              obtain ⟨m3, rfl⟩ : ∃ j, m3 = j + 1 := ⟨m3 - 1, by omega⟩
              have hkh := kh (j + 1) m3 (by omega) (by omega)
              have hw := wy_le w (show i < 4 by omega) (show j < 4 by omega)
              have hl := ld_pw (i := i) (show j < 4 by omega) hw
              rw [show mk (ld (pw wy) 4 i) (j + 1) = mk (ld (pw wy) 4 i) j ||| (if ld (pw wy) 4 i j = true then 2 ^ j else 0) from rfl] at hkh
              rw [f_X9_leadsTo_b23_s]
              unfold f_X9_leadsTo_b23B f_X9_leadsTo_b62 f_X9_leadsTo_b63
              rw [if_neg (by rw [i_le, t_nI (by omega), li_4]; omega)]
              simp only [ck_w (show i < 4 by omega) (show j < 4 by omega), cl_w (show i < 4 by omega) (show j < 4 by omega), fld_1_14, n.2 i j (by omega) (by omega), show (nI (wy i j) ≤ nI 0) ↔ wy i j = 0 from n_le0 (show wy i j < 1000 by omega), sh1 j (by omega), nm_q, bd_s, nI_1, show (0 : Int32) = nI 0 from rfl, nI_or, Nat.or_zero]
              by_cases q : v.testBit i = true
              · have hlt : v ||| mk (ld (pw wy) 4 i) j < 2 ^ 4 := Nat.or_lt_two_pow hv (Nat.lt_of_lt_of_le (mk_lt _ _) (Nat.pow_le_pow_right (by omega) (by omega)))
                simp only [if_pos q] at hkh ⊢
                rw [if_pos ((tb1 _ (by omega) i (by omega)).mpr (by rw [Nat.testBit_or, q]; rfl))]
                by_cases q2 : wy i j = 0
                · rw [if_neg (fun z => (hl.mp z).2 q2), Nat.or_zero] at hkh
                  rw [if_pos q2]
                  exact hkh
                · rw [if_neg q2]
                  by_cases e : i = j
                  · rw [if_neg (fun z => (hl.mp z).1 e), Nat.or_zero] at hkh
                    rw [show v ||| mk (ld (pw wy) 4 i) j ||| 2 ^ j = v ||| mk (ld (pw wy) 4 i) j from by have z := or_self_bit (x := mk (ld (pw wy) 4 i) j) q; rw [e] at z ⊢; exact z]
                    exact hkh
                  · rw [if_pos (hl.mpr ⟨e, q2⟩), ← Nat.or_assoc] at hkh
                    exact hkh
              · simp only [if_neg q] at hkh ⊢
                rw [if_neg (fun z => q ((tb1 v (by omega) i (by omega)).mp z))]
                exact hkh
          have := inner 4 0 fuel (by omega) (by show 4 < 1000; omega)
          rw [show (if v.testBit i = true then v ||| mk (ld (pw wy) 4 i) 0 else v) = v by split <;> simp [mk]] at this
          exact this
      exact mid 4 0 fuel v (by omega) (by show 4 < 1000; omega) hv
  unfold f_X9_leadsTo
  rw [nm_q, sh1 i (by omega)]
  exact l 4 0 fuel (2 ^ i) (by omega) (by show 4 < 1000; omega) (Nat.pow_lt_pow_right (by omega) hi)

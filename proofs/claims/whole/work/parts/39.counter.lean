/-! counter, drop, way -/
def netA (a : Nat) : Prop := (22 ≤ a ∧ a ≤ 30) ∨ (88 ≤ a ∧ a ≤ 94)
theorem inv_net {M M2 : Mm} (h : Inv M) (s : ∀ a k, pX a ∨ pR a k → ¬ netA a → mI M2 a k = mI M a k) (hj : M2.2 = M.2) (hn : NetI M2) : Inv M2 := by
  obtain ⟨-, ⟨sz, pl, w, r1, r2⟩, ⟨ff, fn, as, up, lo, f1, f2⟩⟩ := h
  have hj0 : ∀ a k, mJ M2 a k = mJ M a k := fun a k => by unfold mJ; rw [hj]
  refine ⟨hn, ⟨sz, pl, w, fun r hr => ⟨?_, fun hn i hi => ?_⟩, fun r hr => ⟨?_, fun hn i hi => ?_⟩⟩, ⟨ff, fn, as, up, lo, ⟨fun g g1 g5 => ?_, ?_, ?_, ?_, ?_⟩, ⟨fun g g1 g5 => ?_, ?_, ?_, ?_, ?_⟩⟩⟩
  · rw [s _ _ (Or.inl (by unfold pX; omega)) (by unfold netA; omega)]; exact (r1 r hr).1
  · rw [s _ _ (Or.inl (by unfold pX; omega)) (by unfold netA; omega)]; exact (r1 r hr).2 hn i hi
  · rw [s _ _ (Or.inr (by unfold pR; omega)) (by unfold netA; omega)]; exact (r2 r hr).1
  · rw [s _ _ (Or.inr (by unfold pR; omega)) (by unfold netA; omega)]; exact (r2 r hr).2 hn i hi
  · rw [s _ _ (Or.inl (by unfold pX; omega)) (by unfold netA; omega)]; exact f1.1 g g1 g5
  · rw [s _ _ (Or.inl (by unfold pX; omega)) (by unfold netA; omega)]; exact f1.2.1
  · rw [s _ _ (Or.inl (by unfold pX; omega)) (by unfold netA; omega)]; exact f1.2.2.1
  · rw [hj0]; exact f1.2.2.2.1
  · rw [hj0]; exact f1.2.2.2.2
  · rw [s _ _ (Or.inr (by unfold pR; omega)) (by unfold netA; omega)]; exact f2.1 g g1 g5
  · rw [s _ _ (Or.inr (by unfold pR; omega)) (by unfold netA; omega)]; exact f2.2.1
  · rw [s _ _ (Or.inr (by unfold pR; omega)) (by unfold netA; omega)]; exact f2.2.2.1
  · rw [hj0]; exact f2.2.2.2.1
  · rw [hj0]; exact f2.2.2.2.2
theorem s_cbegin_l {c : Nat} (hc : c < 4) : ∀ (k i m : Nat) (M : Mm), i + k = 4 → k < m → f_X1_begin_b27 (23 + c) m (nI i) M = some (zr M (27 + c) i 4) := by
  intro k
  induction k with
  | zero =>
    intro i m M h1 h2
    obtain ⟨m, rfl⟩ : ∃ j, m = j + 1 := ⟨m - 1, by omega⟩
    rw [f_X1_begin_b27_s]
    unfold f_X1_begin_b27B
    rw [if_pos (by rw [i_le, t_nI (by omega), li_4]; omega), show i = 4 by omega, zr_nil]
  | succ k ih =>
    intro i m M h1 h2
    obtain ⟨m, rfl⟩ : ∃ j, m = j + 1 := ⟨m - 1, by omega⟩
    rw [f_X1_begin_b27_s]
    unfold f_X1_begin_b27B
    rw [if_neg (by rw [i_le, t_nI (by omega), li_4]; omega)]
    simp only [ck_k (show i < 4 by omega) (by omega), nm_q, bd_s, fld_cnt hc, nI_cl (show i < 2 ^ 31 by omega), nI_1]
    rw [ih (i + 1) m _ (by omega) (by omega), zr_step (by omega)]
/-- the ways from the counters lo up to hi to c are gone -/
def cz (M : Mm) (c lo hi : Nat) : Mm := (fun a k => if 27 + lo ≤ a ∧ a < 27 + hi ∧ k = c then 0 else M.1 a k, M.2)
theorem mI_cz (M : Mm) (c lo hi a k : Nat) : mI (cz M c lo hi) a k = if 27 + lo ≤ a ∧ a < 27 + hi ∧ k = c then 0 else mI M a k := rfl
theorem cz_step {M : Mm} {c lo hi : Nat} (h : lo < hi) : cz (sI M (27 + lo) c 0) c (lo + 1) hi = cz M c lo hi := by
  unfold cz sI
  refine Prod.ext ?_ rfl
  funext a k
  show (if 27 + (lo + 1) ≤ a ∧ a < 27 + hi ∧ k = c then (0 : Int32) else if a = 27 + lo ∧ k = c then 0 else M.1 a k) = if 27 + lo ≤ a ∧ a < 27 + hi ∧ k = c then 0 else M.1 a k
  by_cases h1 : 27 + lo ≤ a ∧ a < 27 + hi ∧ k = c
  · rw [if_pos h1]
    by_cases h2 : 27 + (lo + 1) ≤ a ∧ a < 27 + hi ∧ k = c
    · rw [if_pos h2]
    · rw [if_neg h2, if_pos (by omega)]
  · rw [if_neg h1, if_neg (by omega), if_neg (by omega)]
theorem cz_nil {M : Mm} {c hi : Nat} : cz M c hi hi = M := by
  unfold cz
  refine Prod.ext ?_ rfl
  funext a k
  show (if 27 + hi ≤ a ∧ a < 27 + hi ∧ k = c then (0 : Int32) else M.1 a k) = M.1 a k
  rw [if_neg (by omega)]
theorem s_replace_l {c : Nat} (hc : c < 4) : ∀ (k i m : Nat) (M : Mm), i + k = 4 → k < m → f_X4_replace_b22 4 m (nI c) (nI i) M = some (cz M c i 4) := by
  intro k
  induction k with
  | zero =>
    intro i m M h1 h2
    obtain ⟨m, rfl⟩ : ∃ j, m = j + 1 := ⟨m - 1, by omega⟩
    rw [f_X4_replace_b22_s]
    unfold f_X4_replace_b22B
    rw [if_pos (by rw [i_le, t_nI (by omega), li_4]; omega), show i = 4 by omega, cz_nil]
  | succ k ih =>
    intro i m M h1 h2
    obtain ⟨m, rfl⟩ : ∃ j, m = j + 1 := ⟨m - 1, by omega⟩
    rw [f_X4_replace_b22_s]
    unfold f_X4_replace_b22B
    rw [if_neg (by rw [i_le, t_nI (by omega), li_4]; omega)]
    simp only [ck_k (show i < 4 by omega) (by omega), ck_k hc (by omega), nm_q, bd_s, fld_4_0, elm_22, nI_cl (show i < 2 ^ 31 by omega), nI_cl (show c < 2 ^ 31 by omega), fld_cnt (show i < 4 by omega), nI_1]
    rw [ih (i + 1) m _ (by omega) (by omega), cz_step (by omega)]
/-- what the class holds behind a counter's coming or going -/
def RPX (M : Mm) (c : Nat) (v : Int32) : Mm := cz (zr (sI (sI (sI (sI (sI M (23 + c) 1 v) (23 + c) 2 1) (23 + c) 3 1) (23 + c) 4 1) (23 + c) 5 0) (27 + c) 0 4) c 0 4
theorem s_replace {c : Nat} {v : Int32} (M : Mm) (hc : c < 4) : f_X4_replace 4 (nI c) v M = some (RPX M c v) := by
  have tc : (nI c).toInt = (c : Int) := t_nI (by omega)
  unfold f_X4_replace f_X1_begin
  simp only [i_lt (nI c), tc, li_m9, li_m4, li_m3, li_m2, li_m1, li_0, li_1, li_2, li_3, li_4, li_5, li_6, li_7, li_8, li_9, li_10, li_11, li_12, li_13, li_16, li_24, li_25, li_31, li_36, li_40, li_125, li_200, li_240, li_625, li_1000, li_100000, li_1000000, if_neg (show ¬ (c : Int) < 0 by omega), if_pos (show (c : Int) < 4 by omega), ck_k hc (show 4 < 1000 by omega), fld_4_0, elm_22, nI_cl (show c < 2 ^ 31 by omega), nm_q, bd_s]
  rw [show (0 : Int32) = nI 0 from rfl, s_cbegin_l hc 4 0 fuel _ (by omega) (by show 4 < 1000; omega), bd_s, s_replace_l hc 4 0 fuel _ (by omega) (by show 4 < 1000; omega)]
  rfl
theorem RPX_far (M : Mm) (c : Nat) (v : Int32) (hc : c < 4) {a k : Nat} (h : a < 23 ∨ 30 < a) : mI (RPX M c v) a k = mI M a k := by
  unfold RPX
  rw [mI_cz, if_neg (by omega), mI_zr, if_neg (by omega), mI_sI, if_neg (by omega), mI_sI, if_neg (by omega), mI_sI, if_neg (by omega), mI_sI, if_neg (by omega), mI_sI, if_neg (by omega)]
theorem RPX_net {M : Mm} {kd rt hd rm cm : Nf} {wy : Nat → Nf} {c v : Nat} (n : NetC kd rt hd rm cm wy M) (hc : c < 4) : NetC (fun j => if j = c then v else kd j) (fun j => if j = c then 1 else rt j) (fun j => if j = c then 1 else hd j) (fun j => if j = c then 1 else rm j) (fun j => if j = c then 0 else cm j) (fun a b => if a = c ∨ b = c then 0 else wy a b) (RPX M c (if v = 9 then -1 else nI v)) := by
  refine ⟨fun d hd9 => ?_, fun d j hd9 hj => ?_⟩
  · have q := n.1 d hd9
    have e1 : ∀ (M9 : Mm) (k : Nat), mI (cz (zr M9 (27 + c) 0 4) c 0 4) (23 + d) k = mI M9 (23 + d) k := fun M9 k => by
      rw [mI_cz, if_neg (by omega), mI_zr, if_neg (by omega)]
    unfold RPX
    simp only [e1, mI_sI]
    by_cases e : d = c
    · subst e
      simp
      exact ⟨rfl, rfl⟩
    · simp only [show ¬ (23 + d = 23 + c) by omega, e, false_and, if_false]
      exact q
  · unfold RPX
    show _ = nI (if d = c ∨ j = c then 0 else wy d j)
    rw [mI_cz]
    by_cases e : d = c ∨ j = c
    · rw [if_pos e]
      by_cases e2 : j = c
      · rw [if_pos (by omega)]; rfl
      · rw [if_neg (by omega), mI_zr, if_pos (by omega)]; rfl
    · rw [if_neg e, if_neg (by omega), mI_zr, if_neg (by omega)]
      simp only [mI_sI]
      rw [if_neg (by omega), if_neg (by omega), if_neg (by omega), if_neg (by omega), if_neg (by omega)]
      exact n.2 d j hd9 hj
/-- the reference: the ways to and from c, of the rounds lo up to hi -/
def ez (M : Mm) (c lo hi : Nat) : Mm := (fun a k => if a = 94 ∧ k < 16 ∧ ((4 * c + lo ≤ k ∧ k < 4 * c + hi) ∨ (k % 4 = c ∧ lo ≤ k / 4 ∧ k / 4 < hi)) then 0 else M.1 a k, M.2)
theorem mI_ez (M : Mm) (c lo hi a k : Nat) : mI (ez M c lo hi) a k = if a = 94 ∧ k < 16 ∧ ((4 * c + lo ≤ k ∧ k < 4 * c + hi) ∨ (k % 4 = c ∧ lo ≤ k / 4 ∧ k / 4 < hi)) then 0 else mI M a k := rfl
theorem ez_step {M : Mm} {c lo : Nat} (hc : c < 4) (h : lo < 4) : ez (sI (sI M 94 (4 * c + lo) 0) 94 (4 * lo + c) 0) c (lo + 1) 4 = ez M c lo 4 := by
  unfold ez sI
  refine Prod.ext ?_ rfl
  funext a k
  show (if a = 94 ∧ k < 16 ∧ ((4 * c + (lo + 1) ≤ k ∧ k < 4 * c + 4) ∨ (k % 4 = c ∧ lo + 1 ≤ k / 4 ∧ k / 4 < 4)) then (0 : Int32) else if a = 94 ∧ k = 4 * lo + c then 0 else if a = 94 ∧ k = 4 * c + lo then 0 else M.1 a k) = if a = 94 ∧ k < 16 ∧ ((4 * c + lo ≤ k ∧ k < 4 * c + 4) ∨ (k % 4 = c ∧ lo ≤ k / 4 ∧ k / 4 < 4)) then 0 else M.1 a k
  by_cases h1 : a = 94 ∧ k < 16 ∧ ((4 * c + lo ≤ k ∧ k < 4 * c + 4) ∨ (k % 4 = c ∧ lo ≤ k / 4 ∧ k / 4 < 4))
  · rw [if_pos h1]
    by_cases h2 : a = 94 ∧ k < 16 ∧ ((4 * c + (lo + 1) ≤ k ∧ k < 4 * c + 4) ∨ (k % 4 = c ∧ lo + 1 ≤ k / 4 ∧ k / 4 < 4))
    · rw [if_pos h2]
    · rw [if_neg h2]
      by_cases h3 : a = 94 ∧ k = 4 * lo + c
      · rw [if_pos h3]
      · rw [if_neg h3, if_pos (by omega)]
  · rw [if_neg h1, if_neg (by omega), if_neg (by omega), if_neg (by omega)]
theorem ez_nil {M : Mm} {c : Nat} (hc : c < 4) : ez M c 4 4 = M := by
  unfold ez
  refine Prod.ext ?_ rfl
  funext a k
  show (if a = 94 ∧ k < 16 ∧ ((4 * c + 4 ≤ k ∧ k < 4 * c + 4) ∨ (k % 4 = c ∧ 4 ≤ k / 4 ∧ k / 4 < 4)) then (0 : Int32) else M.1 a k) = M.1 a k
  rw [if_neg (by omega)]
theorem s_empty_l {c : Nat} (hc : c < 4) : ∀ (k i m : Nat) (M : Mm), i + k = 4 → k < m → f_X9_empty_b9 1 m (nI c) (nI i) M = some (ez M c i 4) := by
  intro k
  induction k with
  | zero =>
    intro i m M h1 h2
    obtain ⟨m, rfl⟩ : ∃ j, m = j + 1 := ⟨m - 1, by omega⟩
    rw [f_X9_empty_b9_s]
    unfold f_X9_empty_b9B
    rw [if_pos (by rw [i_le, t_nI (by omega), li_4]; omega), show i = 4 by omega, ez_nil hc]
  | succ k ih =>
    intro i m M h1 h2
    obtain ⟨m, rfl⟩ : ∃ j, m = j + 1 := ⟨m - 1, by omega⟩
    rw [f_X9_empty_b9_s]
    unfold f_X9_empty_b9B
    rw [if_neg (by rw [i_le, t_nI (by omega), li_4]; omega)]
    simp only [ck_w hc (show i < 4 by omega), ck_w (show i < 4 by omega) hc, cl_w hc (show i < 4 by omega), cl_w (show i < 4 by omega) hc, nm_q, bd_s, fld_1_14, nI_1]
    rw [ih (i + 1) m _ (by omega) (by omega), ez_step hc (by omega)]
def EM (M : Mm) (c : Nat) : Mm := ez (sI M 93 c 0) c 0 4
theorem s_empty {c : Nat} (M : Mm) (hc : c < 4) : f_X9_empty 1 (nI c) M = some (EM M c) := by
  unfold f_X9_empty
  simp only [ck_k hc (show 4 < 1000 by omega), fld_1_13, nI_cl (show c < 2 ^ 31 by omega), nm_q, bd_s]
  exact s_empty_l hc 4 0 fuel _ (by omega) (by show 4 < 1000; omega)
theorem wf_rpl {kd rt hd rm cm : Nf} {wy : Nat → Nf} {c v : Nat} (w : wfN kd rt hd rm cm wy) (hc : c < 4) (hv : v ≤ 5 ∨ v = 9) : wfN (fun j => if j = c then v else kd j) (fun j => if j = c then 1 else rt j) (fun j => if j = c then 1 else hd j) (fun j => if j = c then 1 else rm j) (fun j => if j = c then 0 else cm j) (fun a b => if a = c ∨ b = c then 0 else wy a b) := by
  intro d hd9
  have q := w d hd9
  dsimp only
  by_cases e : d = c
  · subst e
    exact ⟨by simpa using hv, by simp, by simp, by simp, by simp, fun _ => ⟨by simp, fun k hk => ⟨by simp, by simp⟩⟩, by simp⟩
  · simp only [e, if_false, false_or]
    refine ⟨q.1, q.2.1, q.2.2.1, q.2.2.2.1, q.2.2.2.2.1, fun h9 => ⟨(q.2.2.2.2.2.1 h9).1, fun k hk => ⟨?_, ?_⟩⟩, ?_⟩
    · split
      · rfl
      · exact ((q.2.2.2.2.2.1 h9).2 k hk).1
    · split
      · rfl
      · exact ((q.2.2.2.2.2.1 h9).2 k hk).2
    · have q4 := q.2.2.2.2.2.2
      repeat' split
      all_goals omega
theorem EM_far (M : Mm) (c : Nat) {a k : Nat} (h : a ≠ 93 ∧ a ≠ 94) : mI (EM M c) a k = mI M a k := by
  unfold EM
  rw [mI_ez, if_neg (by omega), mI_sI, if_neg (by omega)]
theorem al_counter (x v : Int32) : Alike (f_X8_counter 0 x v) (f_X9_counter 1 x v) := by
  intro M h
  obtain ⟨⟨kd, rt, hd, rm, cm, wy, w, n1, n2⟩, hrow, hflg⟩ := id h
  by_cases hv : 0 ≤ v.toInt ∧ v.toInt ≤ 5
  · obtain ⟨j, hj, rfl⟩ := x_of (x := v) (n := 6) (in_iff.mpr (by omega)) (by omega)
    have tj : (nI j).toInt = (j : Int) := t_nI (by omega)
    rw [tj] at hv
    rcases x_split4 x with ⟨c, hc, rfl⟩ | hx
    · have tc : (nI c).toInt = (c : Int) := t_nI (by omega)
      have n2' : NetR kd rt hd rm cm wy (RPX M c (nI j)) := n2.sc (fun a k p => RPX_far M c _ hc (by unfold pR at p; omega))
      refine ⟨if kd c = 9 then 0 else 1, RPX M c (nI j), sI (sI (sI (sI (sI (EM (RPX M c (nI j)) c) 88 c 1) 89 c (nI j)) 90 c 1) 91 c 1) 92 c 1, ?_, ?_, ?_⟩
      · unfold f_X8_counter f_X8_counter_b34
        simp only [s_isCounterNumber, i_lt, i_le, tc, tj, li_m9, li_m4, li_m3, li_m2, li_m1, li_0, li_1, li_2, li_3, li_4, li_5, li_6, li_7, li_8, li_9, li_10, li_11, li_12, li_13, li_16, li_24, li_25, li_31, li_36, li_40, li_125, li_200, li_240, li_625, li_1000, li_100000, li_1000000, nm_q, bd_s, if_pos (show (0 : Int) ≤ c ∧ (c : Int) < 4 by omega), fld_0_1, s_has n1 w hc, if_neg (show ¬ (j : Int) < 0 by omega), if_pos (show (j : Int) ≤ 5 by omega), s_replace M hc]
        by_cases e : kd c = 9 <;> simp [e]
      · unfold f_X9_counter f_X9_counter_b32
        simp only [s_isCounter, s_in, tc, tj, li_m9, li_m4, li_m3, li_m2, li_m1, li_0, li_1, li_2, li_3, li_4, li_5, li_6, li_7, li_8, li_9, li_10, li_11, li_12, li_13, li_16, li_24, li_25, li_31, li_36, li_40, li_125, li_200, li_240, li_625, li_1000, li_100000, li_1000000, nm_q, bd_s, if_pos (show (0 : Int) ≤ c ∧ (c : Int) < 4 by omega), if_pos hv, fld_1_8, fld_1_9, fld_1_10, fld_1_11, fld_1_12, nI_cl (show c < 2 ^ 31 by omega), ck_k hc (show 4 < 1000 by omega), (n2'.1 c hc).1, s_empty _ hc]
        by_cases e : kd c = 9 <;> simp [e]
      · have efar : ∀ a k, a ≠ 88 → a ≠ 89 → a ≠ 90 → a ≠ 91 → a ≠ 92 → mI (sI (sI (sI (sI (sI (EM (RPX M c (nI j)) c) 88 c 1) 89 c (nI j)) 90 c 1) 91 c 1) 92 c 1) a k = mI (EM (RPX M c (nI j)) c) a k := fun a k h1 h2 h3 h4 h5 => by
          rw [mI_sI, if_neg (by omega), mI_sI, if_neg (by omega), mI_sI, if_neg (by omega), mI_sI, if_neg (by omega), mI_sI, if_neg (by omega)]
        have hn9 : (if j = 9 then (-1 : Int32) else nI j) = nI j := if_neg (by omega)
        have nC := RPX_net (v := j) n1 hc
        rw [hn9] at nC
        refine inv_net h (fun a k p q => ?_) rfl ⟨_, _, _, _, _, _, wf_rpl (v := j) w hc (by omega), nC.sc (fun a k p => ?_), ⟨fun d hd9 => ?_, fun d k hd9 hk => ?_⟩⟩
        · rw [efar a k (by unfold netA at q; omega) (by unfold netA at q; omega) (by unfold netA at q; omega) (by unfold netA at q; omega) (by unfold netA at q; omega), EM_far _ _ (by unfold netA at q; omega), RPX_far _ _ _ hc (by unfold netA at q; rcases p with p | p <;> first | (unfold pX at p; omega) | (unfold pR at p; omega))]
        · rw [efar a k (by unfold pX at p; omega) (by unfold pX at p; omega) (by unfold pX at p; omega) (by unfold pX at p; omega) (by unfold pX at p; omega), EM_far _ _ (by unfold pX at p; omega)]
        · have q := n2'.1 d hd9
          have e93 : mI (EM (RPX M c (nI j)) c) 93 d = if d = c then 0 else mI (RPX M c (nI j)) 93 d := by
            unfold EM
            rw [mI_ez, if_neg (by omega), mI_sI]
            by_cases e : d = c
            · rw [if_pos ⟨rfl, e⟩, if_pos e]
            · rw [if_neg (by omega), if_neg e]
          rw [efar 93 d (by omega) (by omega) (by omega) (by omega) (by omega), e93]
          simp only [mI_sI, EM_far _ c (show 88 ≠ 93 ∧ 88 ≠ 94 by omega), EM_far _ c (show 89 ≠ 93 ∧ 89 ≠ 94 by omega), EM_far _ c (show 90 ≠ 93 ∧ 90 ≠ 94 by omega), EM_far _ c (show 91 ≠ 93 ∧ 91 ≠ 94 by omega), EM_far _ c (show 92 ≠ 93 ∧ 92 ≠ 94 by omega)]
          by_cases e : d = c
          · subst e
            simp [show j ≠ 9 by omega]
            exact ⟨rfl, rfl⟩
          · simp only [e, and_false, if_false]
            exact q
        · show _ = nI (if d = c ∨ k = c then 0 else wy d k)
          rw [efar 94 _ (by omega) (by omega) (by omega) (by omega) (by omega)]
          unfold EM
          rw [mI_ez]
          by_cases e : d = c ∨ k = c
          · rw [if_pos e, if_pos (by omega)]; rfl
          · rw [if_neg e, if_neg (by omega), mI_sI, if_neg (by omega)]
            exact n2'.2 d k hd9 hk
    · refine ⟨-1, M, M, ?_, ?_, h⟩
      · unfold f_X8_counter
        simp only [s_isCounterNumber, nm_q, bd_s, if_neg hx]
        rfl
      · unfold f_X9_counter
        simp only [s_isCounter, nm_q, bd_s, if_neg hx]
        rfl
  · refine ⟨-1, M, M, ?_, ?_, h⟩
    · unfold f_X8_counter
      simp only [s_isCounterNumber, nm_q, bd_s, i_lt, i_le, li_m9, li_m4, li_m3, li_m2, li_m1, li_0, li_1, li_2, li_3, li_4, li_5, li_6, li_7, li_8, li_9, li_10, li_11, li_12, li_13, li_16, li_24, li_25, li_31, li_36, li_40, li_125, li_200, li_240, li_625, li_1000, li_100000, li_1000000]
      by_cases q : 0 ≤ x.toInt ∧ x.toInt < 4
      · by_cases q2 : v.toInt < 0
        · simp [q, q2]
        · simp only [q, q2, if_neg (show ¬ v.toInt ≤ 5 by omega)]
          simp
      · simp [q]
    · unfold f_X9_counter
      simp only [s_isCounter, s_in, li_m9, li_m4, li_m3, li_m2, li_m1, li_0, li_1, li_2, li_3, li_4, li_5, li_6, li_7, li_8, li_9, li_10, li_11, li_12, li_13, li_16, li_24, li_25, li_31, li_36, li_40, li_125, li_200, li_240, li_625, li_1000, li_100000, li_1000000, nm_q, bd_s, if_neg hv]
      by_cases q : 0 ≤ x.toInt ∧ x.toInt < 4 <;> simp [q]
theorem al_drop (x : Int32) : Alike (f_X8_drop 0 x) (f_X9_drop 1 x) := by
  intro M h
  obtain ⟨⟨kd, rt, hd, rm, cm, wy, w, n1, n2⟩, hrow, hflg⟩ := id h
  rcases x_split4 x with ⟨c, hc, rfl⟩ | hx
  · have tc : (nI c).toInt = (c : Int) := t_nI (by omega)
    by_cases e9 : kd c = 9
    · refine ⟨-3, RF M 1, RM (RF M 1) 1, ?_, ?_, inv_ref h (by omega) (by omega) (Sc.rf _) (Sc.rf _)⟩
      · unfold f_X8_drop
        simp only [s_isCounterNumber, tc, nm_q, bd_s, if_pos (show (0 : Int) ≤ c ∧ (c : Int) < 4 by omega), fld_0_1, s_has n1 w hc, s_ref1, e9]
        rfl
      · unfold f_X9_drop
        simp only [nm_q, bd_s, s_askedFor (nr_RF n2) hc, e9]
        rfl
    · have n2' : NetR kd rt hd rm cm wy (RPX M c (-1)) := n2.sc (fun a k p => RPX_far M c _ hc (by unfold pR at p; omega))
      refine ⟨1, RPX M c (-1), sI (EM (RPX M c (-1)) c) 88 c 0, ?_, ?_, ?_⟩
      · unfold f_X8_drop
        simp only [s_isCounterNumber, tc, nm_q, bd_s, if_pos (show (0 : Int) ≤ c ∧ (c : Int) < 4 by omega), fld_0_1, s_has n1 w hc, e9, s_replace M hc]
        rfl
      · unfold f_X9_drop
        simp only [nm_q, bd_s, s_askedFor n2' hc, e9, if_false, s_empty _ hc, fld_1_8, nI_cl (show c < 2 ^ 31 by omega), ck_k hc (show 4 < 1000 by omega)]
        rfl
      · have efar : ∀ a k, a ≠ 88 → mI (sI (EM (RPX M c (-1)) c) 88 c 0) a k = mI (EM (RPX M c (-1)) c) a k := fun a k h1 => by
          rw [mI_sI, if_neg (by omega)]
        have nC := RPX_net (v := 9) n1 hc
        rw [if_pos rfl] at nC
        refine inv_net h (fun a k p q => ?_) rfl ⟨_, _, _, _, _, _, wf_rpl (v := 9) w hc (by omega), nC.sc (fun a k p => ?_), ⟨fun d hd9 => ?_, fun d k hd9 hk => ?_⟩⟩
        · rw [efar a k (by unfold netA at q; omega), EM_far _ _ (by unfold netA at q; omega), RPX_far _ _ _ hc (by unfold netA at q; rcases p with p | p <;> first | (unfold pX at p; omega) | (unfold pR at p; omega))]
        · rw [efar a k (by unfold pX at p; omega), EM_far _ _ (by unfold pX at p; omega)]
        · have q := n2'.1 d hd9
          have e93 : mI (EM (RPX M c (-1)) c) 93 d = if d = c then 0 else mI (RPX M c (-1)) 93 d := by
            unfold EM
            rw [mI_ez, if_neg (by omega), mI_sI]
            by_cases e : d = c
            · rw [if_pos ⟨rfl, e⟩, if_pos e]
            · rw [if_neg (by omega), if_neg e]
          rw [efar 93 d (by omega), efar 89 d (by omega), efar 90 d (by omega), efar 91 d (by omega), efar 92 d (by omega), e93]
          simp only [mI_sI, EM_far _ c (show 88 ≠ 93 ∧ 88 ≠ 94 by omega), EM_far _ c (show 89 ≠ 93 ∧ 89 ≠ 94 by omega), EM_far _ c (show 90 ≠ 93 ∧ 90 ≠ 94 by omega), EM_far _ c (show 91 ≠ 93 ∧ 91 ≠ 94 by omega), EM_far _ c (show 92 ≠ 93 ∧ 92 ≠ 94 by omega)]
          by_cases e : d = c
          · subst e
            simp
            rfl
          · simp only [e, and_false, if_false]
            exact q
        · show _ = nI (if d = c ∨ k = c then 0 else wy d k)
          rw [efar 94 _ (by omega)]
          unfold EM
          rw [mI_ez]
          by_cases e : d = c ∨ k = c
          · rw [if_pos e, if_pos (by omega)]; rfl
          · rw [if_neg e, if_neg (by omega), mI_sI, if_neg (by omega)]
            exact n2'.2 d k hd9 hk
  · refine ⟨-1, M, M, ?_, ?_, h⟩
    · unfold f_X8_drop
      simp only [s_isCounterNumber, nm_q, bd_s, if_neg hx]
      rfl
    · unfold f_X9_drop
      simp only [s_askedFor_bad hx, nm_q, bd_s]
      rfl

/-! narrow, bound -/
theorem al_c0 {fX fR gX gR : Mm → Option (Int32 × Mm)} (hX : ∀ M, fX M = bd (f_X4_isClosed (fld 0 1) M) fun q1 => if q1.1 = 0 then some (-4, q1.2) else bd (f_X5_load (fld 0 2) (fld 0 1) q1.2) fun M3 => gX M3) (hR : ∀ M, fR M = bd (f_X9_isClosed 1 M) fun q1 => if q1.1 = 0 then some (-4, q1.2) else bd (f_X9_setVisits 1 q1.2) fun M3 => gR M3) (core : ∀ (M M2 : Mm) (kd rr hd rm cm : Nf) (wy : Nat → Nf), Inv M → Sc M M2 → wfN kd rr hd rm cm wy → ClN kd cm wy → LdC kd rr hd wy M2 → ∃ (r : Int32) (Ma : Mm), gX M2 = some (r, Ma) ∧ (∀ a k, pR a k → mI Ma a k = mI M a k) ∧ ∀ Mv, Sc Ma Mv → (∀ c, c < 4 → mJ Mv 98 c = lN (vn kd wy c)) → NetR kd rr hd rm cm wy Mv → ∃ Mb, gR Mv = some (r, Mb) ∧ Inv Mb) : Alike fX fR := by
  intro M h
  obtain ⟨⟨kd, rr, hd, rm, cm, wy, w, n1, n2⟩, -, -⟩ := id h
  obtain ⟨M1, e1, e2, e3⟩ := s_closedX n1 w
  have n1' : NetC kd rr hd rm cm wy M1 := n1.sc (fun a k q => e2.1 a k (Or.inl q))
  by_cases z : tbN kd 4 ≠ 0 ∧ gF kd 4 0 = true ∧ AF (cPA kd cm wy) 4 0 = true ∧ AF (cPB kd wy) 4 0 = true
  · rw [if_pos z] at e1
    have clN := cl_N (show clP kd cm wy from z)
    obtain ⟨M2, l1, l2, l3⟩ := s_rload n1' w clN
    obtain ⟨r, Ma, g1, g2, g3⟩ := core M M2 kd rr hd rm cm wy h (e2.tr l2) w clN l3
    have na : NetR kd rr hd rm cm wy Ma := n2.sc g2
    have e4 := s_closedR na w
    rw [if_pos z] at e4
    obtain ⟨Mv, v1, v2, v3⟩ := s_setVisits na w clN
    obtain ⟨Mb, b1, b2⟩ := g3 Mv v2 v3 (na.sc (fun a k q => v2.1 a k (Or.inr q)))
    refine ⟨r, Ma, Mb, ?_, ?_, b2⟩
    · rw [hX, fld_0_1, e1]
      simp only [nm_q, bd_s, show ¬ ((1 : Int32) = 0) by decide, if_false, fld_0_2, l1, g1]
    · rw [hR, e4]
      simp only [nm_q, bd_s, show ¬ ((1 : Int32) = 0) by decide, if_false, v1, b1]
  · rw [if_neg z] at e1
    have na : NetR kd rr hd rm cm wy M1 := n2.sc (fun a k q => e2.1 a k (Or.inr q))
    have e4 := s_closedR na w
    rw [if_neg z] at e4
    refine ⟨-4, M1, M1, ?_, ?_, h.sc e2⟩
    · rw [hX, fld_0_1, e1]
      simp only [nm_q, bd_s, if_true]
    · rw [hR, e4]
      simp only [nm_q, bd_s, if_true]
def nwF (kd hd q : Nf) : Nat → Nat → Nat → Nat
  | 0, _, f => f
  | k + 1, c, f => if kd c = 9 ∨ kd c = 3 then nwF kd hd q k (c + 1) f else if f = 9 then nwF kd hd q k (c + 1) c else if q c * hd f ≤ q f * hd c then nwF kd hd q k (c + 1) f else nwF kd hd q k (c + 1) c
def enc (f : Nat) : Int32 := if f = 9 then -9 else nI f
def fOk (kd : Nf) (f : Nat) : Prop := f = 9 ∨ (f < 4 ∧ kd f ≠ 9 ∧ kd f ≠ 3)
theorem nwF_ok {kd hd q : Nf} : ∀ k c f, c + k = 4 → fOk kd f → fOk kd (nwF kd hd q k c f)
  | 0, _, _, _, hf => hf
  | k + 1, c, f, hc, hf => by
    unfold nwF
    by_cases a : kd c = 9 ∨ kd c = 3
    · rw [if_pos a]; exact nwF_ok k (c + 1) f (by omega) hf
    · have hcc : fOk kd c := Or.inr ⟨by omega, fun y => a (Or.inl y), fun y => a (Or.inr y)⟩
      rw [if_neg a]
      by_cases b : f = 9
      · rw [if_pos b]; exact nwF_ok k (c + 1) c (by omega) hcc
      · rw [if_neg b]
        split
        · exact nwF_ok k (c + 1) f (by omega) hf
        · exact nwF_ok k (c + 1) c (by omega) hcc
theorem cmp_N {a b : Nat} (ha : a < 2 ^ 63) (hb : b < 2 ^ 63) : lg_cmp (lN a) (lN b) ≤ 0 ↔ a ≤ b := by rw [q_le, lN_T ha, lN_T hb]; omega
theorem cmp_G {a b : Nat} (ha : a < 2 ^ 63) (hb : b < 2 ^ 63) : 0 ≤ lg_cmp (lN a) (lN b) ↔ b ≤ a := by rw [q_ge, lN_T ha, lN_T hb]; omega
theorem qh_b {kd rr hd q : Nf} (x : CxN kd rr hd q) {a b : Nat} (ha : a < 4) (hb : b < 4) : q a * hd b ≤ 1536 := by
  have h1 := x.2.2.2.2.1 a ha
  have h2 := (x.1 b hb).2
  have := Nat.mul_le_mul h1 (show hd b ≤ 2 by omega)
  omega
theorem s_narrowX {M : Mm} {kd rr hd q : Nf} (h : LdW kd hd q M) (x : CxN kd rr hd q) : f_X5_narrowest 5 M = some (enc (nwF kd hd q 4 0 9), M) := by
  have lp : ∀ (k c f m : Nat), c + k = 4 → k < m → fOk kd f → f_X5_narrowest_b5 5 m (enc f) (nI c) M = some (enc (nwF kd hd q k c f), M) := by
    intro k
    induction k with
    | zero =>
      intro c f m h1 h2 hf
      obtain ⟨m, rfl⟩ : ∃ j, m = j + 1 := ⟨m - 1, by omega⟩
      rw [f_X5_narrowest_b5_s]
      unfold f_X5_narrowest_b5B nwF
      rw [if_pos (by rw [i_le, t_nI (by omega), li_4]; omega)]
    | succ k ih =>
      intro c f m h1 h2 hf
      obtain ⟨m, rfl⟩ : ∃ j, m = j + 1 := ⟨m - 1, by omega⟩
      have hc : c < 4 := by omega
      have ok := x.1 c hc
      have i1 := fun f hf => ih (c + 1) f m (by omega) (by omega) hf
      rw [f_X5_narrowest_b5_s]
      unfold f_X5_narrowest_b5B f_X5_narrowest_b34 f_X5_narrowest_b35 nwF
      rw [if_neg (by rw [i_le, t_nI (by omega), li_4]; omega)]
      simp only [ck_k hc (show 4 < 1000 by omega), nI_cl (show c < 2 ^ 31 by omega), fld_5_1, (h c hc).1, kd_m1 ok.1, k9_3 ok.1, nm_q, bd_s, nI_1, if_true, show ¬ ((1 : Int32) = 0) by decide, if_false]
      by_cases a9 : kd c = 9
      · rw [if_pos a9, if_pos (Or.inl a9)]; exact i1 f hf
      · rw [if_neg a9]
        by_cases a3 : kd c = 3
        · rw [if_pos a3, if_pos (Or.inr a3)]; exact i1 f hf
        · have hcc : fOk kd c := Or.inr ⟨hc, a9, a3⟩
          rw [if_neg a3, if_neg (show ¬ (kd c = 9 ∨ kd c = 3) from fun hy => hy.elim a9 a3)]
          by_cases f9 : f = 9
          · rw [if_pos f9, if_pos (show enc f = -9 by unfold enc; rw [if_pos f9])]
            have := i1 c hcc
            rw [show enc c = nI c by unfold enc; rw [if_neg (by omega)]] at this
            exact this
          · have hf4 : f < 4 := by rcases hf with y | y; exact absurd y f9; exact y.1
            have ef : enc f = nI f := by unfold enc; rw [if_neg f9]
            rw [if_neg f9, ef, if_neg (show ¬ nI f = -9 by rw [i_eq, t_nI (by omega), li_m9]; omega)]
            have b1 := qh_b x hc hf4
            have b2 := qh_b x hf4 hc
            have oh := (x.1 c hc).2
            have of' := (x.1 f hf4).2
            unfold f_X5_strain
            simp only [ck_k hc (show 4 < 1000 by omega), ck_k hf4 (show 4 < 1000 by omega), nI_cl (show c < 2 ^ 31 by omega), nI_cl (show f < 2 ^ 31 by omega), fld_5_3, fld_5_4, (h c hc).2.1, (h c hc).2.2, (h f hf4).2.1, (h f hf4).2.2, t64N (show hd c < 2 ^ 31 by omega), t64N (show hd f < 2 ^ 31 by omega), lN_mul, nm_q, bd_s, cmp_N (show q c * hd f < 2 ^ 63 by omega) (show q f * hd c < 2 ^ 63 by omega)]
            by_cases y : q c * hd f ≤ q f * hd c
            · rw [if_pos y, if_pos y, ← ef]; exact i1 f hf
            · rw [if_neg y, if_neg y]
              have := i1 c hcc
              rw [show enc c = nI c by unfold enc; rw [if_neg (by omega)]] at this
              exact this
  exact lp 4 0 9 fuel (by omega) (by show 4 < 1000; omega) (Or.inl rfl)
theorem s_narrowR {M : Mm} {kd rr hd q : Nf} (h : LdR kd rr hd q M) (x : CxN kd rr hd q) : f_X9_narrowOf 1 M = some (enc (nwF kd hd q 4 0 9), M) := by
  have lp : ∀ (k c f m : Nat), c + k = 4 → k < m → fOk kd f → f_X9_narrowOf_b5 1 m (enc f) (nI c) M = some (enc (nwF kd hd q k c f), M) := by
    intro k
    induction k with
    | zero =>
      intro c f m h1 h2 hf
      obtain ⟨m, rfl⟩ : ∃ j, m = j + 1 := ⟨m - 1, by omega⟩
      rw [f_X9_narrowOf_b5_s]
      unfold f_X9_narrowOf_b5B nwF
      rw [if_pos (by rw [i_le, t_nI (by omega), li_4]; omega)]
    | succ k ih =>
      intro c f m h1 h2 hf
      obtain ⟨m, rfl⟩ : ∃ j, m = j + 1 := ⟨m - 1, by omega⟩
      have hc : c < 4 := by omega
      have ok := x.1 c hc
      have i1 := fun f hf => ih (c + 1) f m (by omega) (by omega) hf
      rw [f_X9_narrowOf_b5_s]
      unfold f_X9_narrowOf_b5B nwF
      rw [if_neg (by rw [i_le, t_nI (by omega), li_4]; omega)]
      simp only [ck_k hc (show 4 < 1000 by omega), nI_cl (show c < 2 ^ 31 by omega), fld_1_8, fld_1_9, fld_1_11, (h c hc).1, nm_q, bd_s, nI_1]
      by_cases a9 : kd c = 9
      · rw [if_pos a9, if_pos rfl, if_pos (Or.inl a9)]; exact i1 f hf
      · obtain ⟨hk, _, hh, _⟩ := (h c hc).2 a9
        have k3 : nI (kd c) = 3 ↔ kd c = 3 := by rw [show (3 : Int32) = nI 3 from rfl, n_inj (by omega) (by omega)]
        rw [if_neg a9, if_neg (by decide), hk]
        simp only [k3]
        by_cases a3 : kd c = 3
        · rw [if_pos a3, if_pos (Or.inr a3)]; exact i1 f hf
        · have hcc : fOk kd c := Or.inr ⟨hc, a9, a3⟩
          rw [if_neg a3, if_neg (show ¬ (kd c = 9 ∨ kd c = 3) from fun hy => hy.elim a9 a3)]
          by_cases f9 : f = 9
          · rw [if_pos f9, show enc f = -9 by unfold enc; rw [if_pos f9], if_pos (show (-9 : Int32) < 0 by decide)]
            have := i1 c hcc
            rw [show enc c = nI c by unfold enc; rw [if_neg (by omega)]] at this
            exact this
          · have hf4 : f < 4 ∧ kd f ≠ 9 := by rcases hf with y | y; exact absurd y f9; exact ⟨y.1, y.2.1⟩
            have ef : enc f = nI f := by unfold enc; rw [if_neg f9]
            obtain ⟨_, _, hhf, _⟩ := (h f hf4.1).2 hf4.2
            rw [if_neg f9, ef, if_neg (show ¬ nI f < 0 by rw [i_lt, t_nI (by omega), li_0]; omega)]
            have b1 := qh_b x hc hf4.1
            have b2 := qh_b x hf4.1 hc
            have oh := (x.1 c hc).2
            have of' := (x.1 f hf4.1).2
            simp only [s_part h x.2.2.1 hc a9, s_part h x.2.2.1 hf4.1 hf4.2, ck_k hf4.1 (show 4 < 1000 by omega), nI_cl (show f < 2 ^ 31 by omega), hh, hhf, t64N (show hd c < 2 ^ 31 by omega), t64N (show hd f < 2 ^ 31 by omega), lN_mul, nm_q, bd_s, cmp_N (show q c * hd f < 2 ^ 63 by omega) (show q f * hd c < 2 ^ 63 by omega)]
            by_cases y : q c * hd f ≤ q f * hd c
            · rw [if_pos y, if_pos y, ← ef]; exact i1 f hf
            · rw [if_neg y, if_neg y]
              have := i1 c hcc
              rw [show enc c = nI c by unfold enc; rw [if_neg (by omega)]] at this
              exact this
  exact lp 4 0 9 fuel (by omega) (by show 4 < 1000; omega) (Or.inl rfl)
theorem al_narrow : Alike (f_X8_narrow 0) (f_X9_narrow 1) := by
  refine al_c0 (gX := fun M3 => bd (f_X5_narrowest (fld 0 2) M3) fun q4 => some (q4.1, q4.2)) (gR := fun M3 => bd (f_X9_narrowOf 1 M3) fun q4 => some (q4.1, q4.2)) (fun _ => rfl) (fun _ => rfl) ?_
  intro M M2 kd rr hd rm cm wy h s2 w cl l3
  have cx := cx_of w cl
  refine ⟨enc (nwF kd hd (sn kd rr wy) 4 0 9), M2, ?_, fun a k q => s2.1 a k (Or.inr q), fun Mv sv hv nv => ⟨Mv, ?_, h.sc (s2.tr sv)⟩⟩
  · simp only [fld_0_2, s_narrowX (LdW_of l3) cx, nm_q, bd_s]
  · simp only [s_narrowR (LdR_of nv hv) cx, nm_q, bd_s]
def sm4 (q : Nf) : Nat → Nat
  | 0 => 0
  | c + 1 => sm4 q c + q c
theorem al_bound : ∀ x y, Alike (f_X8_bound 0 x y) (f_X9_bound 1 x y) := by
  refine al_rd (gX := fun x y M3 => bd (f_X5_tellBound (fld 0 2) x y (fld 0 5) M3) fun M4 => some (1, M4)) (gR := fun x y M => f_X9_bound_b27 1 fuel x y 0 0 M) (fun _ _ _ => rfl) (fun _ _ _ => rfl) ?_
  intro M M2 c n kd rr hd rm cm wy h s2 hc hn1 hn4 w h9 cl l3
  have cx := cx_of w cl
  have vb := vn_b w cl hc
  have hv := vb.2.1 h9
  have ldw := LdW_of l3
  have fok := nwF_ok (kd := kd) (hd := hd) (q := sn kd rr wy) 4 0 9 (by omega) (Or.inl rfl)
  have nX := s_narrowX ldw cx
  have q768 := cx.2.2.2.2.1
  have qpos := cx.2.2.2.2.2.1
  have sB : sm4 (sn kd rr wy) 4 ≤ 3072 := by
    have a0 := q768 0 (by omega)
    have a1 := q768 1 (by omega)
    have a2 := q768 2 (by omega)
    have a3 := q768 3 (by omega)
    show 0 + sn kd rr wy 0 + sn kd rr wy 1 + sn kd rr wy 2 + sn kd rr wy 3 ≤ 3072
    omega
  have sP : 1 ≤ sm4 (sn kd rr wy) 4 := by
    have p := qpos c hc h9
    show 1 ≤ 0 + sn kd rr wy 0 + sn kd rr wy 1 + sn kd rr wy 2 + sn kd rr wy 3
    rcases c4 hc with rfl | rfl | rfl | rfl <;> omega
  have nR : ∀ Mv, LdR kd rr hd (sn kd rr wy) Mv → f_X9_narrowOf 1 Mv = some (enc (nwF kd hd (sn kd rr wy) 4 0 9), Mv) := fun Mv l => s_narrowR l cx
  generalize hS : sm4 (sn kd rr wy) 4 = S at *
  generalize hf : nwF kd hd (sn kd rr wy) 4 0 9 = f at *
  have v3 := (l3 c hc).1
  have bup : 12 * n * vn kd wy c ≤ 48 * 64 := Nat.mul_le_mul (by omega) vb.1
  have bup2 : vn kd wy c * n * 12 ≤ 64 * 4 * 12 := Nat.mul_le_mul (Nat.mul_le_mul vb.1 hn4) (Nat.le_refl _)
  have eup : vn kd wy c * n * 12 = 12 * n * vn kd wy c := by generalize vn kd wy c = v; grind
  -- the class's loop
  have lpX : ∀ (b i m : Nat), i + b = 4 → b < m → f_X5_tellBound_b6 5 m (nI c) (nI n) 7 (lN (sm4 (sn kd rr wy) i)) (nI i) M2 = f_X5_tellBound_b6 5 1 (nI c) (nI n) 7 (lN S) (nI 4) M2 := by
    intro b
    induction b with
    | zero =>
      intro i m h1 h2
      obtain ⟨m, rfl⟩ : ∃ j, m = j + 1 := ⟨m - 1, by omega⟩
      have e : i = 4 := by omega
      subst e
      rw [hS, f_X5_tellBound_b6_s, show (1 : Nat) = 0 + 1 from rfl, f_X5_tellBound_b6_s]
      unfold f_X5_tellBound_b6B
      rw [if_pos (by decide), if_pos (by decide)]
    | succ b ih =>
      intro i m h1 h2
      obtain ⟨m, rfl⟩ : ∃ j, m = j + 1 := ⟨m - 1, by omega⟩
      have hih := ih (i + 1) m (by omega) (by omega)
      rw [f_X5_tellBound_b6_s]
      unfold f_X5_tellBound_b6B
      rw [if_neg (by rw [i_le, t_nI (by omega), li_4]; omega)]
      simp only [ck_k (show i < 4 by omega) (show 4 < 1000 by omega), nI_cl (show i < 2 ^ 31 by omega), fld_5_4, (ldw i (by omega)).2.2, lN_add, nm_q, bd_s, nI_1]
      exact hih
  have lpR : ∀ Mv, LdR kd rr hd (sn kd rr wy) Mv → ∀ (b i m : Nat), i + b = 4 → b < m → f_X9_bound_b27 1 m (nI c) (nI n) (lN (sm4 (sn kd rr wy) i)) (nI i) Mv = f_X9_bound_b27 1 1 (nI c) (nI n) (lN S) (nI 4) Mv := by
    intro Mv l b
    induction b with
    | zero =>
      intro i m h1 h2
      obtain ⟨m, rfl⟩ : ∃ j, m = j + 1 := ⟨m - 1, by omega⟩
      have e : i = 4 := by omega
      subst e
      rw [hS, f_X9_bound_b27_s, show (1 : Nat) = 0 + 1 from rfl, f_X9_bound_b27_s]
      unfold f_X9_bound_b27B
      rw [if_pos (by decide), if_pos (by decide)]
    | succ b ih =>
      intro i m h1 h2
      obtain ⟨m, rfl⟩ : ∃ j, m = j + 1 := ⟨m - 1, by omega⟩
      have hi : i < 4 := by omega
      have hih := ih (i + 1) m (by omega) (by omega)
      rw [show sm4 (sn kd rr wy) (i + 1) = sm4 (sn kd rr wy) i + sn kd rr wy i from rfl] at hih
      rw [f_X9_bound_b27_s]
      unfold f_X9_bound_b27B f_X9_bound_b55
      rw [if_neg (by rw [i_le, t_nI (by omega), li_4]; omega)]
      simp only [ck_k hi (show 4 < 1000 by omega), nI_cl (show i < 2 ^ 31 by omega), fld_1_8, (l i hi).1, nm_q, bd_s, nI_1]
      by_cases a9 : kd i = 9
      · rw [if_pos a9, if_pos rfl, show (0 : Int64) = lN 0 from rfl, lN_add]
        rw [cx.2.2.2.1 i hi a9] at hih
        exact hih
      · rw [if_neg a9, if_neg (by decide), s_part l cx.2.2.1 hi a9, bd_s, lN_add]
        exact hih
  -- the answer: two numbers u by l
  have fin : ∀ (u l u2 l2 : Nat), u < 2 ^ 63 → l < 2 ^ 63 → u2 < 2 ^ 63 → l2 < 2 ^ 63 → 0 < l → 0 < l2 → u * l2 = u2 * l → (bd (f_X5_tellBound 5 (nI c) (nI n) 7 M2) fun M4 => some ((1 : Int32), M4)) = some (1, sJ (sJ M2 7 0 (frU (lN u) (lN l))) 7 1 (frL (lN u) (lN l))) → (∀ Mv, LdR kd rr hd (sn kd rr wy) Mv → (∀ c, c < 4 → mJ Mv 98 c = lN (vn kd wy c)) → NetR kd rr hd rm cm wy Mv → f_X9_bound_b27 1 1 (nI c) (nI n) (lN S) (nI 4) Mv = some (1, sJ (sJ Mv 1 3 (frU (lN u2) (lN l2))) 1 4 (frL (lN u2) (lN l2)))) → ∃ (r : Int32) (Ma : Mm), (bd (f_X5_tellBound (fld 0 2) (nI c) (nI n) (fld 0 5) M2) fun M4 => some ((1 : Int32), M4)) = some (r, Ma) ∧ (∀ a k, pR a k → mI Ma a k = mI M a k) ∧ ∀ Mv, Sc Ma Mv → (∀ c, c < 4 → mJ Mv 98 c = lN (vn kd wy c)) → NetR kd rr hd rm cm wy Mv → ∃ Mb, f_X9_bound_b27 1 fuel (nI c) (nI n) 0 0 Mv = some (r, Mb) ∧ Inv Mb := by
    intro u l u2 l2 b1 b2 b3 b4 p1 p2 e hXX hRR
    have fe := fr_N b1 b2 b3 b4 p1 p2 e
    refine ⟨1, sJ (sJ M2 7 0 (frU (lN u) (lN l))) 7 1 (frL (lN u) (lN l)), by rw [fld_0_2, fld_0_5]; exact hXX, fun a k q => s2.1 a k (Or.inr q), fun Mv sv hvv nv => ?_⟩
    have ldr := LdR_of nv hvv
    refine ⟨sJ (sJ Mv 1 3 (frU (lN u) (lN l))) 1 4 (frL (lN u) (lN l)), ?_, inv_frac h s2 sv⟩
    have := lpR Mv ldr 4 0 fuel (by omega) (by show 4 < 1000; omega)
    rw [hRR Mv ldr hvv nv, ← fe.1, ← fe.2] at this
    exact this
  have tX : f_X5_tellBound 5 (nI c) (nI n) 7 M2 = f_X5_tellBound_b6 5 1 (nI c) (nI n) 7 (lN S) (nI 4) M2 := lpX 4 0 fuel (by omega) (by show 4 < 1000; omega)
  have m12 : (12 : Int32) * nI n = nI (12 * n) := by rw [show (12 : Int32) = nI 12 from rfl, n_mul]
  by_cases f9 : f = 9
  · have ef : enc f = -9 := by unfold enc; rw [if_pos f9]
    refine fin (12 * n * vn kd wy c) S (vn kd wy c * n * 12) S (by omega) (by omega) (by omega) (by omega) (by omega) (by omega) (by rw [eup]) ?_ (fun Mv ldr hvv nv => ?_)
    · rw [tX, show (1 : Nat) = 0 + 1 from rfl, f_X5_tellBound_b6_s]
      unfold f_X5_tellBound_b6B
      rw [if_pos (by decide)]
      simp only [ck_k hc (show 4 < 1000 by omega), nI_cl (show c < 2 ^ 31 by omega), fld_5_0, v3, m12, t64N (show 12 * n < 2 ^ 31 by omega), lN_mul, nm_q, bd_s, nX, ef, if_true, set_N M2 (show 12 * n * vn kd wy c < 2 ^ 63 by omega) (show S < 2 ^ 63 by omega) (show 0 < S by omega)]
    · rw [show f_X9_bound_b27 1 1 = f_X9_bound_b27 1 (0 + 1) from rfl, f_X9_bound_b27_s]
      unfold f_X9_bound_b27B f_X9_bound_b139
      rw [if_pos (by decide)]
      simp only [ck_k hc (show 4 < 1000 by omega), nI_cl (show c < 2 ^ 31 by omega), fld_1_20, hvv c hc, t64N (show n < 2 ^ 31 by omega), show (12 : Int64) = lN 12 from rfl, lN_mul, nm_q, bd_s, nR Mv ldr, ef, show (-9 : Int32) < 0 by decide, if_true, share_N (x := 1) Mv (show vn kd wy c * n * 12 < 2 ^ 63 by omega) (show S < 2 ^ 63 by omega) (show 0 < S by omega)]
  · have hf4 : f < 4 ∧ kd f ≠ 9 := by rcases fok with y | y; exact absurd y f9; exact ⟨y.1, y.2.1⟩
    have ef : enc f = nI f := by unfold enc; rw [if_neg f9]
    have en9 : ¬ nI f = -9 := by rw [i_eq, t_nI (by omega), li_m9]; omega
    have en0 : ¬ nI f < 0 := by rw [i_lt, t_nI (by omega), li_0]; omega
    have hb := rh_b w hf4.1
    have r12' := r12 (w f hf4.1).2.1
    have vf := vn_b w cl hf4.1
    have vfp := vf.2.1 hf4.2
    have qf := q768 f hf4.1
    have qfp := qpos f hf4.1 hf4.2
    have bN : 12 * hd f * vn kd wy c ≤ 24 * 64 := Nat.mul_le_mul (by omega) vb.1
    have bO : vn kd wy c * (rr f * hd f) ≤ 64 * 24 := Nat.mul_le_mul vb.1 hb.2.2.2.2.2.1
    have m12h : (12 : Int32) * nI (hd f) = nI (12 * hd f) := by rw [show (12 : Int32) = nI 12 from rfl, n_mul]
    have x1 : 12 * hd f * vn kd wy c * S ≤ 24 * 64 * 3072 := Nat.mul_le_mul bN sB
    have x2 : 12 * n * vn kd wy c * sn kd rr wy f ≤ 48 * 64 * 768 := Nat.mul_le_mul bup qf
    have x3 : vn kd wy c * (rr f * hd f) * S ≤ 64 * 24 * 3072 := Nat.mul_le_mul bO sB
    have x4 : vn kd wy c * n * 12 * vn kd wy f ≤ 64 * 4 * 12 * 64 := Nat.mul_le_mul bup2 vf.1
    have eN : 12 * hd f * vn kd wy c = (12 / rr f) * (vn kd wy c * (rr f * hd f)) := by
      have := r12'.1
      generalize vn kd wy c = v
      generalize 12 / rr f = d at *
      generalize rr f = r at *
      generalize hd f = hh at *
      have : d * r * (hh * v) = 12 * (hh * v) := by rw [this]
      grind
    have eQ : sn kd rr wy f = (12 / rr f) * vn kd wy f := by unfold sn; rw [Nat.mul_comm]
    have cmpE : (12 * n * vn kd wy c * sn kd rr wy f ≤ 12 * hd f * vn kd wy c * S) ↔ (vn kd wy c * n * 12 * vn kd wy f ≤ vn kd wy c * (rr f * hd f) * S) := by
      rw [eN, eQ, eup]
      have d1 := r12'.2.1
      generalize 12 / rr f = d at *
      rw [show 12 * n * vn kd wy c * (d * vn kd wy f) = d * (12 * n * vn kd wy c * vn kd wy f) by generalize vn kd wy c = v; generalize vn kd wy f = v'; grind, Nat.mul_assoc d]
      constructor
      · intro y; exact Nat.le_of_mul_le_mul_left y (by omega)
      · intro y; exact Nat.mul_le_mul (Nat.le_refl _) y
    have hdf := (ldw f hf4.1).2.1
    have qfJ := (ldw f hf4.1).2.2
    have oh := (cx.1 f hf4.1).2
    by_cases y : 12 * n * vn kd wy c * sn kd rr wy f ≤ 12 * hd f * vn kd wy c * S
    · have y2 := cmpE.mp y
      refine fin (12 * n * vn kd wy c) S (vn kd wy c * n * 12) S (by omega) (by omega) (by omega) (by omega) (by omega) (by omega) (by rw [eup]) ?_ (fun Mv ldr hvv nv => ?_)
      · rw [tX, show (1 : Nat) = 0 + 1 from rfl, f_X5_tellBound_b6_s]
        unfold f_X5_tellBound_b6B
        rw [if_pos (by decide)]
        simp only [ck_k hc (show 4 < 1000 by omega), ck_k hf4.1 (show 4 < 1000 by omega), nI_cl (show c < 2 ^ 31 by omega), nI_cl (show f < 2 ^ 31 by omega), fld_5_0, fld_5_3, fld_5_4, v3, hdf, qfJ, m12, m12h, t64N (show 12 * n < 2 ^ 31 by omega), t64N (show 12 * hd f < 2 ^ 31 by omega), lN_mul, nm_q, bd_s, nX, ef, en9, if_false, cmp_G (show 12 * hd f * vn kd wy c * S < 2 ^ 63 by omega) (show 12 * n * vn kd wy c * sn kd rr wy f < 2 ^ 63 by omega), if_pos y, set_N M2 (show 12 * n * vn kd wy c < 2 ^ 63 by omega) (show S < 2 ^ 63 by omega) (show 0 < S by omega)]
      · rw [show f_X9_bound_b27 1 1 = f_X9_bound_b27 1 (0 + 1) from rfl, f_X9_bound_b27_s]
        unfold f_X9_bound_b27B f_X9_bound_b139
        rw [if_pos (by decide)]
        simp only [ck_k hc (show 4 < 1000 by omega), ck_k hf4.1 (show 4 < 1000 by omega), nI_cl (show c < 2 ^ 31 by omega), nI_cl (show f < 2 ^ 31 by omega), fld_1_20, hvv c hc, hvv f hf4.1, t64N (show n < 2 ^ 31 by omega), t64N (show rr f * hd f < 2 ^ 31 by omega), show (12 : Int64) = lN 12 from rfl, lN_mul, nm_q, bd_s, nR Mv ldr, ef, en0, if_false, s_bears nv w hf4.1 hf4.2, cmp_G (show vn kd wy c * (rr f * hd f) * S < 2 ^ 63 by omega) (show vn kd wy c * n * 12 * vn kd wy f < 2 ^ 63 by omega), if_pos y2, share_N (x := 1) Mv (show vn kd wy c * n * 12 < 2 ^ 63 by omega) (show S < 2 ^ 63 by omega) (show 0 < S by omega)]
    · have y2 : ¬ (vn kd wy c * n * 12 * vn kd wy f ≤ vn kd wy c * (rr f * hd f) * S) := fun hz => y (cmpE.mpr hz)
      refine fin (12 * hd f * vn kd wy c) (sn kd rr wy f) (vn kd wy c * (rr f * hd f)) (vn kd wy f) (by omega) (by omega) (by omega) (by omega) (by omega) (by omega) (by rw [eN, eQ]; generalize vn kd wy c = v; generalize vn kd wy f = v'; grind) ?_ (fun Mv ldr hvv nv => ?_)
      · rw [tX, show (1 : Nat) = 0 + 1 from rfl, f_X5_tellBound_b6_s]
        unfold f_X5_tellBound_b6B
        rw [if_pos (by decide)]
        simp only [ck_k hc (show 4 < 1000 by omega), ck_k hf4.1 (show 4 < 1000 by omega), nI_cl (show c < 2 ^ 31 by omega), nI_cl (show f < 2 ^ 31 by omega), fld_5_0, fld_5_3, fld_5_4, v3, hdf, qfJ, m12, m12h, t64N (show 12 * n < 2 ^ 31 by omega), t64N (show 12 * hd f < 2 ^ 31 by omega), lN_mul, nm_q, bd_s, nX, ef, en9, if_false, cmp_G (show 12 * hd f * vn kd wy c * S < 2 ^ 63 by omega) (show 12 * n * vn kd wy c * sn kd rr wy f < 2 ^ 63 by omega), if_neg y, set_N M2 (show 12 * hd f * vn kd wy c < 2 ^ 63 by omega) (show sn kd rr wy f < 2 ^ 63 by omega) (show 0 < sn kd rr wy f by omega)]
      · rw [show f_X9_bound_b27 1 1 = f_X9_bound_b27 1 (0 + 1) from rfl, f_X9_bound_b27_s]
        unfold f_X9_bound_b27B f_X9_bound_b139
        rw [if_pos (by decide)]
        simp only [ck_k hc (show 4 < 1000 by omega), ck_k hf4.1 (show 4 < 1000 by omega), nI_cl (show c < 2 ^ 31 by omega), nI_cl (show f < 2 ^ 31 by omega), fld_1_20, hvv c hc, hvv f hf4.1, t64N (show n < 2 ^ 31 by omega), t64N (show rr f * hd f < 2 ^ 31 by omega), show (12 : Int64) = lN 12 from rfl, lN_mul, nm_q, bd_s, nR Mv ldr, ef, en0, if_false, s_bears nv w hf4.1 hf4.2, cmp_G (show vn kd wy c * (rr f * hd f) * S < 2 ^ 63 by omega) (show vn kd wy c * n * 12 * vn kd wy f < 2 ^ 63 by omega), if_neg y2, share_N (x := 1) Mv (show vn kd wy c * (rr f * hd f) < 2 ^ 63 by omega) (show vn kd wy f < 2 ^ 63 by omega) (show 0 < vn kd wy f by omega)]

/-! visits solve the traffic equations -/
def wI (wy : Nat → Nf) (i j : Nat) : Int := (wy i j : Int)
theorem LO_en {kd rr hd rm cm : Nf} {wy : Nat → Nf} (w : wfN kd rr hd rm cm wy) {i j : Nat} (hi : i < 4) (hj : j < 4) : (enC (pw wy) 4 i j).toInt = LO (wI wy) i j ∧ (LO (wI wy) i j).natAbs ≤ 60 := by
  have w4 := w4_of w
  have e := en_b (pw_ok w4) (by omega) hi hj
  have qx : ∀ y, y < 4 → qI (pw wy) 4 i y = (wy i y : Int) := fun y hy => by
    have := w4 i y hi hy
    unfold qI
    rw [pw_s wy i hy, t_nI (by omega)]
  have eq : (enC (pw wy) 4 i j).toInt = LO (wI wy) i j := by
    rw [e.1]
    unfold LO wI
    by_cases y : i = j
    · subst y
      rw [if_pos rfl, if_pos rfl]
      show (0 : Int) + (if 0 = i then 0 else qI (pw wy) 4 i 0) + (if 1 = i then 0 else qI (pw wy) 4 i 1) + (if 2 = i then 0 else qI (pw wy) 4 i 2) + (if 3 = i then 0 else qI (pw wy) 4 i 3) = _
      rw [qx 0 (by omega), qx 1 (by omega), qx 2 (by omega), qx 3 (by omega)]
      rcases c4 hi with rfl | rfl | rfl | rfl
      · rw [if_pos rfl, if_neg (by decide), if_neg (by decide), if_neg (by decide)]; omega
      · rw [if_neg (by decide), if_pos rfl, if_neg (by decide), if_neg (by decide)]; omega
      · rw [if_neg (by decide), if_neg (by decide), if_pos rfl, if_neg (by decide)]; omega
      · rw [if_neg (by decide), if_neg (by decide), if_neg (by decide), if_pos rfl]; omega
    · rw [if_neg y, if_neg y, qx j hj]
  exact ⟨eq, by rw [← eq]; exact e.2⟩
theorem wN_x {kd rr hd rm cm : Nf} {wy : Nat → Nf} (w : wfN kd rr hd rm cm wy) (cl : ClN kd cm wy) {c : Nat} (hc : c < 4) (h9 : kd c ≠ 9) : (wN kd wy c : Int) = xI (LO (wI wy)) (rmv (tbN kd 4) c) := by
  have b := wN_b w cl hc
  have hv : tbN kd 4 < 2 ^ 4 := mk_lt _ _
  have hr := rmv_le (tbN kd 4) c
  have e : (wtB (pw wy) 4 (tbN kd 4) c).toInt = (wN kd wy c : Int) := by rw [b.1, lN_T (by omega)]
  rw [← e]
  unfold wtB xI
  rw [if_pos (tb_N.mpr ⟨hc, h9⟩)]
  by_cases z : rmv (tbN kd 4) c = 0
  · rw [if_pos z, z]
    rfl
  · rw [if_neg z]
    exact det4 (by omega) z (fun i j hi hj => LO_en w hi hj)
theorem traf {kd rr hd rm cm : Nf} {wy : Nat → Nf} (w : wfN kd rr hd rm cm wy) (cl : ClN kd cm wy) {d : Nat} (hd4 : d < 4) (hd9 : kd d ≠ 9) : sN (fun c => wN kd wy c * wy c d) 4 = 4 * wN kd wy d := by
  have X := fun c hc h9 => wN_x w cl (c := c) hc h9
  have Z := fun c hc h9 => (wN_b w cl (c := c) hc).2.2.2 h9
  have R : ∀ i, i < 4 → kd i ≠ 9 → wI wy i 0 + wI wy i 1 + wI wy i 2 + wI wy i 3 = 4 := fun i hi h9 => by
    have := (cl.2 i hi h9).2.1
    unfold wI
    omega
  have N : ∀ i j, i < 4 → j < 4 → kd j = 9 → wI wy i j = 0 := fun i j hi hj h9 => by
    have := ((w j hj).2.2.2.2.2.1 h9).2 i hi
    unfold wI
    omega
  have hv : tbN kd 4 < 16 := mk_lt _ _
  have h0 := cl.1
  have cs : tbN kd 4 = 1 ∨ tbN kd 4 = 2 ∨ tbN kd 4 = 3 ∨ tbN kd 4 = 4 ∨ tbN kd 4 = 5 ∨ tbN kd 4 = 6 ∨ tbN kd 4 = 7 ∨ tbN kd 4 = 8 ∨ tbN kd 4 = 9 ∨ tbN kd 4 = 10 ∨ tbN kd 4 = 11 ∨ tbN kd 4 = 12 ∨ tbN kd 4 = 13 ∨ tbN kd 4 = 14 ∨ tbN kd 4 = 15 := by omega
  show 0 + wN kd wy 0 * wy 0 d + wN kd wy 1 * wy 1 d + wN kd wy 2 * wy 2 d + wN kd wy 3 * wy 3 d = 4 * wN kd wy d
  rcases cs with hv | hv | hv | hv | hv | hv | hv | hv | hv | hv | hv | hv | hv | hv | hv
  · have k0 : kd 0 ≠ 9 := (tb_N.mp (by rw [hv]; decide)).2
    have k1 : kd 1 = 9 := (tb_F (by omega)).mp (by rw [hv]; decide)
    have k2 : kd 2 = 9 := (tb_F (by omega)).mp (by rw [hv]; decide)
    have k3 : kd 3 = 9 := (tb_F (by omega)).mp (by rw [hv]; decide)
    have x0 := X 0 (by omega) k0
    rw [hv, show rmv 1 0 = 0 from rfl] at x0
    have z1 := Z 1 (by omega) k1
    have z2 := Z 2 (by omega) k2
    have z3 := Z 3 (by omega) k3
    rw [z1, z2, z3]
    rcases c4 hd4 with rfl | rfl | rfl | rfl
    · have t : (wN kd wy 0 : Int) * wI wy 0 0 = 4 * (wN kd wy 0 : Int) := by
        rw [x0]
        exact tr1_0 (R 0 (by omega) k0) (N 0 1 (by omega) (by omega) k1) (N 0 2 (by omega) (by omega) k2) (N 0 3 (by omega) (by omega) k3)
      unfold wI at t
      simp only [Nat.zero_mul, Nat.zero_add, Nat.add_zero]
      exact_mod_cast t
    · exact absurd k1 hd9
    · exact absurd k2 hd9
    · exact absurd k3 hd9
  · have k1 : kd 1 ≠ 9 := (tb_N.mp (by rw [hv]; decide)).2
    have k0 : kd 0 = 9 := (tb_F (by omega)).mp (by rw [hv]; decide)
    have k2 : kd 2 = 9 := (tb_F (by omega)).mp (by rw [hv]; decide)
    have k3 : kd 3 = 9 := (tb_F (by omega)).mp (by rw [hv]; decide)
    have x1 := X 1 (by omega) k1
    rw [hv, show rmv 2 1 = 0 from rfl] at x1
    have z0 := Z 0 (by omega) k0
    have z2 := Z 2 (by omega) k2
    have z3 := Z 3 (by omega) k3
    rw [z0, z2, z3]
    rcases c4 hd4 with rfl | rfl | rfl | rfl
    · exact absurd k0 hd9
    · have t : (wN kd wy 1 : Int) * wI wy 1 1 = 4 * (wN kd wy 1 : Int) := by
        rw [x1]
        exact tr2_1 (R 1 (by omega) k1) (N 1 0 (by omega) (by omega) k0) (N 1 2 (by omega) (by omega) k2) (N 1 3 (by omega) (by omega) k3)
      unfold wI at t
      simp only [Nat.zero_mul, Nat.zero_add, Nat.add_zero]
      exact_mod_cast t
    · exact absurd k2 hd9
    · exact absurd k3 hd9
  · have k0 : kd 0 ≠ 9 := (tb_N.mp (by rw [hv]; decide)).2
    have k1 : kd 1 ≠ 9 := (tb_N.mp (by rw [hv]; decide)).2
    have k2 : kd 2 = 9 := (tb_F (by omega)).mp (by rw [hv]; decide)
    have k3 : kd 3 = 9 := (tb_F (by omega)).mp (by rw [hv]; decide)
    have x0 := X 0 (by omega) k0
    rw [hv, show rmv 3 0 = 2 from rfl] at x0
    have x1 := X 1 (by omega) k1
    rw [hv, show rmv 3 1 = 1 from rfl] at x1
    have z2 := Z 2 (by omega) k2
    have z3 := Z 3 (by omega) k3
    rw [z2, z3]
    rcases c4 hd4 with rfl | rfl | rfl | rfl
    · have t : (wN kd wy 0 : Int) * wI wy 0 0 + (wN kd wy 1 : Int) * wI wy 1 0 = 4 * (wN kd wy 0 : Int) := by
        rw [x0, x1]
        exact tr3_0 (R 0 (by omega) k0) (R 1 (by omega) k1) (N 0 2 (by omega) (by omega) k2) (N 0 3 (by omega) (by omega) k3) (N 1 2 (by omega) (by omega) k2) (N 1 3 (by omega) (by omega) k3)
      unfold wI at t
      simp only [Nat.zero_mul, Nat.zero_add, Nat.add_zero]
      exact_mod_cast t
    · have t : (wN kd wy 0 : Int) * wI wy 0 1 + (wN kd wy 1 : Int) * wI wy 1 1 = 4 * (wN kd wy 1 : Int) := by
        rw [x0, x1]
        exact tr3_1 (R 0 (by omega) k0) (R 1 (by omega) k1) (N 0 2 (by omega) (by omega) k2) (N 0 3 (by omega) (by omega) k3) (N 1 2 (by omega) (by omega) k2) (N 1 3 (by omega) (by omega) k3)
      unfold wI at t
      simp only [Nat.zero_mul, Nat.zero_add, Nat.add_zero]
      exact_mod_cast t
    · exact absurd k2 hd9
    · exact absurd k3 hd9
  · have k2 : kd 2 ≠ 9 := (tb_N.mp (by rw [hv]; decide)).2
    have k0 : kd 0 = 9 := (tb_F (by omega)).mp (by rw [hv]; decide)
    have k1 : kd 1 = 9 := (tb_F (by omega)).mp (by rw [hv]; decide)
    have k3 : kd 3 = 9 := (tb_F (by omega)).mp (by rw [hv]; decide)
    have x2 := X 2 (by omega) k2
    rw [hv, show rmv 4 2 = 0 from rfl] at x2
    have z0 := Z 0 (by omega) k0
    have z1 := Z 1 (by omega) k1
    have z3 := Z 3 (by omega) k3
    rw [z0, z1, z3]
    rcases c4 hd4 with rfl | rfl | rfl | rfl
    · exact absurd k0 hd9
    · exact absurd k1 hd9
    · have t : (wN kd wy 2 : Int) * wI wy 2 2 = 4 * (wN kd wy 2 : Int) := by
        rw [x2]
        exact tr4_2 (R 2 (by omega) k2) (N 2 0 (by omega) (by omega) k0) (N 2 1 (by omega) (by omega) k1) (N 2 3 (by omega) (by omega) k3)
      unfold wI at t
      simp only [Nat.zero_mul, Nat.zero_add, Nat.add_zero]
      exact_mod_cast t
    · exact absurd k3 hd9
  · have k0 : kd 0 ≠ 9 := (tb_N.mp (by rw [hv]; decide)).2
    have k2 : kd 2 ≠ 9 := (tb_N.mp (by rw [hv]; decide)).2
    have k1 : kd 1 = 9 := (tb_F (by omega)).mp (by rw [hv]; decide)
    have k3 : kd 3 = 9 := (tb_F (by omega)).mp (by rw [hv]; decide)
    have x0 := X 0 (by omega) k0
    rw [hv, show rmv 5 0 = 4 from rfl] at x0
    have x2 := X 2 (by omega) k2
    rw [hv, show rmv 5 2 = 1 from rfl] at x2
    have z1 := Z 1 (by omega) k1
    have z3 := Z 3 (by omega) k3
    rw [z1, z3]
    rcases c4 hd4 with rfl | rfl | rfl | rfl
    · have t : (wN kd wy 0 : Int) * wI wy 0 0 + (wN kd wy 2 : Int) * wI wy 2 0 = 4 * (wN kd wy 0 : Int) := by
        rw [x0, x2]
        exact tr5_0 (R 0 (by omega) k0) (R 2 (by omega) k2) (N 0 1 (by omega) (by omega) k1) (N 0 3 (by omega) (by omega) k3) (N 2 1 (by omega) (by omega) k1) (N 2 3 (by omega) (by omega) k3)
      unfold wI at t
      simp only [Nat.zero_mul, Nat.zero_add, Nat.add_zero]
      exact_mod_cast t
    · exact absurd k1 hd9
    · have t : (wN kd wy 0 : Int) * wI wy 0 2 + (wN kd wy 2 : Int) * wI wy 2 2 = 4 * (wN kd wy 2 : Int) := by
        rw [x0, x2]
        exact tr5_2 (R 0 (by omega) k0) (R 2 (by omega) k2) (N 0 1 (by omega) (by omega) k1) (N 0 3 (by omega) (by omega) k3) (N 2 1 (by omega) (by omega) k1) (N 2 3 (by omega) (by omega) k3)
      unfold wI at t
      simp only [Nat.zero_mul, Nat.zero_add, Nat.add_zero]
      exact_mod_cast t
    · exact absurd k3 hd9
  · have k1 : kd 1 ≠ 9 := (tb_N.mp (by rw [hv]; decide)).2
    have k2 : kd 2 ≠ 9 := (tb_N.mp (by rw [hv]; decide)).2
    have k0 : kd 0 = 9 := (tb_F (by omega)).mp (by rw [hv]; decide)
    have k3 : kd 3 = 9 := (tb_F (by omega)).mp (by rw [hv]; decide)
    have x1 := X 1 (by omega) k1
    rw [hv, show rmv 6 1 = 4 from rfl] at x1
    have x2 := X 2 (by omega) k2
    rw [hv, show rmv 6 2 = 2 from rfl] at x2
    have z0 := Z 0 (by omega) k0
    have z3 := Z 3 (by omega) k3
    rw [z0, z3]
    rcases c4 hd4 with rfl | rfl | rfl | rfl
    · exact absurd k0 hd9
    · have t : (wN kd wy 1 : Int) * wI wy 1 1 + (wN kd wy 2 : Int) * wI wy 2 1 = 4 * (wN kd wy 1 : Int) := by
        rw [x1, x2]
        exact tr6_1 (R 1 (by omega) k1) (R 2 (by omega) k2) (N 1 0 (by omega) (by omega) k0) (N 1 3 (by omega) (by omega) k3) (N 2 0 (by omega) (by omega) k0) (N 2 3 (by omega) (by omega) k3)
      unfold wI at t
      simp only [Nat.zero_mul, Nat.zero_add, Nat.add_zero]
      exact_mod_cast t
    · have t : (wN kd wy 1 : Int) * wI wy 1 2 + (wN kd wy 2 : Int) * wI wy 2 2 = 4 * (wN kd wy 2 : Int) := by
        rw [x1, x2]
        exact tr6_2 (R 1 (by omega) k1) (R 2 (by omega) k2) (N 1 0 (by omega) (by omega) k0) (N 1 3 (by omega) (by omega) k3) (N 2 0 (by omega) (by omega) k0) (N 2 3 (by omega) (by omega) k3)
      unfold wI at t
      simp only [Nat.zero_mul, Nat.zero_add, Nat.add_zero]
      exact_mod_cast t
    · exact absurd k3 hd9
  · have k0 : kd 0 ≠ 9 := (tb_N.mp (by rw [hv]; decide)).2
    have k1 : kd 1 ≠ 9 := (tb_N.mp (by rw [hv]; decide)).2
    have k2 : kd 2 ≠ 9 := (tb_N.mp (by rw [hv]; decide)).2
    have k3 : kd 3 = 9 := (tb_F (by omega)).mp (by rw [hv]; decide)
    have x0 := X 0 (by omega) k0
    rw [hv, show rmv 7 0 = 6 from rfl] at x0
    have x1 := X 1 (by omega) k1
    rw [hv, show rmv 7 1 = 5 from rfl] at x1
    have x2 := X 2 (by omega) k2
    rw [hv, show rmv 7 2 = 3 from rfl] at x2
    have z3 := Z 3 (by omega) k3
    rw [z3]
    rcases c4 hd4 with rfl | rfl | rfl | rfl
    · have t : (wN kd wy 0 : Int) * wI wy 0 0 + (wN kd wy 1 : Int) * wI wy 1 0 + (wN kd wy 2 : Int) * wI wy 2 0 = 4 * (wN kd wy 0 : Int) := by
        rw [x0, x1, x2]
        exact tr7_0 (R 0 (by omega) k0) (R 1 (by omega) k1) (R 2 (by omega) k2) (N 0 3 (by omega) (by omega) k3) (N 1 3 (by omega) (by omega) k3) (N 2 3 (by omega) (by omega) k3)
      unfold wI at t
      simp only [Nat.zero_mul, Nat.zero_add, Nat.add_zero]
      exact_mod_cast t
    · have t : (wN kd wy 0 : Int) * wI wy 0 1 + (wN kd wy 1 : Int) * wI wy 1 1 + (wN kd wy 2 : Int) * wI wy 2 1 = 4 * (wN kd wy 1 : Int) := by
        rw [x0, x1, x2]
        exact tr7_1 (R 0 (by omega) k0) (R 1 (by omega) k1) (R 2 (by omega) k2) (N 0 3 (by omega) (by omega) k3) (N 1 3 (by omega) (by omega) k3) (N 2 3 (by omega) (by omega) k3)
      unfold wI at t
      simp only [Nat.zero_mul, Nat.zero_add, Nat.add_zero]
      exact_mod_cast t
    · have t : (wN kd wy 0 : Int) * wI wy 0 2 + (wN kd wy 1 : Int) * wI wy 1 2 + (wN kd wy 2 : Int) * wI wy 2 2 = 4 * (wN kd wy 2 : Int) := by
        rw [x0, x1, x2]
        exact tr7_2 (R 0 (by omega) k0) (R 1 (by omega) k1) (R 2 (by omega) k2) (N 0 3 (by omega) (by omega) k3) (N 1 3 (by omega) (by omega) k3) (N 2 3 (by omega) (by omega) k3)
      unfold wI at t
      simp only [Nat.zero_mul, Nat.zero_add, Nat.add_zero]
      exact_mod_cast t
    · exact absurd k3 hd9
  · have k3 : kd 3 ≠ 9 := (tb_N.mp (by rw [hv]; decide)).2
    have k0 : kd 0 = 9 := (tb_F (by omega)).mp (by rw [hv]; decide)
    have k1 : kd 1 = 9 := (tb_F (by omega)).mp (by rw [hv]; decide)
    have k2 : kd 2 = 9 := (tb_F (by omega)).mp (by rw [hv]; decide)
    have x3 := X 3 (by omega) k3
    rw [hv, show rmv 8 3 = 0 from rfl] at x3
    have z0 := Z 0 (by omega) k0
    have z1 := Z 1 (by omega) k1
    have z2 := Z 2 (by omega) k2
    rw [z0, z1, z2]
    rcases c4 hd4 with rfl | rfl | rfl | rfl
    · exact absurd k0 hd9
    · exact absurd k1 hd9
    · exact absurd k2 hd9
    · have t : (wN kd wy 3 : Int) * wI wy 3 3 = 4 * (wN kd wy 3 : Int) := by
        rw [x3]
        exact tr8_3 (R 3 (by omega) k3) (N 3 0 (by omega) (by omega) k0) (N 3 1 (by omega) (by omega) k1) (N 3 2 (by omega) (by omega) k2)
      unfold wI at t
      simp only [Nat.zero_mul, Nat.zero_add, Nat.add_zero]
      exact_mod_cast t
  · have k0 : kd 0 ≠ 9 := (tb_N.mp (by rw [hv]; decide)).2
    have k3 : kd 3 ≠ 9 := (tb_N.mp (by rw [hv]; decide)).2
    have k1 : kd 1 = 9 := (tb_F (by omega)).mp (by rw [hv]; decide)
    have k2 : kd 2 = 9 := (tb_F (by omega)).mp (by rw [hv]; decide)
    have x0 := X 0 (by omega) k0
    rw [hv, show rmv 9 0 = 8 from rfl] at x0
    have x3 := X 3 (by omega) k3
    rw [hv, show rmv 9 3 = 1 from rfl] at x3
    have z1 := Z 1 (by omega) k1
    have z2 := Z 2 (by omega) k2
    rw [z1, z2]
    rcases c4 hd4 with rfl | rfl | rfl | rfl
    · have t : (wN kd wy 0 : Int) * wI wy 0 0 + (wN kd wy 3 : Int) * wI wy 3 0 = 4 * (wN kd wy 0 : Int) := by
        rw [x0, x3]
        exact tr9_0 (R 0 (by omega) k0) (R 3 (by omega) k3) (N 0 1 (by omega) (by omega) k1) (N 0 2 (by omega) (by omega) k2) (N 3 1 (by omega) (by omega) k1) (N 3 2 (by omega) (by omega) k2)
      unfold wI at t
      simp only [Nat.zero_mul, Nat.zero_add, Nat.add_zero]
      exact_mod_cast t
    · exact absurd k1 hd9
    · exact absurd k2 hd9
    · have t : (wN kd wy 0 : Int) * wI wy 0 3 + (wN kd wy 3 : Int) * wI wy 3 3 = 4 * (wN kd wy 3 : Int) := by
        rw [x0, x3]
        exact tr9_3 (R 0 (by omega) k0) (R 3 (by omega) k3) (N 0 1 (by omega) (by omega) k1) (N 0 2 (by omega) (by omega) k2) (N 3 1 (by omega) (by omega) k1) (N 3 2 (by omega) (by omega) k2)
      unfold wI at t
      simp only [Nat.zero_mul, Nat.zero_add, Nat.add_zero]
      exact_mod_cast t
  · have k1 : kd 1 ≠ 9 := (tb_N.mp (by rw [hv]; decide)).2
    have k3 : kd 3 ≠ 9 := (tb_N.mp (by rw [hv]; decide)).2
    have k0 : kd 0 = 9 := (tb_F (by omega)).mp (by rw [hv]; decide)
    have k2 : kd 2 = 9 := (tb_F (by omega)).mp (by rw [hv]; decide)
    have x1 := X 1 (by omega) k1
    rw [hv, show rmv 10 1 = 8 from rfl] at x1
    have x3 := X 3 (by omega) k3
    rw [hv, show rmv 10 3 = 2 from rfl] at x3
    have z0 := Z 0 (by omega) k0
    have z2 := Z 2 (by omega) k2
    rw [z0, z2]
    rcases c4 hd4 with rfl | rfl | rfl | rfl
    · exact absurd k0 hd9
    · have t : (wN kd wy 1 : Int) * wI wy 1 1 + (wN kd wy 3 : Int) * wI wy 3 1 = 4 * (wN kd wy 1 : Int) := by
        rw [x1, x3]
        exact tr10_1 (R 1 (by omega) k1) (R 3 (by omega) k3) (N 1 0 (by omega) (by omega) k0) (N 1 2 (by omega) (by omega) k2) (N 3 0 (by omega) (by omega) k0) (N 3 2 (by omega) (by omega) k2)
      unfold wI at t
      simp only [Nat.zero_mul, Nat.zero_add, Nat.add_zero]
      exact_mod_cast t
    · exact absurd k2 hd9
    · have t : (wN kd wy 1 : Int) * wI wy 1 3 + (wN kd wy 3 : Int) * wI wy 3 3 = 4 * (wN kd wy 3 : Int) := by
        rw [x1, x3]
        exact tr10_3 (R 1 (by omega) k1) (R 3 (by omega) k3) (N 1 0 (by omega) (by omega) k0) (N 1 2 (by omega) (by omega) k2) (N 3 0 (by omega) (by omega) k0) (N 3 2 (by omega) (by omega) k2)
      unfold wI at t
      simp only [Nat.zero_mul, Nat.zero_add, Nat.add_zero]
      exact_mod_cast t
  · have k0 : kd 0 ≠ 9 := (tb_N.mp (by rw [hv]; decide)).2
    have k1 : kd 1 ≠ 9 := (tb_N.mp (by rw [hv]; decide)).2
    have k3 : kd 3 ≠ 9 := (tb_N.mp (by rw [hv]; decide)).2
    have k2 : kd 2 = 9 := (tb_F (by omega)).mp (by rw [hv]; decide)
    have x0 := X 0 (by omega) k0
    rw [hv, show rmv 11 0 = 10 from rfl] at x0
    have x1 := X 1 (by omega) k1
    rw [hv, show rmv 11 1 = 9 from rfl] at x1
    have x3 := X 3 (by omega) k3
    rw [hv, show rmv 11 3 = 3 from rfl] at x3
    have z2 := Z 2 (by omega) k2
    rw [z2]
    rcases c4 hd4 with rfl | rfl | rfl | rfl
    · have t : (wN kd wy 0 : Int) * wI wy 0 0 + (wN kd wy 1 : Int) * wI wy 1 0 + (wN kd wy 3 : Int) * wI wy 3 0 = 4 * (wN kd wy 0 : Int) := by
        rw [x0, x1, x3]
        exact tr11_0 (R 0 (by omega) k0) (R 1 (by omega) k1) (R 3 (by omega) k3) (N 0 2 (by omega) (by omega) k2) (N 1 2 (by omega) (by omega) k2) (N 3 2 (by omega) (by omega) k2)
      unfold wI at t
      simp only [Nat.zero_mul, Nat.zero_add, Nat.add_zero]
      exact_mod_cast t
    · have t : (wN kd wy 0 : Int) * wI wy 0 1 + (wN kd wy 1 : Int) * wI wy 1 1 + (wN kd wy 3 : Int) * wI wy 3 1 = 4 * (wN kd wy 1 : Int) := by
        rw [x0, x1, x3]
        exact tr11_1 (R 0 (by omega) k0) (R 1 (by omega) k1) (R 3 (by omega) k3) (N 0 2 (by omega) (by omega) k2) (N 1 2 (by omega) (by omega) k2) (N 3 2 (by omega) (by omega) k2)
      unfold wI at t
      simp only [Nat.zero_mul, Nat.zero_add, Nat.add_zero]
      exact_mod_cast t
    · exact absurd k2 hd9
    · have t : (wN kd wy 0 : Int) * wI wy 0 3 + (wN kd wy 1 : Int) * wI wy 1 3 + (wN kd wy 3 : Int) * wI wy 3 3 = 4 * (wN kd wy 3 : Int) := by
        rw [x0, x1, x3]
        exact tr11_3 (R 0 (by omega) k0) (R 1 (by omega) k1) (R 3 (by omega) k3) (N 0 2 (by omega) (by omega) k2) (N 1 2 (by omega) (by omega) k2) (N 3 2 (by omega) (by omega) k2)
      unfold wI at t
      simp only [Nat.zero_mul, Nat.zero_add, Nat.add_zero]
      exact_mod_cast t
  · have k2 : kd 2 ≠ 9 := (tb_N.mp (by rw [hv]; decide)).2
    have k3 : kd 3 ≠ 9 := (tb_N.mp (by rw [hv]; decide)).2
    have k0 : kd 0 = 9 := (tb_F (by omega)).mp (by rw [hv]; decide)
    have k1 : kd 1 = 9 := (tb_F (by omega)).mp (by rw [hv]; decide)
    have x2 := X 2 (by omega) k2
    rw [hv, show rmv 12 2 = 8 from rfl] at x2
    have x3 := X 3 (by omega) k3
    rw [hv, show rmv 12 3 = 4 from rfl] at x3
    have z0 := Z 0 (by omega) k0
    have z1 := Z 1 (by omega) k1
    rw [z0, z1]
    rcases c4 hd4 with rfl | rfl | rfl | rfl
    · exact absurd k0 hd9
    · exact absurd k1 hd9
    · have t : (wN kd wy 2 : Int) * wI wy 2 2 + (wN kd wy 3 : Int) * wI wy 3 2 = 4 * (wN kd wy 2 : Int) := by
        rw [x2, x3]
        exact tr12_2 (R 2 (by omega) k2) (R 3 (by omega) k3) (N 2 0 (by omega) (by omega) k0) (N 2 1 (by omega) (by omega) k1) (N 3 0 (by omega) (by omega) k0) (N 3 1 (by omega) (by omega) k1)
      unfold wI at t
      simp only [Nat.zero_mul, Nat.zero_add, Nat.add_zero]
      exact_mod_cast t
    · have t : (wN kd wy 2 : Int) * wI wy 2 3 + (wN kd wy 3 : Int) * wI wy 3 3 = 4 * (wN kd wy 3 : Int) := by
        rw [x2, x3]
        exact tr12_3 (R 2 (by omega) k2) (R 3 (by omega) k3) (N 2 0 (by omega) (by omega) k0) (N 2 1 (by omega) (by omega) k1) (N 3 0 (by omega) (by omega) k0) (N 3 1 (by omega) (by omega) k1)
      unfold wI at t
      simp only [Nat.zero_mul, Nat.zero_add, Nat.add_zero]
      exact_mod_cast t
  · have k0 : kd 0 ≠ 9 := (tb_N.mp (by rw [hv]; decide)).2
    have k2 : kd 2 ≠ 9 := (tb_N.mp (by rw [hv]; decide)).2
    have k3 : kd 3 ≠ 9 := (tb_N.mp (by rw [hv]; decide)).2
    have k1 : kd 1 = 9 := (tb_F (by omega)).mp (by rw [hv]; decide)
    have x0 := X 0 (by omega) k0
    rw [hv, show rmv 13 0 = 12 from rfl] at x0
    have x2 := X 2 (by omega) k2
    rw [hv, show rmv 13 2 = 9 from rfl] at x2
    have x3 := X 3 (by omega) k3
    rw [hv, show rmv 13 3 = 5 from rfl] at x3
    have z1 := Z 1 (by omega) k1
    rw [z1]
    rcases c4 hd4 with rfl | rfl | rfl | rfl
    · have t : (wN kd wy 0 : Int) * wI wy 0 0 + (wN kd wy 2 : Int) * wI wy 2 0 + (wN kd wy 3 : Int) * wI wy 3 0 = 4 * (wN kd wy 0 : Int) := by
        rw [x0, x2, x3]
        exact tr13_0 (R 0 (by omega) k0) (R 2 (by omega) k2) (R 3 (by omega) k3) (N 0 1 (by omega) (by omega) k1) (N 2 1 (by omega) (by omega) k1) (N 3 1 (by omega) (by omega) k1)
      unfold wI at t
      simp only [Nat.zero_mul, Nat.zero_add, Nat.add_zero]
      exact_mod_cast t
    · exact absurd k1 hd9
    · have t : (wN kd wy 0 : Int) * wI wy 0 2 + (wN kd wy 2 : Int) * wI wy 2 2 + (wN kd wy 3 : Int) * wI wy 3 2 = 4 * (wN kd wy 2 : Int) := by
        rw [x0, x2, x3]
        exact tr13_2 (R 0 (by omega) k0) (R 2 (by omega) k2) (R 3 (by omega) k3) (N 0 1 (by omega) (by omega) k1) (N 2 1 (by omega) (by omega) k1) (N 3 1 (by omega) (by omega) k1)
      unfold wI at t
      simp only [Nat.zero_mul, Nat.zero_add, Nat.add_zero]
      exact_mod_cast t
    · have t : (wN kd wy 0 : Int) * wI wy 0 3 + (wN kd wy 2 : Int) * wI wy 2 3 + (wN kd wy 3 : Int) * wI wy 3 3 = 4 * (wN kd wy 3 : Int) := by
        rw [x0, x2, x3]
        exact tr13_3 (R 0 (by omega) k0) (R 2 (by omega) k2) (R 3 (by omega) k3) (N 0 1 (by omega) (by omega) k1) (N 2 1 (by omega) (by omega) k1) (N 3 1 (by omega) (by omega) k1)
      unfold wI at t
      simp only [Nat.zero_mul, Nat.zero_add, Nat.add_zero]
      exact_mod_cast t
  · have k1 : kd 1 ≠ 9 := (tb_N.mp (by rw [hv]; decide)).2
    have k2 : kd 2 ≠ 9 := (tb_N.mp (by rw [hv]; decide)).2
    have k3 : kd 3 ≠ 9 := (tb_N.mp (by rw [hv]; decide)).2
    have k0 : kd 0 = 9 := (tb_F (by omega)).mp (by rw [hv]; decide)
    have x1 := X 1 (by omega) k1
    rw [hv, show rmv 14 1 = 12 from rfl] at x1
    have x2 := X 2 (by omega) k2
    rw [hv, show rmv 14 2 = 10 from rfl] at x2
    have x3 := X 3 (by omega) k3
    rw [hv, show rmv 14 3 = 6 from rfl] at x3
    have z0 := Z 0 (by omega) k0
    rw [z0]
    rcases c4 hd4 with rfl | rfl | rfl | rfl
    · exact absurd k0 hd9
    · have t : (wN kd wy 1 : Int) * wI wy 1 1 + (wN kd wy 2 : Int) * wI wy 2 1 + (wN kd wy 3 : Int) * wI wy 3 1 = 4 * (wN kd wy 1 : Int) := by
        rw [x1, x2, x3]
        exact tr14_1 (R 1 (by omega) k1) (R 2 (by omega) k2) (R 3 (by omega) k3) (N 1 0 (by omega) (by omega) k0) (N 2 0 (by omega) (by omega) k0) (N 3 0 (by omega) (by omega) k0)
      unfold wI at t
      simp only [Nat.zero_mul, Nat.zero_add, Nat.add_zero]
      exact_mod_cast t
    · have t : (wN kd wy 1 : Int) * wI wy 1 2 + (wN kd wy 2 : Int) * wI wy 2 2 + (wN kd wy 3 : Int) * wI wy 3 2 = 4 * (wN kd wy 2 : Int) := by
        rw [x1, x2, x3]
        exact tr14_2 (R 1 (by omega) k1) (R 2 (by omega) k2) (R 3 (by omega) k3) (N 1 0 (by omega) (by omega) k0) (N 2 0 (by omega) (by omega) k0) (N 3 0 (by omega) (by omega) k0)
      unfold wI at t
      simp only [Nat.zero_mul, Nat.zero_add, Nat.add_zero]
      exact_mod_cast t
    · have t : (wN kd wy 1 : Int) * wI wy 1 3 + (wN kd wy 2 : Int) * wI wy 2 3 + (wN kd wy 3 : Int) * wI wy 3 3 = 4 * (wN kd wy 3 : Int) := by
        rw [x1, x2, x3]
        exact tr14_3 (R 1 (by omega) k1) (R 2 (by omega) k2) (R 3 (by omega) k3) (N 1 0 (by omega) (by omega) k0) (N 2 0 (by omega) (by omega) k0) (N 3 0 (by omega) (by omega) k0)
      unfold wI at t
      simp only [Nat.zero_mul, Nat.zero_add, Nat.add_zero]
      exact_mod_cast t
  · have k0 : kd 0 ≠ 9 := (tb_N.mp (by rw [hv]; decide)).2
    have k1 : kd 1 ≠ 9 := (tb_N.mp (by rw [hv]; decide)).2
    have k2 : kd 2 ≠ 9 := (tb_N.mp (by rw [hv]; decide)).2
    have k3 : kd 3 ≠ 9 := (tb_N.mp (by rw [hv]; decide)).2
    have x0 := X 0 (by omega) k0
    rw [hv, show rmv 15 0 = 14 from rfl] at x0
    have x1 := X 1 (by omega) k1
    rw [hv, show rmv 15 1 = 13 from rfl] at x1
    have x2 := X 2 (by omega) k2
    rw [hv, show rmv 15 2 = 11 from rfl] at x2
    have x3 := X 3 (by omega) k3
    rw [hv, show rmv 15 3 = 7 from rfl] at x3
    rcases c4 hd4 with rfl | rfl | rfl | rfl
    · have t : (wN kd wy 0 : Int) * wI wy 0 0 + (wN kd wy 1 : Int) * wI wy 1 0 + (wN kd wy 2 : Int) * wI wy 2 0 + (wN kd wy 3 : Int) * wI wy 3 0 = 4 * (wN kd wy 0 : Int) := by
        rw [x0, x1, x2, x3]
        exact tr15_0 (R 0 (by omega) k0) (R 1 (by omega) k1) (R 2 (by omega) k2) (R 3 (by omega) k3) 
      unfold wI at t
      simp only [Nat.zero_mul, Nat.zero_add, Nat.add_zero]
      exact_mod_cast t
    · have t : (wN kd wy 0 : Int) * wI wy 0 1 + (wN kd wy 1 : Int) * wI wy 1 1 + (wN kd wy 2 : Int) * wI wy 2 1 + (wN kd wy 3 : Int) * wI wy 3 1 = 4 * (wN kd wy 1 : Int) := by
        rw [x0, x1, x2, x3]
        exact tr15_1 (R 0 (by omega) k0) (R 1 (by omega) k1) (R 2 (by omega) k2) (R 3 (by omega) k3) 
      unfold wI at t
      simp only [Nat.zero_mul, Nat.zero_add, Nat.add_zero]
      exact_mod_cast t
    · have t : (wN kd wy 0 : Int) * wI wy 0 2 + (wN kd wy 1 : Int) * wI wy 1 2 + (wN kd wy 2 : Int) * wI wy 2 2 + (wN kd wy 3 : Int) * wI wy 3 2 = 4 * (wN kd wy 2 : Int) := by
        rw [x0, x1, x2, x3]
        exact tr15_2 (R 0 (by omega) k0) (R 1 (by omega) k1) (R 2 (by omega) k2) (R 3 (by omega) k3) 
      unfold wI at t
      simp only [Nat.zero_mul, Nat.zero_add, Nat.add_zero]
      exact_mod_cast t
    · have t : (wN kd wy 0 : Int) * wI wy 0 3 + (wN kd wy 1 : Int) * wI wy 1 3 + (wN kd wy 2 : Int) * wI wy 2 3 + (wN kd wy 3 : Int) * wI wy 3 3 = 4 * (wN kd wy 3 : Int) := by
        rw [x0, x1, x2, x3]
        exact tr15_3 (R 0 (by omega) k0) (R 1 (by omega) k1) (R 2 (by omega) k2) (R 3 (by omega) k3) 
      unfold wI at t
      simp only [Nat.zero_mul, Nat.zero_add, Nat.add_zero]
      exact_mod_cast t
theorem traV {kd rr hd rm cm : Nf} {wy : Nat → Nf} (w : wfN kd rr hd rm cm wy) (cl : ClN kd cm wy) {d : Nat} (hd4 : d < 4) (hd9 : kd d ≠ 9) : sN (fun c => vn kd wy c * wy c d) 4 = 4 * vn kd wy d := by
  have t := traf w cl hd4 hd9
  have g := gk_pos w cl
  apply Nat.eq_of_mul_eq_mul_left (show 0 < gk kd wy 4 by omega)
  rw [sN_mul, sN_cg (G := fun c => wN kd wy c * wy c d) 4 (fun c hc => by
    show gk kd wy 4 * (vn kd wy c * wy c d) = wN kd wy c * wy c d
    rw [(vn_b w cl hc).2.2.2, Nat.mul_assoc]), t, (vn_b w cl hd4).2.2.2]
  generalize vn kd wy d = x
  generalize gk kd wy 4 = y
  grind

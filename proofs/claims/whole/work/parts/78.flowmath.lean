/-! flows: the whole is above 0, the part not below -/
theorem sm_sub {f h : Nat → Int} : ∀ n, sm (fun b => f b - h b) n = sm f n - sm h n
  | 0 => by simp [sm]
  | n + 1 => by
    have := sm_sub (f := f) (h := h) n
    unfold sm
    omega
theorem sm_one {a : Nat} {x : Int} : ∀ n, sm (fun b => if a = b then x else 0) n = if a < n then x else 0
  | 0 => by simp [sm]
  | n + 1 => by
    have := sm_one (a := a) (x := x) n
    unfold sm
    rw [this]
    by_cases e : a = n
    · rw [if_pos e, if_neg (by omega), if_pos (by omega)]; omega
    · rw [if_neg e]
      by_cases e2 : a < n
      · rw [if_pos e2, if_pos (by omega)]; omega
      · rw [if_neg e2, if_neg (by omega)]; omega
def WI (v : Nat) (wy : Nat → Nf) (i j : Nat) : Int := (if i = j then 4 else 0) - (if v.testBit i = true ∧ v.testBit j = true then (wy i j : Int) else 0)
def hh (v : Nat) (wy : Nat → Nf) (x y : Nat) : Nat := if v.testBit x = true ∧ v.testBit y = true then wy x y else 0
def hxq (v : Nat) (wy : Nat → Nf) (x z y : Nat) : Nat := if y = z then 0 else hh v wy x y
theorem hh_le (v : Nat) (wy : Nat → Nf) (x y : Nat) : hh v wy x y ≤ wy x y := by unfold hh; split <;> omega
theorem hx_le (v : Nat) (wy : Nat → Nf) (x z y : Nat) : hxq v wy x z y ≤ hh v wy x y := by unfold hxq; split <;> omega
theorem hx_z (v : Nat) (wy : Nat → Nf) (x z : Nat) : hxq v wy x z z = 0 := by unfold hxq; rw [if_pos rfl]
theorem MMg {v : Nat} {kd : Nf} {wy : Nat → Nf} {g : Nat → Nat} {n : Nat} (hw : ∀ i, i < 4 → wy i 0 + wy i 1 + wy i 2 + wy i 3 ≤ 4) (hcl : ∀ i j, i < 4 → j < 4 → v.testBit i = true → wy i j ≠ 0 → v.testBit j = true) (hk : ∀ t, t < 4 → v.testBit t = true → RR (pw wy) 4 t &&& mk (ouB kd wy) 4 ≠ 0) (hg : ∀ a, a < n → g a < 4) (inj : ∀ a b, a < n → b < n → g a = g b → a = b) (hsum : ∀ h : Nat → Nat, sm (fun b => (h (g b) : Int)) n ≤ ((h 0 + h 1 + h 2 + h 3 : Nat) : Int)) : MM (fun a b => WI v wy (g a) (g b)) 0 n := by
  have row : ∀ a, a < n → rs (fun a b => WI v wy (g a) (g b)) a 0 (n - 0) = 4 - sm (fun b => (hh v wy (g a) (g b) : Int)) n := by
    intro a ha
    rw [Nat.sub_zero, rs_sm]
    show sm (fun b => WI v wy (g a) (g b)) n = _
    unfold WI
    rw [sm_sub]
    have e1 : sm (fun b => if g a = g b then (4 : Int) else 0) n = 4 := by
      rw [sm_congr n (h := fun b => if a = b then 4 else 0) (fun x hx => by
        by_cases e : a = x
        · rw [if_pos (by rw [e]), if_pos e]
        · rw [if_neg (fun hc => e (inj a x ha hx hc)), if_neg e]), sm_one, if_pos ha]
    rw [e1]
    congr 1
    apply sm_congr
    intro x _
    show (if v.testBit (g a) = true ∧ v.testBit (g x) = true then (wy (g a) (g x) : Int) else 0) = (hh v wy (g a) (g x) : Int)
    unfold hh
    split <;> rfl
  have hle : ∀ a, a < n → ∀ y, hh v wy (g a) y ≤ wy (g a) y := fun a _ y => hh_le v wy (g a) y
  refine ⟨fun a b _ ha _ hb ne => ?_, fun a _ ha => ?_, fun T hT => ?_⟩
  · show WI v wy (g a) (g b) ≤ 0
    unfold WI
    rw [if_neg (fun hc => ne (inj a b ha hb hc))]
    split <;> omega
  · rw [row a ha]
    have s1 := hsum (hh v wy (g a))
    have h0 := hle a ha 0
    have h1 := hle a ha 1
    have h2 := hle a ha 2
    have h3 := hle a ha 3
    have hs := hw (g a) (hg a ha)
    omega
  · apply Classical.byContradiction
    intro no
    obtain ⟨t, _, ht, tt⟩ := hT
    have st : ∀ a, a < n → T a → (v.testBit (g a) = true) ∧ (wy (g a) 0 + wy (g a) 1 + wy (g a) 2 + wy (g a) 3 = 4) ∧ ∀ x, x < 4 → wy (g a) x ≠ 0 → ∃ b, b < n ∧ g b = x ∧ T b := by
      intro a ha ta
      have rz : rs (fun a b => WI v wy (g a) (g b)) a 0 (n - 0) = 0 := by
        apply Classical.byContradiction
        intro hz
        exact no ⟨a, by omega, ha, ta, Or.inl hz⟩
      rw [row a ha] at rz
      have s1 := hsum (hh v wy (g a))
      have h0 := hle a ha 0
      have h1 := hle a ha 1
      have h2 := hle a ha 2
      have h3 := hle a ha 3
      have hs := hw (g a) (hg a ha)
      have hbit : v.testBit (g a) = true := by
        apply Classical.byContradiction
        intro hz
        have hz0 : ∀ y, hh v wy (g a) y = 0 := fun y => by unfold hh; rw [if_neg (fun hc => hz hc.1)]
        rw [hz0, hz0, hz0, hz0] at s1
        omega
      refine ⟨hbit, by omega, fun x hx hwx => ?_⟩
      have hex : ∃ b, b < n ∧ g b = x := by
        apply Classical.byContradiction
        intro hz
        have s2 := hsum (hxq v wy (g a) x)
        rw [sm_congr n (h := fun b => (hh v wy (g a) (g b) : Int)) (fun b hb => by
          show (hxq v wy (g a) x (g b) : Int) = _
          unfold hxq
          rw [if_neg (fun hc => hz ⟨b, hb, hc⟩)])] at s2
        have q0 := hx_le v wy (g a) x 0
        have q1 := hx_le v wy (g a) x 1
        have q2 := hx_le v wy (g a) x 2
        have q3 := hx_le v wy (g a) x 3
        have qz := hx_z v wy (g a) x
        have hx4 : x = 0 ∨ x = 1 ∨ x = 2 ∨ x = 3 := by omega
        rcases hx4 with rfl | rfl | rfl | rfl <;> omega
      obtain ⟨b, hb, hgb⟩ := hex
      refine ⟨b, hb, hgb, ?_⟩
      apply Classical.byContradiction
      intro hz
      apply no
      refine ⟨a, by omega, ha, ta, Or.inr ⟨b, by omega, hb, hz, ?_⟩⟩
      show WI v wy (g a) (g b) ≠ 0
      have hab : a ≠ b := fun hc => hz (hc ▸ ta)
      unfold WI
      rw [if_neg (fun hc => hab (inj a b ha hb hc)), hgb, if_pos ⟨hbit, hcl (g a) x (hg a ha) hx hbit hwx⟩]
      omega
    let B : Nat → Bool := fun x => @decide (∃ b, b < n ∧ g b = x ∧ T b) (Classical.propDecidable _)
    have Bi : ∀ x, B x = true ↔ ∃ b, b < n ∧ g b = x ∧ T b := fun x => @decide_eq_true_iff _ (Classical.propDecidable _)
    have cl : clo (pw wy) 4 (mk B 4) := by
      intro x y hx hy wx hl
      rw [mk_tb, Bool.and_eq_true, decide_eq_true_eq, Bi] at wx
      rw [mk_tb, Bool.and_eq_true, decide_eq_true_eq, Bi]
      obtain ⟨_, a, ha, hga, ta⟩ := wx
      have hsx := hw x hx
      have hy4 : y = 0 ∨ y = 1 ∨ y = 2 ∨ y = 3 := by omega
      have hle4 : wy x y ≤ 4 := by rcases hy4 with rfl | rfl | rfl | rfl <;> omega
      have := ((ld_pw hy hle4).mp hl).2
      obtain ⟨b, hb, hgb, tb⟩ := (st a ha ta).2.2 y hy (by rw [hga]; exact this)
      exact ⟨hy, b, hb, hgb, tb⟩
    have wt : (mk B 4).testBit (g t) = true := by
      rw [mk_tb, Bool.and_eq_true, decide_eq_true_eq, Bi]
      exact ⟨hg t ht, t, ht, rfl, tt⟩
    have hq := hk (g t) (hg t ht) (st t ht tt).1
    obtain ⟨u, u1, u2⟩ := and_nz.mp hq
    have uw := RR_least cl wt u u1
    rw [mk_tb, Bool.and_eq_true, decide_eq_true_eq, Bi] at uw
    rw [mk_tb, Bool.and_eq_true] at u2
    obtain ⟨_, b, hb, hgb, tb⟩ := uw
    have := (st b hb tb).2.1
    rw [hgb] at this
    unfold ouB at u2
    simp only [Bool.and_eq_true, decide_eq_true_eq] at u2
    exact u2.2.2 this
theorem rs_cg {b b' : Mi} {i : Nat} : ∀ c k, (∀ j, k ≤ j → j < k + c → b i j = b' i j) → rs b i k c = rs b' i k c
  | 0, _, _ => rfl
  | c + 1, k, h => by
    show b i k + rs b i (k + 1) c = b' i k + rs b' i (k + 1) c
    rw [h k (by omega) (by omega), rs_cg c (k + 1) (fun j x y => h j (by omega) (by omega))]
theorem MM_cg {b b' : Mi} {n : Nat} (h : ∀ i j, i < n → j < n → b i j = b' i j) (hm : MM b 0 n) : MM b' 0 n := by
  have hr : ∀ i, i < n → rs b' i 0 (n - 0) = rs b i 0 (n - 0) := fun i hi => (rs_cg (n - 0) 0 (fun j _ hj => h i j hi (by omega))).symm
  refine ⟨fun i j x1 x2 y1 y2 ne => ?_, fun i x1 x2 => ?_, fun T hT => ?_⟩
  · rw [← h i j x2 y2]; exact hm.1 i j x1 x2 y1 y2 ne
  · rw [hr i x2]; exact hm.2.1 i x1 x2
  · obtain ⟨i, x1, x2, ti, hx⟩ := hm.2.2 T hT
    refine ⟨i, x1, x2, ti, ?_⟩
    rcases hx with hx | ⟨j, y1, y2, tj, hx⟩
    · left; rw [hr i x2]; exact hx
    · right; exact ⟨j, y1, y2, tj, by rw [← h i j x2 y2]; exact hx⟩
theorem NN {O : Mi} (hm : MM O 0 3) (hcol : ∀ i, i < 3 → O i 3 ≤ 0) (hrow : ∀ j, j ≤ 3 → 0 ≤ O 3 j) : 0 ≤ m4 O 3 3 := by
  have key : ∀ k, k ≤ 3 → (∀ i, k ≤ i → i < 3 → lv O k i 3 ≤ 0) ∧ ∀ j, k ≤ j → j ≤ 3 → 0 ≤ lv O k 3 j := by
    intro k
    induction k with
    | zero => intro _; exact ⟨fun i _ hi => hcol i hi, fun j _ hj => hrow j hj⟩
    | succ k ih =>
      intro hk
      obtain ⟨ic, ir⟩ := ih (by omega)
      have q := MM_lv (n := 3) (by omega) hm k (by omega)
      have pv := MM_piv q.1 (by omega)
      have nk : lv O k k 3 ≤ 0 := ic k (by omega) (by omega)
      refine ⟨fun i i1 i2 => ?_, fun j j1 j2 => ?_⟩
      · have e := lv_s O (show k ≤ 3 by omega) i 3
        have o1 := ic i (by omega) i2
        have o2 := q.1.1 i k (by omega) i2 (by omega) (by omega) (by omega)
        have p1 := Int.mul_nonneg (show 0 ≤ -(lv O k i 3) by omega) (show 0 ≤ lv O k k k by omega)
        have p2 := Int.mul_nonneg (show 0 ≤ -(lv O k i k) by omega) (show 0 ≤ -(lv O k k 3) by omega)
        rcases Int.lt_or_le 0 (lv O (k + 1) i 3) with hz | hz
        · have := Int.mul_pos q.2 hz
          have e2 : lv O k i 3 * lv O k k k - lv O k i k * lv O k k 3 = -((-(lv O k i 3)) * lv O k k k) - (-(lv O k i k)) * (-(lv O k k 3)) := by grind
          omega
        · exact hz
      · have e := lv_s O (show k ≤ 3 by omega) 3 j
        have o1 := ir j (by omega) j2
        have o2 := ir k (by omega) (by omega)
        have o3 : lv O k k j ≤ 0 := by
          by_cases hj : j = 3
          · subst hj; exact nk
          · exact q.1.1 k j (by omega) (by omega) (by omega) (by omega) (by omega)
        have p1 := Int.mul_nonneg o1 (show 0 ≤ lv O k k k by omega)
        have p2 := Int.mul_nonneg o2 (show 0 ≤ -(lv O k k j) by omega)
        rcases Int.lt_or_le (lv O (k + 1) 3 j) 0 with hz | hz
        · have := Int.mul_neg_of_pos_of_neg q.2 hz
          have e2 : lv O k 3 j * lv O k k k - lv O k 3 k * lv O k k j = lv O k 3 j * lv O k k k + lv O k 3 k * (-(lv O k k j)) := by grind
          omega
        · exact hz
  exact (key 3 (by omega)).2 3 (by omega) (by omega)
/-- one changed for the last -/
def p3 (c a : Nat) : Nat := if a = 3 then c else if a = c then 3 else a
theorem m4_perm {F : Mi} {c : Nat} (hc : c < 4) : m4 (fun a b => F (p3 c a) (p3 c b)) 3 3 = m4 F 3 3 := by
  have : c = 0 ∨ c = 1 ∨ c = 2 ∨ c = 3 := by omega
  rcases this with rfl | rfl | rfl | rfl
  · rw [m4_e, m4_e]; simp [p3]; grind
  · rw [m4_e, m4_e]; simp [p3]; grind
  · rw [m4_e, m4_e]; simp [p3]; grind
  · rw [m4_e, m4_e]; simp [p3]
/-- the line c changed for r -/
def RLc (F : Mi) (c : Nat) (r : Nat → Int) (i j : Nat) : Int := if i = c then r j else F i j
theorem part_nn {v : Nat} {kd cm : Nf} {wy : Nat → Nf} (hw : ∀ i, i < 4 → wy i 0 + wy i 1 + wy i 2 + wy i 3 ≤ 4) (hcl : ∀ i j, i < 4 → j < 4 → v.testBit i = true → wy i j ≠ 0 → v.testBit j = true) (hk : ∀ t, t < 4 → v.testBit t = true → RR (pw wy) 4 t &&& mk (ouB kd wy) 4 ≠ 0) {c : Nat} (hc : c < 4) : 0 ≤ m4 (RLc (WI v wy) c (fun j => (cm j : Int))) 3 3 := by
  rw [← m4_perm hc]
  have hp : ∀ a, a < 3 → p3 c a ≠ c ∧ p3 c a < 4 := by
    intro a ha
    unfold p3
    rw [if_neg (by omega)]
    split <;> omega
  have h3 : p3 c 3 = c := by unfold p3; rw [if_pos rfl]
  have off : ∀ i j, i ≠ j → WI v wy i j ≤ 0 := by
    intro i j ne
    unfold WI
    rw [if_neg ne]
    split <;> omega
  apply NN
  · refine MM_cg (b := fun a b => WI v wy (p3 c a) (p3 c b)) (fun i j hi hj => ?_) (MMg hw hcl hk (fun a ha => (hp a ha).2) (fun a b ha hb hh => ?_) (fun h => ?_))
    · show _ = RLc (WI v wy) c (fun j => (cm j : Int)) (p3 c i) (p3 c j)
      unfold RLc
      rw [if_neg (hp i hi).1]
    · unfold p3 at hh
      rw [if_neg (show ¬ a = 3 by omega), if_neg (show ¬ b = 3 by omega)] at hh
      by_cases e1 : a = c
      · rw [if_pos e1] at hh
        by_cases e2 : b = c
        · omega
        · rw [if_neg e2] at hh; omega
      · rw [if_neg e1] at hh
        by_cases e2 : b = c
        · rw [if_pos e2] at hh; omega
        · rw [if_neg e2] at hh; omega
    · have : c = 0 ∨ c = 1 ∨ c = 2 ∨ c = 3 := by omega
      rcases this with rfl | rfl | rfl | rfl <;> simp [sm, p3] <;> omega
  · intro i hi
    show RLc (WI v wy) c _ (p3 c i) (p3 c 3) ≤ 0
    unfold RLc
    rw [if_neg (hp i hi).1, h3]
    exact off _ _ (hp i hi).1
  · intro j _
    show 0 ≤ RLc (WI v wy) c (fun j => (cm j : Int)) (p3 c 3) (p3 c j)
    unfold RLc
    rw [h3, if_pos rfl]
    show 0 ≤ (cm (p3 c j) : Int)
    omega
theorem m4_4 {F : Mi} {c : Nat} {r : Nat → Int} (hc : c < 4) : m4 (RLc F c (fun j => 4 * r j)) 3 3 = 4 * m4 (RLc F c r) 3 3 := by
  have : c = 0 ∨ c = 1 ∨ c = 2 ∨ c = 3 := by omega
  rcases this with rfl | rfl | rfl | rfl
  · rw [m4_e, m4_e]; simp [RLc]; grind
  · rw [m4_e, m4_e]; simp [RLc]; grind
  · rw [m4_e, m4_e]; simp [RLc]; grind
  · rw [m4_e, m4_e]; simp [RLc]; grind
theorem m4_z {F : Mi} {c : Nat} (hc : c < 4) (hz : ∀ i, i < 4 → F i c = 0) : m4 F 3 3 = 0 := by
  have z0 := hz 0 (by omega)
  have z1 := hz 1 (by omega)
  have z2 := hz 2 (by omega)
  have z3 := hz 3 (by omega)
  have : c = 0 ∨ c = 1 ∨ c = 2 ∨ c = 3 := by omega
  rcases this with rfl | rfl | rfl | rfl
  · rw [m4_e, z0, z1, z2, z3]; grind
  · rw [m4_e, z0, z1, z2, z3]; grind
  · rw [m4_e, z0, z1, z2, z3]; grind
  · rw [m4_e, z0, z1, z2, z3]; grind

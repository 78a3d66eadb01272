/-! elimination over longs gives the determinant -/
def lv (O : Mi) : Nat → Nat → Nat → Int
  | 0, i, j => O i j
  | 1, i, j => m2 O i j
  | 2, i, j => m3 O i j
  | 3, i, j => m4 O i j
  | _ + 4, i, j => m5 O i j
def lp (O : Mi) : Nat → Int
  | 0 => 1
  | k + 1 => lv O k k k
theorem lv_s (O : Mi) {k : Nat} (hk : k ≤ 3) (i j : Nat) : lv O k i j * lv O k k k - lv O k i k * lv O k k j = lp O k * lv O (k + 1) i j := by
  have : k = 0 ∨ k = 1 ∨ k = 2 ∨ k = 3 := by omega
  rcases this with rfl | rfl | rfl | rfl
  · show O i j * O 0 0 - O i 0 * O 0 j = 1 * m2 O i j
    unfold m2; grind
  · exact B3 O i j
  · exact B4 O i j
  · exact B5 O i j
theorem ab_m {a b : Int} {x y : Nat} (h : a.natAbs ≤ x) (g : b.natAbs ≤ y) : (a * b).natAbs ≤ x * y := by rw [Int.natAbs_mul]; exact Nat.mul_le_mul h g
theorem ab_b {a : Int} {x : Nat} (h : a.natAbs ≤ x) : -(x : Int) ≤ a ∧ a ≤ x := by omega
def Bo (O : Mi) : Prop := ∀ i j, (O i j).natAbs ≤ 60
theorem D2_b {O : Mi} (h : Bo O) (a b : Nat) : (D2 O a b).natAbs ≤ 7200 := by
  have h1 := ab_m (h 0 a) (h 1 b)
  have h2 := ab_m (h 0 b) (h 1 a)
  unfold D2; omega
theorem D3_b {O : Mi} (h : Bo O) (a b c : Nat) : (D3 O a b c).natAbs ≤ 1296000 := by
  have h1 := ab_m (h 2 c) (D2_b h a b)
  have h2 := ab_m (h 2 b) (D2_b h a c)
  have h3 := ab_m (h 2 a) (D2_b h b c)
  unfold D3; omega
theorem D4_b {O : Mi} (h : Bo O) (a b c d : Nat) : (D4 O a b c d).natAbs ≤ 311040000 := by
  have h1 := ab_m (h 3 d) (D3_b h a b c)
  have h2 := ab_m (h 3 c) (D3_b h a b d)
  have h3 := ab_m (h 3 b) (D3_b h a c d)
  have h4 := ab_m (h 3 a) (D3_b h b c d)
  unfold D4; omega
theorem m5_b {O : Mi} (h : Bo O) (i j : Nat) : (m5 O i j).natAbs ≤ 93312000000 := by
  have h1 := ab_m (h i j) (D4_b h 0 1 2 3)
  have h2 := ab_m (h i 3) (D4_b h 0 1 2 j)
  have h3 := ab_m (h i 2) (D4_b h 0 1 3 j)
  have h4 := ab_m (h i 1) (D4_b h 0 2 3 j)
  have h5 := ab_m (h i 0) (D4_b h 1 2 3 j)
  unfold m5; omega
theorem lv_b {O : Mi} (h : Bo O) {k : Nat} (hk : k ≤ 3) (i j : Nat) : (lv O k i j).natAbs ≤ 311040000 := by
  have : k = 0 ∨ k = 1 ∨ k = 2 ∨ k = 3 := by omega
  rcases this with rfl | rfl | rfl | rfl
  · have := h i j; show (O i j).natAbs ≤ _; omega
  · have h1 := ab_m (h i j) (h 0 0)
    have h2 := ab_m (h i 0) (h 0 j)
    show (m2 O i j).natAbs ≤ _
    unfold m2; omega
  · have h1 := ab_m (h i j) (D2_b h 0 1)
    have h2 := ab_m (h i 1) (D2_b h 0 j)
    have h3 := ab_m (h i 0) (D2_b h 1 j)
    show (m3 O i j).natAbs ≤ _
    unfold m3; omega
  · have h1 := ab_m (h i j) (D3_b h 0 1 2)
    have h2 := ab_m (h i 2) (D3_b h 0 1 j)
    have h3 := ab_m (h i 1) (D3_b h 0 2 j)
    have h4 := ab_m (h i 0) (D3_b h 1 2 j)
    show (m4 O i j).natAbs ≤ _
    unfold m4; omega
theorem lv_bb {O : Mi} (h : Bo O) {k : Nat} (hk : k ≤ 4) (i j : Nat) : (lv O k i j).natAbs ≤ 93312000000 := by
  by_cases e : k = 4
  · subst e; exact m5_b h i j
  · have := lv_b h (show k ≤ 3 by omega) i j; omega
theorem el_ok {O : Mi} (h : Bo O) {A : Nat → Nat → Int64} {k i j : Nat} {b : Int64} (hk : k ≤ 3) (a1 : (A i j).toInt = lv O k i j) (a2 : (A k k).toInt = lv O k k k) (a3 : (A i k).toInt = lv O k i k) (a4 : (A k j).toInt = lv O k k j) (hb : b.toInt = lp O k) (h0 : lp O k ≠ 0) : (elB A k b i j).toInt = lv O (k + 1) i j := by
  have x1 := ab_b (ab_m (lv_b h hk i j) (lv_b h hk k k))
  have x2 := ab_b (ab_m (lv_b h hk i k) (lv_b h hk k j))
  have e1 : (A i j * A k k).toInt = lv O k i j * lv O k k k := by rw [l_mul (by rw [a1, a2]; omega) (by rw [a1, a2]; omega), a1, a2]
  have e2 : (A i k * A k j).toInt = lv O k i k * lv O k k j := by rw [l_mul (by rw [a3, a4]; omega) (by rw [a3, a4]; omega), a3, a4]
  have e3 : (A i j * A k k - A i k * A k j).toInt = lp O k * lv O (k + 1) i j := by rw [l_sub (by rw [e1, e2]; omega) (by rw [e1, e2]; omega), e1, e2, lv_s O hk]
  have e4 := lv_s O hk i j
  unfold elB
  rw [l_div (by rw [e3, ← e4]; omega), e3, hb]
  exact Int.mul_tdiv_cancel_left _ h0
/-- rows changed -/
def sw (O : Mi) (k i x y : Nat) : Int := if x = k then O i y else if x = i then O k y else O x y
theorem sw_b {O : Mi} (h : Bo O) (k i : Nat) : Bo (sw O k i) := by
  intro x y
  unfold sw
  repeat' split
  all_goals exact h _ _
theorem sw_lo {O : Mi} {k i x y : Nat} (h : x < k) (hi : k < i) : sw O k i x y = O x y := by
  unfold sw
  rw [if_neg (by omega), if_neg (by omega)]
theorem lv_sw {O : Mi} {k i x y : Nat} (hk : k ≤ 3) (hi : k < i) (hx : k ≤ x) : lv (sw O k i) k x y = if x = k then lv O k i y else if x = i then lv O k k y else lv O k x y := by
  have : k = 0 ∨ k = 1 ∨ k = 2 ∨ k = 3 := by omega
  rcases this with rfl | rfl | rfl | rfl
  · rfl
  · have r0 : ∀ y, sw O 1 i 0 y = O 0 y := fun y => sw_lo (by omega) hi
    show m2 (sw O 1 i) x y = if x = 1 then m2 O i y else if x = i then m2 O 1 y else m2 O x y
    unfold m2
    rw [r0, r0]
    unfold sw
    repeat' split
    all_goals rfl
  · have r0 : ∀ y, sw O 2 i 0 y = O 0 y := fun y => sw_lo (by omega) hi
    have r1 : ∀ y, sw O 2 i 1 y = O 1 y := fun y => sw_lo (by omega) hi
    show m3 (sw O 2 i) x y = if x = 2 then m3 O i y else if x = i then m3 O 2 y else m3 O x y
    unfold m3 D2
    simp only [r0, r1]
    unfold sw
    repeat' split
    all_goals rfl
  · have r0 : ∀ y, sw O 3 i 0 y = O 0 y := fun y => sw_lo (by omega) hi
    have r1 : ∀ y, sw O 3 i 1 y = O 1 y := fun y => sw_lo (by omega) hi
    have r2 : ∀ y, sw O 3 i 2 y = O 2 y := fun y => sw_lo (by omega) hi
    show m4 (sw O 3 i) x y = if x = 3 then m4 O i y else if x = i then m4 O 3 y else m4 O x y
    unfold m4 D3 D2
    simp only [r0, r1, r2]
    unfold sw
    repeat' split
    all_goals rfl
theorem lp_sw {O : Mi} {k i : Nat} (hk : k ≤ 3) (hi : k < i) : lp (sw O k i) k = lp O k := by
  have : k = 0 ∨ k = 1 ∨ k = 2 ∨ k = 3 := by omega
  rcases this with rfl | rfl | rfl | rfl
  · rfl
  · show sw O 1 i 0 0 = O 0 0
    exact sw_lo (by omega) hi
  · have r0 : ∀ y, sw O 2 i 0 y = O 0 y := fun y => sw_lo (by omega) hi
    have r1 : ∀ y, sw O 2 i 1 y = O 1 y := fun y => sw_lo (by omega) hi
    show m2 (sw O 2 i) 1 1 = m2 O 1 1
    unfold m2
    simp only [r0, r1]
  · have r0 : ∀ y, sw O 3 i 0 y = O 0 y := fun y => sw_lo (by omega) hi
    have r1 : ∀ y, sw O 3 i 1 y = O 1 y := fun y => sw_lo (by omega) hi
    have r2 : ∀ y, sw O 3 i 2 y = O 2 y := fun y => sw_lo (by omega) hi
    show m3 (sw O 3 i) 2 2 = m3 O 2 2
    unfold m3 D2
    simp only [r0, r1, r2]
theorem sw_neg {O : Mi} {n k i : Nat} (hn : n ≤ 4) (hki : k < i) (hi : i < n) : lv (sw O k i) (n - 1) (n - 1) (n - 1) = - lv O (n - 1) (n - 1) (n - 1) := by
  have : (n = 2 ∧ k = 0 ∧ i = 1) ∨ (n = 3 ∧ k = 0 ∧ i = 1) ∨ (n = 3 ∧ k = 0 ∧ i = 2) ∨ (n = 3 ∧ k = 1 ∧ i = 2) ∨ (n = 4 ∧ k = 0 ∧ i = 1) ∨ (n = 4 ∧ k = 0 ∧ i = 2) ∨ (n = 4 ∧ k = 0 ∧ i = 3) ∨ (n = 4 ∧ k = 1 ∧ i = 2) ∨ (n = 4 ∧ k = 1 ∧ i = 3) ∨ (n = 4 ∧ k = 2 ∧ i = 3) := by omega
  rcases this with ⟨rfl, rfl, rfl⟩ | ⟨rfl, rfl, rfl⟩ | ⟨rfl, rfl, rfl⟩ | ⟨rfl, rfl, rfl⟩ | ⟨rfl, rfl, rfl⟩ | ⟨rfl, rfl, rfl⟩ | ⟨rfl, rfl, rfl⟩ | ⟨rfl, rfl, rfl⟩ | ⟨rfl, rfl, rfl⟩ | ⟨rfl, rfl, rfl⟩
  · show m2 _ 1 1 = - m2 O 1 1
    simp [m2, sw]; grind
  · show m3 _ 2 2 = - m3 O 2 2
    simp [m3, D2, sw]; grind
  · show m3 _ 2 2 = - m3 O 2 2
    simp [m3, D2, sw]; grind
  · show m3 _ 2 2 = - m3 O 2 2
    simp [m3, D2, sw]; grind
  · show m4 _ 3 3 = - m4 O 3 3
    simp [m4, D3, D2, sw]; grind
  · show m4 _ 3 3 = - m4 O 3 3
    simp [m4, D3, D2, sw]; grind
  · show m4 _ 3 3 = - m4 O 3 3
    simp [m4, D3, D2, sw]; grind
  · show m4 _ 3 3 = - m4 O 3 3
    simp [m4, D3, D2, sw]; grind
  · show m4 _ 3 3 = - m4 O 3 3
    simp [m4, D3, D2, sw]; grind
  · show m4 _ 3 3 = - m4 O 3 3
    simp [m4, D3, D2, sw]; grind
theorem C4 (O : Mi) : O 0 0 * (O 0 0 * m4 O 3 3) = m2 O 3 3 * (m2 O 1 1 * m2 O 2 2 - m2 O 1 2 * m2 O 2 1) - m2 O 3 2 * (m2 O 1 1 * m2 O 2 3 - m2 O 1 3 * m2 O 2 1) + m2 O 3 1 * (m2 O 1 2 * m2 O 2 3 - m2 O 1 3 * m2 O 2 2) := by
  unfold m4 m2 D3 D2
  grind
theorem mz {a b x : Int} (h : x = a * b) (hx : x = 0) (ha : a ≠ 0) : b = 0 := by
  rw [hx] at h
  rcases Int.mul_eq_zero.mp h.symm with q | q
  · exact absurd q ha
  · exact q
theorem zero_col {O : Mi} {n k : Nat} (hn : n ≤ 4) (hk : k + 1 < n) (h0 : lp O k ≠ 0) (hz : ∀ i, k ≤ i → i < n → lv O k i k = 0) : lv O (n - 1) (n - 1) (n - 1) = 0 := by
  have : (n = 2 ∧ k = 0) ∨ (n = 3 ∧ k = 0) ∨ (n = 3 ∧ k = 1) ∨ (n = 4 ∧ k = 0) ∨ (n = 4 ∧ k = 1) ∨ (n = 4 ∧ k = 2) := by omega
  rcases this with ⟨rfl, rfl⟩ | ⟨rfl, rfl⟩ | ⟨rfl, rfl⟩ | ⟨rfl, rfl⟩ | ⟨rfl, rfl⟩ | ⟨rfl, rfl⟩
  · have z0 : O 0 0 = 0 := hz 0 (by omega) (by omega)
    have z1 : O 1 0 = 0 := hz 1 (by omega) (by omega)
    show m2 O 1 1 = 0
    unfold m2; rw [z0, z1]; simp
  · have z0 : O 0 0 = 0 := hz 0 (by omega) (by omega)
    have z1 : O 1 0 = 0 := hz 1 (by omega) (by omega)
    have z2 : O 2 0 = 0 := hz 2 (by omega) (by omega)
    show m3 O 2 2 = 0
    unfold m3 D2; rw [z0, z1, z2]; simp
  · have z1 : m2 O 1 1 = 0 := hz 1 (by omega) (by omega)
    have z2 : m2 O 2 1 = 0 := hz 2 (by omega) (by omega)
    exact mz (B3 O 2 2) (by rw [z1, z2]; simp) h0
  · have z0 : O 0 0 = 0 := hz 0 (by omega) (by omega)
    have z1 : O 1 0 = 0 := hz 1 (by omega) (by omega)
    have z2 : O 2 0 = 0 := hz 2 (by omega) (by omega)
    have z3 : O 3 0 = 0 := hz 3 (by omega) (by omega)
    show m4 O 3 3 = 0
    unfold m4 D3 D2; rw [z0, z1, z2, z3]; simp
  · have z1 : m2 O 1 1 = 0 := hz 1 (by omega) (by omega)
    have z2 : m2 O 2 1 = 0 := hz 2 (by omega) (by omega)
    have z3 : m2 O 3 1 = 0 := hz 3 (by omega) (by omega)
    have h0' : O 0 0 ≠ 0 := h0
    exact mz rfl (mz (C4 O).symm (by rw [z1, z2, z3]; simp) h0') h0'
  · have z1 : m3 O 2 2 = 0 := hz 2 (by omega) (by omega)
    have z2 : m3 O 3 2 = 0 := hz 3 (by omega) (by omega)
    exact mz (B4 O 3 3) (by rw [z1, z2]; simp) h0
theorem fnd_none {A : Nat → Nat → Int64} {k : Nat} : ∀ c i, fnd A k c i = none → ∀ x, i ≤ x → x < i + c → A x k = 0
  | 0, i, _ => fun x a b => by omega
  | c + 1, i, h => by
    unfold fnd at h
    by_cases z : A i k = 0
    · rw [if_pos z] at h
      intro x a b
      by_cases e : x = i
      · subst e; exact z
      · exact fnd_none c (i + 1) h x (by omega) (by omega)
    · rw [if_neg z] at h
      exact absurd h (by simp)
theorem bar_ok {n : Nat} (hn : n ≤ 5) : ∀ (c k : Nat) (A : Nat → Nat → Int64) (s b : Int64) (O : Mi), k + c + 1 = n → (s.toInt = 1 ∨ s.toInt = -1) → (∀ i j, k ≤ i → i < n → k ≤ j → j < n → (A i j).toInt = lv O k i j) → b.toInt = lp O k → lp O k ≠ 0 → Bo O → (n ≤ 4 ∨ ∀ k, k < n → lv O k k k ≠ 0) → (barB n c k A s b).toInt = s.toInt * lv O (n - 1) (n - 1) (n - 1) := by
  intro c
  induction c with
  | zero =>
    intro k A s b O h1 hs hA hb h0 hO hp
    unfold barB
    have e := hA (n - 1) (n - 1) (by omega) (by omega) (by omega) (by omega)
    rw [show k = n - 1 by omega] at e
    have x := ab_b (lv_bb hO (show n - 1 ≤ 4 by omega) (n - 1) (n - 1))
    rcases hs with hs | hs
    · rw [l_mul (by rw [hs, e]; omega) (by rw [hs, e]; omega), e]
    · rw [l_mul (by rw [hs, e]; omega) (by rw [hs, e]; omega), e]
  | succ c ih =>
    intro k A s b O h1 hs hA hb h0 hO hp
    have go : ∀ (A : Nat → Nat → Int64) (s : Int64) (O : Mi), (s.toInt = 1 ∨ s.toInt = -1) → (∀ i j, k ≤ i → i < n → k ≤ j → j < n → (A i j).toInt = lv O k i j) → b.toInt = lp O k → lp O k ≠ 0 → Bo O → (n ≤ 4 ∨ ∀ k, k < n → lv O k k k ≠ 0) → A k k ≠ 0 → (barB n c (k + 1) (elA A k b) s (A k k)).toInt = s.toInt * lv O (n - 1) (n - 1) (n - 1) := by
      intro A s O hs hA hb h0 hO hp hz
      have ak := hA k k (by omega) (by omega) (by omega) (by omega)
      refine ih (k + 1) (elA A k b) s (A k k) O (by omega) hs (fun i j i1 i2 j1 j2 => ?_) ak ?_ hO hp
      · unfold elA
        rw [if_pos (by omega)]
        exact el_ok hO (by omega) (hA i j (by omega) i2 (by omega) j2) ak (hA i k (by omega) i2 (by omega) (by omega)) (hA k j (by omega) (by omega) (by omega) j2) hb h0
      · show lv O k k k ≠ 0
        rw [← ak]
        intro y
        exact hz (by rw [l_eq, y]; rfl)
    unfold barB
    by_cases z : A k k = 0
    · rw [if_pos z]
      have n4 : n ≤ 4 := by
        rcases hp with hp | hp
        · exact hp
        · exfalso
          apply hp k (by omega)
          rw [← hA k k (by omega) (by omega) (by omega) (by omega), z]; rfl
      cases hf : fnd A k (n - (k + 1)) (k + 1) with
      | none =>
        have hx := fnd_none _ _ hf
        show (0 : Int64).toInt = _
        rw [zero_col n4 (by omega) h0 (fun i i1 i2 => by
          rw [← hA i k i1 i2 (by omega) (by omega)]
          by_cases e : i = k
          · rw [e, z]; rfl
          · rw [hx i (by omega) (by omega)]; rfl), Int.mul_zero]
        rfl
      | some i =>
        have hx := fnd_some _ _ hf
        have hns : (-s).toInt = - s.toInt := l_neg (by omega)
        have g := go (swB A k i) (-s) (sw O k i) (by rw [hns]; omega) (fun x y x1 x2 y1 y2 => by
          rw [lv_sw (by omega) (by omega) x1]
          unfold swB
          by_cases e1 : x = k
          · rw [if_pos e1, if_pos e1]; exact hA i y (by omega) (by omega) y1 y2
          · rw [if_neg e1, if_neg e1]
            by_cases e2 : x = i
            · rw [if_pos e2, if_pos e2]; exact hA k y (by omega) (by omega) y1 y2
            · rw [if_neg e2, if_neg e2]; exact hA x y x1 x2 y1 y2) (by rw [lp_sw (by omega) (by omega)]; exact hb) (by rw [lp_sw (by omega) (by omega)]; exact h0) (sw_b hO k i) (Or.inl n4) (by unfold swB; rw [if_pos rfl]; exact hx.2.2)
        show (barB n c (k + 1) (elA (swB A k i) k b) (-s) (swB A k i k k)).toInt = _
        rw [g, hns, sw_neg n4 (by omega) (by omega), Int.neg_mul_neg]
    · rw [if_neg z]
      exact go A s O hs hA hb h0 hO hp z
def cut (A : Nat → Nat → Int64) (n i j : Nat) : Int := if i < n ∧ j < n then (A i j).toInt else 0
theorem cut_b {A : Nat → Nat → Int64} {n : Nat} (h : ∀ i j, i < n → j < n → (A i j).toInt.natAbs ≤ 60) : Bo (cut A n) := by
  intro i j
  unfold cut
  by_cases z : i < n ∧ j < n
  · rw [if_pos z]; exact h i j z.1 z.2
  · rw [if_neg z]; decide
theorem det_ok {A : Nat → Nat → Int64} {n : Nat} (h1 : 1 ≤ n) (hn : n ≤ 5) (h : ∀ i j, i < n → j < n → (A i j).toInt.natAbs ≤ 60) (hp : n ≤ 4 ∨ ∀ k, k < n → lv (cut A n) k k k ≠ 0) : (detB A n).toInt = lv (cut A n) (n - 1) (n - 1) (n - 1) := by
  unfold detB
  rw [if_neg (by omega)]
  have := bar_ok hn (n - 1) 0 A 1 1 (cut A n) (by omega) (Or.inl rfl) (fun i j _ i2 _ j2 => by
    show _ = cut A n i j
    unfold cut
    rw [if_pos ⟨i2, j2⟩]) rfl (show (1 : Int) ≠ 0 by decide) (cut_b h) hp
  rw [this]
  show (1 : Int) * _ = _
  rw [Int.one_mul]

/-! what a state of a part weighs is above 0 -/
def sm (g : Nat → Int) : Nat → Int
  | 0 => 0
  | k + 1 => sm g k + g k
theorem rs_top {b : Mi} {i : Nat} : ∀ c k, rs b i k (c + 1) = rs b i k c + b i (k + c)
  | 0, k => by simp [rs]
  | c + 1, k => by
    have := rs_top (b := b) (i := i) c (k + 1)
    rw [show rs b i k (c + 1 + 1) = b i k + rs b i (k + 1) (c + 1) from rfl, this, show rs b i k (c + 1) = b i k + rs b i (k + 1) c from rfl, show k + (c + 1) = k + 1 + c by omega]
    omega
theorem rs_sm {b : Mi} {i : Nat} : ∀ n, rs b i 0 n = sm (b i) n
  | 0 => rfl
  | n + 1 => by rw [rs_top, rs_sm n, Nat.zero_add]; rfl
theorem sm_congr {g h : Nat → Int} : ∀ k, (∀ x, x < k → g x = h x) → sm g k = sm h k
  | 0, _ => rfl
  | k + 1, e => by
    unfold sm
    rw [sm_congr k (fun x hx => e x (by omega)), e k (by omega)]
theorem sm_ix {u s : Nat} (g : Nat → Int) : ∀ t, t ≤ s → sm (fun b => g (ixn u s b)) (bc u t) = sm (fun x => if u.testBit x = true then g x else 0) t
  | 0, _ => rfl
  | t + 1, h => by
    have q := sm_ix (u := u) (s := s) g t (by omega)
    rw [bc_s]
    by_cases z : u.testBit t = true
    · rw [if_pos z]
      show sm _ (bc u t) + g (ixn u s (bc u t)) = sm _ t + (if u.testBit t = true then g t else 0)
      rw [q, ix_bc s t (by omega) z, if_pos z]
    · rw [if_neg z, Nat.add_zero, q]
      show _ = sm _ t + (if u.testBit t = true then g t else 0)
      rw [if_neg z, Int.add_zero]
theorem sm_nn {h : Nat → Int} : ∀ k, (∀ x, x < k → 0 ≤ h x) → 0 ≤ sm h k ∧ ∀ x, x < k → h x ≤ sm h k
  | 0, _ => ⟨by simp [sm], fun x hx => by omega⟩
  | k + 1, e => by
    have q := sm_nn k (fun x hx => e x (by omega))
    have q0 := e k (by omega)
    unfold sm
    refine ⟨by omega, fun x hx => ?_⟩
    by_cases z : x = k
    · subst z; omega
    · have := q.2 x (by omega); omega
theorem sm_le {h : Nat → Int} {B : Int} : ∀ k, (∀ x, x < k → h x ≤ B) → sm h k ≤ B * k
  | 0, _ => by simp [sm]
  | k + 1, e => by
    have q := sm_le k (fun x hx => e x (by omega))
    have q0 := e k (by omega)
    unfold sm
    rw [show ((k + 1 : Nat) : Int) = (k : Int) + 1 by omega, Int.mul_add, Int.mul_one]
    omega
/-- the sum of a line of the square: what goes out of it -/
theorem sm_line {u f : Nat} {G : Int} {q : Nat → Int} (hf : u.testBit f = true) : ∀ k, sm (fun x => if u.testBit x = true then (if f = x then G else -(q x)) else 0) k = (if f < k then G else 0) - sm (fun x => if x = f then 0 else q x) k + sm (fun x => if x = f ∨ u.testBit x = true then 0 else q x) k
  | 0 => by simp [sm]
  | k + 1 => by
    have r := sm_line (G := G) (q := q) hf k
    show sm _ k + (if u.testBit k = true then (if f = k then G else -(q k)) else 0) = (if f < k + 1 then G else 0) - (sm _ k + (if k = f then 0 else q k)) + (sm _ k + (if k = f ∨ u.testBit k = true then 0 else q k))
    rw [r]
    by_cases e : k = f
    · subst e
      simp [hf]
      omega
    · by_cases z : u.testBit k = true
      · rw [if_pos z, if_neg (show ¬ f = k by omega), if_neg e, if_pos (Or.inr z)]
        by_cases y : f < k
        · rw [if_pos y, if_pos (by omega)]; omega
        · rw [if_neg y, if_neg (by omega)]; omega
      · rw [if_neg z, if_neg e, if_neg (show ¬ (k = f ∨ u.testBit k = true) from fun y => y.elim e z)]
        by_cases y : f < k
        · rw [if_pos y, if_pos (by omega)]; omega
        · rw [if_neg y, if_neg (by omega)]; omega
def okR (p : Nat → Int32) (s : Nat) : Prop := ∀ f t, f < s → t < s → f ≠ t → 0 ≤ (p (f * s + t)).toInt ∧ (p (f * s + t)).toInt ≤ 12
theorem okT_R {p : Nat → Int32} {s : Nat} (h6 : s ≤ 6) (h : okT p s 0) : okR p s := fun f t hf ht ne => ok_iff.mp h (f * s + t) (by omega) (ij_lt hf ht) (fun z => ne ((dg s h6 f hf t ht).mp z))
def qI (p : Nat → Int32) (s f x : Nat) : Int := (p (f * s + x)).toInt
theorem goS_I {p : Nat → Int32} {s f : Nat} (h : okR p s) (hs : s ≤ 6) (hf : f < s) : ∀ k, k ≤ s → (goS p s f k).toInt = sm (fun x => if x = f then 0 else qI p s f x) k ∧ 0 ≤ (goS p s f k).toInt ∧ (goS p s f k).toInt ≤ 12 * ((k : Int) - (if f < k then 1 else 0))
  | 0, _ => by simp [goS, sm]
  | k + 1, hk => by
    have r := goS_I h hs hf k (by omega)
    unfold goS sm
    by_cases e : k = f
    · rw [if_pos e, if_pos e]
      subst e
      rw [if_neg (by omega)] at r
      rw [if_pos (by omega)]
      refine ⟨by rw [r.1]; omega, by omega, by omega⟩
    · have o := h f k hf (by omega) (by omega)
      rw [if_neg e, if_neg e]
      have b : (goS p s f k).toInt ≤ 12 * k := by
        have := r.2.2
        split at this <;> omega
      rw [l_add (by rw [i2l]; omega) (by rw [i2l]; omega), i2l]
      refine ⟨by rw [r.1]; rfl, by omega, ?_⟩
      have := r.2.2
      by_cases y : f < k
      · rw [if_pos y] at this; rw [if_pos (by omega)]; omega
      · rw [if_neg y] at this; rw [if_neg (by omega)]; omega
theorem bc_lt_s {u i : Nat} (h : u.testBit i = false) : ∀ s, i < s → bc u s < s
  | 0, hi => by omega
  | s + 1, hi => by
    rw [bc_s]
    by_cases e : i = s
    · subst e
      rw [h]
      have := bc_le u i
      simp; omega
    · have := bc_lt_s h s (by omega)
      split <;> omega
theorem bc_pos {u x s : Nat} (hx : x < s) (h : u.testBit x = true) : 0 < bc u s := by
  have := bc_lt (v := u) hx h
  omega
def wtB (p : Nat → Int32) (s v i : Nat) : Int64 := if v.testBit i = true then detB (suB (enC p s) (rmv v i) s) (bc (rmv v i) s) else 0
theorem en_b {p : Nat → Int32} {s f t : Nat} (h : okR p s) (hs : s ≤ 6) (hf : f < s) (ht : t < s) : (enC p s f t).toInt = (if f = t then sm (fun x => if x = f then 0 else qI p s f x) s else -(qI p s f t)) ∧ (enC p s f t).toInt.natAbs ≤ 60 := by
  unfold enC
  by_cases e : f = t
  · have r := goS_I h hs hf s (by omega)
    rw [if_pos hf] at r
    rw [if_pos e, if_pos e]
    exact ⟨r.1, by omega⟩
  · have o := h f t hf ht e
    rw [if_neg e, if_neg e, i2l]
    have : (-(p (f * s + t))).toInt = -(p (f * s + t)).toInt := by
      rw [show -(p (f * s + t)) = 0 - p (f * s + t) by simp, i_sub (by rw [li_0]; omega) (by rw [li_0]; omega), li_0]; omega
    rw [this]
    exact ⟨rfl, by omega⟩
theorem w_MM {p : Nat → Int32} {s v i : Nat} (h : okR p s) (hs : s ≤ 6) (hi : i < s) (hv : v < 2 ^ s) (hb : v.testBit i = true) (hr : ∀ x, x < s → v.testBit x = true → (RR p s x).testBit i = true) : MM (cut (suB (enC p s) (rmv v i) s) (bc (rmv v i) s)) 0 (bc (rmv v i) s) := by
  have h64 := p2_le hs
  have utb : ∀ j, (rmv v i).testBit j = true ↔ v.testBit j = true ∧ j ≠ i := fun j => rmv_tb (by omega) (by omega)
  generalize hu : rmv v i = u at *
  generalize hn : bc u s = n at *
  have ok : ∀ a, a < n → ixn u s a < s ∧ u.testBit (ixn u s a) = true ∧ bc u (ixn u s a) = a := fun a ha => ix_ok s a (by omega)
  have ce : ∀ a b, a < n → b < n → cut (suB (enC p s) u s) n a b = (if ixn u s a = ixn u s b then sm (fun x => if x = ixn u s a then 0 else qI p s (ixn u s a) x) s else -(qI p s (ixn u s a) (ixn u s b))) := by
    intro a b ha hb'
    unfold cut suB
    rw [if_pos ⟨ha, hb'⟩]
    exact (en_b h hs (ok a ha).1 (ok b hb').1).1
  have row : ∀ a, a < n → rs (cut (suB (enC p s) u s) n) a 0 (n - 0) = sm (fun x => if x = ixn u s a ∨ u.testBit x = true then 0 else qI p s (ixn u s a) x) s := by
    intro a ha
    have o := ok a ha
    rw [Nat.sub_zero, rs_sm, sm_congr n (fun b hb' => ce a b ha hb')]
    have e1 := sm_ix (u := u) (s := s) (fun y => if ixn u s a = y then sm (fun x => if x = ixn u s a then 0 else qI p s (ixn u s a) x) s else -(qI p s (ixn u s a) y)) s (Nat.le_refl _)
    rw [hn] at e1
    rw [e1, sm_line o.2.1 s, if_pos o.1]
    omega
  have nn : ∀ a, a < n → ∀ x, x < s → 0 ≤ (if x = ixn u s a ∨ u.testBit x = true then 0 else qI p s (ixn u s a) x) := by
    intro a ha x hx
    split
    · omega
    · rename_i z
      exact (h (ixn u s a) x (ok a ha).1 hx (fun y => z (Or.inl y.symm))).1
  refine ⟨fun a b _ ha _ hb' ne => ?_, fun a _ ha => ?_, fun T hT => ?_⟩
  · have oa := ok a ha
    have ob := ok b hb'
    have hne : ixn u s a ≠ ixn u s b := fun y => ne (by rw [← oa.2.2, ← ob.2.2, y])
    rw [ce a b ha hb', if_neg hne]
    have := (h _ _ oa.1 ob.1 hne).1
    show -(p (ixn u s a * s + ixn u s b)).toInt ≤ 0
    omega
  · rw [row a ha]
    exact (sm_nn s (nn a ha)).1
  · apply Classical.byContradiction
    intro no
    obtain ⟨t, _, ht, tt⟩ := hT
    have st : ∀ a, a < n → T a → (∀ x, x < s → x ≠ ixn u s a → u.testBit x = false → qI p s (ixn u s a) x = 0) ∧ ∀ b, b < n → ¬ T b → cut (suB (enC p s) u s) n a b = 0 := by
      intro a ha ta
      refine ⟨fun x hx ne hz => ?_, fun b hb' tb => ?_⟩
      · have z : rs (cut (suB (enC p s) u s) n) a 0 (n - 0) = 0 := by
          apply Classical.byContradiction
          intro z
          exact no ⟨a, by omega, ha, ta, Or.inl z⟩
        rw [row a ha] at z
        have q1 := (sm_nn s (nn a ha)).2 x hx
        have q2 := nn a ha x hx
        rw [if_neg (by rw [hz]; simp; exact ne)] at q1 q2
        omega
      · apply Classical.byContradiction
        intro z
        exact no ⟨a, by omega, ha, ta, Or.inr ⟨b, by omega, hb', tb, z⟩⟩
    let B : Nat → Bool := fun x => u.testBit x && @decide (T (bc u x)) (Classical.propDecidable _)
    have Bi : ∀ x, B x = true ↔ u.testBit x = true ∧ T (bc u x) := fun x => by
      show (u.testBit x && @decide (T (bc u x)) (Classical.propDecidable _)) = true ↔ _
      rw [Bool.and_eq_true]
      exact and_congr Iff.rfl (@decide_eq_true_iff _ (Classical.propDecidable _))
    have cl : clo p s (mk B s) := by
      intro x y hx hy wx hl
      rw [mk_tb, Bool.and_eq_true, decide_eq_true_eq, Bi] at wx
      rw [mk_tb, Bool.and_eq_true, decide_eq_true_eq, Bi]
      unfold ld at hl
      simp only [Bool.and_eq_true, decide_eq_true_eq] at hl
      have ex := ix_bc (v := u) s x hx wx.2.1
      have bx : bc u x < n := by rw [← hn]; exact bc_lt hx wx.2.1
      have sx := st (bc u x) bx wx.2.2
      rw [ex] at sx
      have uy : u.testBit y = true := by
        apply Classical.byContradiction
        intro z
        have := sx.1 y hy (by omega) (by simpa using z)
        unfold qI at this
        omega
      refine ⟨hy, uy, ?_⟩
      apply Classical.byContradiction
      intro z
      have ey := ix_bc (v := u) s y hy uy
      have by' : bc u y < n := by rw [← hn]; exact bc_lt hy uy
      have := sx.2 (bc u y) by' z
      rw [ce _ _ bx by', ex, ey, if_neg hl.1] at this
      unfold qI at this
      omega
    have ot := ok t ht
    have wt : (mk B s).testBit (ixn u s t) = true := by
      rw [mk_tb, Bool.and_eq_true, decide_eq_true_eq, Bi, ot.2.2]
      exact ⟨ot.1, ot.2.1, tt⟩
    have ri := RR_least cl wt i (hr (ixn u s t) ot.1 ((utb _).mp ot.2.1).1)
    rw [mk_tb, Bool.and_eq_true, Bi] at ri
    exact ((utb i).mp ri.2.1).2 rfl
theorem w_pos {p : Nat → Int32} {s v i : Nat} (h : okR p s) (hs : s ≤ 6) (hi : i < s) (hv : v < 2 ^ s) (hb : v.testBit i = true) (hr : ∀ x, x < s → v.testBit x = true → (RR p s x).testBit i = true) : 0 < (wtB p s v i).toInt ∧ (wtB p s v i).toInt ≤ 93312000000 := by
  have h64 := p2_le hs
  unfold wtB
  rw [if_pos hb]
  have hz : (rmv v i).testBit i = false := by
    rw [Bool.eq_false_iff]
    intro z
    exact ((rmv_tb (show v < 64 by omega) (show i < 6 by omega)).mp z).2 rfl
  have hlt := bc_lt_s hz s hi
  by_cases n0 : bc (rmv v i) s = 0
  · rw [n0]
    unfold detB
    rw [if_pos rfl]
    decide
  · exact (det_pos (by omega) (by omega) (fun a b ha hb' => (en_b h hs (ix_ok s a ha).1 (ix_ok s b hb').1).2) (w_MM h hs hi hv hb hr)).2

/-! the sums of both sides are as each other -/
def gdA (n t : Nat) : Bool := decide (tp t 4 = n)
theorem gl_mem {g : Nat → Bool} : ∀ d t0 t, t ∈ gl g d t0 ↔ t0 ≤ t ∧ t < t0 + d ∧ g t = true
  | 0, t0, t => by simp [gl]; omega
  | d + 1, t0, t => by
    have r := gl_mem (g := g) d (t0 + 1) t
    rw [show gl g (d + 1) t0 = (if g t0 = true then t0 :: gl g d (t0 + 1) else gl g d (t0 + 1)) from rfl]
    by_cases z : g t0 = true
    · rw [if_pos z, List.mem_cons, r]
      constructor
      · rintro (rfl | ⟨a, b, c⟩)
        · exact ⟨by omega, by omega, z⟩
        · exact ⟨by omega, by omega, c⟩
      · rintro ⟨a, b, c⟩
        by_cases e : t = t0
        · left; exact e
        · right; exact ⟨by omega, by omega, c⟩
    · rw [if_neg z, r]
      constructor
      · rintro ⟨a, b, c⟩
        exact ⟨by omega, by omega, c⟩
      · rintro ⟨a, b, c⟩
        have : t ≠ t0 := fun y => z (y ▸ c)
        exact ⟨by omega, by omega, c⟩
theorem gl_gd {kd : Nf} {n : Nat} {F : Nat → Nat} : ∀ d t, slN F (gl (gd kd n) d t) = slN (fun t => if okP kd t 4 = true then F t else 0) (gl (gdA n) d t)
  | 0, _ => rfl
  | d + 1, t => by
    have r := gl_gd (kd := kd) (n := n) (F := F) d (t + 1)
    rw [show gl (gd kd n) (d + 1) t = (if gd kd n t = true then t :: gl (gd kd n) d (t + 1) else gl (gd kd n) d (t + 1)) from rfl, show gl (gdA n) (d + 1) t = (if gdA n t = true then t :: gl (gdA n) d (t + 1) else gl (gdA n) d (t + 1)) from rfl]
    by_cases a : gdA n t = true
    · rw [if_pos a]
      by_cases b : okP kd t 4 = true
      · rw [if_pos (show gd kd n t = true by unfold gd; rw [b]; exact a)]
        show F t + slN F _ = (if okP kd t 4 = true then F t else 0) + _
        rw [if_pos b, r]
      · rw [if_neg (show ¬ gd kd n t = true by unfold gd; intro y; rw [Bool.and_eq_true] at y; exact b y.1)]
        show slN F _ = (if okP kd t 4 = true then F t else 0) + _
        rw [if_neg b, r, Nat.zero_add]
    · rw [if_neg a, if_neg (show ¬ gd kd n t = true by unfold gd; intro y; rw [Bool.and_eq_true] at y; exact a y.2), r]
theorem slN_perm {F : Nat → Nat} {l l' : List Nat} (h : l.Perm l') : slN F l = slN F l' := by
  induction h with
  | nil => rfl
  | cons x _ ih => show F x + _ = F x + _; rw [ih]
  | swap x y l => show F y + (F x + _) = F x + (F y + _); omega
  | trans _ _ ih1 ih2 => exact ih1.trans ih2
theorem en_perm : ∀ n, n < 5 → List.isPerm (en 35 n) (gl (gdA n) 625 0) = true := by decide +kernel
theorem en_P {n : Nat} (hn : n ≤ 4) : (en 35 n).Perm (gl (gdA n) 625 0) := List.isPerm_iff.mp (en_perm n (by omega))
theorem en_len : ∀ n, n < 5 → (en 35 n).length ≤ 35 := by decide +kernel
theorem slN_lin {F G : Nat → Nat} {a b : Nat} : ∀ l : List Nat, (∀ t, t ∈ l → a * F t = b * G t) → a * slN F l = b * slN G l
  | [], _ => by simp [slN]
  | t :: l, h => by
    have r := slN_lin l (fun x hx => h x (List.mem_cons_of_mem _ hx))
    have e := h t (List.mem_cons_self ..)
    show a * (F t + slN F l) = b * (G t + slN G l)
    rw [Nat.mul_add, Nat.mul_add, r, e]
theorem slN_le {F G : Nat → Nat} {a : Nat} : ∀ l : List Nat, (∀ t, t ∈ l → F t ≤ a * G t) → slN F l ≤ a * slN G l
  | [], _ => by simp [slN]
  | t :: l, h => by
    have r := slN_le (F := F) (G := G) l (fun x hx => h x (List.mem_cons_of_mem _ hx))
    have e := h t (List.mem_cons_self ..)
    show F t + slN F l ≤ a * (G t + slN G l)
    rw [Nat.mul_add]
    omega
theorem slN_ge {F : Nat → Nat} {t : Nat} : ∀ l : List Nat, t ∈ l → F t ≤ slN F l
  | [], h => by simp at h
  | x :: l, h => by
    show F t ≤ F x + slN F l
    rcases List.mem_cons.mp h with rfl | h
    · omega
    · have := slN_ge (F := F) l h; omega
theorem slN_one : ∀ l : List Nat, slN (fun _ => 1) l = l.length
  | [] => rfl
  | t :: l => by
    show 1 + slN (fun _ => 1) l = _
    rw [slN_one l, List.length_cons]
    omega
theorem tp_tot (t : Nat) : tp t 4 = tot t := by
  show 0 + sO t 0 + sO t 1 + sO t 2 + sO t 3 = tot t
  rw [sO_0, sO_1, sO_2, sO_3]
  unfold tot
  omega
/-- kinds of hands: divisors of 24 -/
def gT (y k : Nat) : Nat := if y = 0 then (if k = 0 then 1 else if k = 1 then 1 else if k = 2 then 2 else if k = 3 then 6 else 24) else if y = 1 then (if k = 0 then 1 else if k = 1 then 1 else if k = 2 then 2 else if k = 3 then 4 else 8) else 1
def gW (t w : Nat) : Nat := 1 * gT (w % 3) (sO t 0) * gT (w / 3 % 3) (sO t 1) * gT (w / 9 % 3) (sO t 2) * gT (w / 27) (sO t 3)
theorem dv24_0 : ∀ t, t < 625 → tot t ≤ 4 → ∀ w, w < 81 → 24 % gW t w = 0 := by decide +kernel
theorem gb_T {kd hd : Nf} (hh : ∀ c, c < 4 → hd c = 1 ∨ (hd c = 2 ∧ kd c = 0)) {c : Nat} (hc : c < 4) : ∃ y, y < 3 ∧ ∀ k, k ≤ 4 → gb kd hd c k = gT y k := by
  have h1 := hh c hc
  by_cases e3 : kd c = 3
  · have b : ∀ j, bq kd hd c j = j := fun j => by unfold bq; rw [if_pos e3]
    refine ⟨0, by omega, fun k hk => ?_⟩
    have hk4 : k = 0 ∨ k = 1 ∨ k = 2 ∨ k = 3 ∨ k = 4 := by omega
    rcases hk4 with rfl | rfl | rfl | rfl | rfl <;> simp [gb, b, gT]
  · by_cases e2 : hd c = 2
    · have b : ∀ j, bq kd hd c j = if 2 < j then 2 else j := fun j => by unfold bq; rw [if_neg e3, e2]
      refine ⟨1, by omega, fun k hk => ?_⟩
      have hk4 : k = 0 ∨ k = 1 ∨ k = 2 ∨ k = 3 ∨ k = 4 := by omega
      rcases hk4 with rfl | rfl | rfl | rfl | rfl <;> simp [gb, b, gT]
    · have b : ∀ j, bq kd hd c j = if 1 < j then 1 else j := fun j => by unfold bq; rw [if_neg e3, show hd c = 1 by omega]
      refine ⟨2, by omega, fun k hk => ?_⟩
      have hk4 : k = 0 ∨ k = 1 ∨ k = 2 ∨ k = 3 ∨ k = 4 := by omega
      rcases hk4 with rfl | rfl | rfl | rfl | rfl <;> simp [gb, b, gT]
theorem tot_lt {t : Nat} (h : tot t ≤ 4) : t < 625 := by
  have : t / 125 ≤ 4 := by unfold tot at h; omega
  omega
theorem dv24 {kd hd : Nf} {t : Nat} (hh : ∀ c, c < 4 → hd c = 1 ∨ (hd c = 2 ∧ kd c = 0)) (h4 : tot t ≤ 4) : Dv kd hd (sO t) 4 * (24 / Dv kd hd (sO t) 4) = 24 := by
  obtain ⟨x, hx, ex⟩ := gb_T hh (c := 0) (by omega)
  obtain ⟨y, hy, ey⟩ := gb_T hh (c := 1) (by omega)
  obtain ⟨z, hz, ez⟩ := gb_T hh (c := 2) (by omega)
  obtain ⟨u, hu, eu⟩ := gb_T hh (c := 3) (by omega)
  have e : Dv kd hd (sO t) 4 = 1 * gT x (sO t 0) * gT y (sO t 1) * gT z (sO t 2) * gT u (sO t 3) := by
    show 1 * gb kd hd 0 (sO t 0) * gb kd hd 1 (sO t 1) * gb kd hd 2 (sO t 2) * gb kd hd 3 (sO t 3) = _
    rw [ex (sO t 0) (sO_le h4 (by omega)), ey (sO t 1) (sO_le h4 (by omega)), ez (sO t 2) (sO_le h4 (by omega)), eu (sO t 3) (sO_le h4 (by omega))]
  have m := dv24_0 t (tot_lt h4) h4 (x + 3 * y + 9 * z + 27 * u) (by omega)
  have w0 : (x + 3 * y + 9 * z + 27 * u) % 3 = x := by omega
  have w1 : (x + 3 * y + 9 * z + 27 * u) / 3 = y + 3 * z + 9 * u := by omega
  have w1' : (y + 3 * z + 9 * u) % 3 = y := by omega
  have w2 : (x + 3 * y + 9 * z + 27 * u) / 9 = z + 3 * u := by omega
  have w2' : (z + 3 * u) % 3 = z := by omega
  have w3 : (x + 3 * y + 9 * z + 27 * u) / 27 = u := by omega
  unfold gW at m
  rw [w0, w1, w1', w2, w2', w3, ← e] at m
  exact Nat.mul_div_cancel' (Nat.dvd_of_mod_eq_zero m)
theorem ok_P {kd : Nf} {t : Nat} : ∀ k, okP kd t k = true ↔ ∀ c, c < k → kd c = 9 → sO t c = 0
  | 0 => by simp [okP]
  | k + 1 => by
    have r := ok_P (kd := kd) (t := t) k
    rw [show okP kd t (k + 1) = (okP kd t k && (decide (kd k ≠ 9) || decide (sO t k = 0))) from rfl, Bool.and_eq_true, r, Bool.or_eq_true, decide_eq_true_eq, decide_eq_true_eq]
    constructor
    · rintro ⟨a, b⟩ c hc h9
      by_cases e : c = k
      · subst e
        rcases b with b | b
        · exact absurd h9 b
        · exact b
      · exact a c (by omega) h9
    · intro a
      refine ⟨fun c hc h9 => a c (by omega) h9, ?_⟩
      by_cases e : kd k = 9
      · right; exact a k (by omega) e
      · left; exact e
theorem Pw_0 {q s : Nf} {c : Nat} (hq : q c = 0) (hs : s c ≠ 0) : ∀ k, c < k → Pw q s k = 0
  | 0, h => by omega
  | k + 1, h => by
    show Pw q s k * q k ^ s k = 0
    by_cases e : c = k
    · subst e; rw [hq, Nat.zero_pow (by omega), Nat.mul_zero]
    · rw [Pw_0 hq hs k (by omega), Nat.zero_mul]
theorem pt_alike {kd hd q : Nf} (o : okKH kd hd) (hh : ∀ c, c < 4 → hd c = 1 ∨ (hd c = 2 ∧ kd c = 0)) (hq : ∀ c, c < 4 → kd c = 9 → q c = 0) {t : Nat} (h4 : tot t ≤ 4) : 24 * (if okP kd t 4 = true then PR kd hd q (sO t) 4 else 0) = PH kd hd 4 * wC kd hd q (sO t) := by
  by_cases z : okP kd t 4 = true
  · rw [if_pos z]
    have e := PR_Dv (q := q) (s := sO t) o hh (fun c hc => sO_le h4 hc) (fun c hc h9 => (ok_P 4).mp z c hc h9) 4 (by omega)
    have d := dv24 (kd := kd) (hd := hd) (t := t) hh h4
    unfold wC
    generalize PR kd hd q (sO t) 4 = A at *
    generalize Dv kd hd (sO t) 4 = B at *
    generalize Pw q (sO t) 4 = C at *
    generalize PH kd hd 4 = D at *
    generalize 24 / B = E at *
    rw [← d]
    have : A * B * E = C * D * E := by rw [e]
    grind
  · rw [if_neg z]
    have : ∃ c, c < 4 ∧ kd c = 9 ∧ sO t c ≠ 0 := by
      apply Classical.byContradiction
      intro y
      apply z
      rw [ok_P]
      intro c hc h9
      apply Classical.byContradiction
      intro w
      exact y ⟨c, hc, h9, w⟩
    obtain ⟨c, hc, h9, hs⟩ := this
    unfold wC
    rw [Pw_0 (hq c hc h9) hs 4 hc]
    simp
theorem sum_alike {kd hd q : Nf} (o : okKH kd hd) (hh : ∀ c, c < 4 → hd c = 1 ∨ (hd c = 2 ∧ kd c = 0)) (hq : ∀ c, c < 4 → kd c = 9 → q c = 0) {n : Nat} (hn : n ≤ 4) (T : Nat → Nat) : 24 * slN (fun t => PR kd hd q (sO t) 4 * T t) (gl (gd kd n) 625 0) = PH kd hd 4 * slN (fun t => wC kd hd q (sO t) * T t) (en 35 n) := by
  rw [gl_gd, slN_perm (en_P hn)]
  apply slN_lin
  intro t ht
  have g := ((gl_mem 625 0 t).mp ht).2.2
  unfold gdA at g
  rw [decide_eq_true_eq, tp_tot] at g
  have e := pt_alike o hh hq (t := t) (by omega)
  by_cases z : okP kd t 4 = true
  · rw [if_pos z] at e ⊢
    rw [← Nat.mul_assoc, e, Nat.mul_assoc]
  · rw [if_neg z] at e ⊢
    rw [← Nat.mul_assoc, ← e]
    simp
/-- bounds -/
def fEw (k : Nat) : Nat := if 2 ≤ k then (if k = 2 then 12 else if k = 3 then 4 else 1) else 24
def fE4 (t : Nat) : Nat := 1 * fEw (sO t 0) * fEw (sO t 1) * fEw (sO t 2) * fEw (sO t 3)
theorem fE_sum : ∀ n, n < 5 → slN fE4 (gl (gdA n) 625 0) ≤ 3538944 := by decide +kernel
theorem frw_le {kd hd : Nf} {c k : Nat} : frw kd hd c k ≤ fEw k := by
  unfold frw fEw
  repeat' split
  all_goals omega
theorem frw_pos {kd hd : Nf} {c k : Nat} : 1 ≤ frw kd hd c k := by
  unfold frw
  repeat' split
  all_goals omega
theorem pw_le {a b k : Nat} (h : a ≤ b) : a ^ k ≤ b ^ k := Nat.pow_le_pow_left h k
theorem fEw_pos (k : Nat) : 1 ≤ fEw k := by
  unfold fEw
  repeat' split
  all_goals omega
theorem fc_le {kd hd q s : Nf} (hq : ∀ c, c < 4 → q c ≤ 768) {c : Nat} (hc : c < 4) : (if kd c = 9 then 1 else q c ^ s c * frw kd hd c (s c)) ≤ 768 ^ s c * fEw (s c) := by
  split
  · have a : 1 ≤ 768 ^ s c := Nat.pow_pos (by omega)
    have := Nat.mul_le_mul a (fEw_pos (s c))
    omega
  · exact Nat.mul_le_mul (pw_le (hq c hc)) frw_le
theorem PR_le {kd hd q : Nf} (hq : ∀ c, c < 4 → q c ≤ 768) (t : Nat) : PR kd hd q (sO t) 4 ≤ 768 ^ tot t * fE4 t := by
  have a := fc_le (kd := kd) (hd := hd) (q := q) (s := sO t) hq (c := 0) (by omega)
  have b := fc_le (kd := kd) (hd := hd) (q := q) (s := sO t) hq (c := 1) (by omega)
  have c := fc_le (kd := kd) (hd := hd) (q := q) (s := sO t) hq (c := 2) (by omega)
  have d := fc_le (kd := kd) (hd := hd) (q := q) (s := sO t) hq (c := 3) (by omega)
  have e := Nat.mul_le_mul (Nat.mul_le_mul (Nat.mul_le_mul (Nat.mul_le_mul (Nat.le_refl 1) a) b) c) d
  refine Nat.le_trans e ?_
  rw [← tp_tot, show tp t 4 = 0 + sO t 0 + sO t 1 + sO t 2 + sO t 3 from rfl, Nat.zero_add, Nat.pow_add, Nat.pow_add, Nat.pow_add]
  unfold fE4
  apply Nat.le_of_eq
  generalize 768 ^ sO t 0 = x0
  generalize 768 ^ sO t 1 = x1
  generalize 768 ^ sO t 2 = x2
  generalize 768 ^ sO t 3 = x3
  grind
theorem SR_le {kd hd q : Nf} (hq : ∀ c, c < 4 → q c ≤ 768) {n : Nat} (hn : n ≤ 4) {T : Nat → Nat} {K : Nat} (hT : ∀ t, tot t ≤ 4 → T t ≤ K) : slN (fun t => PR kd hd q (sO t) 4 * T t) (gl (gd kd n) 625 0) ≤ K * (768 ^ n * 3538944) := by
  rw [gl_gd]
  have h1 : slN (fun t => if okP kd t 4 = true then PR kd hd q (sO t) 4 * T t else 0) (gl (gdA n) 625 0) ≤ (K * 768 ^ n) * slN fE4 (gl (gdA n) 625 0) := by
    apply slN_le
    intro t ht
    have g := ((gl_mem 625 0 t).mp ht).2.2
    unfold gdA at g
    rw [decide_eq_true_eq, tp_tot] at g
    split
    · have a := PR_le (kd := kd) (hd := hd) hq t
      rw [g] at a
      have b := Nat.mul_le_mul a (hT t (by omega))
      refine Nat.le_trans b (Nat.le_of_eq ?_)
      generalize 768 ^ n = x
      grind
    · omega
  have h2 := Nat.mul_le_mul (Nat.le_refl (K * 768 ^ n)) (fE_sum n (by omega))
  refine Nat.le_trans (Nat.le_trans h1 h2) (Nat.le_of_eq ?_)
  generalize 768 ^ n = x
  grind
theorem p768 {n : Nat} (hn : n ≤ 4) : 768 ^ n ≤ 347892350976 := by
  have : 768 ^ n ≤ 768 ^ 4 := Nat.pow_le_pow_right (by omega) hn
  omega
theorem Pw_le {q s : Nf} (hq : ∀ c, c < 4 → q c ≤ 768) : Pw q s 4 ≤ 768 ^ (s 0 + s 1 + s 2 + s 3) := by
  rw [Nat.pow_add, Nat.pow_add, Nat.pow_add]
  show 1 * q 0 ^ s 0 * q 1 ^ s 1 * q 2 ^ s 2 * q 3 ^ s 3 ≤ _
  rw [Nat.one_mul]
  exact Nat.mul_le_mul (Nat.mul_le_mul (Nat.mul_le_mul (pw_le (hq 0 (by omega))) (pw_le (hq 1 (by omega)))) (pw_le (hq 2 (by omega)))) (pw_le (hq 3 (by omega)))
theorem wC_le {kd hd q s : Nf} (hq : ∀ c, c < 4 → q c ≤ 768) (h4 : s 0 + s 1 + s 2 + s 3 ≤ 4) : wC kd hd q s ≤ 347892350976 * 24 := by
  unfold wC
  exact Nat.mul_le_mul (Nat.le_trans (Pw_le hq) (p768 h4)) (Nat.div_le_self _ _)
theorem SC_le {kd hd q : Nf} (hq : ∀ c, c < 4 → q c ≤ 768) {n : Nat} (hn : n ≤ 4) {T : Nat → Nat} {K : Nat} (hT : ∀ t, tot t ≤ 4 → T t ≤ K) : slN (fun t => wC kd hd q (sO t) * T t) (en 35 n) ≤ (347892350976 * 24 * K) * 35 := by
  have h1 : slN (fun t => wC kd hd q (sO t) * T t) (en 35 n) ≤ (347892350976 * 24 * K) * slN (fun _ => 1) (en 35 n) := by
    apply slN_le
    intro t ht
    have g := ((gl_mem 625 0 t).mp ((en_P hn).mem_iff.mp ht)).2.2
    unfold gdA at g
    rw [decide_eq_true_eq, tp_tot] at g
    rw [Nat.mul_one]
    exact Nat.mul_le_mul (wC_le hq (by rw [sO_0, sO_1, sO_2, sO_3]; show tot t ≤ 4; omega)) (hT t (by omega))
  rw [slN_one] at h1
  exact Nat.le_trans h1 (Nat.mul_le_mul (Nat.le_refl _) (en_len n (by omega)))
/-- the sums are above 0 -/
theorem tC_d : ∀ c, c < 4 → ∀ n, n < 5 → (n * 5 ^ c < 625 ∧ tp (n * 5 ^ c) 4 = n) ∧ ∀ k, k < 4 → sO (n * 5 ^ c) k = if k = c then n else 0 := by decide +kernel
theorem PR_pos {kd hd q s : Nf} (h : ∀ c, c < 4 → kd c ≠ 9 → 1 ≤ q c) : ∀ c, c ≤ 4 → 1 ≤ PR kd hd q s c
  | 0, _ => Nat.le_refl _
  | c + 1, hc => by
    have r := PR_pos (kd := kd) (hd := hd) (q := q) (s := s) h c (by omega)
    show 1 ≤ PR kd hd q s c * (if kd c = 9 then 1 else q c ^ s c * frw kd hd c (s c))
    split
    · omega
    · rename_i h9
      have a : 1 ≤ q c ^ s c := Nat.pow_pos (h c (by omega) h9)
      have b := Nat.mul_le_mul a (frw_pos (kd := kd) (hd := hd) (c := c) (k := s c))
      have d := Nat.mul_le_mul r b
      omega
theorem SR_pos {kd hd q : Nf} (h : ∀ c, c < 4 → kd c ≠ 9 → 1 ≤ q c) {n : Nat} (hn : n ≤ 4) (hx : ∃ c, c < 4 ∧ kd c ≠ 9) : 1 ≤ slN (fun t => PR kd hd q (sO t) 4 * 1) (gl (gd kd n) 625 0) := by
  obtain ⟨c, hc, h9⟩ := hx
  have q1 := tC_d c hc n (by omega)
  have m : n * 5 ^ c ∈ gl (gd kd n) 625 0 := by
    rw [gl_mem]
    refine ⟨by omega, by omega, ?_⟩
    unfold gd
    rw [Bool.and_eq_true, ok_P, decide_eq_true_eq]
    refine ⟨fun k hk h9' => ?_, q1.1.2⟩
    rw [q1.2 k hk, if_neg (show ¬ k = c from fun hy => h9 (by rw [← hy]; exact h9'))]
  have g := slN_ge (F := fun t => PR kd hd q (sO t) 4 * 1) _ m
  have p := PR_pos (kd := kd) (hd := hd) (q := q) (s := sO (n * 5 ^ c)) h 4 (by omega)
  simp only [Nat.mul_one] at g
  simp only [Nat.mul_one]
  omega

/-! every state balances: the numbers -/
def up1 (s : Nf) (c k : Nat) : Nat := if k = c then s k + 1 else s k
def dn1 (s : Nf) (c k : Nat) : Nat := if k = c then s k - 1 else s k
theorem up_dn {s : Nf} {d : Nat} (h : s d ≠ 0) : up1 (dn1 s d) d = s := by
  funext k
  unfold up1 dn1
  by_cases e : k = d
  · subst e
    rw [if_pos rfl, if_pos rfl]; omega
  · rw [if_neg e, if_neg e]
theorem Pw_up {q s : Nf} {f : Nat} : ∀ k, Pw q (up1 s f) k = if f < k then Pw q s k * q f else Pw q s k
  | 0 => by simp [Pw]
  | k + 1 => by
    have r := Pw_up (q := q) (s := s) (f := f) k
    show Pw q (up1 s f) k * q k ^ up1 s f k = if f < k + 1 then Pw q s k * q k ^ s k * q f else Pw q s k * q k ^ s k
    rw [r]
    unfold up1
    by_cases e : k = f
    · subst e
      rw [if_neg (by omega), if_pos rfl, if_pos (by omega), Nat.pow_succ, Nat.mul_assoc]
    · rw [if_neg e]
      by_cases y : f < k
      · rw [if_pos y, if_pos (by omega), Nat.mul_assoc, Nat.mul_comm (q f), ← Nat.mul_assoc]
      · rw [if_neg y, if_neg (by omega)]
theorem Dv_up {kd hd s : Nf} {f : Nat} : ∀ k, Dv kd hd (up1 s f) k = if f < k then Dv kd hd s k * bq kd hd f (s f + 1) else Dv kd hd s k
  | 0 => by simp [Dv]
  | k + 1 => by
    have r := Dv_up (kd := kd) (hd := hd) (s := s) (f := f) k
    show Dv kd hd (up1 s f) k * gb kd hd k (up1 s f k) = if f < k + 1 then Dv kd hd s k * gb kd hd k (s k) * bq kd hd f (s f + 1) else Dv kd hd s k * gb kd hd k (s k)
    rw [r]
    unfold up1
    by_cases e : k = f
    · subst e
      rw [if_neg (by omega), if_pos rfl, if_pos (by omega), show gb kd hd k (s k + 1) = gb kd hd k (s k) * bq kd hd k (s k + 1) from rfl, Nat.mul_assoc]
    · rw [if_neg e]
      by_cases y : f < k
      · rw [if_pos y, if_pos (by omega), Nat.mul_assoc, Nat.mul_comm (bq kd hd f (s f + 1)), ← Nat.mul_assoc]
      · rw [if_neg y, if_neg (by omega)]
theorem Dv_cg {kd hd s s' : Nf} : ∀ k, (∀ c, c < k → s c = s' c) → Dv kd hd s k = Dv kd hd s' k
  | 0, _ => rfl
  | k + 1, h => by
    show Dv kd hd s k * gb kd hd k (s k) = Dv kd hd s' k * gb kd hd k (s' k)
    rw [Dv_cg k (fun c hc => h c (by omega)), h k (by omega)]
def s4 (s : Nf) : Nat := s 0 + s 1 + s 2 + s 3
theorem dv24s {kd hd s : Nf} (hh : ∀ c, c < 4 → hd c = 1 ∨ (hd c = 2 ∧ kd c = 0)) (h : s4 s ≤ 4) : Dv kd hd s 4 * (24 / Dv kd hd s 4) = 24 := by
  unfold s4 at h
  have d := dg4 (a := s 0) (b := s 1) (c := s 2) (d := s 3) (by omega) (by omega) (by omega)
  have e : Dv kd hd s 4 = Dv kd hd (sO (s 0 + 5 * s 1 + 25 * s 2 + 125 * s 3)) 4 := Dv_cg 4 (fun c hc => by
    rcases c4 hc with rfl | rfl | rfl | rfl
    · rw [sO_0, d.1]
    · rw [sO_1, d.2.1]
    · rw [sO_2, d.2.2.1]
    · rw [sO_3, d.2.2.2])
  rw [e]
  apply dv24 hh
  unfold tot
  rw [d.1, d.2.1, d.2.2.1, d.2.2.2]
  omega
theorem s4_up {s : Nf} {f : Nat} (hf : f < 4) : s4 (up1 s f) = s4 s + 1 := by
  unfold s4 up1
  rcases c4 hf with rfl | rfl | rfl | rfl
  · rw [if_pos rfl, if_neg (by decide), if_neg (by decide), if_neg (by decide)]; omega
  · rw [if_neg (by decide), if_pos rfl, if_neg (by decide), if_neg (by decide)]; omega
  · rw [if_neg (by decide), if_neg (by decide), if_pos rfl, if_neg (by decide)]; omega
  · rw [if_neg (by decide), if_neg (by decide), if_neg (by decide), if_pos rfl]; omega
theorem K_C {kd rr hd q v s : Nf} {f : Nat} (hh : ∀ c, c < 4 → hd c = 1 ∨ (hd c = 2 ∧ kd c = 0)) (hf : f < 4) (h3 : s4 s ≤ 3) (hq : q f * rr f = 12 * v f) : wC kd hd q (up1 s f) * (rr f * bq kd hd f (s f + 1)) = 12 * v f * wC kd hd q s := by
  have a := dv24s (s := s) hh (by omega)
  have b := dv24s (s := up1 s f) hh (by rw [s4_up hf]; omega)
  have pu := Pw_up (q := q) (s := s) (f := f) 4
  have du := Dv_up (kd := kd) (hd := hd) (s := s) (f := f) 4
  rw [if_pos hf] at pu du
  unfold wC
  rw [pu]
  rw [du] at b ⊢
  generalize Dv kd hd s 4 = D at *
  generalize bq kd hd f (s f + 1) = B at *
  generalize 24 / (D * B) = X at *
  generalize 24 / D = Y at *
  generalize Pw q s 4 = P at *
  have d0 : 0 < D := by
    rcases Nat.eq_zero_or_pos D with hz | hz
    · rw [hz, Nat.zero_mul] at a; omega
    · exact hz
  have e : B * X = Y := by
    apply Nat.eq_of_mul_eq_mul_left d0
    rw [← Nat.mul_assoc, b, a]
  rw [← e, ← hq]
  grind
theorem frw_bq {kd hd : Nf} (o : okKH kd hd) (hh : ∀ c, c < 4 → hd c = 1 ∨ (hd c = 2 ∧ kd c = 0)) {c k : Nat} (hc : c < 4) (hk : k + 1 ≤ 4) : frw kd hd c (k + 1) * bq kd hd c (k + 1) = frw kd hd c k := by
  have a := gf_ph o hh hc (k := k + 1) hk
  have b := gf_ph o hh hc (k := k) (by omega)
  have g := gb_b o hc k (by omega)
  rw [show gb kd hd c (k + 1) = gb kd hd c k * bq kd hd c (k + 1) from rfl, ← b] at a
  apply Nat.eq_of_mul_eq_mul_left (show 0 < gb kd hd c k by omega)
  grind
theorem PR_up {kd hd q s : Nf} (o : okKH kd hd) (hh : ∀ c, c < 4 → hd c = 1 ∨ (hd c = 2 ∧ kd c = 0)) {f : Nat} (hf : f < 4) (h9 : kd f ≠ 9) (hs : s f + 1 ≤ 4) : ∀ k, k ≤ 4 → (if f < k then PR kd hd q (up1 s f) k * bq kd hd f (s f + 1) = PR kd hd q s k * q f else PR kd hd q (up1 s f) k = PR kd hd q s k)
  | 0, _ => by simp [PR]
  | k + 1, hk => by
    have r := PR_up (q := q) (s := s) o hh hf h9 hs k (by omega)
    have e1 : PR kd hd q (up1 s f) (k + 1) = PR kd hd q (up1 s f) k * (if kd k = 9 then 1 else q k ^ up1 s f k * frw kd hd k (up1 s f k)) := rfl
    have e2 : PR kd hd q s (k + 1) = PR kd hd q s k * (if kd k = 9 then 1 else q k ^ s k * frw kd hd k (s k)) := rfl
    rw [e1, e2, show up1 s f k = (if k = f then s k + 1 else s k) from rfl]
    by_cases e : k = f
    · subst e
      rw [if_neg (by omega)] at r
      rw [if_pos (by omega), if_pos rfl, if_neg h9, if_neg h9, show PR kd hd q (up1 s k) k = PR kd hd q s k from r, Nat.pow_succ, ← frw_bq o hh hf hs]
      generalize PR kd hd q s k = A
      generalize q k ^ s k = x
      generalize frw kd hd k (s k + 1) = y
      generalize bq kd hd k (s k + 1) = z
      grind
    · rw [if_neg e]
      generalize (if kd k = 9 then 1 else q k ^ s k * frw kd hd k (s k)) = g
      by_cases y : f < k
      · rw [if_pos y] at r
        rw [if_pos (by omega)]
        have r' : PR kd hd q (up1 s f) k * bq kd hd f (s f + 1) = PR kd hd q s k * q f := r
        show PR kd hd q (up1 s f) k * g * bq kd hd f (s f + 1) = PR kd hd q s k * g * q f
        generalize PR kd hd q (up1 s f) k = A at *
        generalize PR kd hd q s k = B at *
        generalize bq kd hd f (s f + 1) = z at *
        have : A * z * g = B * q f * g := by rw [r']
        grind
      · rw [if_neg y] at r
        rw [if_neg (by omega)]
        show PR kd hd q (up1 s f) k * g = _
        rw [show PR kd hd q (up1 s f) k = PR kd hd q s k from r]
theorem K_R {kd rr hd q v s : Nf} {f : Nat} (o : okKH kd hd) (hh : ∀ c, c < 4 → hd c = 1 ∨ (hd c = 2 ∧ kd c = 0)) (hf : f < 4) (h9 : kd f ≠ 9) (hs : s f + 1 ≤ 4) (hq : q f * rr f = 12 * v f) : PR kd hd q (up1 s f) 4 * (rr f * bq kd hd f (s f + 1)) = 12 * v f * PR kd hd q s 4 := by
  have r := PR_up (q := q) (s := s) o hh hf h9 hs 4 (by omega)
  rw [if_pos hf] at r
  rw [← hq]
  generalize PR kd hd q (up1 s f) 4 = A at *
  generalize PR kd hd q s 4 = B at *
  generalize bq kd hd f (s f + 1) = z at *
  have : A * z * rr f = B * q f * rr f := by rw [r]
  grind
def sN (F : Nat → Nat) : Nat → Nat
  | 0 => 0
  | k + 1 => sN F k + F k
theorem sN_cg {F G : Nat → Nat} : ∀ k, (∀ c, c < k → F c = G c) → sN F k = sN G k
  | 0, _ => rfl
  | k + 1, h => by
    show sN F k + F k = sN G k + G k
    rw [sN_cg k (fun c hc => h c (by omega)), h k (by omega)]
theorem sN_mul {F : Nat → Nat} {a : Nat} : ∀ k, a * sN F k = sN (fun c => a * F c) k
  | 0 => rfl
  | k + 1 => by
    show a * (sN F k + F k) = sN (fun c => a * F c) k + a * F k
    rw [Nat.mul_add, sN_mul k]
/-- what comes is what goes -/
theorem bal {kd rr hd v : Nf} {wy : Nat → Nf} {W : Nf → Nat} (K : ∀ s f, f < 4 → kd f ≠ 9 → s4 s ≤ 3 → W (up1 s f) * (rr f * bq kd hd f (s f + 1)) = 12 * v f * W s) (tr : ∀ d, d < 4 → kd d ≠ 9 → sN (fun c => v c * wy c d) 4 = 4 * v d) (z9 : ∀ c d, c < 4 → d < 4 → kd c = 9 → wy c d = 0) {s : Nf} (hs : s4 s ≤ 4) (h9 : ∀ c, c < 4 → kd c = 9 → s c = 0) : sN (fun d => if s d = 0 then 0 else sN (fun c => W (up1 (dn1 s d) c) * (rr c * bq kd hd c (dn1 s d c + 1)) * wy c d) 4) 4 = sN (fun d => if s d = 0 then 0 else 4 * (rr d * bq kd hd d (s d)) * W s) 4 := by
  apply sN_cg
  intro d hd4
  by_cases e : s d = 0
  · rw [if_pos e, if_pos e]
  · rw [if_neg e, if_neg e]
    have d9 : kd d ≠ 9 := fun hz => e (h9 d hd4 hz)
    have s3 : s4 (dn1 s d) ≤ 3 := by
      have := s4_up (s := dn1 s d) hd4
      rw [up_dn e] at this
      omega
    have e1 : sN (fun c => W (up1 (dn1 s d) c) * (rr c * bq kd hd c (dn1 s d c + 1)) * wy c d) 4 = sN (fun c => (12 * W (dn1 s d)) * (v c * wy c d)) 4 := by
      apply sN_cg
      intro c hc
      by_cases y : kd c = 9
      · rw [z9 c d hc hd4 y]; simp
      · show W (up1 (dn1 s d) c) * (rr c * bq kd hd c (dn1 s d c + 1)) * wy c d = 12 * W (dn1 s d) * (v c * wy c d)
        rw [K (dn1 s d) c hc y s3]
        generalize W (dn1 s d) = x
        grind
    rw [e1, ← sN_mul, tr d hd4 d9]
    have k := K (dn1 s d) d hd4 d9 s3
    rw [up_dn e, show dn1 s d d + 1 = s d by unfold dn1; rw [if_pos rfl]; omega] at k
    generalize W (dn1 s d) = x at *
    generalize W s = y at *
    generalize rr d * bq kd hd d (s d) = z at *
    grind

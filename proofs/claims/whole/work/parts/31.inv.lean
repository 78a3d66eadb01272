/-! the invariant: what the class's cells and the reference's cells hold, in common numbers -/
abbrev Nf : Type := Nat → Nat
def NetC (kd rt hd rm cm : Nf) (wy : Nat → Nf) (M : Mm) : Prop := (∀ c, c < 4 → mI M (23 + c) 1 = (if kd c = 9 then -1 else nI (kd c)) ∧ mI M (23 + c) 2 = nI (rt c) ∧ mI M (23 + c) 3 = nI (hd c) ∧ mI M (23 + c) 4 = nI (rm c) ∧ mI M (23 + c) 5 = nI (cm c)) ∧ ∀ c k, c < 4 → k < 4 → mI M (27 + c) k = nI (wy c k)
def NetR (kd rt hd rm cm : Nf) (wy : Nat → Nf) (M : Mm) : Prop := (∀ c, c < 4 → mI M 88 c = (if kd c = 9 then 0 else 1) ∧ (kd c ≠ 9 → mI M 89 c = nI (kd c) ∧ mI M 90 c = nI (rt c) ∧ mI M 91 c = nI (hd c) ∧ mI M 92 c = nI (rm c)) ∧ mI M 93 c = nI (cm c)) ∧ ∀ c k, c < 4 → k < 4 → mI M 94 (4 * c + k) = nI (wy c k)
def wfN (kd rt hd rm cm : Nf) (wy : Nat → Nf) : Prop := ∀ c, c < 4 → (kd c ≤ 5 ∨ kd c = 9) ∧ (rt c = 1 ∨ rt c = 2 ∨ rt c = 3 ∨ rt c = 4 ∨ rt c = 6 ∨ rt c = 12) ∧ (hd c = 1 ∨ hd c = 2 ∧ kd c = 0) ∧ (1 ≤ rm c ∧ rm c ≤ 6) ∧ cm c ≤ 9 ∧ (kd c = 9 → cm c = 0 ∧ ∀ k, k < 4 → wy c k = 0 ∧ wy k c = 0) ∧ wy c 0 + wy c 1 + wy c 2 + wy c 3 ≤ 4
def RowC (sz : Nf) (pl : Nat → Nat → Int32) (M : Mm) : Prop := ∀ r, r < 6 → mI M (10 + r) 1 = (if sz r = 41 then -1 else nI (sz r)) ∧ (sz r ≠ 41 → ∀ i, i < sz r → mI M (16 + r) i = pl r i)
def RowR (sz : Nf) (pl : Nat → Nat → Int32) (M : Mm) : Prop := ∀ r, r < 6 → mI M 85 r = (if sz r = 41 then -9 else nI (sz r)) ∧ (sz r ≠ 41 → ∀ i, i < sz r → mI M 86 (40 * r + i) = pl r i)
def wfR (sz : Nf) : Prop := ∀ r, r < 6 → sz r ≤ 41
def FlgC (ff : Nat → Int32) (fn as : Int32) (up lo : Int64) (M : Mm) : Prop := (∀ f, 1 ≤ f → f ≤ 5 → mI M 3 f = ff f) ∧ mI M 0 7 = fn ∧ mI M 0 8 = as ∧ mJ M 7 0 = up ∧ mJ M 7 1 = lo
def FlgR (ff : Nat → Int32) (fn as : Int32) (up lo : Int64) (M : Mm) : Prop := (∀ f, 1 ≤ f → f ≤ 5 → mI M 84 f = ff f) ∧ mI M 1 0 = fn ∧ mI M 1 2 = as ∧ mJ M 1 3 = up ∧ mJ M 1 4 = lo
def NetI (M : Mm) : Prop := ∃ kd rt hd rm cm wy, wfN kd rt hd rm cm wy ∧ NetC kd rt hd rm cm wy M ∧ NetR kd rt hd rm cm wy M
def RowI (M : Mm) : Prop := ∃ sz pl, wfR sz ∧ RowC sz pl M ∧ RowR sz pl M
def FlgI (M : Mm) : Prop := ∃ ff fn as up lo, FlgC ff fn as up lo M ∧ FlgR ff fn as up lo M
def Inv (M : Mm) : Prop := NetI M ∧ RowI M ∧ FlgI M
/-- cells that last: the class's, the reference's -/
def pX (a : Nat) : Prop := a = 0 ∨ a = 3 ∨ (10 ≤ a ∧ a ≤ 30)
def pR (a k : Nat) : Prop := (84 ≤ a ∧ a ≤ 86) ∨ (88 ≤ a ∧ a ≤ 94) ∨ (a = 1 ∧ (k = 0 ∨ k = 2))
/-- M1 is M but for scratch cells -/
def Sc (M M1 : Mm) : Prop := (∀ a k, pX a ∨ pR a k → mI M1 a k = mI M a k) ∧ (∀ k, mJ M1 7 k = mJ M 7 k) ∧ ∀ k, k = 3 ∨ k = 4 → mJ M1 1 k = mJ M 1 k
theorem Sc.rf (M : Mm) : Sc M M := ⟨fun _ _ _ => rfl, fun _ => rfl, fun _ _ => rfl⟩
theorem Sc.tr {M M1 M2 : Mm} (h : Sc M M1) (g : Sc M1 M2) : Sc M M2 := ⟨fun a k p => (g.1 a k p).trans (h.1 a k p), fun k => (g.2.1 k).trans (h.2.1 k), fun k p => (g.2.2 k p).trans (h.2.2 k p)⟩
theorem Sc.i {M M1 : Mm} (h : Sc M M1) {a k : Nat} {v : Int32} (ha : ¬ (pX a ∨ pR a k)) : Sc M (sI M1 a k v) := by
  refine ⟨fun b j p => ?_, h.2.1, h.2.2⟩
  rw [mI_sI, if_neg, h.1 b j p]
  rintro ⟨rfl, rfl⟩
  exact ha p
theorem Sc.j {M M1 : Mm} (h : Sc M M1) {a k : Nat} {v : Int64} (ha : a ≠ 7) (hb : ¬ (a = 1 ∧ (k = 3 ∨ k = 4))) : Sc M (sJ M1 a k v) := by
  refine ⟨h.1, fun j => ?_, fun j p => ?_⟩
  · rw [mJ_sJ, if_neg, h.2.1 j]
    rintro ⟨rfl, rfl⟩
    exact ha rfl
  · rw [mJ_sJ, if_neg, h.2.2 j p]
    rintro ⟨rfl, rfl⟩
    exact hb ⟨rfl, p⟩
theorem NetC.sc {kd rt hd rm cm : Nf} {wy : Nat → Nf} {M M1 : Mm} (h : NetC kd rt hd rm cm wy M) (s : ∀ a k, pX a → mI M1 a k = mI M a k) : NetC kd rt hd rm cm wy M1 := by
  refine ⟨fun c hc => ?_, fun c k hc hk => ?_⟩
  · have hp : pX (23 + c) := by unfold pX; omega
    rw [s _ _ hp, s _ _ hp, s _ _ hp, s _ _ hp, s _ _ hp]
    exact h.1 c hc
  · rw [s _ _ (by unfold pX; omega)]
    exact h.2 c k hc hk
theorem NetR.sc {kd rt hd rm cm : Nf} {wy : Nat → Nf} {M M1 : Mm} (h : NetR kd rt hd rm cm wy M) (s : ∀ a k, pR a k → mI M1 a k = mI M a k) : NetR kd rt hd rm cm wy M1 := by
  refine ⟨fun c hc => ?_, fun c k hc hk => ?_⟩
  · rw [s 88 c (by unfold pR; omega), s 89 c (by unfold pR; omega), s 90 c (by unfold pR; omega), s 91 c (by unfold pR; omega), s 92 c (by unfold pR; omega), s 93 c (by unfold pR; omega)]
    exact h.1 c hc
  · rw [s _ _ (by unfold pR; omega)]
    exact h.2 c k hc hk
theorem RowC.sc {sz : Nf} {pl : Nat → Nat → Int32} {M M1 : Mm} (h : RowC sz pl M) (s : ∀ a k, pX a → mI M1 a k = mI M a k) : RowC sz pl M1 := by
  intro r hr
  refine ⟨?_, fun hn i hi => ?_⟩
  · rw [s _ _ (by unfold pX; omega)]
    exact (h r hr).1
  · rw [s _ _ (by unfold pX; omega)]
    exact (h r hr).2 hn i hi
theorem RowR.sc {sz : Nf} {pl : Nat → Nat → Int32} {M M1 : Mm} (h : RowR sz pl M) (s : ∀ a k, pR a k → mI M1 a k = mI M a k) : RowR sz pl M1 := by
  intro r hr
  refine ⟨?_, fun hn i hi => ?_⟩
  · rw [s _ _ (by unfold pR; omega)]
    exact (h r hr).1
  · rw [s _ _ (by unfold pR; omega)]
    exact (h r hr).2 hn i hi
theorem Inv.sc {M M1 : Mm} (h : Inv M) (s : Sc M M1) : Inv M1 := by
  obtain ⟨⟨kd, rt, hd, rm, cm, wy, w, n1, n2⟩, ⟨sz, pl, w2, r1, r2⟩, ⟨ff, fn, as, up, lo, f1, f2⟩⟩ := h
  have sx : ∀ a k, pX a → mI M1 a k = mI M a k := fun a k p => s.1 a k (Or.inl p)
  have sr : ∀ a k, pR a k → mI M1 a k = mI M a k := fun a k p => s.1 a k (Or.inr p)
  refine ⟨⟨kd, rt, hd, rm, cm, wy, w, n1.sc sx, n2.sc sr⟩, ⟨sz, pl, w2, r1.sc sx, r2.sc sr⟩, ⟨ff, fn, as, up, lo, ?_, ?_⟩⟩
  · refine ⟨fun f h1 h2 => ?_, ?_, ?_, ?_, ?_⟩
    · rw [sx _ _ (by unfold pX; omega)]; exact f1.1 f h1 h2
    · rw [sx _ _ (by unfold pX; omega)]; exact f1.2.1
    · rw [sx _ _ (by unfold pX; omega)]; exact f1.2.2.1
    · rw [s.2.1]; exact f1.2.2.2.1
    · rw [s.2.1]; exact f1.2.2.2.2
  · refine ⟨fun f h1 h2 => ?_, ?_, ?_, ?_, ?_⟩
    · rw [sr _ _ (by unfold pR; omega)]; exact f2.1 f h1 h2
    · rw [sr _ _ (by unfold pR; omega)]; exact f2.2.1
    · rw [sr _ _ (by unfold pR; omega)]; exact f2.2.2.1
    · rw [s.2.2 3 (Or.inl rfl)]; exact f2.2.2.2.1
    · rw [s.2.2 4 (Or.inr rfl)]; exact f2.2.2.2.2
/-- what a refused call leaves -/
def RF (M : Mm) (f : Nat) : Mm := sI (sI M 0 7 (nI f)) 3 f (mI M 3 f + 1)
def RM (M : Mm) (f : Nat) : Mm := sI (sI M 1 0 (nI f)) 84 f (mI M 84 f + 1)
theorem s_refuse {f : Nat} (M : Mm) (h1 : 1 ≤ f) (h5 : f ≤ 5) : f_X8_refuse 0 (nI f) M = some (-3, RF M f) := by
  have t : (nI f).toInt = (f : Int) := nI_toInt (by omega)
  unfold f_X8_refuse
  simp only [i_lt, t, li_m9, li_m4, li_m3, li_m2, li_m1, li_0, li_1, li_2, li_3, li_4, li_5, li_6, li_7, li_8, li_9, li_10, li_11, li_12, li_13, li_16, li_24, li_25, li_31, li_36, li_40, li_125, li_200, li_240, li_625, li_1000, li_100000, li_1000000, nm_q, bd_s, fld_0_6, nI_cl (show f < 2 ^ 31 by omega), ck_k (show f < 6 by omega) (by omega)]
  rw [if_neg (by omega), if_neg (by omega)]
  rfl
theorem s_meets {f : Nat} (M : Mm) (h1 : 1 ≤ f) (h5 : f ≤ 5) : f_X9_meets 1 (nI f) M = some (-3, RM M f) := by
  unfold f_X9_meets
  simp only [nm_q, bd_s, fld_1_1, nI_cl (show f < 2 ^ 31 by omega), ck_k (show f < 6 by omega) (by omega)]
  rfl
theorem inv_ref {M Ma Mb : Mm} {f : Nat} (h : Inv M) (h1 : 1 ≤ f) (h5 : f ≤ 5) (sa : Sc M Ma) (sb : Sc (RF Ma f) Mb) : Inv (RM Mb f) := by
  obtain ⟨⟨kd, rt, hd, rm, cm, wy, w, n1, n2⟩, ⟨sz, pl, w2, r1, r2⟩, ⟨ff, fn, as, up, lo, f1, f2⟩⟩ := h.sc sa
  have e1 : ∀ a k, ¬ (a = 0 ∨ a = 3) → mI (RF Ma f) a k = mI Ma a k := fun a k q => by
    unfold RF
    rw [mI_sI, if_neg (by omega), mI_sI, if_neg (by omega)]
  have e2 : ∀ a k, ¬ (a = 1 ∨ a = 84) → mI (RM Mb f) a k = mI Mb a k := fun a k q => by
    unfold RM
    rw [mI_sI, if_neg (by omega), mI_sI, if_neg (by omega)]
  have sx : ∀ a k, (10 ≤ a ∧ a ≤ 30) → mI (RM Mb f) a k = mI Ma a k := fun a k p => by
    rw [e2 a k (by omega), sb.1 a k (Or.inl (by unfold pX; omega)), e1 a k (by omega)]
  have sr : ∀ a k, (85 ≤ a ∧ a ≤ 86) ∨ (88 ≤ a ∧ a ≤ 94) → mI (RM Mb f) a k = mI Ma a k := fun a k p => by
    rw [e2 a k (by omega), sb.1 a k (Or.inr (by unfold pR; omega)), e1 a k (by omega)]
  refine ⟨⟨kd, rt, hd, rm, cm, wy, w, ⟨fun c hc => ?_, fun c k hc hk => ?_⟩, ⟨fun c hc => ?_, fun c k hc hk => ?_⟩⟩, ⟨sz, pl, w2, fun r hr => ⟨?_, fun hn i hi => ?_⟩, fun r hr => ⟨?_, fun hn i hi => ?_⟩⟩, ⟨fun g => if g = f then ff f + 1 else ff g, nI f, as, up, lo, ⟨fun g g1 g5 => ?_, ?_, ?_, ?_, ?_⟩, ⟨fun g g1 g5 => ?_, ?_, ?_, ?_, ?_⟩⟩⟩
  · rw [sx _ _ (by omega), sx _ _ (by omega), sx _ _ (by omega), sx _ _ (by omega), sx _ _ (by omega)]; exact n1.1 c hc
  · rw [sx _ _ (by omega)]; exact n1.2 c k hc hk
  · rw [sr _ _ (by omega), sr _ _ (by omega), sr _ _ (by omega), sr _ _ (by omega), sr _ _ (by omega), sr _ _ (by omega)]; exact n2.1 c hc
  · rw [sr _ _ (by omega)]; exact n2.2 c k hc hk
  · rw [sx _ _ (by omega)]; exact (r1 r hr).1
  · rw [sx _ _ (by omega)]; exact (r1 r hr).2 hn i hi
  · rw [sr _ _ (by omega)]; exact (r2 r hr).1
  · rw [sr _ _ (by omega)]; exact (r2 r hr).2 hn i hi
  · rw [e2 _ _ (by omega), sb.1 _ _ (Or.inl (by unfold pX; omega))]
    unfold RF
    rw [mI_sI, mI_sI, f1.1 f h1 h5]
    by_cases q : g = f
    · subst q; simp
    · simp [q, f1.1 g g1 g5]
  · rw [e2 _ _ (by omega), sb.1 _ _ (Or.inl (by unfold pX; omega))]
    unfold RF
    rw [mI_sI, mI_sI]
    simp
  · rw [e2 _ _ (by omega), sb.1 _ _ (Or.inl (by unfold pX; omega))]
    unfold RF
    rw [mI_sI, mI_sI]
    simp [f1.2.2.1]
  · show mJ Mb 7 0 = up
    rw [sb.2.1]; exact f1.2.2.2.1
  · show mJ Mb 7 1 = lo
    rw [sb.2.1]; exact f1.2.2.2.2
  · have hb : ∀ j, mI Mb 84 j = mI Ma 84 j := fun j => by rw [sb.1 _ _ (Or.inr (by unfold pR; omega)), e1 _ _ (by omega)]
    unfold RM
    rw [mI_sI, mI_sI, hb, hb, f2.1 f h1 h5, f2.1 g g1 g5]
    by_cases q : g = f
    · subst q; simp
    · simp [q]
  · unfold RM
    rw [mI_sI, mI_sI]
    simp
  · unfold RM
    rw [mI_sI, mI_sI]
    simp only [show ¬ (1 = 84 ∧ 2 = f) by omega, show ¬ (1 = 1 ∧ 2 = 0) by omega, if_false]
    rw [sb.1 _ _ (Or.inr (by unfold pR; omega)), e1 _ _ (by omega)]; exact f2.2.2.1
  · show mJ Mb 1 3 = up
    rw [sb.2.2 3 (Or.inl rfl)]; exact f2.2.2.2.1
  · show mJ Mb 1 4 = lo
    rw [sb.2.2 4 (Or.inr rfl)]; exact f2.2.2.2.2
/-- a call: both sides answer alike, and the invariant stays -/
def Alike (fX fR : Mm → Option (Int32 × Mm)) : Prop := ∀ M, Inv M → ∃ (r : Int32) (M1 M2 : Mm), fX M = some (r, M1) ∧ fR M1 = some (r, M2) ∧ Inv M2
def AlikeL (fX fR : Mm → Option (Int64 × Mm)) : Prop := ∀ M, Inv M → ∃ (r : Int64) (M1 M2 : Mm), fX M = some (r, M1) ∧ fR M1 = some (r, M2) ∧ Inv M2

/-! squares of some states: both sides lay the same -/
def ixn (v : Nat) : Nat → Nat → Nat
  | 0, _ => 0
  | s + 1, a => if v.testBit s = true ∧ bc v s = a then s else ixn v s a
theorem bc_s (v k : Nat) : bc v (k + 1) = bc v k + (if v.testBit k = true then 1 else 0) := rfl
theorem bc_mn {v : Nat} : ∀ d f, bc v f ≤ bc v (f + d)
  | 0, _ => Nat.le_refl _
  | d + 1, f => by
    have := bc_mn (v := v) d f
    rw [show f + (d + 1) = (f + d) + 1 from rfl, bc_s]
    omega
theorem bc_lt {v f s : Nat} (h : f < s) (hb : v.testBit f = true) : bc v f < bc v s := by
  have := bc_mn (v := v) (s - (f + 1)) (f + 1)
  rw [show f + 1 + (s - (f + 1)) = s by omega, bc_s, if_pos hb] at this
  omega
theorem ix_bc {v : Nat} : ∀ s f, f < s → v.testBit f = true → ixn v s (bc v f) = f
  | 0, f, h, _ => by omega
  | s + 1, f, h, hb => by
    unfold ixn
    by_cases e : f = s
    · subst e; rw [if_pos ⟨hb, rfl⟩]
    · have := bc_lt (v := v) (show f < s by omega) hb
      rw [if_neg (by omega)]
      exact ix_bc s f (by omega) hb
theorem ix_ok {v : Nat} : ∀ s a, a < bc v s → ixn v s a < s ∧ v.testBit (ixn v s a) = true ∧ bc v (ixn v s a) = a
  | 0, a, h => by simp [bc] at h
  | s + 1, a, h => by
    unfold ixn
    by_cases e : v.testBit s = true ∧ bc v s = a
    · rw [if_pos e]; exact ⟨by omega, e.1, e.2⟩
    · rw [if_neg e]
      rw [bc_s] at h
      have : a < bc v s := by
        by_cases z : v.testBit s = true
        · rw [if_pos z] at h
          have : bc v s ≠ a := fun y => e ⟨z, y⟩
          omega
        · rw [if_neg z] at h; omega
      have q := ix_ok s a this
      exact ⟨by omega, q.2⟩
theorem s_bc6 : ∀ m, m < 64 → ∀ M : Mm, f_J6_bitCount_0f7a4 (nI m) M = some (nI (bc m 6), M) := by
  intro m hm M
  have key : ∀ m, m < 64 → (f_J6_bitCount_0f7a4 (nI m) (fun _ _ => 0, fun _ _ => 0)).map Prod.fst = some (nI (bc m 6)) := by decide +kernel
  have k := key m hm
  unfold f_J6_bitCount_0f7a4 at k ⊢
  simp only [nm_q, Option.map_some, Option.some.injEq] at k ⊢
  rw [k]
theorem bc_6 {v s : Nat} (hs : s ≤ 6) (hv : v < 2 ^ s) : bc v 6 = bc v s := by
  have : ∀ d, bc v (s + d) = bc v s := by
    intro d
    induction d with
    | zero => rfl
    | succ d ih =>
      rw [show s + (d + 1) = (s + d) + 1 from rfl, bc_s, ih, if_neg]
      · omega
      · intro z
        have := tb_lt hv z
        omega
  rw [← this (6 - s), show s + (6 - s) = 6 by omega]
/-- without one -/
def rmv (m i : Nat) : Nat := if m.testBit i = true then m - 2 ^ i else m
theorem s_rmv : ∀ m, m < 64 → ∀ i, i < 6 → nI m &&& ((1 <<< (nI i &&& 31)) ^^^ (-1)) = nI (rmv m i) := by decide +kernel
theorem rmv_tb6 : ∀ m, m < 64 → ∀ i, i < 6 → ∀ j, j < 6 → (rmv m i).testBit j = (m.testBit j && decide (j ≠ i)) := by decide +kernel
theorem rmv_le (m i : Nat) : rmv m i ≤ m := by unfold rmv; split; exact Nat.sub_le _ _; exact Nat.le_refl _
theorem rmv_tb {m i j : Nat} (hm : m < 64) (hi : i < 6) : (rmv m i).testBit j = true ↔ m.testBit j = true ∧ j ≠ i := by
  have h := rmv_le m i
  by_cases q : j < 6
  · rw [rmv_tb6 m hm i hi j q]; simp
  · constructor
    · intro z; have := tb_lt (s := 6) (show rmv m i < 2 ^ 6 by omega) z; omega
    · intro z; have := tb_lt (s := 6) (show m < 2 ^ 6 by omega) z.1; omega
/-- the cell of a chain's square -/
def enC (p : Nat → Int32) (s f t : Nat) : Int64 := if f = t then goS p s f s else Int32.toInt64 (-(p (f * s + t)))
def suB (E : Nat → Nat → Int64) (v s a b : Nat) : Int64 := E (ixn v s a) (ixn v s b)
/-- a chain's cells, wherever it lies -/
def ChG (o ro : Nat) (M : Mm) (p : Nat → Int32) (s : Nat) : Prop := mI M o 3 = nI s ∧ ∀ i, i < s → ∀ j, j < s → mI M (ro + i) j = p (i * s + j)
theorem s_goingG {o ro : Nat} {M : Mm} {p : Nat → Int32} {s i : Nat} (hr : ∀ i, elm (fld o 0) i = ro + i) (h6 : s ≤ 6) (h : ChG o ro M p s) (hi : i < s) : f_X0_going o (nI i) M = some (goS p s i s, M) := by
  have l : ∀ (b j m : Nat), j + b = s → b < m → f_X0_going_b5 o m (nI i) (goS p s i j) (nI j) M = some (goS p s i s, M) := by
    intro b
    induction b with
    | zero =>
      intro j m g1 g2
      obtain ⟨m, rfl⟩ : ∃ j, m = j + 1 := ⟨m - 1, by omega⟩
      rw [f_X0_going_b5_s]
      unfold f_X0_going_b5B
      rw [h.1, show j = s by omega, if_pos (Int32.le_refl _)]
    | succ b jh =>
      intro j m g1 g2
      obtain ⟨m, rfl⟩ : ∃ j, m = j + 1 := ⟨m - 1, by omega⟩
      have hjh := jh (j + 1) m (by omega) (by omega)
      have ke : nI j = nI i ↔ j = i := by rw [i_eq, t_nI (by omega), t_nI (by omega)]; omega
      rw [show goS p s i (j + 1) = if j = i then goS p s i j else goS p s i j + Int32.toInt64 (p (i * s + j)) from rfl] at hjh
      rw [f_X0_going_b5_s]
      unfold f_X0_going_b5B
      rw [h.1, if_neg (by rw [i_le, t_nI (by omega), t_nI (by omega)]; omega)]
      simp only [ck_k (show i < 6 by omega) (show 6 < 1000 by omega), ck_k (show j < 6 by omega) (show 6 < 1000 by omega), nI_cl (show i < 2 ^ 31 by omega), nI_cl (show j < 2 ^ 31 by omega), hr, h.2 i hi j (by omega), ke, nm_q, bd_s, nI_1]
      by_cases q : j = i
      · rw [if_pos q] at hjh ⊢
        exact hjh
      · rw [if_neg q] at hjh ⊢
        exact hjh
  unfold f_X0_going
  exact l s 0 fuel (by omega) (by show s < 1000; omega)
/-- a line laid up to t -/
def LLn (M : Mm) (q : Nat) (E : Nat → Nat → Int64) (v s f l t : Nat) : Mm := (M.1, fun a c => if a = q + l ∧ c < bc v t then E f (ixn v s c) else M.2 a c)
theorem mJ_LLn (M : Mm) (q : Nat) (E : Nat → Nat → Int64) (v s f l t a c : Nat) : mJ (LLn M q E v s f l t) a c = if a = q + l ∧ c < bc v t then E f (ixn v s c) else mJ M a c := rfl
theorem LLn_0 (M : Mm) (q : Nat) (E : Nat → Nat → Int64) (v s f l : Nat) : LLn M q E v s f l 0 = M := by
  unfold LLn
  refine Prod.ext rfl ?_
  funext a c
  show (if a = q + l ∧ c < 0 then _ else M.2 a c) = M.2 a c
  rw [if_neg (by omega)]
theorem LLn_n (M : Mm) (q : Nat) (E : Nat → Nat → Int64) {v s f l t : Nat} (h : v.testBit t = false) : LLn M q E v s f l (t + 1) = LLn M q E v s f l t := by
  unfold LLn
  rw [bc_s, h]
  simp
theorem LLn_s (M : Mm) (q : Nat) (E : Nat → Nat → Int64) {v s f l t : Nat} (ht : t < s) (h : v.testBit t = true) : sJ (LLn M q E v s f l t) (q + l) (bc v t) (E f t) = LLn M q E v s f l (t + 1) := by
  unfold LLn sJ
  refine Prod.ext rfl ?_
  funext a c
  show (if a = q + l ∧ c = bc v t then E f t else if a = q + l ∧ c < bc v t then E f (ixn v s c) else M.2 a c) = if a = q + l ∧ c < bc v (t + 1) then E f (ixn v s c) else M.2 a c
  rw [bc_s, if_pos h]
  by_cases h1 : a = q + l ∧ c = bc v t
  · rw [if_pos h1, if_pos (by omega), h1.2, ix_bc s t ht h]
  · rw [if_neg h1]
    by_cases h2 : a = q + l ∧ c < bc v t
    · rw [if_pos h2, if_pos (by omega)]
    · rw [if_neg h2, if_neg (by omega)]
theorem ChG_J {o ro : Nat} {M M1 : Mm} {p : Nat → Int32} {s : Nat} (h : ChG o ro M p s) (e : M1.1 = M.1) : ChG o ro M1 p s := by
  have k : ∀ a j, mI M1 a j = mI M a j := fun a j => by show M1.1 a j = M.1 a j; rw [e]
  exact ⟨by rw [k]; exact h.1, fun i hi j hj => by rw [k]; exact h.2 i hi j hj⟩
theorem s_layLine {o ro so q : Nat} {M : Mm} {p : Nat → Int32} {s f l v : Nat} (hr : ∀ i, elm (fld o 0) i = ro + i) (hq : ∀ i, elm (fld (fld o 2) 0) i = q + i) (h6 : s ≤ 6) (h : ChG o ro M p s) (hf : f < s) (hl : l < 6) (hv : v < 2 ^ s) : f_X0_layLine o (nI l) (nI f) (nI v) M = some (LLn M q (enC p s) v s f l s) := by
  have h64 := p2_le h6
  have hG : ∀ t, ChG o ro (LLn M q (enC p s) v s f l t) p s := fun t => ChG_J h rfl
  have lp : ∀ (b t m : Nat), t + b = s → b < m → f_X0_layLine_b6 o m (nI l) (nI f) (nI v) (nI (bc v t)) (nI t) (LLn M q (enC p s) v s f l t) = some (LLn M q (enC p s) v s f l s) := by
    intro b
    induction b with
    | zero =>
      intro t m g1 g2
      obtain ⟨m, rfl⟩ : ∃ j, m = j + 1 := ⟨m - 1, by omega⟩
      rw [f_X0_layLine_b6_s]
      unfold f_X0_layLine_b6B
      rw [(hG t).1, show t = s by omega, if_pos (Int32.le_refl _)]
    | succ b jh =>
      intro t m g1 g2
      obtain ⟨m, rfl⟩ : ∃ j, m = j + 1 := ⟨m - 1, by omega⟩
      have hjh := jh (t + 1) m (by omega) (by omega)
      have hb := bc_le v t
      have ke : nI f = nI t ↔ f = t := by rw [i_eq, t_nI (by omega), t_nI (by omega)]; omega
      rw [f_X0_layLine_b6_s]
      unfold f_X0_layLine_b6B f_X0_layLine_b60
      rw [(hG t).1, if_neg (by rw [i_le, t_nI (by omega), t_nI (by omega)]; omega)]
      simp only [tb0 v (by omega) t (by omega), s_goingG hr h6 (hG t) hf, ck_k (show l < 6 by omega) (show 6 < 1000 by omega), ck_k (show f < 6 by omega) (show 6 < 1000 by omega), ck_k (show t < 6 by omega) (show 6 < 1000 by omega), ck_k (show bc v t < 6 by omega) (show 6 < 1000 by omega), nI_cl (show l < 2 ^ 31 by omega), nI_cl (show f < 2 ^ 31 by omega), nI_cl (show t < 2 ^ 31 by omega), nI_cl (show bc v t < 2 ^ 31 by omega), hr, hq, (hG t).2 f hf t (by omega), ke, nm_q, bd_s, nI_1]
      by_cases z : v.testBit t = false
      · rw [if_pos z]
        rw [LLn_n M q _ z, bc_s, if_neg (by rw [z]; decide), Nat.add_zero] at hjh
        exact hjh
      · have z' : v.testBit t = true := by simpa using z
        rw [if_neg z]
        rw [← LLn_s M q _ (by omega) z', bc_s, if_pos z'] at hjh
        by_cases e : f = t
        · rw [if_pos e]
          rw [show enC p s f t = goS p s f s by unfold enC; rw [if_pos e]] at hjh
          exact hjh
        · rw [if_neg e]
          rw [show enC p s f t = Int32.toInt64 (-(p (f * s + t))) by unfold enC; rw [if_neg e]] at hjh
          exact hjh
  have := lp s 0 fuel (by omega) (by show s < 1000; omega)
  rw [LLn_0] at this
  exact this
/-- lines laid up to f -/
def WLn (M : Mm) (q : Nat) (E : Nat → Nat → Int64) (v s f : Nat) : Mm := (M.1, fun a c => if q ≤ a ∧ a < q + bc v f ∧ c < bc v s then suB E v s (a - q) c else M.2 a c)
theorem mJ_WLn (M : Mm) (q : Nat) (E : Nat → Nat → Int64) (v s f a c : Nat) : mJ (WLn M q E v s f) a c = if q ≤ a ∧ a < q + bc v f ∧ c < bc v s then suB E v s (a - q) c else mJ M a c := rfl
theorem WLn_0 (M : Mm) (q : Nat) (E : Nat → Nat → Int64) (v s : Nat) : WLn M q E v s 0 = M := by
  unfold WLn
  refine Prod.ext rfl ?_
  funext a c
  show (if q ≤ a ∧ a < q + 0 ∧ c < bc v s then _ else M.2 a c) = M.2 a c
  rw [if_neg (by omega)]
theorem WLn_n (M : Mm) (q : Nat) (E : Nat → Nat → Int64) {v s f : Nat} (h : v.testBit f = false) : WLn M q E v s (f + 1) = WLn M q E v s f := by
  unfold WLn
  rw [bc_s, h]
  simp
theorem WLn_s (M : Mm) (q : Nat) (E : Nat → Nat → Int64) {v s f : Nat} (hf : f < s) (h : v.testBit f = true) : LLn (WLn M q E v s f) q E v s f (bc v f) s = WLn M q E v s (f + 1) := by
  unfold LLn WLn
  refine Prod.ext rfl ?_
  funext a c
  show (if a = q + bc v f ∧ c < bc v s then E f (ixn v s c) else if q ≤ a ∧ a < q + bc v f ∧ c < bc v s then suB E v s (a - q) c else M.2 a c) = if q ≤ a ∧ a < q + bc v (f + 1) ∧ c < bc v s then suB E v s (a - q) c else M.2 a c
  rw [bc_s, if_pos h]
  by_cases h1 : a = q + bc v f ∧ c < bc v s
  · rw [if_pos h1, if_pos (by omega), h1.1, Nat.add_sub_cancel_left]
    unfold suB
    rw [ix_bc s f hf h]
  · rw [if_neg h1]
    by_cases h2 : q ≤ a ∧ a < q + bc v f ∧ c < bc v s
    · rw [if_pos h2, if_pos (by omega)]
    · rw [if_neg h2, if_neg (by omega)]
/-- only a square differs -/
def Fw (so q : Nat) (M M1 : Mm) : Prop := (∀ a k, ¬ (a = so ∧ k = 1) → mI M1 a k = mI M a k) ∧ ∀ a c, ¬ (q ≤ a ∧ a < q + 6) → mJ M1 a c = mJ M a c
theorem Fw.rf (so q : Nat) (M : Mm) : Fw so q M M := ⟨fun _ _ _ => rfl, fun _ _ _ => rfl⟩
theorem Fw.tr {so q : Nat} {M M1 M2 : Mm} (h : Fw so q M M1) (g : Fw so q M1 M2) : Fw so q M M2 := ⟨fun a k p => (g.1 a k p).trans (h.1 a k p), fun a k p => (g.2 a k p).trans (h.2 a k p)⟩
theorem Fw.sc {so q : Nat} {M M1 : Mm} (h : Fw so q M M1) (h1 : 37 ≤ so ∧ so ≤ 39) (h2 : 40 ≤ q) (h3 : q ≤ 60) : Sc M M1 := by
  refine ⟨fun a k p => h.1 a k (by unfold pX pR at p; omega), fun k => h.2 7 k (by omega), fun k _ => h.2 1 k (by omega)⟩
theorem s_weightOf {o ro so q : Nat} {M : Mm} {p : Nat → Int32} {s i v : Nat} (hr : ∀ i, elm (fld o 0) i = ro + i) (hso : fld o 2 = so) (hq : ∀ i, elm (fld so 0) i = q + i) (hne : so ≠ o) (hlt : so < ro) (h6 : s ≤ 6) (h : ChG o ro M p s) (hi : i < s) (hv : v < 2 ^ s) : ∃ M', f_X0_weightOf o (nI i) (nI v) M = some (if v.testBit i = true then detB (suB (enC p s) (rmv v i) s) (bc (rmv v i) s) else 0, M') ∧ Fw so q M M' := by
  have h64 := p2_le h6
  have hw : rmv v i < 2 ^ s := Nat.lt_of_le_of_lt (rmv_le v i) hv
  unfold f_X0_weightOf
  simp only [tb0 v (by omega) i (by omega), s_rmv v (by omega) i (by omega), s_bc6 (rmv v i) (by omega), bc_6 h6 hw, hso, nm_q, bd_s]
  by_cases z : v.testBit i = false
  · rw [if_pos z, if_neg (by rw [z]; decide)]
    exact ⟨M, rfl, Fw.rf so q M⟩
  · rw [if_neg z, if_pos (by simpa using z)]
    generalize rmv v i = u at *
    have hG0 : ChG o ro (sI M so 1 (nI (bc u s))) p s := by
      refine ⟨by rw [mI_sI, if_neg (by omega)]; exact h.1, fun x hx y hy => ?_⟩
      rw [mI_sI, if_neg (by omega)]
      exact h.2 x hx y hy
    have hG : ∀ f, ChG o ro (WLn (sI M so 1 (nI (bc u s))) q (enC p s) u s f) p s := fun f => ChG_J hG0 rfl
    have lp : ∀ (b f m : Nat), f + b = s → b < m → ∃ M', f_X0_weightOf_b35 o m (nI u) (nI (bc u f)) (nI f) (WLn (sI M so 1 (nI (bc u s))) q (enC p s) u s f) = some (detB (suB (enC p s) u s) (bc u s), M') ∧ Fw so q M M' := by
      intro b
      induction b with
      | zero =>
        intro f m g1 g2
        obtain ⟨m, rfl⟩ : ∃ j, m = j + 1 := ⟨m - 1, by omega⟩
        have e : f = s := by omega
        subst e
        have hb := bc_le u f
        have hdet := s_det (o := so) (q := q) hq (n := bc u f) (by omega) (M := WLn (sI M so 1 (nI (bc u f))) q (enC p f) u f f) (A := suB (enC p f) u f) (by show (if so = so ∧ 1 = 1 then nI (bc u f) else mI M so 1) = _; rw [if_pos ⟨rfl, rfl⟩]) (fun a c ha hc => by rw [mJ_WLn, if_pos (by omega), Nat.add_sub_cancel_left])
        obtain ⟨M', e1, e2⟩ := hdet
        refine ⟨M', ?_, fun a k z => ?_, fun a c z => ?_⟩
        · rw [f_X0_weightOf_b35_s]
          unfold f_X0_weightOf_b35B
          rw [(hG f).1, if_pos (Int32.le_refl _), hso, e1, bd_s]
        · show M'.1 a k = _
          rw [e2.1]
          show (if a = so ∧ k = 1 then _ else mI M a k) = _
          rw [if_neg z]
        · rw [e2.2 a c z, mJ_WLn, if_neg (by omega)]
          rfl
      | succ b ih =>
        intro f m g1 g2
        obtain ⟨m, rfl⟩ : ∃ j, m = j + 1 := ⟨m - 1, by omega⟩
        have hih := ih (f + 1) m (by omega) (by omega)
        have hb := bc_le u f
        rw [f_X0_weightOf_b35_s]
        unfold f_X0_weightOf_b35B
        rw [(hG f).1, if_neg (by rw [i_le, t_nI (by omega), t_nI (by omega)]; omega)]
        simp only [tb0 u (by omega) f (by omega), s_layLine (so := so) hr (by rw [hso]; exact hq) h6 (hG f) (show f < s by omega) (show bc u f < 6 by omega) hw, nm_q, bd_s, nI_1]
        by_cases z : u.testBit f = false
        · rw [if_pos z]
          rw [WLn_n _ q _ z, bc_s, if_neg (by rw [z]; decide), Nat.add_zero] at hih
          exact hih
        · have z' : u.testBit f = true := by simpa using z
          rw [if_neg z]
          rw [← WLn_s _ q _ (by omega) z', bc_s, if_pos z'] at hih
          exact hih
    have := lp s 0 fuel (by omega) (by show s < 1000; omega)
    rw [WLn_0] at this
    exact this

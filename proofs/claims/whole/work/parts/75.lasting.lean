/-! lasting -/
def wtS (p : Nat → Int32) (s v : Nat) : Nat → Int64
  | 0 => 0
  | k + 1 => wtS p s v k + wtB p s v k
theorem ff_ex {R : Nat → Nat} {s : Nat} : ∀ k, pn R s k ≠ 0 → ∃ i, i < k ∧ poB R s i 0 = true ∧ ff R s k = R i
  | 0, hx => absurd rfl hx
  | k + 1, hx => by
    unfold ff
    by_cases hz : pn R s k = 0
    · rw [if_pos hz]
      unfold pn at hx
      by_cases hp : poB R s k 0 = true
      · rw [if_pos hp]; exact ⟨k, by omega, hp, rfl⟩
      · rw [if_neg hp] at hx; exact absurd hz hx
    · rw [if_neg hz]
      obtain ⟨i, hi, hp, he⟩ := ff_ex k hz
      exact ⟨i, by omega, hp, he⟩
theorem part_sc {p : Nat → Int32} {s v : Nat} (hv : v = ff (RR p s) s s) (hp : pn (RR p s) s s ≠ 0) : v < 2 ^ s ∧ (∃ k, k < s ∧ v.testBit k = true) ∧ ∀ x, x < s → v.testBit x = true → RR p s x = v := by
  obtain ⟨k, hk, po, he⟩ := ff_ex s hp
  rw [he] at hv
  subst hv
  exact ⟨RR_lt hk, ⟨k, hk, RR_self⟩, fun x hx hb => (po_iff.mp po x hx (by omega) hb).2⟩
theorem wt_pos {p : Nat → Int32} {s v i : Nat} (hok : okR p s) (h6 : s ≤ 6) (hv : v < 2 ^ s) (hsc : ∀ x, x < s → v.testBit x = true → RR p s x = v) (hi : i < s) : 0 ≤ (wtB p s v i).toInt ∧ (wtB p s v i).toInt ≤ 93312000000 ∧ (v.testBit i = true → 0 < (wtB p s v i).toInt) := by
  by_cases hb : v.testBit i = true
  · have := w_pos hok h6 hi hv hb (fun x hx hxb => by rw [hsc x hx hxb]; exact hb)
    exact ⟨by omega, by omega, fun _ => by omega⟩
  · unfold wtB
    rw [if_neg hb]
    exact ⟨by decide, by decide, fun hc => absurd hc hb⟩
theorem wtS_I {p : Nat → Int32} {s v : Nat} (hok : okR p s) (h6 : s ≤ 6) (hv : v < 2 ^ s) (hsc : ∀ x, x < s → v.testBit x = true → RR p s x = v) : ∀ k, k ≤ s → 0 ≤ (wtS p s v k).toInt ∧ (wtS p s v k).toInt ≤ 93312000000 * k ∧ ∀ i, i < k → v.testBit i = true → 0 < (wtS p s v k).toInt
  | 0, _ => ⟨by show (0 : Int) ≤ (0 : Int64).toInt; decide, by show (0 : Int64).toInt ≤ 93312000000 * ((0 : Nat) : Int); decide, fun i hi => by omega⟩
  | k + 1, hk => by
    have r := wtS_I hok h6 hv hsc k (by omega)
    have w := wt_pos hok h6 hv hsc (show k < s by omega)
    have e : (wtS p s v (k + 1)).toInt = (wtS p s v k).toInt + (wtB p s v k).toInt := by
      show (wtS p s v k + wtB p s v k).toInt = _
      rw [l_add (by omega) (by omega)]
    rw [e]
    refine ⟨by omega, by omega, fun i hi hb => ?_⟩
    by_cases hik : i = k
    · subst hik; have := w.2.2 hb; omega
    · have := r.2.2 i (by omega) hb; omega
theorem fl32 (i : Nat) : elm (fld 32 0) i = 67 + i := by rw [fld_32_0, elm_34]
theorem fl38 (i : Nat) : elm (fld 38 0) i = 49 + i := by rw [fld_38_0, elm_41]
theorem ChG_32 {M M1 : Mm} {p : Nat → Int32} {s : Nat} (h : ChC M p s) (hF : Fw 38 49 M M1) : ChG 32 67 M1 p s := by
  refine ⟨by rw [hF.1 _ _ (by omega)]; exact h.1.1, fun i hi j hj => ?_⟩
  rw [hF.1 _ _ (by omega)]
  exact h.1.2 i hi j hj
theorem s_tellLasting {M : Mm} {p : Nat → Int32} {s i : Nat} (h6 : s ≤ 6) (h : ChC M p s) (hok : okR p s) (hi : i < s) (hp : pn (RR p s) s s ≠ 0) : ∃ M', f_X0_tellLasting 32 (nI i) 7 M = some (sJ (sJ M' 7 0 (frU (wtB p s (ff (RR p s) s s) i) (wtS p s (ff (RR p s) s s) s))) 7 1 (frL (wtB p s (ff (RR p s) s s) i) (wtS p s (ff (RR p s) s s) s))) ∧ Fw 38 49 M M' := by
  unfold f_X0_tellLasting
  rw [s_firstPart h6 h, bd_s]
  generalize hve : ff (RR p s) s s = v
  have hsc := part_sc hve.symm hp
  have h64 := p2_le h6
  have wS := wtS_I hok h6 hsc.1 hsc.2.2 s (by omega)
  have wi := wt_pos hok h6 hsc.1 hsc.2.2 hi
  have lp : ∀ (b j m : Nat) (Mj : Mm), j + b = s → b < m → Fw 38 49 M Mj → ∃ M', f_X0_tellLasting_b11 32 m (nI i) 7 (nI v) (wtS p s v j) (nI j) Mj = some (sJ (sJ M' 7 0 (frU (wtB p s v i) (wtS p s v s))) 7 1 (frL (wtB p s v i) (wtS p s v s))) ∧ Fw 38 49 M M' := by
    intro b
    induction b with
    | zero =>
      intro j m Mj g1 g2 hF
      obtain ⟨m, rfl⟩ : ∃ j, m = j + 1 := ⟨m - 1, by omega⟩
      have hG := ChG_32 h hF
      obtain ⟨M', e1, e2⟩ := s_weightOf fl32 fld_32_2 fl38 (by omega) (by omega) h6 hG hi hsc.1
      refine ⟨M', ?_, hF.tr e2⟩
      rw [f_X0_tellLasting_b11_s]
      unfold f_X0_tellLasting_b11B
      rw [hG.1, show j = s by omega, if_pos (Int32.le_refl _), e1, bd_s]
      show bd (f_X2_set 7 (wtB p s v i) (wtS p s v s) M') _ = _
      obtain ⟨k, hk, hkb⟩ := hsc.2.1
      have := wS.2.2 k hk hkb
      rw [s_set M' (by omega) (by omega) (by omega), bd_s]
    | succ b ih =>
      intro j m Mj g1 g2 hF
      obtain ⟨m, rfl⟩ : ∃ j, m = j + 1 := ⟨m - 1, by omega⟩
      have hG := ChG_32 h hF
      obtain ⟨M', e1, e2⟩ := s_weightOf fl32 fld_32_2 fl38 (by omega) (by omega) h6 hG (show j < s by omega) hsc.1
      have hih := ih (j + 1) m M' (by omega) (by omega) (hF.tr e2)
      rw [f_X0_tellLasting_b11_s]
      unfold f_X0_tellLasting_b11B
      rw [hG.1, if_neg (by rw [i_le, t_nI (by omega), t_nI (by omega)]; omega), e1, bd_s]
      simp only [nm_q, bd_s, nI_1]
      exact hih
  exact lp s 0 fuel M (by omega) (by show s < 1000; omega) (Fw.rf 38 49 M)
/-- the reference's square of a chain -/
def SQn (M : Mm) (p : Nat → Int32) (s i j : Nat) : Mm := (M.1, fun a c => if a = 95 ∧ c < 36 ∧ c % 6 < s ∧ c / 6 < i then enC p s (c / 6) (c % 6) else if a = 95 ∧ c < 36 ∧ c / 6 = i ∧ c % 6 < j then Int32.toInt64 (-(if i = c % 6 then 0 else p (i * s + c % 6))) else M.2 a c)
theorem mJ_SQn (M : Mm) (p : Nat → Int32) (s i j a c : Nat) : mJ (SQn M p s i j) a c = if a = 95 ∧ c < 36 ∧ c % 6 < s ∧ c / 6 < i then enC p s (c / 6) (c % 6) else if a = 95 ∧ c < 36 ∧ c / 6 = i ∧ c % 6 < j then Int32.toInt64 (-(if i = c % 6 then 0 else p (i * s + c % 6))) else mJ M a c := rfl
theorem SQn_0 (M : Mm) (p : Nat → Int32) (s : Nat) : SQn M p s 0 0 = M := by
  unfold SQn
  refine Prod.ext rfl ?_
  funext a c
  show (if a = 95 ∧ c < 36 ∧ c % 6 < s ∧ c / 6 < 0 then _ else if a = 95 ∧ c < 36 ∧ c / 6 = 0 ∧ c % 6 < 0 then _ else M.2 a c) = M.2 a c
  rw [if_neg (by omega), if_neg (by omega)]
theorem SQn_s (M : Mm) (p : Nat → Int32) {s i j : Nat} (hi : i < 6) (hj : j < s) (hs : s ≤ 6) : sJ (SQn M p s i j) 95 (6 * i + j) (Int32.toInt64 (-(if i = j then 0 else p (i * s + j)))) = SQn M p s i (j + 1) := by
  unfold SQn sJ
  refine Prod.ext rfl ?_
  funext a c
  have e := d6 (i := i) (show j < 6 by omega)
  show (if a = 95 ∧ c = 6 * i + j then Int32.toInt64 (-(if i = j then 0 else p (i * s + j))) else if a = 95 ∧ c < 36 ∧ c % 6 < s ∧ c / 6 < i then enC p s (c / 6) (c % 6) else if a = 95 ∧ c < 36 ∧ c / 6 = i ∧ c % 6 < j then Int32.toInt64 (-(if i = c % 6 then 0 else p (i * s + c % 6))) else M.2 a c) = if a = 95 ∧ c < 36 ∧ c % 6 < s ∧ c / 6 < i then enC p s (c / 6) (c % 6) else if a = 95 ∧ c < 36 ∧ c / 6 = i ∧ c % 6 < j + 1 then Int32.toInt64 (-(if i = c % 6 then 0 else p (i * s + c % 6))) else M.2 a c
  by_cases h1 : a = 95 ∧ c = 6 * i + j
  · rw [if_pos h1, if_neg (show ¬ (a = 95 ∧ c < 36 ∧ c % 6 < s ∧ c / 6 < i) by omega), if_pos (show a = 95 ∧ c < 36 ∧ c / 6 = i ∧ c % 6 < j + 1 by omega), h1.2, e.2]
  · rw [if_neg h1]
    by_cases h2 : a = 95 ∧ c < 36 ∧ c % 6 < s ∧ c / 6 < i
    · rw [if_pos h2, if_pos h2]
    · rw [if_neg h2, if_neg h2]
      by_cases h3 : a = 95 ∧ c < 36 ∧ c / 6 = i ∧ c % 6 < j
      · rw [if_pos h3, if_pos (show a = 95 ∧ c < 36 ∧ c / 6 = i ∧ c % 6 < j + 1 by omega)]
      · rw [if_neg h3, if_neg (show ¬ (a = 95 ∧ c < 36 ∧ c / 6 = i ∧ c % 6 < j + 1) by omega)]
theorem SQn_n (M : Mm) (p : Nat → Int32) {s i : Nat} (hi : i < s) (hs : s ≤ 6) : sJ (SQn M p s i s) 95 (6 * i + i) (goS p s i s) = SQn M p s (i + 1) 0 := by
  unfold SQn sJ
  refine Prod.ext rfl ?_
  funext a c
  have e := d6 (i := i) (show i < 6 by omega)
  show (if a = 95 ∧ c = 6 * i + i then goS p s i s else if a = 95 ∧ c < 36 ∧ c % 6 < s ∧ c / 6 < i then enC p s (c / 6) (c % 6) else if a = 95 ∧ c < 36 ∧ c / 6 = i ∧ c % 6 < s then Int32.toInt64 (-(if i = c % 6 then 0 else p (i * s + c % 6))) else M.2 a c) = if a = 95 ∧ c < 36 ∧ c % 6 < s ∧ c / 6 < i + 1 then enC p s (c / 6) (c % 6) else if a = 95 ∧ c < 36 ∧ c / 6 = i + 1 ∧ c % 6 < 0 then _ else M.2 a c
  by_cases h1 : a = 95 ∧ c = 6 * i + i
  · rw [if_pos h1, if_pos (by omega), h1.2, e.1, e.2]
    unfold enC
    rw [if_pos rfl]
  · rw [if_neg h1]
    by_cases h2 : a = 95 ∧ c < 36 ∧ c % 6 < s ∧ c / 6 < i
    · rw [if_pos h2, if_pos (by omega)]
    · rw [if_neg h2]
      by_cases h3 : a = 95 ∧ c < 36 ∧ c / 6 = i ∧ c % 6 < s
      · have hne : i ≠ c % 6 := by omega
        rw [if_pos h3, if_pos (show a = 95 ∧ c < 36 ∧ c % 6 < s ∧ c / 6 < i + 1 by omega), if_neg hne, h3.2.2.1]
        unfold enC
        rw [if_neg hne]
      · rw [if_neg h3, if_neg (show ¬ (a = 95 ∧ c < 36 ∧ c % 6 < s ∧ c / 6 < i + 1) by omega), if_neg (show ¬ (a = 95 ∧ c < 36 ∧ c / 6 = i + 1 ∧ c % 6 < 0) by omega)]
theorem s_lastR {M : Mm} {sz : Nf} {pl : Nat → Nat → Int32} {r s i v : Nat} (n : RowR sz pl M) (w : wfR sz) (hr : r < 6) (hs : sz r ≠ 41) (h6 : s ≤ 6) (e : sz r = s * s) (hi : i < s) (hv : v < 2 ^ s) (hf : mI M 1 23 = nI v) (hb : v.testBit i = true) (hwS : (wtS (pl r) s v s).toInt ≠ 0 ∧ (wtS (pl r) s v s).toInt ≠ -9223372036854775808) (hwi : (wtB (pl r) s v i).toInt ≠ -9223372036854775808) : ∃ M', f_X9_lasting_b79 1 fuel (nI r) (nI i) (nI s) 0 M = some (1, sJ (sJ M' 1 3 (frU (wtB (pl r) s v i) (wtS (pl r) s v s))) 1 4 (frL (wtB (pl r) s v i) (wtS (pl r) s v s))) ∧ Sc M M' := by
  have h64 := p2_le h6
  have nS : ∀ a b, RowR sz pl (SQn M (pl r) s a b) := fun a b => n.sc (fun _ _ _ => rfl)
  have ScS : Sc M (SQn M (pl r) s s 0) := ⟨fun _ _ _ => rfl, fun k => by rw [mJ_SQn, if_neg (by omega), if_neg (by omega)], fun k _ => by rw [mJ_SQn, if_neg (by omega), if_neg (by omega)]⟩
  have wo : ∀ (Mj : Mm) (j : Nat), Fr (SQn M (pl r) s s 0) Mj → j < s → v.testBit j = true → ∃ M', f_X9_worth 1 (nI (rmv v j)) (nI s) Mj = some (wtB (pl r) s v j, M') ∧ Fr (SQn M (pl r) s s 0) M' := by
    intro Mj j hF hj hjb
    obtain ⟨M', e1, e2⟩ := s_worth (M := Mj) (E := enC (pl r) s) h6 (Nat.lt_of_le_of_lt (rmv_le v j) hv) (fun x y hx hy => by
      have q := d6 (i := x) (show y < 6 by omega)
      rw [hF.2 95 _ (by omega), mJ_SQn, q.1, q.2, if_pos (by omega)])
    refine ⟨M', ?_, hF.tr e2⟩
    rw [e1]
    unfold wtB
    rw [if_pos hjb]
  have l2 : ∀ (b j m : Nat) (Mj : Mm), j + b = s → b < m → Fr (SQn M (pl r) s s 0) Mj → ∃ M', f_X9_lasting_b171 1 m (nI i) (nI s) (wtS (pl r) s v j) (nI j) Mj = some (1, sJ (sJ M' 1 3 (frU (wtB (pl r) s v i) (wtS (pl r) s v s))) 1 4 (frL (wtB (pl r) s v i) (wtS (pl r) s v s))) ∧ Sc M M' := by
    intro b
    induction b with
    | zero =>
      intro j m Mj g1 g2 hF
      obtain ⟨m, rfl⟩ : ∃ j, m = j + 1 := ⟨m - 1, by omega⟩
      have hfj : mI Mj 1 23 = nI v := by rw [hF.1 _ _ (by omega)]; exact hf
      obtain ⟨M', e1, e2⟩ := wo Mj i hF hi hb
      refine ⟨M', ?_, ScS.tr e2.sc⟩
      rw [f_X9_lasting_b171_s]
      unfold f_X9_lasting_b171B
      rw [show j = s by omega, if_pos (Int32.le_refl _), hfj, s_rmv v (by omega) i (by omega), e1, bd_s]
      simp only []
      rw [s_share M' hwi hwS.2 hwS.1, bd_s]
    | succ b ih =>
      intro j m Mj g1 g2 hF
      obtain ⟨m, rfl⟩ : ∃ j, m = j + 1 := ⟨m - 1, by omega⟩
      have hfj : mI Mj 1 23 = nI v := by rw [hF.1 _ _ (by omega)]; exact hf
      rw [f_X9_lasting_b171_s]
      unfold f_X9_lasting_b171B f_X9_lasting_b212
      rw [if_neg (by rw [i_le, t_nI (by omega), t_nI (by omega)]; omega), hfj]
      simp only [tb1 v (by omega) j (by omega), s_rmv v (by omega) j (by omega)]
      by_cases hjb : v.testBit j = true
      · obtain ⟨M', e1, e2⟩ := wo Mj j hF (by omega) hjb
        have hih := ih (j + 1) m M' (by omega) (by omega) e2
        rw [if_pos hjb, e1]
        simp only [nm_q, bd_s, nI_1]
        exact hih
      · have hih := ih (j + 1) m Mj (by omega) (by omega) hF
        rw [show wtS (pl r) s v (j + 1) = wtS (pl r) s v j + wtB (pl r) s v j from rfl, show wtB (pl r) s v j = 0 by unfold wtB; rw [if_neg hjb]] at hih
        rw [if_neg hjb]
        simp only [nm_q, bd_s, nI_1]
        exact hih
  have l1 : ∀ (b a m : Nat), a + b = s → b < m → ∃ M', f_X9_lasting_b79 1 m (nI r) (nI i) (nI s) (nI a) (SQn M (pl r) s a 0) = some (1, sJ (sJ M' 1 3 (frU (wtB (pl r) s v i) (wtS (pl r) s v s))) 1 4 (frL (wtB (pl r) s v i) (wtS (pl r) s v s))) ∧ Sc M M' := by
    intro b
    induction b with
    | zero =>
      intro a m g1 g2
      obtain ⟨m, rfl⟩ : ∃ j, m = j + 1 := ⟨m - 1, by omega⟩
      rw [f_X9_lasting_b79_s]
      unfold f_X9_lasting_b79B
      rw [show a = s by omega, if_pos (Int32.le_refl _)]
      exact l2 s 0 fuel _ (by omega) (by show s < 1000; omega) (Fr.rf _)
    | succ b ih =>
      intro a m g1 g2
      obtain ⟨m, rfl⟩ : ∃ j, m = j + 1 := ⟨m - 1, by omega⟩
      have hih := ih (a + 1) m (by omega) (by omega)
      rw [f_X9_lasting_b79_s]
      unfold f_X9_lasting_b79B
      rw [if_neg (by rw [i_le, t_nI (by omega), t_nI (by omega)]; omega)]
      have inner : ∀ (c j m2 : Nat), j + c = s → c < m2 → ∃ M', f_X9_lasting_b91 (f_X9_lasting_b79 1 m) 1 m2 (nI r) (nI i) (nI s) (nI a) (goS (pl r) s a j) (nI j) (SQn M (pl r) s a j) = some (1, sJ (sJ M' 1 3 (frU (wtB (pl r) s v i) (wtS (pl r) s v s))) 1 4 (frL (wtB (pl r) s v i) (wtS (pl r) s v s))) ∧ Sc M M' := by
        intro c
        induction c with
        | zero =>
          intro j m2 k1 k2
          obtain ⟨m2, rfl⟩ : ∃ j, m2 = j + 1 := ⟨m2 - 1, by omega⟩
          rw [f_X9_lasting_b91_s]
          unfold f_X9_lasting_b91B
          rw [show j = s by omega, if_pos (Int32.le_refl _)]
          simp only [ix6, ck_k (show 6 * a + a < 36 by omega) (show 36 < 1000 by omega), nI_cl (show 6 * a + a < 2 ^ 31 by omega), fld_1_15, SQn_n M (pl r) (show a < s by omega) h6, nm_q, bd_s, nI_1]
          exact hih
        | succ c jh =>
          intro j m2 k1 k2
          obtain ⟨m2, rfl⟩ : ∃ j, m2 = j + 1 := ⟨m2 - 1, by omega⟩
          have hjh := jh (j + 1) m2 (by omega) (by omega)
          rw [f_X9_lasting_b91_s]
          unfold f_X9_lasting_b91B
          rw [if_neg (by rw [i_le, t_nI (by omega), t_nI (by omega)]; omega)]
          simp only [s_rateOf (nS a j) w hr hs e (show a < s by omega) (show j < s by omega), s_rateOf (nS a (j + 1)) w hr hs e (show a < s by omega) (show j < s by omega), ix6, ck_k (show 6 * a + j < 36 by omega) (show 36 < 1000 by omega), nI_cl (show 6 * a + j < 2 ^ 31 by omega), fld_1_15, SQn_s M (pl r) (show a < 6 by omega) (show j < s by omega) h6, nm_q, bd_s, nI_1]
          rw [show goS (pl r) s a (j + 1) = if j = a then goS (pl r) s a j else goS (pl r) s a j + Int32.toInt64 (pl r (a * s + j)) from rfl] at hjh
          by_cases haj : a = j
          · rw [if_pos haj, show Int32.toInt64 0 = 0 from rfl, Int64.add_zero]
            rw [if_pos haj.symm] at hjh
            exact hjh
          · rw [if_neg haj]
            rw [if_neg (Ne.symm haj)] at hjh
            exact hjh
      exact inner s 0 fuel (by omega) (by show s < 1000; omega)
  have := l1 s 0 fuel (by omega) (by show s < 1000; omega)
  rw [SQn_0] at this
  exact this
theorem al_lasting (x y : Int32) : Alike (f_X8_lasting 0 x y) (f_X9_lasting 1 x y) := by
  intro M h
  rcases ch_split h x with ⟨e1, e2⟩ | ⟨f, hf, e1, e2⟩ | ⟨r, sz, pl, hr, rfl, w, r1, r2, er, z0, e1, e2⟩
  · refine ⟨-1, M, M, ?_, ?_, h⟩
    · unfold f_X8_lasting
      simp only [e1, nm_q, bd_s, show ¬ ((-1 : Int32) = 0) by decide, if_false]
    · unfold f_X9_lasting
      simp only [e2, nm_q, bd_s, show ¬ ((0 : Int32) ≤ -1) by decide, if_false]
  · refine ⟨-3, RF M f, RM (RF M f) f, ?_, ?_, inv_ref h (by omega) (by omega) (Sc.rf _) (Sc.rf _)⟩
    · unfold f_X8_lasting
      simp only [e1, nm_q, bd_s, show ¬ ((-3 : Int32) = 0) by decide, if_false]
    · unfold f_X9_lasting
      simp only [e2, nm_q, bd_s, show ¬ ((0 : Int32) ≤ -3) by decide, if_false]
  · have hsd := sd_le (sz r)
    have p0 : 0 ≤ nI (sdN (sz r)) := by rw [i_le, li_0, t_nI (by omega)]; omega
    have n1 : nI (sdN (sz r)) - 1 = nI (sdN (sz r) - 1) := by rw [show (1 : Int32) = nI 1 from rfl, pk_sub (by omega)]
    by_cases q : okT (pl r) (sdN (sz r)) 0
    · simp only [if_pos q] at e1 e2
      obtain ⟨M1, l1, l2, l3, l4⟩ := s_load r1 w hr er z0
      have r2' : RowR sz pl M1 := r2.sc (fun a k q => l3.1 a k (Or.inr q))
      have e3 := e2 _ r2'
      generalize hsE : sdN (sz r) = s at *
      have hs6 : s ≤ 6 := by omega
      have hok := okT_R hs6 q
      have hpn := pn_pos (p := pl r) (s := s) (by omega)
      have hpl := pn_le (R := RR (pl r) s) (s := s) s
      by_cases hy : 0 ≤ y.toInt ∧ y.toInt < s
      · obtain ⟨i, hi, rfl⟩ : ∃ i, i < s ∧ y = nI i := x_of (in_iff.mpr hy) (by omega)
        have ti : (nI i).toInt = (i : Int) := t_nI (by omega)
        have k1 : nI (pn (RR (pl r) s) s s) = 1 ↔ pn (RR (pl r) s) s s = 1 := by rw [show (1 : Int32) = nI 1 from rfl, n_inj (by omega) (by omega)]
        have k2 : nI (pn (RR (pl r) s) s s) ≤ 1 ↔ pn (RR (pl r) s) s s ≤ 1 := by rw [i_le, t_nI (by omega), li_1]; omega
        have xk : ¬ nI i < 0 := by rw [i_lt, ti, li_0]; omega
        have xs : nI i < nI s := by rw [i_lt, ti, t_nI (by omega)]; omega
        have hin : (0 : Int32).toInt ≤ (nI i).toInt ∧ (nI i).toInt ≤ (nI (s - 1)).toInt := by rw [li_0, ti, t_nI (by omega)]; omega
        by_cases hp1 : pn (RR (pl r) s) s s = 1
        · obtain ⟨M2, t1, t2⟩ := s_tellLasting hs6 l2 hok hi (by omega)
          have hsc := part_sc (p := pl r) (s := s) rfl (by omega)
          have wS := wtS_I hok hs6 hsc.1 hsc.2.2 s (by omega)
          have wi := wt_pos hok hs6 hsc.1 hsc.2.2 hi
          obtain ⟨k, hk, hkb⟩ := hsc.2.1
          have wSp := wS.2.2 k hk hkb
          have sc2 : Sc M M2 := l3.tr (t2.sc (by omega) (by omega) (by omega))
          have fX : f_X8_lasting 0 (nI r) (nI i) M = some (1, sJ (sJ M2 7 0 (frU (wtB (pl r) s (ff (RR (pl r) s) s s) i) (wtS (pl r) s (ff (RR (pl r) s) s s) s))) 7 1 (frL (wtB (pl r) s (ff (RR (pl r) s) s s) i) (wtS (pl r) s (ff (RR (pl r) s) s s) s))) := by
            unfold f_X8_lasting
            simp only [e1, nm_q, bd_s, if_true, fld_0_0, fld_0_3, fld_0_5, elm_2, nI_cl (show r < 2 ^ 31 by omega), ck_k hr (show 6 < 1000 by omega), l1, l2.1.1, xk, xs, if_false, s_partsThere hs6 l2, k1, hp1, t1]
            rw [if_pos (show nI 1 = 1 from rfl)]
          generalize hv : ff (RR (pl r) s) s s = v at *
          have h64 := p2_le hs6
          have r3 : RowR sz pl (sJ (sJ M2 7 0 (frU (wtB (pl r) s v i) (wtS (pl r) s v s))) 7 1 (frL (wtB (pl r) s v i) (wtS (pl r) s v s))) := r2.sc (fun a k q => sc2.1 a k (Or.inr q))
          have e4 := e2 _ r3
          have pp := s_partsOf r3 w hr er hs6 (show sz r = s * s by omega)
          rw [hv] at pp
          by_cases hb : v.testBit i = true
          · obtain ⟨M4, u1, u2⟩ := s_lastR (rr_23 r3) w hr er hs6 (show sz r = s * s by omega) hi hsc.1 (by rw [mI_sI, if_pos ⟨rfl, rfl⟩]) hb (by omega) (by omega)
            refine ⟨1, _, _, fX, ?_, inv_frac h sc2 (((Sc.rf _).i (by unfold pX pR; omega)).tr u2)⟩
            unfold f_X9_lasting
            simp only [e4.1, e4.2, nm_q, bd_s, p0, if_true, show ¬ ((1 : Int32) = 0) by decide, if_false, n1, s_in, if_pos hin, pp, k2, hp1, show (1 : Nat) ≤ 1 by decide, mI_sI _ 1 23 1 23, and_self, tb0 v (show v < 64 by omega) i (show i < 6 by omega), hb, show ¬ (true = false) by decide]
            exact u1
          · have wz : wtB (pl r) s v i = 0 := by unfold wtB; rw [if_neg hb]
            have fe := fr_eq (u := 0) (l := wtS (pl r) s v s) (u2 := 0) (l2 := 1) (by decide) (by omega) (by decide) (by decide) (by omega) (by decide) (by simp)
            have hb' : v.testBit i = false := by simpa using hb
            rw [wz, fe.1, fe.2] at fX r3 e4 pp
            refine ⟨1, _, _, fX, ?_, inv_frac (U := frU 0 1) (L := frL 0 1) (Mb := sI (sJ (sJ M2 7 0 (frU 0 1)) 7 1 (frL 0 1)) 1 23 (nI v)) h sc2 (Sc.i (Sc.rf (sJ (sJ M2 7 0 (frU 0 1)) 7 1 (frL 0 1))) (by unfold pX pR; omega))⟩
            unfold f_X9_lasting
            simp only [e4.1, e4.2, nm_q, bd_s, p0, if_true, show ¬ ((1 : Int32) = 0) by decide, if_false, n1, s_in, if_pos hin, pp, k2, hp1, show (1 : Nat) ≤ 1 by decide, mI_sI _ 1 23 1 23, and_self, tb0 v (show v < 64 by omega) i (show i < 6 by omega), hb', s_share (u := 0) (l := 1) _ (by decide) (by decide) (by decide)]
            rw [if_pos (show nI 1 ≤ 1 by decide)]
        · have pp := s_partsOf r2' w hr er hs6 (show sz r = s * s by omega)
          refine ⟨-4, M1, sI M1 1 23 (nI (ff (RR (pl r) s) s s)), ?_, ?_, h.sc (l3.i (by unfold pX pR; omega))⟩
          · unfold f_X8_lasting
            simp only [e1, nm_q, bd_s, if_true, fld_0_0, fld_0_3, fld_0_5, elm_2, nI_cl (show r < 2 ^ 31 by omega), ck_k hr (show 6 < 1000 by omega), l1, l2.1.1, xk, xs, if_false, s_partsThere hs6 l2, k1, hp1]
          · unfold f_X9_lasting
            simp only [e3.1, e3.2, nm_q, bd_s, p0, if_true, show ¬ ((1 : Int32) = 0) by decide, if_false, n1, s_in, if_pos hin, pp, k2, show ¬ (pn (RR (pl r) s) s s ≤ 1) by omega]
      · have hin : ¬ ((0 : Int32).toInt ≤ y.toInt ∧ y.toInt ≤ (nI (s - 1)).toInt) := by rw [li_0, t_nI (by omega)]; omega
        have r2R := rr_RF (f := 2) r2'
        have e5 := e2 _ r2R
        refine ⟨-3, RF M1 2, RM (RF M1 2) 2, ?_, ?_, inv_ref h (by omega) (by omega) l3 (Sc.rf _)⟩
        · unfold f_X8_lasting f_X8_lasting_b40
          simp only [e1, nm_q, bd_s, if_true, fld_0_0, fld_0_3, elm_2, nI_cl (show r < 2 ^ 31 by omega), ck_k hr (show 6 < 1000 by omega), l1, l2.1.1, i_lt, li_0, t_nI (show s < 2 ^ 31 by omega), s_ref2]
          by_cases hy0 : y.toInt < 0
          · rw [if_pos hy0]
          · rw [if_neg hy0, if_neg (by omega)]
        · unfold f_X9_lasting
          simp only [e5.1, e5.2, nm_q, bd_s, p0, if_true, show ¬ ((1 : Int32) = 0) by decide, if_false, n1, s_in, if_neg hin, s_met2]
    · simp only [if_neg q] at e1 e2
      refine ⟨-3, RF M 3, RM (RF M 3) 3, ?_, ?_, inv_ref h (by omega) (by omega) (Sc.rf _) (Sc.rf _)⟩
      · unfold f_X8_lasting
        simp only [e1, nm_q, bd_s, show ¬ ((-3 : Int32) = 0) by decide, if_false]
      · unfold f_X9_lasting
        simp only [(e2 _ (rr_RF r2)).1, (e2 _ (rr_RF r2)).2, nm_q, bd_s, p0, if_true, s_met3]

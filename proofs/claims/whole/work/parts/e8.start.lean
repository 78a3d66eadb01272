/-! THE LAW, from its entry -/
theorem first_K {args : Array Value} {s : State} (hts : ∀ w ∈ lw_tbl, w.before args s = true) : ∃ (dC : Nat → ClassId) (dI : Nat → Nat → Nat) (cy : Nat → ClassId), va_K (dC, dI) vwCl (wn_tys cy) s ∧ wn_X s := by
  have hwn : ∀ w ∈ wn_all, w.before args s = true := fun w hw => hts w (wn_sub w hw)
  obtain ⟨c0, i0, hk0⟩ := u_known (C := RX0) (T := TX0) (N := 4) (n := 4) hwn wn_lay0 (hwn _ wm_156)
  obtain ⟨c1, i1, hk1⟩ := u_known (C := RX1) (T := TX1) (N := 6) (n := 6) hwn wn_lay1 (hwn _ wm_164)
  obtain ⟨c2, i2, hk2⟩ := u_known (C := RX2) (T := TX2) (N := 2) (n := 2) hwn wn_lay2 (hwn _ wm_161)
  obtain ⟨c3, i3, hk3⟩ := u_known (C := RX3) (T := TX3) (N := 3) (n := 3) hwn wn_lay3 (hwn _ wm_358)
  obtain ⟨c4, i4, hk4⟩ := u_known (C := RX4) (T := TX4) (N := 5) (n := 5) hwn wn_lay4 (hwn _ wm_350)
  obtain ⟨c5, i5, hk5⟩ := u_known (C := RX5) (T := TX5) (N := 7) (n := 7) hwn wn_lay5 (hwn _ wm_353)
  obtain ⟨c6, i6, hk6⟩ := u_known (C := RX6) (T := TX6) (N := 2) (n := 2) hwn wn_lay6 (hwn _ wm_366)
  obtain ⟨c7, i7, hk7⟩ := u_known (C := RX7) (T := TX7) (N := 2) (n := 2) hwn wn_lay7 (hwn _ wm_15)
  obtain ⟨c8, i8, hk8⟩ := u_known (C := RX8) (T := TX8) (N := 9) (n := 9) hwn wn_lay8 (hwn _ wm_851)
  obtain ⟨c9, i9, hk9⟩ := u_known (C := RX9) (T := TX9) (N := 26) (n := 26) hwn wn_lay9 (hwn _ wm_853)
  obtain ⟨y0, k0, m0, f0, g0, h0⟩ := Cond.arrayClass_spec (hwn _ wm_11)
  obtain ⟨y1, k1, m1, f1, g1, h1⟩ := Cond.arrayClass_spec (hwn _ wm_5)
  obtain ⟨y2, k2, m2, f2, g2, h2⟩ := Cond.arrayClass_spec (hwn _ wm_613)
  have o3 := hts (.arrayOver (.object "WaitingNets$Counter")) (wl_1 _ (List.mem_of_getElem? (i := 31) rfl))
  obtain ⟨m3, y3, k3, e3, _, g3, h3, f3⟩ := Cond.arrayOver_spec o3
  have o4 := hts (.arrayOver (.object "WaitingNets$Row")) (wl_1 _ (List.mem_of_getElem? (i := 23) rfl))
  obtain ⟨m4, y4, k4, e4, _, g4, h4, f4⟩ := Cond.arrayOver_spec o4
  have o5 := hts (.arrayOver (.array .int)) (wl_1 _ (List.mem_of_getElem? (i := 39) rfl))
  obtain ⟨m5, y5, k5, g5, h5, f5⟩ := va_AOA.spec (va_AOA.of o5)
  have o6 := hts (.arrayOver (.array .long)) (wl_1 _ (List.mem_of_getElem? (i := 47) rfl))
  obtain ⟨m6, y6, k6, g6, h6, f6⟩ := va_AOA.spec (va_AOA.of o6)
  refine ⟨fun k => [c0, c1, c2, c3, c4, c5, c6, c7, c8, c9].getD k c0, fun k => [i0, i1, i2, i3, i4, i5, i6, i7, i8, i9].getD k i0, fun k => [y0, y1, y2, y3, y4, y5, y6].getD k y0, ⟨fun k q hq => ?_, fun k q hq => ?_⟩, ?_⟩
  · match k, hq with
    | 0, hq => cases hq; exact hk0
    | 1, hq => cases hq; exact hk1
    | 2, hq => cases hq; exact hk2
    | 3, hq => cases hq; exact hk3
    | 4, hq => cases hq; exact hk4
    | 5, hq => cases hq; exact hk5
    | 6, hq => cases hq; exact hk6
    | 7, hq => cases hq; exact hk7
    | 8, hq => cases hq; exact hk8
    | 9, hq => cases hq; exact hk9
    | k + 10, hq => simp [vwCl] at hq
  · match k, hq with
    | 0, hq => cases hq; exact ⟨fun n z => ⟨fun k h => (by cases h), k0, g0, m0, h0⟩, f0⟩
    | 1, hq => cases hq; exact ⟨fun n z => ⟨fun k h => (by cases h), k1, g1, m1, h1⟩, f1⟩
    | 2, hq => cases hq; exact ⟨fun n z => ⟨fun k h => (by cases h), k2, g2, m2, h2⟩, f2⟩
    | 3, hq => cases hq; exact ⟨fun n z => ⟨fun k h => (by cases h), k3, g3, m3, h3⟩, ⟨k3, m3, g3, h3, e3, f3⟩⟩
    | 4, hq => cases hq; exact ⟨fun n z => ⟨fun k h => (by cases h), k4, g4, m4, h4⟩, ⟨k4, m4, g4, h4, e4, f4⟩⟩
    | 5, hq => cases hq; exact ⟨fun n z => ⟨fun k h => (by cases h), k5, g5, m5, h5⟩, f5⟩
    | 6, hq => cases hq; exact ⟨fun n z => ⟨fun k h => (by cases h), k6, g6, m6, h6⟩, f6⟩
    | k + 7, hq => simp [wn_tys] at hq
  · exact ⟨List.forall_mem_cons.mpr ⟨va_Nw.of rfl (hts (.methodLinkNest RX4 19 yX0_init "WaitingNets") (wl_1 _ (List.mem_of_getElem? (i := 34) rfl))), List.forall_mem_cons.mpr ⟨va_Nw.of rfl (hts (.methodLinkNest RX0 22 yX7_init "WaitingNets") (wl_1 _ (List.mem_of_getElem? (i := 42) rfl))), List.forall_mem_cons.mpr ⟨va_Nw.of rfl (hts (.methodLinkNest RX4 26 yX7_init "WaitingNets") (wl_1 _ (List.mem_of_getElem? (i := 78) rfl))), List.forall_mem_cons.mpr ⟨va_Nw.of rfl (hts (.methodLinkNest RX4 33 yX2_init "WaitingNets") (wl_1 _ (List.mem_of_getElem? (i := 81) rfl))), List.forall_mem_cons.mpr ⟨va_Nw.of rfl (hts (.methodLinkNest RX4 41 yX1_init "WaitingNets") (wl_1 _ (List.mem_of_getElem? (i := 97) rfl))), List.forall_mem_cons.mpr ⟨va_Nw.of rfl (hts (.methodLinkNest RX8 24 yX5_init "WaitingNets") (wl_1 _ (List.mem_of_getElem? (i := 158) rfl))), List.forall_mem_cons.mpr ⟨va_Nw.of rfl (hts (.methodLinkNest RX8 31 yX0_init "WaitingNets") (wl_1 _ (List.mem_of_getElem? (i := 187) rfl))), List.forall_mem_cons.mpr ⟨va_Nw.of rfl (hts (.methodLinkNest RX8 38 yX3_init "WaitingNets") (wl_1 _ (List.mem_of_getElem? (i := 190) rfl))), List.forall_mem_cons.mpr ⟨va_Nw.of rfl (hts (.methodLinkNest RX8 45 yX2_init "WaitingNets") (wl_1 _ (List.mem_of_getElem? (i := 205) rfl))), List.forall_mem_cons.mpr ⟨va_Nw.of rfl (hts (.methodLinkNest RX8 61 yX6_init "WaitingNets") (wl_1 _ (List.mem_of_getElem? (i := 207) rfl))), fun _ h => absurd h List.not_mem_nil⟩⟩⟩⟩⟩⟩⟩⟩⟩⟩, va_AO.of o3, va_AO.of o4, va_AOA.of o5, va_AOA.of o6⟩
set_option maxHeartbeats 4000000 in
set_option maxRecDepth 100000 in
theorem whole_start {p : Program} {e : Env} {s : State} {m : MethodId} {below : List Frame} {meth : Method} {c : Code} (l : Launch) {b L : Nat} {xs : Nat → Int32} (hL : L ≤ 3072) (C0 : lw_At p s m meth c b L xs) : W p l e room_1 s m #[Value.ref b] below meth c s.heap [] 0 0 (lw_Z below #[Value.ref b] s) (entryFrame m ([Value.ref b] : List Value).toArray 4) := by
  obtain ⟨hx, hb, hr, hml, hown, hts, hX, hbl, hlocks, hgv⟩ := id C0
  have hwn : ∀ w ∈ wn_all, w.before #[Value.ref b] s = true := fun w hw => hts w (wn_sub w hw)
  obtain ⟨dC, dI, cy, hK, hXs⟩ := first_K hts
  have hl := lv_entry ([.ref b]) (n := 4) (Nat.le_of_ble_eq_true rfl)
  rw [lg_entry_eq]
  generalize (lg_sl ([.ref b]) ++ List.replicate (4 - (lg_sl ([.ref b])).length) Slot.unset).toArray = ls at hl ⊢
  have hl : lv_has ls 4 [(0, .ref b)] := hl
  have Z : Zc cy (p, l, e, room_1, s, m, #[Value.ref b], below, meth, c, dC, dI, (fun q : Nat => s.heap.size ≤ q), lw_Z below #[Value.ref b] s) cL_law RL 4 (some .boolean) room_1 := ⟨hx, hb, hml, hown, hwn, hK, hXs, hr, hlocks, rfl, fun _ h => h⟩
  have G0 : Gc (p, l, e, room_1, s, m, #[Value.ref b], below, meth, c, dC, dI, (fun q : Nat => s.heap.size ≤ q), lw_Z below #[Value.ref b] s) [] 0 0 0 ls [] := by
    refine rc_new (ci := 8) (fs := [.null, .null, .null, .null, .null, .null, .null, .int 0, .int 0]) (N := 9) Z wn_lay8 tyX8_ok wm_850 wm_851 wm_377 rfl (fun j hj => by rcases (show j = 0 ∨ j = 1 ∨ j = 2 ∨ j = 3 ∨ j = 4 ∨ j = 5 ∨ j = 6 ∨ j = 7 ∨ j = 8 by omega) with rfl | rfl | rfl | rfl | rfl | rfl | rfl | rfl | rfl <;> rfl) (by decide) (by decide) dL_law_0 (fun q0 => ?_)
    refine rc_dup Z dL_law_3 rfl ?_
    refine rc_call Z (Wf := WX8) kX8 ciX8 wm_854 (by decide) (by decide) hl.1 (Nat.le_of_ble_eq_true rfl) dL_law_4 (fun u8 => ?_)
    refine rc_as (ws2 := WX8 cy q0 u8) (List.append_nil _) ?_
    refine rc_astore_n (lv2 := [(1, .ref q0), (0, .ref b)]) Z dL_law_7 rfl hl (by decide) rfl (fun ls hl => ?_)
    refine rc_new (ci := 9) (fs := [.int 0, .null, .int 0, .long 0, .long 0, .null, .null, .null, .null, .null, .null, .null, .null, .null, .null, .null, .null, .null, .long 0, .long 0, .null, .null, .int 0, .int 0, .null, .long 0]) (N := 26) Z wn_lay9 tyX9_ok wm_852 wm_853 wm_637 rfl (fun j hj => by rcases (show j = 0 ∨ j = 1 ∨ j = 2 ∨ j = 3 ∨ j = 4 ∨ j = 5 ∨ j = 6 ∨ j = 7 ∨ j = 8 ∨ j = 9 ∨ j = 10 ∨ j = 11 ∨ j = 12 ∨ j = 13 ∨ j = 14 ∨ j = 15 ∨ j = 16 ∨ j = 17 ∨ j = 18 ∨ j = 19 ∨ j = 20 ∨ j = 21 ∨ j = 22 ∨ j = 23 ∨ j = 24 ∨ j = 25 by omega) with rfl | rfl | rfl | rfl | rfl | rfl | rfl | rfl | rfl | rfl | rfl | rfl | rfl | rfl | rfl | rfl | rfl | rfl | rfl | rfl | rfl | rfl | rfl | rfl | rfl | rfl <;> rfl) (by decide) (by decide) dL_law_8 (fun q1 => ?_)
    refine rc_dup Z dL_law_11 rfl ?_
    refine rc_call Z (Wf := WX9) kX9 ciX9 wm_856 (by decide) (by decide) hl.1 (Nat.le_of_ble_eq_true rfl) dL_law_12 (fun u9 => ?_)
    refine rc_swap ?_
    refine rc_astore_n (lv2 := [(2, .ref q1), (1, .ref q0), (0, .ref b)]) Z dL_law_15 rfl hl (by decide) rfl (fun ls hl => ?_)
    refine rc_iconst (v := 0) Z dL_law_16 rfl ?_
    refine rc_istore_n (lv2 := [(3, .int 0), (2, .ref q1), (1, .ref q0), (0, .ref b)]) Z dL_law_17 rfl hl (by decide) rfl (fun ls hl => ?_)
    intro H locs hP hD hS
    obtain ⟨ad, e0, e1, hJ, hA, hP1⟩ := first_world hP hD
    subst e0
    subst e1
    exact law_run hL C0 hwn hK hJ hA (by decide) (by decide) inv_0 hP1 hS (lv_sub hl [3, 2, 1, 0] rfl)
  exact G0 s.heap [] P_nil ⟨fun i j p q h => by simp at h, fun k q h => by simp at h⟩ va_S.rf

/-! the constructors (2) -/
abbrev SX0 : Type := Nat × (Nat → Nat) × Nat × Nat × SX7
def WX0 (cy : Nat → ClassId) (h0 : Nat) (u : SX0) : va_W := ((u.2.2.1, .inl (cy 0, 6, .inl (fun _ => 0))) :: (h0, .inr (0, [.ref u.1, .ref u.2.2.1, .ref u.2.2.2.1, .int 0])) :: (((u.1, .inl (cy 5, 6, .inr (.inr (.inr (.inr (fun i => if i < 6 then some (u.2.1 i) else none)))))) :: [(u.2.1 0, .inl (cy 0, 6, .inl (fun _ => 0))), (u.2.1 1, .inl (cy 0, 6, .inl (fun _ => 0))), (u.2.1 2, .inl (cy 0, 6, .inl (fun _ => 0))), (u.2.1 3, .inl (cy 0, 6, .inl (fun _ => 0))), (u.2.1 4, .inl (cy 0, 6, .inl (fun _ => 0))), (u.2.1 5, .inl (cy 0, 6, .inl (fun _ => 0)))]) ++ WX7 cy u.2.2.2.1 u.2.2.2.2) : va_W)
abbrev rmX0 : Room := { frames := 2, cells := 16, slots := 92, locals := 32 }
theorem ciX0 : wn_cI yX0_init cX0_init 1 := ⟨wm_8, wm_40, wm_165, rfl, by decide +kernel⟩
set_option maxHeartbeats 4000000 in
set_option maxRecDepth 100000 in
theorem kX0 : KC yX0_init cX0_init 1 rmX0 0 [.null, .null, .null, .int 0] WX0 := by
  refine wn_enterC (own := RX0) (by decide) rfl rfl (by decide) (fun cy X h0 ls Z hN hQ hl => ?_)
  refine rc_aload_n Z dX0_init_0 rfl (lv_at hl 0 rfl) ?_
  refine rc_objInit Z wm_9 (by decide) (Nat.le_of_ble_eq_true rfl) hl.1 dX0_init_1 ?_
  refine rc_aload_n Z dX0_init_4 rfl (lv_at hl 0 rfl) ?_
  refine rc_bipush (v := 6) Z dX0_init_5 rfl ?_
  refine rc_bipush (v := 6) Z dX0_init_7 rfl ?_
  refine rc_mna (ty := .int) (t0 := 0) (t1 := 5) (N := 6) (K := 6) (z := (6, .inl (fun _ => 0))) Z wm_10 wm_11 (fun U h => h.2.2.2.1) (fun _ h => by cases h) rfl rfl (by decide) (by decide) rfl rfl (by decide) (by decide) (by decide) rfl rfl (fun c => arrV_new c 6 _) (by decide) (by decide) dX0_init_9 (fun q1 r2 => ?_)
  refine rc_as (ws2 := ((h0, .inr (0, [.null, .null, .null, .int 0])) :: ((q1, .inl (cy 5, 6, .inr (.inr (.inr (.inr (fun i => if i < 6 then some (r2 i) else none)))))) :: [(r2 0, .inl (cy 0, 6, .inl (fun _ => 0))), (r2 1, .inl (cy 0, 6, .inl (fun _ => 0))), (r2 2, .inl (cy 0, 6, .inl (fun _ => 0))), (r2 3, .inl (cy 0, 6, .inl (fun _ => 0))), (r2 4, .inl (cy 0, 6, .inl (fun _ => 0))), (r2 5, .inl (cy 0, 6, .inl (fun _ => 0)))]) : va_W)) rfl ?_
  refine rc_putF (v := .ref q1) Z hN wn_lay0 tyX0_ok nmX0 0 rfl rfl 0 (by decide) wm_12 rfl rfl rfl rfl rfl (Nat.le_of_ble_eq_true rfl) dX0_init_13 (ws2 := ((h0, .inr (0, [.ref q1, .null, .null, .int 0])) :: ((q1, .inl (cy 5, 6, .inr (.inr (.inr (.inr (fun i => if i < 6 then some (r2 i) else none)))))) :: [(r2 0, .inl (cy 0, 6, .inl (fun _ => 0))), (r2 1, .inl (cy 0, 6, .inl (fun _ => 0))), (r2 2, .inl (cy 0, 6, .inl (fun _ => 0))), (r2 3, .inl (cy 0, 6, .inl (fun _ => 0))), (r2 4, .inl (cy 0, 6, .inl (fun _ => 0))), (r2 5, .inl (cy 0, 6, .inl (fun _ => 0)))]) : va_W)) rfl ?_
  refine rc_aload_n Z dX0_init_16 rfl (lv_at hl 0 rfl) ?_
  refine rc_bipush (v := 6) Z dX0_init_17 rfl ?_
  refine rc_newa (ty := .int) (t0 := 0) (N := 6) (a0 := (6, .inl (fun _ => 0))) Z wm_11 rfl (fun _ h => by cases h) rfl (fun _ => rfl) (by decide) rfl (by decide) (by decide) (by decide) dX0_init_19 (fun q3 => ?_)
  refine rc_putF (v := .ref q3) Z hN wn_lay0 tyX0_ok nmX0 1 rfl rfl 1 (by decide) wm_13 rfl rfl rfl rfl rfl (Nat.le_of_ble_eq_true rfl) dX0_init_21 (ws2 := ((q3, .inl (cy 0, 6, .inl (fun _ => 0))) :: (h0, .inr (0, [.ref q1, .ref q3, .null, .int 0])) :: ((q1, .inl (cy 5, 6, .inr (.inr (.inr (.inr (fun i => if i < 6 then some (r2 i) else none)))))) :: [(r2 0, .inl (cy 0, 6, .inl (fun _ => 0))), (r2 1, .inl (cy 0, 6, .inl (fun _ => 0))), (r2 2, .inl (cy 0, 6, .inl (fun _ => 0))), (r2 3, .inl (cy 0, 6, .inl (fun _ => 0))), (r2 4, .inl (cy 0, 6, .inl (fun _ => 0))), (r2 5, .inl (cy 0, 6, .inl (fun _ => 0)))]) : va_W)) rfl ?_
  refine rc_aload_n Z dX0_init_24 rfl (lv_at hl 0 rfl) ?_
  refine rc_new (ci := 7) (fs := [.null, .int 0]) (N := 2) Z wn_lay7 tyX7_ok wm_14 wm_15 wm_16 rfl (fun j hj => by rcases (show j = 0 ∨ j = 1 by omega) with rfl | rfl <;> rfl) (by decide) (by decide) dX0_init_25 (fun q4 => ?_)
  refine rc_dup Z dX0_init_28 rfl ?_
  refine rc_callN Z (Wf := WX7) kX7 ciX7 (List.mem_of_getElem? (i := 1) rfl) (by decide) (by decide) hl.1 (Nat.le_of_ble_eq_true rfl) dX0_init_29 (fun u5 => ?_)
  refine rc_swap ?_
  refine rc_as (ws2 := ((q3, .inl (cy 0, 6, .inl (fun _ => 0))) :: (h0, .inr (0, [.ref q1, .ref q3, .null, .int 0])) :: (((q1, .inl (cy 5, 6, .inr (.inr (.inr (.inr (fun i => if i < 6 then some (r2 i) else none)))))) :: [(r2 0, .inl (cy 0, 6, .inl (fun _ => 0))), (r2 1, .inl (cy 0, 6, .inl (fun _ => 0))), (r2 2, .inl (cy 0, 6, .inl (fun _ => 0))), (r2 3, .inl (cy 0, 6, .inl (fun _ => 0))), (r2 4, .inl (cy 0, 6, .inl (fun _ => 0))), (r2 5, .inl (cy 0, 6, .inl (fun _ => 0)))]) ++ WX7 cy q4 u5) : va_W)) rfl ?_
  refine rc_putF (v := .ref q4) Z hN wn_lay0 tyX0_ok nmX0 1 rfl rfl 2 (by decide) wm_17 rfl rfl rfl rfl rfl (Nat.le_of_ble_eq_true rfl) dX0_init_32 (ws2 := ((q3, .inl (cy 0, 6, .inl (fun _ => 0))) :: (h0, .inr (0, [.ref q1, .ref q3, .ref q4, .int 0])) :: (((q1, .inl (cy 5, 6, .inr (.inr (.inr (.inr (fun i => if i < 6 then some (r2 i) else none)))))) :: [(r2 0, .inl (cy 0, 6, .inl (fun _ => 0))), (r2 1, .inl (cy 0, 6, .inl (fun _ => 0))), (r2 2, .inl (cy 0, 6, .inl (fun _ => 0))), (r2 3, .inl (cy 0, 6, .inl (fun _ => 0))), (r2 4, .inl (cy 0, 6, .inl (fun _ => 0))), (r2 5, .inl (cy 0, 6, .inl (fun _ => 0)))]) ++ WX7 cy q4 u5) : va_W)) rfl ?_
  refine rc_aload_n Z dX0_init_35 rfl (lv_at hl 0 rfl) ?_
  refine rc_iconst (v := 0) Z dX0_init_36 rfl ?_
  refine rc_put (v := .int 0) Z wn_lay0 tyX0_ok nmX0 1 rfl rfl 3 (by decide) wm_18 rfl rfl rfl rfl (Nat.le_of_ble_eq_true rfl) dX0_init_37 (ws2 := ((q3, .inl (cy 0, 6, .inl (fun _ => 0))) :: (h0, .inr (0, [.ref q1, .ref q3, .ref q4, .int 0])) :: (((q1, .inl (cy 5, 6, .inr (.inr (.inr (.inr (fun i => if i < 6 then some (r2 i) else none)))))) :: [(r2 0, .inl (cy 0, 6, .inl (fun _ => 0))), (r2 1, .inl (cy 0, 6, .inl (fun _ => 0))), (r2 2, .inl (cy 0, 6, .inl (fun _ => 0))), (r2 3, .inl (cy 0, 6, .inl (fun _ => 0))), (r2 4, .inl (cy 0, 6, .inl (fun _ => 0))), (r2 5, .inl (cy 0, 6, .inl (fun _ => 0)))]) ++ WX7 cy q4 u5) : va_W)) rfl ?_
  exact rc_ret Z hQ (q1, r2, q3, q4, u5) rfl (by decide) (by decide) dX0_init_40
abbrev SX5 : Type := Nat × Nat × Nat × Nat × Nat × Nat × (Nat → Nat) × Nat
def WX5 (cy : Nat → ClassId) (h0 : Nat) (u : SX5) : va_W := ((u.2.2.2.2.2.2.2, .inl (cy 0, 4, .inl (fun _ => 0))) :: (u.2.2.2.2.1, .inl (cy 1, 4, .inr (.inl (fun _ => 0)))) :: (u.2.2.2.1, .inl (cy 0, 4, .inl (fun _ => 0))) :: (u.2.2.1, .inl (cy 0, 4, .inl (fun _ => 0))) :: (u.2.1, .inl (cy 0, 4, .inl (fun _ => 0))) :: (u.1, .inl (cy 1, 4, .inr (.inl (fun _ => 0)))) :: (h0, .inr (5, [.ref u.1, .ref u.2.1, .ref u.2.2.1, .ref u.2.2.2.1, .ref u.2.2.2.2.1, .ref u.2.2.2.2.2.1, .ref u.2.2.2.2.2.2.2])) :: ((u.2.2.2.2.2.1, .inl (cy 5, 4, .inr (.inr (.inr (.inr (fun i => if i < 4 then some (u.2.2.2.2.2.2.1 i) else none)))))) :: [(u.2.2.2.2.2.2.1 0, .inl (cy 0, 4, .inl (fun _ => 0))), (u.2.2.2.2.2.2.1 1, .inl (cy 0, 4, .inl (fun _ => 0))), (u.2.2.2.2.2.2.1 2, .inl (cy 0, 4, .inl (fun _ => 0))), (u.2.2.2.2.2.2.1 3, .inl (cy 0, 4, .inl (fun _ => 0)))]) : va_W)
abbrev rmX5 : Room := { frames := 1, cells := 11, slots := 44, locals := 12 }
theorem ciX5 : wn_cI yX5_init cX5_init 1 := ⟨wm_234, wm_265, wm_369, rfl, by decide +kernel⟩
set_option maxHeartbeats 4000000 in
set_option maxRecDepth 100000 in
theorem kX5 : KC yX5_init cX5_init 1 rmX5 5 [.null, .null, .null, .null, .null, .null, .null] WX5 := by
  refine wn_enterC (own := RX5) (by decide) rfl rfl (by decide) (fun cy X h0 ls Z hN hQ hl => ?_)
  refine rc_aload_n Z dX5_init_0 rfl (lv_at hl 0 rfl) ?_
  refine rc_objInit Z wm_235 (by decide) (Nat.le_of_ble_eq_true rfl) hl.1 dX5_init_1 ?_
  refine rc_aload_n Z dX5_init_4 rfl (lv_at hl 0 rfl) ?_
  refine rc_iconst (v := 4) Z dX5_init_5 rfl ?_
  refine rc_newa (ty := .long) (t0 := 1) (N := 4) (a0 := (4, .inr (.inl (fun _ => 0)))) Z wm_5 rfl (fun _ h => by cases h) rfl (fun _ => rfl) (by decide) rfl (by decide) (by decide) (by decide) dX5_init_6 (fun q1 => ?_)
  refine rc_putF (v := .ref q1) Z hN wn_lay5 tyX5_ok nmX5 1 rfl rfl 0 (by decide) wm_236 rfl rfl rfl rfl rfl (Nat.le_of_ble_eq_true rfl) dX5_init_8 (ws2 := ((q1, .inl (cy 1, 4, .inr (.inl (fun _ => 0)))) :: (h0, .inr (5, [.ref q1, .null, .null, .null, .null, .null, .null])) :: [] : va_W)) rfl ?_
  refine rc_aload_n Z dX5_init_11 rfl (lv_at hl 0 rfl) ?_
  refine rc_iconst (v := 4) Z dX5_init_12 rfl ?_
  refine rc_newa (ty := .int) (t0 := 0) (N := 4) (a0 := (4, .inl (fun _ => 0))) Z wm_11 rfl (fun _ h => by cases h) rfl (fun _ => rfl) (by decide) rfl (by decide) (by decide) (by decide) dX5_init_13 (fun q2 => ?_)
  refine rc_putF (v := .ref q2) Z hN wn_lay5 tyX5_ok nmX5 2 rfl rfl 1 (by decide) wm_237 rfl rfl rfl rfl rfl (Nat.le_of_ble_eq_true rfl) dX5_init_15 (ws2 := ((q2, .inl (cy 0, 4, .inl (fun _ => 0))) :: (q1, .inl (cy 1, 4, .inr (.inl (fun _ => 0)))) :: (h0, .inr (5, [.ref q1, .ref q2, .null, .null, .null, .null, .null])) :: [] : va_W)) rfl ?_
  refine rc_aload_n Z dX5_init_18 rfl (lv_at hl 0 rfl) ?_
  refine rc_iconst (v := 4) Z dX5_init_19 rfl ?_
  refine rc_newa (ty := .int) (t0 := 0) (N := 4) (a0 := (4, .inl (fun _ => 0))) Z wm_11 rfl (fun _ h => by cases h) rfl (fun _ => rfl) (by decide) rfl (by decide) (by decide) (by decide) dX5_init_20 (fun q3 => ?_)
  refine rc_putF (v := .ref q3) Z hN wn_lay5 tyX5_ok nmX5 3 rfl rfl 2 (by decide) wm_238 rfl rfl rfl rfl rfl (Nat.le_of_ble_eq_true rfl) dX5_init_22 (ws2 := ((q3, .inl (cy 0, 4, .inl (fun _ => 0))) :: (q2, .inl (cy 0, 4, .inl (fun _ => 0))) :: (q1, .inl (cy 1, 4, .inr (.inl (fun _ => 0)))) :: (h0, .inr (5, [.ref q1, .ref q2, .ref q3, .null, .null, .null, .null])) :: [] : va_W)) rfl ?_
  refine rc_aload_n Z dX5_init_25 rfl (lv_at hl 0 rfl) ?_
  refine rc_iconst (v := 4) Z dX5_init_26 rfl ?_
  refine rc_newa (ty := .int) (t0 := 0) (N := 4) (a0 := (4, .inl (fun _ => 0))) Z wm_11 rfl (fun _ h => by cases h) rfl (fun _ => rfl) (by decide) rfl (by decide) (by decide) (by decide) dX5_init_27 (fun q4 => ?_)
  refine rc_putF (v := .ref q4) Z hN wn_lay5 tyX5_ok nmX5 4 rfl rfl 3 (by decide) wm_239 rfl rfl rfl rfl rfl (Nat.le_of_ble_eq_true rfl) dX5_init_29 (ws2 := ((q4, .inl (cy 0, 4, .inl (fun _ => 0))) :: (q3, .inl (cy 0, 4, .inl (fun _ => 0))) :: (q2, .inl (cy 0, 4, .inl (fun _ => 0))) :: (q1, .inl (cy 1, 4, .inr (.inl (fun _ => 0)))) :: (h0, .inr (5, [.ref q1, .ref q2, .ref q3, .ref q4, .null, .null, .null])) :: [] : va_W)) rfl ?_
  refine rc_aload_n Z dX5_init_32 rfl (lv_at hl 0 rfl) ?_
  refine rc_iconst (v := 4) Z dX5_init_33 rfl ?_
  refine rc_newa (ty := .long) (t0 := 1) (N := 4) (a0 := (4, .inr (.inl (fun _ => 0)))) Z wm_5 rfl (fun _ h => by cases h) rfl (fun _ => rfl) (by decide) rfl (by decide) (by decide) (by decide) dX5_init_34 (fun q5 => ?_)
  refine rc_putF (v := .ref q5) Z hN wn_lay5 tyX5_ok nmX5 5 rfl rfl 4 (by decide) wm_240 rfl rfl rfl rfl rfl (Nat.le_of_ble_eq_true rfl) dX5_init_36 (ws2 := ((q5, .inl (cy 1, 4, .inr (.inl (fun _ => 0)))) :: (q4, .inl (cy 0, 4, .inl (fun _ => 0))) :: (q3, .inl (cy 0, 4, .inl (fun _ => 0))) :: (q2, .inl (cy 0, 4, .inl (fun _ => 0))) :: (q1, .inl (cy 1, 4, .inr (.inl (fun _ => 0)))) :: (h0, .inr (5, [.ref q1, .ref q2, .ref q3, .ref q4, .ref q5, .null, .null])) :: [] : va_W)) rfl ?_
  refine rc_aload_n Z dX5_init_39 rfl (lv_at hl 0 rfl) ?_
  refine rc_iconst (v := 4) Z dX5_init_40 rfl ?_
  refine rc_iconst (v := 4) Z dX5_init_41 rfl ?_
  refine rc_mna (ty := .int) (t0 := 0) (t1 := 5) (N := 4) (K := 4) (z := (4, .inl (fun _ => 0))) Z wm_241 wm_11 (fun U h => h.2.2.2.1) (fun _ h => by cases h) rfl rfl (by decide) (by decide) rfl rfl (by decide) (by decide) (by decide) rfl rfl (fun c => arrV_new c 4 _) (by decide) (by decide) dX5_init_42 (fun q6 r7 => ?_)
  refine rc_as (ws2 := ((q5, .inl (cy 1, 4, .inr (.inl (fun _ => 0)))) :: (q4, .inl (cy 0, 4, .inl (fun _ => 0))) :: (q3, .inl (cy 0, 4, .inl (fun _ => 0))) :: (q2, .inl (cy 0, 4, .inl (fun _ => 0))) :: (q1, .inl (cy 1, 4, .inr (.inl (fun _ => 0)))) :: (h0, .inr (5, [.ref q1, .ref q2, .ref q3, .ref q4, .ref q5, .null, .null])) :: ((q6, .inl (cy 5, 4, .inr (.inr (.inr (.inr (fun i => if i < 4 then some (r7 i) else none)))))) :: [(r7 0, .inl (cy 0, 4, .inl (fun _ => 0))), (r7 1, .inl (cy 0, 4, .inl (fun _ => 0))), (r7 2, .inl (cy 0, 4, .inl (fun _ => 0))), (r7 3, .inl (cy 0, 4, .inl (fun _ => 0)))]) : va_W)) rfl ?_
  refine rc_putF (v := .ref q6) Z hN wn_lay5 tyX5_ok nmX5 5 rfl rfl 5 (by decide) wm_242 rfl rfl rfl rfl rfl (Nat.le_of_ble_eq_true rfl) dX5_init_46 (ws2 := ((q5, .inl (cy 1, 4, .inr (.inl (fun _ => 0)))) :: (q4, .inl (cy 0, 4, .inl (fun _ => 0))) :: (q3, .inl (cy 0, 4, .inl (fun _ => 0))) :: (q2, .inl (cy 0, 4, .inl (fun _ => 0))) :: (q1, .inl (cy 1, 4, .inr (.inl (fun _ => 0)))) :: (h0, .inr (5, [.ref q1, .ref q2, .ref q3, .ref q4, .ref q5, .ref q6, .null])) :: ((q6, .inl (cy 5, 4, .inr (.inr (.inr (.inr (fun i => if i < 4 then some (r7 i) else none)))))) :: [(r7 0, .inl (cy 0, 4, .inl (fun _ => 0))), (r7 1, .inl (cy 0, 4, .inl (fun _ => 0))), (r7 2, .inl (cy 0, 4, .inl (fun _ => 0))), (r7 3, .inl (cy 0, 4, .inl (fun _ => 0)))]) : va_W)) rfl ?_
  refine rc_aload_n Z dX5_init_49 rfl (lv_at hl 0 rfl) ?_
  refine rc_iconst (v := 4) Z dX5_init_50 rfl ?_
  refine rc_newa (ty := .int) (t0 := 0) (N := 4) (a0 := (4, .inl (fun _ => 0))) Z wm_11 rfl (fun _ h => by cases h) rfl (fun _ => rfl) (by decide) rfl (by decide) (by decide) (by decide) dX5_init_51 (fun q8 => ?_)
  refine rc_putF (v := .ref q8) Z hN wn_lay5 tyX5_ok nmX5 6 rfl rfl 6 (by decide) wm_243 rfl rfl rfl rfl rfl (Nat.le_of_ble_eq_true rfl) dX5_init_53 (ws2 := ((q8, .inl (cy 0, 4, .inl (fun _ => 0))) :: (q5, .inl (cy 1, 4, .inr (.inl (fun _ => 0)))) :: (q4, .inl (cy 0, 4, .inl (fun _ => 0))) :: (q3, .inl (cy 0, 4, .inl (fun _ => 0))) :: (q2, .inl (cy 0, 4, .inl (fun _ => 0))) :: (q1, .inl (cy 1, 4, .inr (.inl (fun _ => 0)))) :: (h0, .inr (5, [.ref q1, .ref q2, .ref q3, .ref q4, .ref q5, .ref q6, .ref q8])) :: ((q6, .inl (cy 5, 4, .inr (.inr (.inr (.inr (fun i => if i < 4 then some (r7 i) else none)))))) :: [(r7 0, .inl (cy 0, 4, .inl (fun _ => 0))), (r7 1, .inl (cy 0, 4, .inl (fun _ => 0))), (r7 2, .inl (cy 0, 4, .inl (fun _ => 0))), (r7 3, .inl (cy 0, 4, .inl (fun _ => 0)))]) : va_W)) rfl ?_
  exact rc_ret Z hQ (q1, q2, q3, q4, q5, q6, r7, q8) rfl (by decide) (by decide) dX5_init_56

/-! the constructors (1) -/
abbrev SX6 : Type := Nat
def WX6 (cy : Nat → ClassId) (h0 : Nat) (u : SX6) : va_W := ((u, .inl (cy 0, 40, .inl (fun _ => 0))) :: (h0, .inr (6, [.ref u, .int (-1)])) :: [] : va_W)
abbrev rmX6 : Room := { frames := 1, cells := 1, slots := 40, locals := 12 }
theorem ciX6 : wn_cI yX6_init cX6_init 1 := ⟨wm_322, wm_28, wm_371, rfl, by decide +kernel⟩
set_option maxHeartbeats 4000000 in
set_option maxRecDepth 100000 in
theorem kX6 : KC yX6_init cX6_init 1 rmX6 6 [.null, .int 0] WX6 := by
  refine wn_enterC (own := RX6) (by decide) rfl rfl (by decide) (fun cy X h0 ls Z hN hQ hl => ?_)
  refine rc_aload_n Z dX6_init_0 rfl (lv_at hl 0 rfl) ?_
  refine rc_objInit Z wm_323 (by decide) (Nat.le_of_ble_eq_true rfl) hl.1 dX6_init_1 ?_
  refine rc_aload_n Z dX6_init_4 rfl (lv_at hl 0 rfl) ?_
  refine rc_bipush (v := 40) Z dX6_init_5 rfl ?_
  refine rc_newa (ty := .int) (t0 := 0) (N := 40) (a0 := (40, .inl (fun _ => 0))) Z wm_11 rfl (fun _ h => by cases h) rfl (fun _ => rfl) (by decide) rfl (by decide) (by decide) (by decide) dX6_init_7 (fun q1 => ?_)
  refine rc_putF (v := .ref q1) Z hN wn_lay6 tyX6_ok nmX6 1 rfl rfl 0 (by decide) wm_23 rfl rfl rfl rfl rfl (Nat.le_of_ble_eq_true rfl) dX6_init_9 (ws2 := ((q1, .inl (cy 0, 40, .inl (fun _ => 0))) :: (h0, .inr (6, [.ref q1, .int 0])) :: [] : va_W)) rfl ?_
  refine rc_aload_n Z dX6_init_12 rfl (lv_at hl 0 rfl) ?_
  refine rc_iconst (v := (-1)) Z dX6_init_13 rfl ?_
  refine rc_put (v := .int (-1)) Z wn_lay6 tyX6_ok nmX6 1 rfl rfl 1 (by decide) wm_21 rfl rfl rfl rfl (Nat.le_of_ble_eq_true rfl) dX6_init_14 (ws2 := ((q1, .inl (cy 0, 40, .inl (fun _ => 0))) :: (h0, .inr (6, [.ref q1, .int (-1)])) :: [] : va_W)) rfl ?_
  exact rc_ret Z hQ (q1) rfl (by decide) (by decide) dX6_init_17
abbrev SX1 : Type := Nat
def WX1 (cy : Nat → ClassId) (h0 : Nat) (u : SX1) : va_W := ((u, .inl (cy 0, 4, .inl (fun _ => 0))) :: (h0, .inr (1, [.ref u, .int (-1), .int 1, .int 1, .int 1, .int 0])) :: [] : va_W)
abbrev rmX1 : Room := { frames := 1, cells := 1, slots := 4, locals := 12 }
theorem ciX1 : wn_cI yX1_init cX1_init 1 := ⟨wm_106, wm_122, wm_167, rfl, by decide +kernel⟩
set_option maxHeartbeats 4000000 in
set_option maxRecDepth 100000 in
theorem kX1 : KC yX1_init cX1_init 1 rmX1 1 [.null, .int 0, .int 0, .int 0, .int 0, .int 0] WX1 := by
  refine wn_enterC (own := RX1) (by decide) rfl rfl (by decide) (fun cy X h0 ls Z hN hQ hl => ?_)
  refine rc_aload_n Z dX1_init_0 rfl (lv_at hl 0 rfl) ?_
  refine rc_objInit Z wm_107 (by decide) (Nat.le_of_ble_eq_true rfl) hl.1 dX1_init_1 ?_
  refine rc_aload_n Z dX1_init_4 rfl (lv_at hl 0 rfl) ?_
  refine rc_iconst (v := 4) Z dX1_init_5 rfl ?_
  refine rc_newa (ty := .int) (t0 := 0) (N := 4) (a0 := (4, .inl (fun _ => 0))) Z wm_11 rfl (fun _ h => by cases h) rfl (fun _ => rfl) (by decide) rfl (by decide) (by decide) (by decide) dX1_init_6 (fun q1 => ?_)
  refine rc_putF (v := .ref q1) Z hN wn_lay1 tyX1_ok nmX1 1 rfl rfl 0 (by decide) wm_108 rfl rfl rfl rfl rfl (Nat.le_of_ble_eq_true rfl) dX1_init_8 (ws2 := ((q1, .inl (cy 0, 4, .inl (fun _ => 0))) :: (h0, .inr (1, [.ref q1, .int 0, .int 0, .int 0, .int 0, .int 0])) :: [] : va_W)) rfl ?_
  refine rc_aload_n Z dX1_init_11 rfl (lv_at hl 0 rfl) ?_
  refine rc_iconst (v := (-1)) Z dX1_init_12 rfl ?_
  refine rc_put (v := .int (-1)) Z wn_lay1 tyX1_ok nmX1 1 rfl rfl 1 (by decide) wm_109 rfl rfl rfl rfl (Nat.le_of_ble_eq_true rfl) dX1_init_13 (ws2 := ((q1, .inl (cy 0, 4, .inl (fun _ => 0))) :: (h0, .inr (1, [.ref q1, .int (-1), .int 0, .int 0, .int 0, .int 0])) :: [] : va_W)) rfl ?_
  refine rc_aload_n Z dX1_init_16 rfl (lv_at hl 0 rfl) ?_
  refine rc_iconst (v := 1) Z dX1_init_17 rfl ?_
  refine rc_put (v := .int 1) Z wn_lay1 tyX1_ok nmX1 1 rfl rfl 2 (by decide) wm_110 rfl rfl rfl rfl (Nat.le_of_ble_eq_true rfl) dX1_init_18 (ws2 := ((q1, .inl (cy 0, 4, .inl (fun _ => 0))) :: (h0, .inr (1, [.ref q1, .int (-1), .int 1, .int 0, .int 0, .int 0])) :: [] : va_W)) rfl ?_
  refine rc_aload_n Z dX1_init_21 rfl (lv_at hl 0 rfl) ?_
  refine rc_iconst (v := 1) Z dX1_init_22 rfl ?_
  refine rc_put (v := .int 1) Z wn_lay1 tyX1_ok nmX1 1 rfl rfl 3 (by decide) wm_111 rfl rfl rfl rfl (Nat.le_of_ble_eq_true rfl) dX1_init_23 (ws2 := ((q1, .inl (cy 0, 4, .inl (fun _ => 0))) :: (h0, .inr (1, [.ref q1, .int (-1), .int 1, .int 1, .int 0, .int 0])) :: [] : va_W)) rfl ?_
  refine rc_aload_n Z dX1_init_26 rfl (lv_at hl 0 rfl) ?_
  refine rc_iconst (v := 1) Z dX1_init_27 rfl ?_
  refine rc_put (v := .int 1) Z wn_lay1 tyX1_ok nmX1 1 rfl rfl 4 (by decide) wm_112 rfl rfl rfl rfl (Nat.le_of_ble_eq_true rfl) dX1_init_28 (ws2 := ((q1, .inl (cy 0, 4, .inl (fun _ => 0))) :: (h0, .inr (1, [.ref q1, .int (-1), .int 1, .int 1, .int 1, .int 0])) :: [] : va_W)) rfl ?_
  refine rc_aload_n Z dX1_init_31 rfl (lv_at hl 0 rfl) ?_
  refine rc_iconst (v := 0) Z dX1_init_32 rfl ?_
  refine rc_put (v := .int 0) Z wn_lay1 tyX1_ok nmX1 1 rfl rfl 5 (by decide) wm_113 rfl rfl rfl rfl (Nat.le_of_ble_eq_true rfl) dX1_init_33 (ws2 := ((q1, .inl (cy 0, 4, .inl (fun _ => 0))) :: (h0, .inr (1, [.ref q1, .int (-1), .int 1, .int 1, .int 1, .int 0])) :: [] : va_W)) rfl ?_
  exact rc_ret Z hQ (q1) rfl (by decide) (by decide) dX1_init_36
abbrev SX2 : Type := Unit
def WX2 (cy : Nat → ClassId) (h0 : Nat) (u : SX2) : va_W := ((h0, .inr (2, [.long 0, .long 1])) :: [] : va_W)
abbrev rmX2 : Room := { frames := 1, cells := 0, slots := 0, locals := 12 }
theorem ciX2 : wn_cI yX2_init cX2_init 1 := ⟨wm_138, wm_94, wm_166, rfl, by decide +kernel⟩
set_option maxHeartbeats 4000000 in
set_option maxRecDepth 100000 in
theorem kX2 : KC yX2_init cX2_init 1 rmX2 2 [.long 0, .long 0] WX2 := by
  refine wn_enterC (own := RX2) (by decide) rfl rfl (by decide) (fun cy X h0 ls Z hN hQ hl => ?_)
  refine rc_aload_n Z dX2_init_0 rfl (lv_at hl 0 rfl) ?_
  refine rc_objInit Z wm_139 (by decide) (Nat.le_of_ble_eq_true rfl) hl.1 dX2_init_1 ?_
  refine rc_aload_n Z dX2_init_4 rfl (lv_at hl 0 rfl) ?_
  refine rc_lconst (v := 0) Z dX2_init_5 rfl ?_
  refine rc_put (v := .long 0) Z wn_lay2 tyX2_ok nmX2 0 rfl rfl 0 (by decide) wm_90 rfl rfl rfl rfl (Nat.le_of_ble_eq_true rfl) dX2_init_6 (ws2 := ((h0, .inr (2, [.long 0, .long 0])) :: [] : va_W)) rfl ?_
  refine rc_aload_n Z dX2_init_9 rfl (lv_at hl 0 rfl) ?_
  refine rc_lconst (v := 1) Z dX2_init_10 rfl ?_
  refine rc_put (v := .long 1) Z wn_lay2 tyX2_ok nmX2 0 rfl rfl 1 (by decide) wm_91 rfl rfl rfl rfl (Nat.le_of_ble_eq_true rfl) dX2_init_11 (ws2 := ((h0, .inr (2, [.long 0, .long 1])) :: [] : va_W)) rfl ?_
  exact rc_ret Z hQ () rfl (by decide) (by decide) dX2_init_14
abbrev SX3 : Type := Unit
def WX3 (cy : Nat → ClassId) (h0 : Nat) (u : SX3) : va_W := ((h0, .inr (3, [.int 0, .int 0, .int 0])) :: [] : va_W)
abbrev rmX3 : Room := { frames := 1, cells := 0, slots := 0, locals := 12 }
theorem ciX3 : wn_cI yX3_init cX3_init 1 := ⟨wm_142, wm_359, wm_370, rfl, by decide +kernel⟩
set_option maxHeartbeats 4000000 in
set_option maxRecDepth 100000 in
theorem kX3 : KC yX3_init cX3_init 1 rmX3 3 [.int 0, .int 0, .int 0] WX3 := by
  refine wn_enterC (own := RX3) (by decide) rfl rfl (by decide) (fun cy X h0 ls Z hN hQ hl => ?_)
  refine rc_aload_n Z dX3_init_0 rfl (lv_at hl 0 rfl) ?_
  refine rc_objInit Z wm_143 (by decide) (Nat.le_of_ble_eq_true rfl) hl.1 dX3_init_1 ?_
  refine rc_aload_n Z dX3_init_4 rfl (lv_at hl 0 rfl) ?_
  refine rc_iconst (v := 0) Z dX3_init_5 rfl ?_
  refine rc_put (v := .int 0) Z wn_lay3 tyX3_ok nmX3 0 rfl rfl 0 (by decide) wm_144 rfl rfl rfl rfl (Nat.le_of_ble_eq_true rfl) dX3_init_6 (ws2 := ((h0, .inr (3, [.int 0, .int 0, .int 0])) :: [] : va_W)) rfl ?_
  refine rc_aload_n Z dX3_init_9 rfl (lv_at hl 0 rfl) ?_
  refine rc_iconst (v := 0) Z dX3_init_10 rfl ?_
  refine rc_put (v := .int 0) Z wn_lay3 tyX3_ok nmX3 0 rfl rfl 1 (by decide) wm_145 rfl rfl rfl rfl (Nat.le_of_ble_eq_true rfl) dX3_init_11 (ws2 := ((h0, .inr (3, [.int 0, .int 0, .int 0])) :: [] : va_W)) rfl ?_
  refine rc_aload_n Z dX3_init_14 rfl (lv_at hl 0 rfl) ?_
  refine rc_iconst (v := 0) Z dX3_init_15 rfl ?_
  refine rc_put (v := .int 0) Z wn_lay3 tyX3_ok nmX3 0 rfl rfl 2 (by decide) wm_146 rfl rfl rfl rfl (Nat.le_of_ble_eq_true rfl) dX3_init_16 (ws2 := ((h0, .inr (3, [.int 0, .int 0, .int 0])) :: [] : va_W)) rfl ?_
  exact rc_ret Z hQ () rfl (by decide) (by decide) dX3_init_19
abbrev SX7 : Type := Nat × (Nat → Nat)
def WX7 (cy : Nat → ClassId) (h0 : Nat) (u : SX7) : va_W := ((h0, .inr (7, [.ref u.1, .int 0])) :: ((u.1, .inl (cy 6, 6, .inr (.inr (.inr (.inr (fun i => if i < 6 then some (u.2 i) else none)))))) :: [(u.2 0, .inl (cy 1, 6, .inr (.inl (fun _ => 0)))), (u.2 1, .inl (cy 1, 6, .inr (.inl (fun _ => 0)))), (u.2 2, .inl (cy 1, 6, .inr (.inl (fun _ => 0)))), (u.2 3, .inl (cy 1, 6, .inr (.inl (fun _ => 0)))), (u.2 4, .inl (cy 1, 6, .inr (.inl (fun _ => 0)))), (u.2 5, .inl (cy 1, 6, .inr (.inl (fun _ => 0))))]) : va_W)
abbrev rmX7 : Room := { frames := 1, cells := 7, slots := 42, locals := 12 }
theorem ciX7 : wn_cI yX7_init cX7_init 1 := ⟨wm_0, wm_16, wm_19, rfl, by decide +kernel⟩
set_option maxHeartbeats 4000000 in
set_option maxRecDepth 100000 in
theorem kX7 : KC yX7_init cX7_init 1 rmX7 7 [.null, .int 0] WX7 := by
  refine wn_enterC (own := RX7) (by decide) rfl rfl (by decide) (fun cy X h0 ls Z hN hQ hl => ?_)
  refine rc_aload_n Z dX7_init_0 rfl (lv_at hl 0 rfl) ?_
  refine rc_objInit Z wm_1 (by decide) (Nat.le_of_ble_eq_true rfl) hl.1 dX7_init_1 ?_
  refine rc_aload_n Z dX7_init_4 rfl (lv_at hl 0 rfl) ?_
  refine rc_bipush (v := 6) Z dX7_init_5 rfl ?_
  refine rc_bipush (v := 6) Z dX7_init_7 rfl ?_
  refine rc_mna (ty := .long) (t0 := 1) (t1 := 6) (N := 6) (K := 6) (z := (6, .inr (.inl (fun _ => 0)))) Z wm_4 wm_5 (fun U h => h.2.2.2.2) (fun _ h => by cases h) rfl rfl (by decide) (by decide) rfl rfl (by decide) (by decide) (by decide) rfl rfl (fun c => arrV_new c 6 _) (by decide) (by decide) dX7_init_9 (fun q1 r2 => ?_)
  refine rc_as (ws2 := ((h0, .inr (7, [.null, .int 0])) :: ((q1, .inl (cy 6, 6, .inr (.inr (.inr (.inr (fun i => if i < 6 then some (r2 i) else none)))))) :: [(r2 0, .inl (cy 1, 6, .inr (.inl (fun _ => 0)))), (r2 1, .inl (cy 1, 6, .inr (.inl (fun _ => 0)))), (r2 2, .inl (cy 1, 6, .inr (.inl (fun _ => 0)))), (r2 3, .inl (cy 1, 6, .inr (.inl (fun _ => 0)))), (r2 4, .inl (cy 1, 6, .inr (.inl (fun _ => 0)))), (r2 5, .inl (cy 1, 6, .inr (.inl (fun _ => 0))))]) : va_W)) rfl ?_
  refine rc_putF (v := .ref q1) Z hN wn_lay7 tyX7_ok nmX7 0 rfl rfl 0 (by decide) wm_6 rfl rfl rfl rfl rfl (Nat.le_of_ble_eq_true rfl) dX7_init_13 (ws2 := ((h0, .inr (7, [.ref q1, .int 0])) :: ((q1, .inl (cy 6, 6, .inr (.inr (.inr (.inr (fun i => if i < 6 then some (r2 i) else none)))))) :: [(r2 0, .inl (cy 1, 6, .inr (.inl (fun _ => 0)))), (r2 1, .inl (cy 1, 6, .inr (.inl (fun _ => 0)))), (r2 2, .inl (cy 1, 6, .inr (.inl (fun _ => 0)))), (r2 3, .inl (cy 1, 6, .inr (.inl (fun _ => 0)))), (r2 4, .inl (cy 1, 6, .inr (.inl (fun _ => 0)))), (r2 5, .inl (cy 1, 6, .inr (.inl (fun _ => 0))))]) : va_W)) rfl ?_
  refine rc_aload_n Z dX7_init_16 rfl (lv_at hl 0 rfl) ?_
  refine rc_iconst (v := 0) Z dX7_init_17 rfl ?_
  refine rc_put (v := .int 0) Z wn_lay7 tyX7_ok nmX7 0 rfl rfl 1 (by decide) wm_7 rfl rfl rfl rfl (Nat.le_of_ble_eq_true rfl) dX7_init_18 (ws2 := ((h0, .inr (7, [.ref q1, .int 0])) :: ((q1, .inl (cy 6, 6, .inr (.inr (.inr (.inr (fun i => if i < 6 then some (r2 i) else none)))))) :: [(r2 0, .inl (cy 1, 6, .inr (.inl (fun _ => 0)))), (r2 1, .inl (cy 1, 6, .inr (.inl (fun _ => 0)))), (r2 2, .inl (cy 1, 6, .inr (.inl (fun _ => 0)))), (r2 3, .inl (cy 1, 6, .inr (.inl (fun _ => 0)))), (r2 4, .inl (cy 1, 6, .inr (.inl (fun _ => 0)))), (r2 5, .inl (cy 1, 6, .inr (.inl (fun _ => 0))))]) : va_W)) rfl ?_
  exact rc_ret Z hQ (q1, r2) rfl (by decide) (by decide) dX7_init_21

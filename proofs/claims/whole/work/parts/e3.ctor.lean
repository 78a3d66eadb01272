/-! the constructors (4) -/
abbrev SX8 : Type := Nat × Nat × SX4 × Nat × SX5 × Nat × SX0 × Nat × SX3 × Nat × SX2 × Nat × Nat × SX6 × Nat × SX6 × Nat × SX6 × Nat × SX6 × Nat × SX6 × Nat × SX6
def WX8 (cy : Nat → ClassId) (h0 : Nat) (u : SX8) : va_W := ((u.2.2.2.2.2.2.2.2.2.2.2.1, .inl (cy 0, 6, .inl (fun _ => 0))) :: (u.1, .inl (cy 4, 6, .inr (.inr (.inr (.inr (va_up (va_up (va_up (va_up (va_up (va_up (fun _ => none) 0 (some u.2.2.2.2.2.2.2.2.2.2.2.2.1)) 1 (some u.2.2.2.2.2.2.2.2.2.2.2.2.2.2.1)) 2 (some u.2.2.2.2.2.2.2.2.2.2.2.2.2.2.2.2.1)) 3 (some u.2.2.2.2.2.2.2.2.2.2.2.2.2.2.2.2.2.2.1)) 4 (some u.2.2.2.2.2.2.2.2.2.2.2.2.2.2.2.2.2.2.2.2.1)) 5 (some u.2.2.2.2.2.2.2.2.2.2.2.2.2.2.2.2.2.2.2.2.2.2.1))))))) :: (h0, .inr (8, [.ref u.1, .ref u.2.1, .ref u.2.2.2.1, .ref u.2.2.2.2.2.1, .ref u.2.2.2.2.2.2.2.1, .ref u.2.2.2.2.2.2.2.2.2.1, .ref u.2.2.2.2.2.2.2.2.2.2.2.1, .int 0, .int 0])) :: ((((((((((WX4 cy u.2.1 u.2.2.1 ++ WX5 cy u.2.2.2.1 u.2.2.2.2.1) ++ WX0 cy u.2.2.2.2.2.1 u.2.2.2.2.2.2.1) ++ WX3 cy u.2.2.2.2.2.2.2.1 u.2.2.2.2.2.2.2.2.1) ++ WX2 cy u.2.2.2.2.2.2.2.2.2.1 u.2.2.2.2.2.2.2.2.2.2.1) ++ WX6 cy u.2.2.2.2.2.2.2.2.2.2.2.2.1 u.2.2.2.2.2.2.2.2.2.2.2.2.2.1) ++ WX6 cy u.2.2.2.2.2.2.2.2.2.2.2.2.2.2.1 u.2.2.2.2.2.2.2.2.2.2.2.2.2.2.2.1) ++ WX6 cy u.2.2.2.2.2.2.2.2.2.2.2.2.2.2.2.2.1 u.2.2.2.2.2.2.2.2.2.2.2.2.2.2.2.2.2.1) ++ WX6 cy u.2.2.2.2.2.2.2.2.2.2.2.2.2.2.2.2.2.2.1 u.2.2.2.2.2.2.2.2.2.2.2.2.2.2.2.2.2.2.2.1) ++ WX6 cy u.2.2.2.2.2.2.2.2.2.2.2.2.2.2.2.2.2.2.2.2.1 u.2.2.2.2.2.2.2.2.2.2.2.2.2.2.2.2.2.2.2.2.2.1) ++ WX6 cy u.2.2.2.2.2.2.2.2.2.2.2.2.2.2.2.2.2.2.2.2.2.2.1 u.2.2.2.2.2.2.2.2.2.2.2.2.2.2.2.2.2.2.2.2.2.2.2) : va_W)
abbrev rmX8 : Room := { frames := 4, cells := 82, slots := 609, locals := 73 }
theorem ciX8 : wn_cI yX8_init cX8_init 2 := ⟨wm_372, wm_377, wm_855, rfl, by decide +kernel⟩
set_option maxHeartbeats 4000000 in
set_option maxRecDepth 100000 in
theorem kX8 : KC yX8_init cX8_init 2 rmX8 8 [.null, .null, .null, .null, .null, .null, .null, .int 0, .int 0] WX8 := by
  refine wn_enterC (own := RX8) (by decide) rfl rfl (by decide) (fun cy X h0 ls Z hN hQ hl => ?_)
  refine rc_aload_n Z dX8_init_0 rfl (lv_at hl 0 rfl) ?_
  refine rc_objInit Z wm_346 (by decide) (Nat.le_of_ble_eq_true rfl) hl.1 dX8_init_1 ?_
  refine rc_aload_n Z dX8_init_4 rfl (lv_at hl 0 rfl) ?_
  refine rc_bipush (v := 6) Z dX8_init_5 rfl ?_
  refine rc_newq (t0 := 4) (N := 6) Z wm_347 (fun U h => h.2.2.1) rfl (by decide) rfl (by decide) (by decide) (by decide) dX8_init_7 (fun q1 => ?_)
  refine rc_putF (v := .ref q1) Z hN wn_lay8 tyX8_ok nmX8 1 rfl rfl 0 (by decide) wm_348 rfl rfl rfl rfl rfl (Nat.le_of_ble_eq_true rfl) dX8_init_10 (ws2 := ((q1, .inl (cy 4, 6, .inr (.inr (.inr (.inr (fun _ => none)))))) :: (h0, .inr (8, [.ref q1, .null, .null, .null, .null, .null, .null, .int 0, .int 0])) :: [] : va_W)) rfl ?_
  refine rc_aload_n Z dX8_init_13 rfl (lv_at hl 0 rfl) ?_
  refine rc_new (ci := 4) (fs := [.null, .null, .null, .null, .null]) (N := 5) Z wn_lay4 tyX4_ok wm_349 wm_350 wm_180 rfl (fun j hj => by rcases (show j = 0 ∨ j = 1 ∨ j = 2 ∨ j = 3 ∨ j = 4 by omega) with rfl | rfl | rfl | rfl | rfl <;> rfl) (by decide) (by decide) dX8_init_14 (fun q2 => ?_)
  refine rc_dup Z dX8_init_17 rfl ?_
  refine rc_call Z (Wf := WX4) kX4 ciX4 wm_367 (by decide) (by decide) hl.1 (Nat.le_of_ble_eq_true rfl) dX8_init_18 (fun u3 => ?_)
  refine rc_swap ?_
  refine rc_as (ws2 := ((q1, .inl (cy 4, 6, .inr (.inr (.inr (.inr (fun _ => none)))))) :: (h0, .inr (8, [.ref q1, .null, .null, .null, .null, .null, .null, .int 0, .int 0])) :: WX4 cy q2 u3 : va_W)) rfl ?_
  refine rc_putF (v := .ref q2) Z hN wn_lay8 tyX8_ok nmX8 1 rfl rfl 1 (by decide) wm_351 rfl rfl rfl rfl rfl (Nat.le_of_ble_eq_true rfl) dX8_init_21 (ws2 := ((q1, .inl (cy 4, 6, .inr (.inr (.inr (.inr (fun _ => none)))))) :: (h0, .inr (8, [.ref q1, .ref q2, .null, .null, .null, .null, .null, .int 0, .int 0])) :: WX4 cy q2 u3 : va_W)) rfl ?_
  refine rc_aload_n Z dX8_init_24 rfl (lv_at hl 0 rfl) ?_
  refine rc_new (ci := 5) (fs := [.null, .null, .null, .null, .null, .null, .null]) (N := 7) Z wn_lay5 tyX5_ok wm_352 wm_353 wm_265 rfl (fun j hj => by rcases (show j = 0 ∨ j = 1 ∨ j = 2 ∨ j = 3 ∨ j = 4 ∨ j = 5 ∨ j = 6 by omega) with rfl | rfl | rfl | rfl | rfl | rfl | rfl <;> rfl) (by decide) (by decide) dX8_init_25 (fun q4 => ?_)
  refine rc_dup Z dX8_init_28 rfl ?_
  refine rc_callN Z (Wf := WX5) kX5 ciX5 (List.mem_of_getElem? (i := 5) rfl) (by decide) (by decide) hl.1 (Nat.le_of_ble_eq_true rfl) dX8_init_29 (fun u5 => ?_)
  refine rc_swap ?_
  refine rc_as (ws2 := ((q1, .inl (cy 4, 6, .inr (.inr (.inr (.inr (fun _ => none)))))) :: (h0, .inr (8, [.ref q1, .ref q2, .null, .null, .null, .null, .null, .int 0, .int 0])) :: (WX4 cy q2 u3 ++ WX5 cy q4 u5) : va_W)) rfl ?_
  refine rc_putF (v := .ref q4) Z hN wn_lay8 tyX8_ok nmX8 1 rfl rfl 2 (by decide) wm_354 rfl rfl rfl rfl rfl (Nat.le_of_ble_eq_true rfl) dX8_init_32 (ws2 := ((q1, .inl (cy 4, 6, .inr (.inr (.inr (.inr (fun _ => none)))))) :: (h0, .inr (8, [.ref q1, .ref q2, .ref q4, .null, .null, .null, .null, .int 0, .int 0])) :: (WX4 cy q2 u3 ++ WX5 cy q4 u5) : va_W)) rfl ?_
  refine rc_aload_n Z dX8_init_35 rfl (lv_at hl 0 rfl) ?_
  refine rc_new (ci := 0) (fs := [.null, .null, .null, .int 0]) (N := 4) Z wn_lay0 tyX0_ok wm_355 wm_156 wm_40 rfl (fun j hj => by rcases (show j = 0 ∨ j = 1 ∨ j = 2 ∨ j = 3 by omega) with rfl | rfl | rfl | rfl <;> rfl) (by decide) (by decide) dX8_init_36 (fun q6 => ?_)
  refine rc_dup Z dX8_init_39 rfl ?_
  refine rc_callN Z (Wf := WX0) kX0 ciX0 (List.mem_of_getElem? (i := 6) rfl) (by decide) (by decide) hl.1 (Nat.le_of_ble_eq_true rfl) dX8_init_40 (fun u7 => ?_)
  refine rc_swap ?_
  refine rc_as (ws2 := ((q1, .inl (cy 4, 6, .inr (.inr (.inr (.inr (fun _ => none)))))) :: (h0, .inr (8, [.ref q1, .ref q2, .ref q4, .null, .null, .null, .null, .int 0, .int 0])) :: ((WX4 cy q2 u3 ++ WX5 cy q4 u5) ++ WX0 cy q6 u7) : va_W)) rfl ?_
  refine rc_putF (v := .ref q6) Z hN wn_lay8 tyX8_ok nmX8 1 rfl rfl 3 (by decide) wm_356 rfl rfl rfl rfl rfl (Nat.le_of_ble_eq_true rfl) dX8_init_43 (ws2 := ((q1, .inl (cy 4, 6, .inr (.inr (.inr (.inr (fun _ => none)))))) :: (h0, .inr (8, [.ref q1, .ref q2, .ref q4, .ref q6, .null, .null, .null, .int 0, .int 0])) :: ((WX4 cy q2 u3 ++ WX5 cy q4 u5) ++ WX0 cy q6 u7) : va_W)) rfl ?_
  refine rc_aload_n Z dX8_init_46 rfl (lv_at hl 0 rfl) ?_
  refine rc_new (ci := 3) (fs := [.int 0, .int 0, .int 0]) (N := 3) Z wn_lay3 tyX3_ok wm_357 wm_358 wm_359 rfl (fun j hj => by rcases (show j = 0 ∨ j = 1 ∨ j = 2 by omega) with rfl | rfl | rfl <;> rfl) (by decide) (by decide) dX8_init_47 (fun q8 => ?_)
  refine rc_dup Z dX8_init_50 rfl ?_
  refine rc_callN Z (Wf := WX3) kX3 ciX3 (List.mem_of_getElem? (i := 7) rfl) (by decide) (by decide) hl.1 (Nat.le_of_ble_eq_true rfl) dX8_init_51 (fun u9 => ?_)
  refine rc_swap ?_
  refine rc_as (ws2 := ((q1, .inl (cy 4, 6, .inr (.inr (.inr (.inr (fun _ => none)))))) :: (h0, .inr (8, [.ref q1, .ref q2, .ref q4, .ref q6, .null, .null, .null, .int 0, .int 0])) :: (((WX4 cy q2 u3 ++ WX5 cy q4 u5) ++ WX0 cy q6 u7) ++ WX3 cy q8 u9) : va_W)) rfl ?_
  refine rc_putF (v := .ref q8) Z hN wn_lay8 tyX8_ok nmX8 1 rfl rfl 4 (by decide) wm_360 rfl rfl rfl rfl rfl (Nat.le_of_ble_eq_true rfl) dX8_init_54 (ws2 := ((q1, .inl (cy 4, 6, .inr (.inr (.inr (.inr (fun _ => none)))))) :: (h0, .inr (8, [.ref q1, .ref q2, .ref q4, .ref q6, .ref q8, .null, .null, .int 0, .int 0])) :: (((WX4 cy q2 u3 ++ WX5 cy q4 u5) ++ WX0 cy q6 u7) ++ WX3 cy q8 u9) : va_W)) rfl ?_
  refine rc_aload_n Z dX8_init_57 rfl (lv_at hl 0 rfl) ?_
  refine rc_new (ci := 2) (fs := [.long 0, .long 0]) (N := 2) Z wn_lay2 tyX2_ok wm_361 wm_161 wm_94 rfl (fun j hj => by rcases (show j = 0 ∨ j = 1 by omega) with rfl | rfl <;> rfl) (by decide) (by decide) dX8_init_58 (fun q10 => ?_)
  refine rc_dup Z dX8_init_61 rfl ?_
  refine rc_callN Z (Wf := WX2) kX2 ciX2 (List.mem_of_getElem? (i := 8) rfl) (by decide) (by decide) hl.1 (Nat.le_of_ble_eq_true rfl) dX8_init_62 (fun u11 => ?_)
  refine rc_swap ?_
  refine rc_as (ws2 := ((q1, .inl (cy 4, 6, .inr (.inr (.inr (.inr (fun _ => none)))))) :: (h0, .inr (8, [.ref q1, .ref q2, .ref q4, .ref q6, .ref q8, .null, .null, .int 0, .int 0])) :: ((((WX4 cy q2 u3 ++ WX5 cy q4 u5) ++ WX0 cy q6 u7) ++ WX3 cy q8 u9) ++ WX2 cy q10 u11) : va_W)) rfl ?_
  refine rc_putF (v := .ref q10) Z hN wn_lay8 tyX8_ok nmX8 1 rfl rfl 5 (by decide) wm_362 rfl rfl rfl rfl rfl (Nat.le_of_ble_eq_true rfl) dX8_init_65 (ws2 := ((q1, .inl (cy 4, 6, .inr (.inr (.inr (.inr (fun _ => none)))))) :: (h0, .inr (8, [.ref q1, .ref q2, .ref q4, .ref q6, .ref q8, .ref q10, .null, .int 0, .int 0])) :: ((((WX4 cy q2 u3 ++ WX5 cy q4 u5) ++ WX0 cy q6 u7) ++ WX3 cy q8 u9) ++ WX2 cy q10 u11) : va_W)) rfl ?_
  refine rc_aload_n Z dX8_init_68 rfl (lv_at hl 0 rfl) ?_
  refine rc_bipush (v := 6) Z dX8_init_69 rfl ?_
  refine rc_newa (ty := .int) (t0 := 0) (N := 6) (a0 := (6, .inl (fun _ => 0))) Z wm_11 rfl (fun _ h => by cases h) rfl (fun _ => rfl) (by decide) rfl (by decide) (by decide) (by decide) dX8_init_71 (fun q12 => ?_)
  refine rc_putF (v := .ref q12) Z hN wn_lay8 tyX8_ok nmX8 2 rfl rfl 6 (by decide) wm_363 rfl rfl rfl rfl rfl (Nat.le_of_ble_eq_true rfl) dX8_init_73 (ws2 := ((q12, .inl (cy 0, 6, .inl (fun _ => 0))) :: (q1, .inl (cy 4, 6, .inr (.inr (.inr (.inr (fun _ => none)))))) :: (h0, .inr (8, [.ref q1, .ref q2, .ref q4, .ref q6, .ref q8, .ref q10, .ref q12, .int 0, .int 0])) :: ((((WX4 cy q2 u3 ++ WX5 cy q4 u5) ++ WX0 cy q6 u7) ++ WX3 cy q8 u9) ++ WX2 cy q10 u11) : va_W)) rfl ?_
  refine rc_aload_n Z dX8_init_76 rfl (lv_at hl 0 rfl) ?_
  refine rc_iconst (v := 0) Z dX8_init_77 rfl ?_
  refine rc_put (v := .int 0) Z wn_lay8 tyX8_ok nmX8 2 rfl rfl 7 (by decide) wm_364 rfl rfl rfl rfl (Nat.le_of_ble_eq_true rfl) dX8_init_78 (ws2 := ((q12, .inl (cy 0, 6, .inl (fun _ => 0))) :: (q1, .inl (cy 4, 6, .inr (.inr (.inr (.inr (fun _ => none)))))) :: (h0, .inr (8, [.ref q1, .ref q2, .ref q4, .ref q6, .ref q8, .ref q10, .ref q12, .int 0, .int 0])) :: ((((WX4 cy q2 u3 ++ WX5 cy q4 u5) ++ WX0 cy q6 u7) ++ WX3 cy q8 u9) ++ WX2 cy q10 u11) : va_W)) rfl ?_
  refine rc_aload_n Z dX8_init_81 rfl (lv_at hl 0 rfl) ?_
  refine rc_iconst (v := 0) Z dX8_init_82 rfl ?_
  refine rc_put (v := .int 0) Z wn_lay8 tyX8_ok nmX8 2 rfl rfl 8 (by decide) wm_365 rfl rfl rfl rfl (Nat.le_of_ble_eq_true rfl) dX8_init_83 (ws2 := ((q12, .inl (cy 0, 6, .inl (fun _ => 0))) :: (q1, .inl (cy 4, 6, .inr (.inr (.inr (.inr (fun _ => none)))))) :: (h0, .inr (8, [.ref q1, .ref q2, .ref q4, .ref q6, .ref q8, .ref q10, .ref q12, .int 0, .int 0])) :: ((((WX4 cy q2 u3 ++ WX5 cy q4 u5) ++ WX0 cy q6 u7) ++ WX3 cy q8 u9) ++ WX2 cy q10 u11) : va_W)) rfl ?_
  refine rc_iconst (v := 0) Z dX8_init_86 rfl ?_
  refine rc_istore_n (lv2 := [(1, .int 0), (0, .ref h0)])  Z dX8_init_87 rfl hl (by decide) rfl (fun ls hl => ?_)
  refine rc_iload_n Z dX8_init_88 rfl (lv_at hl 0 rfl) ?_
  refine rc_bipush (v := 6) Z dX8_init_89 rfl ?_
  refine rc_icmp_ge Z (tgt := 113) dX8_init_91 (by decide) (fun h => absurd h (by decide)) (fun _ => ?_)
  refine rc_aload_n Z dX8_init_94 rfl (lv_at hl 1 rfl) ?_
  refine rc_get (v := .ref q1) Z wn_lay8 2 rfl rfl 0 (by decide) wm_348 rfl rfl dX8_init_95 ?_
  refine rc_iload_n Z dX8_init_98 rfl (lv_at hl 0 rfl) ?_
  refine rc_new (ci := 6) (fs := [.null, .int 0]) (N := 2) Z wn_lay6 tyX6_ok wm_347 wm_366 wm_28 rfl (fun j hj => by rcases (show j = 0 ∨ j = 1 by omega) with rfl | rfl <;> rfl) (by decide) (by decide) dX8_init_99 (fun q13 => ?_)
  refine rc_dup Z dX8_init_102 rfl ?_
  refine rc_callN Z (Wf := WX6) kX6 ciX6 (List.mem_of_getElem? (i := 9) rfl) (by decide) (by decide) hl.1 (Nat.le_of_ble_eq_true rfl) dX8_init_103 (fun u14 => ?_)
  refine rc_as (ws2 := ((u14, .inl (cy 0, 40, .inl (fun _ => 0))) :: (q13, .inr (6, [.ref u14, .int (-1)])) :: (q12, .inl (cy 0, 6, .inl (fun _ => 0))) :: (q1, .inl (cy 4, 6, .inr (.inr (.inr (.inr (fun _ => none)))))) :: (h0, .inr (8, [.ref q1, .ref q2, .ref q4, .ref q6, .ref q8, .ref q10, .ref q12, .int 0, .int 0])) :: ((((WX4 cy q2 u3 ++ WX5 cy q4 u5) ++ WX0 cy q6 u7) ++ WX3 cy q8 u9) ++ WX2 cy q10 u11) : va_W)) rfl ?_
  refine rc_aast (r := (RX6, TX6, 2)) Z 3 4 1 rfl rfl rfl rfl (show ¬ _ from by decide) dX8_init_106 (ws2 := ((u14, .inl (cy 0, 40, .inl (fun _ => 0))) :: (q13, .inr (6, [.ref u14, .int (-1)])) :: (q12, .inl (cy 0, 6, .inl (fun _ => 0))) :: (q1, .inl (cy 4, 6, .inr (.inr (.inr (.inr (va_up (fun _ => none) 0 (some q13))))))) :: (h0, .inr (8, [.ref q1, .ref q2, .ref q4, .ref q6, .ref q8, .ref q10, .ref q12, .int 0, .int 0])) :: ((((WX4 cy q2 u3 ++ WX5 cy q4 u5) ++ WX0 cy q6 u7) ++ WX3 cy q8 u9) ++ WX2 cy q10 u11) : va_W)) rfl ?_
  refine rc_as (ws2 := WX6 cy q13 u14 ++ ((q12, .inl (cy 0, 6, .inl (fun _ => 0))) :: (q1, .inl (cy 4, 6, .inr (.inr (.inr (.inr (va_up (fun _ => none) 0 (some q13))))))) :: (h0, .inr (8, [.ref q1, .ref q2, .ref q4, .ref q6, .ref q8, .ref q10, .ref q12, .int 0, .int 0])) :: ((((WX4 cy q2 u3 ++ WX5 cy q4 u5) ++ WX0 cy q6 u7) ++ WX3 cy q8 u9) ++ WX2 cy q10 u11))) rfl ?_
  refine rc_swap ?_
  refine rc_as (ws2 := ((q12, .inl (cy 0, 6, .inl (fun _ => 0))) :: (q1, .inl (cy 4, 6, .inr (.inr (.inr (.inr (va_up (fun _ => none) 0 (some q13))))))) :: (h0, .inr (8, [.ref q1, .ref q2, .ref q4, .ref q6, .ref q8, .ref q10, .ref q12, .int 0, .int 0])) :: (((((WX4 cy q2 u3 ++ WX5 cy q4 u5) ++ WX0 cy q6 u7) ++ WX3 cy q8 u9) ++ WX2 cy q10 u11) ++ WX6 cy q13 u14) : va_W)) rfl ?_
  refine rc_iinc (j := 0) (v := 1) (lv2 := [(1, .int 1), (0, .ref h0)]) Z dX8_init_107 hl rfl rfl (by decide) rfl (fun ls hl => ?_)
  refine rc_goto Z (tgt := 88) dX8_init_110 (by decide) ?_
  refine rc_iload_n Z dX8_init_88 rfl (lv_at hl 0 rfl) ?_
  refine rc_bipush (v := 6) Z dX8_init_89 rfl ?_
  refine rc_icmp_ge Z (tgt := 113) dX8_init_91 (by decide) (fun h => absurd h (by decide)) (fun _ => ?_)
  refine rc_aload_n Z dX8_init_94 rfl (lv_at hl 1 rfl) ?_
  refine rc_get (v := .ref q1) Z wn_lay8 2 rfl rfl 0 (by decide) wm_348 rfl rfl dX8_init_95 ?_
  refine rc_iload_n Z dX8_init_98 rfl (lv_at hl 0 rfl) ?_
  refine rc_new (ci := 6) (fs := [.null, .int 0]) (N := 2) Z wn_lay6 tyX6_ok wm_347 wm_366 wm_28 rfl (fun j hj => by rcases (show j = 0 ∨ j = 1 by omega) with rfl | rfl <;> rfl) (by decide) (by decide) dX8_init_99 (fun q15 => ?_)
  refine rc_dup Z dX8_init_102 rfl ?_
  refine rc_callN Z (Wf := WX6) kX6 ciX6 (List.mem_of_getElem? (i := 9) rfl) (by decide) (by decide) hl.1 (Nat.le_of_ble_eq_true rfl) dX8_init_103 (fun u16 => ?_)
  refine rc_as (ws2 := ((u16, .inl (cy 0, 40, .inl (fun _ => 0))) :: (q15, .inr (6, [.ref u16, .int (-1)])) :: (q12, .inl (cy 0, 6, .inl (fun _ => 0))) :: (q1, .inl (cy 4, 6, .inr (.inr (.inr (.inr (va_up (fun _ => none) 0 (some q13))))))) :: (h0, .inr (8, [.ref q1, .ref q2, .ref q4, .ref q6, .ref q8, .ref q10, .ref q12, .int 0, .int 0])) :: (((((WX4 cy q2 u3 ++ WX5 cy q4 u5) ++ WX0 cy q6 u7) ++ WX3 cy q8 u9) ++ WX2 cy q10 u11) ++ WX6 cy q13 u14) : va_W)) rfl ?_
  refine rc_aast (r := (RX6, TX6, 2)) Z 3 4 1 rfl rfl rfl rfl (show ¬ _ from by decide) dX8_init_106 (ws2 := ((u16, .inl (cy 0, 40, .inl (fun _ => 0))) :: (q15, .inr (6, [.ref u16, .int (-1)])) :: (q12, .inl (cy 0, 6, .inl (fun _ => 0))) :: (q1, .inl (cy 4, 6, .inr (.inr (.inr (.inr (va_up (va_up (fun _ => none) 0 (some q13)) 1 (some q15))))))) :: (h0, .inr (8, [.ref q1, .ref q2, .ref q4, .ref q6, .ref q8, .ref q10, .ref q12, .int 0, .int 0])) :: (((((WX4 cy q2 u3 ++ WX5 cy q4 u5) ++ WX0 cy q6 u7) ++ WX3 cy q8 u9) ++ WX2 cy q10 u11) ++ WX6 cy q13 u14) : va_W)) rfl ?_
  refine rc_as (ws2 := WX6 cy q15 u16 ++ ((q12, .inl (cy 0, 6, .inl (fun _ => 0))) :: (q1, .inl (cy 4, 6, .inr (.inr (.inr (.inr (va_up (va_up (fun _ => none) 0 (some q13)) 1 (some q15))))))) :: (h0, .inr (8, [.ref q1, .ref q2, .ref q4, .ref q6, .ref q8, .ref q10, .ref q12, .int 0, .int 0])) :: (((((WX4 cy q2 u3 ++ WX5 cy q4 u5) ++ WX0 cy q6 u7) ++ WX3 cy q8 u9) ++ WX2 cy q10 u11) ++ WX6 cy q13 u14))) rfl ?_
  refine rc_swap ?_
  refine rc_as (ws2 := ((q12, .inl (cy 0, 6, .inl (fun _ => 0))) :: (q1, .inl (cy 4, 6, .inr (.inr (.inr (.inr (va_up (va_up (fun _ => none) 0 (some q13)) 1 (some q15))))))) :: (h0, .inr (8, [.ref q1, .ref q2, .ref q4, .ref q6, .ref q8, .ref q10, .ref q12, .int 0, .int 0])) :: ((((((WX4 cy q2 u3 ++ WX5 cy q4 u5) ++ WX0 cy q6 u7) ++ WX3 cy q8 u9) ++ WX2 cy q10 u11) ++ WX6 cy q13 u14) ++ WX6 cy q15 u16) : va_W)) rfl ?_
  refine rc_iinc (j := 0) (v := 2) (lv2 := [(1, .int 2), (0, .ref h0)]) Z dX8_init_107 hl rfl rfl (by decide) rfl (fun ls hl => ?_)
  refine rc_goto Z (tgt := 88) dX8_init_110 (by decide) ?_
  refine rc_iload_n Z dX8_init_88 rfl (lv_at hl 0 rfl) ?_
  refine rc_bipush (v := 6) Z dX8_init_89 rfl ?_
  refine rc_icmp_ge Z (tgt := 113) dX8_init_91 (by decide) (fun h => absurd h (by decide)) (fun _ => ?_)
  refine rc_aload_n Z dX8_init_94 rfl (lv_at hl 1 rfl) ?_
  refine rc_get (v := .ref q1) Z wn_lay8 2 rfl rfl 0 (by decide) wm_348 rfl rfl dX8_init_95 ?_
  refine rc_iload_n Z dX8_init_98 rfl (lv_at hl 0 rfl) ?_
  refine rc_new (ci := 6) (fs := [.null, .int 0]) (N := 2) Z wn_lay6 tyX6_ok wm_347 wm_366 wm_28 rfl (fun j hj => by rcases (show j = 0 ∨ j = 1 by omega) with rfl | rfl <;> rfl) (by decide) (by decide) dX8_init_99 (fun q17 => ?_)
  refine rc_dup Z dX8_init_102 rfl ?_
  refine rc_callN Z (Wf := WX6) kX6 ciX6 (List.mem_of_getElem? (i := 9) rfl) (by decide) (by decide) hl.1 (Nat.le_of_ble_eq_true rfl) dX8_init_103 (fun u18 => ?_)
  refine rc_as (ws2 := ((u18, .inl (cy 0, 40, .inl (fun _ => 0))) :: (q17, .inr (6, [.ref u18, .int (-1)])) :: (q12, .inl (cy 0, 6, .inl (fun _ => 0))) :: (q1, .inl (cy 4, 6, .inr (.inr (.inr (.inr (va_up (va_up (fun _ => none) 0 (some q13)) 1 (some q15))))))) :: (h0, .inr (8, [.ref q1, .ref q2, .ref q4, .ref q6, .ref q8, .ref q10, .ref q12, .int 0, .int 0])) :: ((((((WX4 cy q2 u3 ++ WX5 cy q4 u5) ++ WX0 cy q6 u7) ++ WX3 cy q8 u9) ++ WX2 cy q10 u11) ++ WX6 cy q13 u14) ++ WX6 cy q15 u16) : va_W)) rfl ?_
  refine rc_aast (r := (RX6, TX6, 2)) Z 3 4 1 rfl rfl rfl rfl (show ¬ _ from by decide) dX8_init_106 (ws2 := ((u18, .inl (cy 0, 40, .inl (fun _ => 0))) :: (q17, .inr (6, [.ref u18, .int (-1)])) :: (q12, .inl (cy 0, 6, .inl (fun _ => 0))) :: (q1, .inl (cy 4, 6, .inr (.inr (.inr (.inr (va_up (va_up (va_up (fun _ => none) 0 (some q13)) 1 (some q15)) 2 (some q17))))))) :: (h0, .inr (8, [.ref q1, .ref q2, .ref q4, .ref q6, .ref q8, .ref q10, .ref q12, .int 0, .int 0])) :: ((((((WX4 cy q2 u3 ++ WX5 cy q4 u5) ++ WX0 cy q6 u7) ++ WX3 cy q8 u9) ++ WX2 cy q10 u11) ++ WX6 cy q13 u14) ++ WX6 cy q15 u16) : va_W)) rfl ?_
  refine rc_as (ws2 := WX6 cy q17 u18 ++ ((q12, .inl (cy 0, 6, .inl (fun _ => 0))) :: (q1, .inl (cy 4, 6, .inr (.inr (.inr (.inr (va_up (va_up (va_up (fun _ => none) 0 (some q13)) 1 (some q15)) 2 (some q17))))))) :: (h0, .inr (8, [.ref q1, .ref q2, .ref q4, .ref q6, .ref q8, .ref q10, .ref q12, .int 0, .int 0])) :: ((((((WX4 cy q2 u3 ++ WX5 cy q4 u5) ++ WX0 cy q6 u7) ++ WX3 cy q8 u9) ++ WX2 cy q10 u11) ++ WX6 cy q13 u14) ++ WX6 cy q15 u16))) rfl ?_
  refine rc_swap ?_
  refine rc_as (ws2 := ((q12, .inl (cy 0, 6, .inl (fun _ => 0))) :: (q1, .inl (cy 4, 6, .inr (.inr (.inr (.inr (va_up (va_up (va_up (fun _ => none) 0 (some q13)) 1 (some q15)) 2 (some q17))))))) :: (h0, .inr (8, [.ref q1, .ref q2, .ref q4, .ref q6, .ref q8, .ref q10, .ref q12, .int 0, .int 0])) :: (((((((WX4 cy q2 u3 ++ WX5 cy q4 u5) ++ WX0 cy q6 u7) ++ WX3 cy q8 u9) ++ WX2 cy q10 u11) ++ WX6 cy q13 u14) ++ WX6 cy q15 u16) ++ WX6 cy q17 u18) : va_W)) rfl ?_
  refine rc_iinc (j := 0) (v := 3) (lv2 := [(1, .int 3), (0, .ref h0)]) Z dX8_init_107 hl rfl rfl (by decide) rfl (fun ls hl => ?_)
  refine rc_goto Z (tgt := 88) dX8_init_110 (by decide) ?_
  refine rc_iload_n Z dX8_init_88 rfl (lv_at hl 0 rfl) ?_
  refine rc_bipush (v := 6) Z dX8_init_89 rfl ?_
  refine rc_icmp_ge Z (tgt := 113) dX8_init_91 (by decide) (fun h => absurd h (by decide)) (fun _ => ?_)
  refine rc_aload_n Z dX8_init_94 rfl (lv_at hl 1 rfl) ?_
  refine rc_get (v := .ref q1) Z wn_lay8 2 rfl rfl 0 (by decide) wm_348 rfl rfl dX8_init_95 ?_
  refine rc_iload_n Z dX8_init_98 rfl (lv_at hl 0 rfl) ?_
  refine rc_new (ci := 6) (fs := [.null, .int 0]) (N := 2) Z wn_lay6 tyX6_ok wm_347 wm_366 wm_28 rfl (fun j hj => by rcases (show j = 0 ∨ j = 1 by omega) with rfl | rfl <;> rfl) (by decide) (by decide) dX8_init_99 (fun q19 => ?_)
  refine rc_dup Z dX8_init_102 rfl ?_
  refine rc_callN Z (Wf := WX6) kX6 ciX6 (List.mem_of_getElem? (i := 9) rfl) (by decide) (by decide) hl.1 (Nat.le_of_ble_eq_true rfl) dX8_init_103 (fun u20 => ?_)
  refine rc_as (ws2 := ((u20, .inl (cy 0, 40, .inl (fun _ => 0))) :: (q19, .inr (6, [.ref u20, .int (-1)])) :: (q12, .inl (cy 0, 6, .inl (fun _ => 0))) :: (q1, .inl (cy 4, 6, .inr (.inr (.inr (.inr (va_up (va_up (va_up (fun _ => none) 0 (some q13)) 1 (some q15)) 2 (some q17))))))) :: (h0, .inr (8, [.ref q1, .ref q2, .ref q4, .ref q6, .ref q8, .ref q10, .ref q12, .int 0, .int 0])) :: (((((((WX4 cy q2 u3 ++ WX5 cy q4 u5) ++ WX0 cy q6 u7) ++ WX3 cy q8 u9) ++ WX2 cy q10 u11) ++ WX6 cy q13 u14) ++ WX6 cy q15 u16) ++ WX6 cy q17 u18) : va_W)) rfl ?_
  refine rc_aast (r := (RX6, TX6, 2)) Z 3 4 1 rfl rfl rfl rfl (show ¬ _ from by decide) dX8_init_106 (ws2 := ((u20, .inl (cy 0, 40, .inl (fun _ => 0))) :: (q19, .inr (6, [.ref u20, .int (-1)])) :: (q12, .inl (cy 0, 6, .inl (fun _ => 0))) :: (q1, .inl (cy 4, 6, .inr (.inr (.inr (.inr (va_up (va_up (va_up (va_up (fun _ => none) 0 (some q13)) 1 (some q15)) 2 (some q17)) 3 (some q19))))))) :: (h0, .inr (8, [.ref q1, .ref q2, .ref q4, .ref q6, .ref q8, .ref q10, .ref q12, .int 0, .int 0])) :: (((((((WX4 cy q2 u3 ++ WX5 cy q4 u5) ++ WX0 cy q6 u7) ++ WX3 cy q8 u9) ++ WX2 cy q10 u11) ++ WX6 cy q13 u14) ++ WX6 cy q15 u16) ++ WX6 cy q17 u18) : va_W)) rfl ?_
  refine rc_as (ws2 := WX6 cy q19 u20 ++ ((q12, .inl (cy 0, 6, .inl (fun _ => 0))) :: (q1, .inl (cy 4, 6, .inr (.inr (.inr (.inr (va_up (va_up (va_up (va_up (fun _ => none) 0 (some q13)) 1 (some q15)) 2 (some q17)) 3 (some q19))))))) :: (h0, .inr (8, [.ref q1, .ref q2, .ref q4, .ref q6, .ref q8, .ref q10, .ref q12, .int 0, .int 0])) :: (((((((WX4 cy q2 u3 ++ WX5 cy q4 u5) ++ WX0 cy q6 u7) ++ WX3 cy q8 u9) ++ WX2 cy q10 u11) ++ WX6 cy q13 u14) ++ WX6 cy q15 u16) ++ WX6 cy q17 u18))) rfl ?_
  refine rc_swap ?_
  refine rc_as (ws2 := ((q12, .inl (cy 0, 6, .inl (fun _ => 0))) :: (q1, .inl (cy 4, 6, .inr (.inr (.inr (.inr (va_up (va_up (va_up (va_up (fun _ => none) 0 (some q13)) 1 (some q15)) 2 (some q17)) 3 (some q19))))))) :: (h0, .inr (8, [.ref q1, .ref q2, .ref q4, .ref q6, .ref q8, .ref q10, .ref q12, .int 0, .int 0])) :: ((((((((WX4 cy q2 u3 ++ WX5 cy q4 u5) ++ WX0 cy q6 u7) ++ WX3 cy q8 u9) ++ WX2 cy q10 u11) ++ WX6 cy q13 u14) ++ WX6 cy q15 u16) ++ WX6 cy q17 u18) ++ WX6 cy q19 u20) : va_W)) rfl ?_
  refine rc_iinc (j := 0) (v := 4) (lv2 := [(1, .int 4), (0, .ref h0)]) Z dX8_init_107 hl rfl rfl (by decide) rfl (fun ls hl => ?_)
  refine rc_goto Z (tgt := 88) dX8_init_110 (by decide) ?_
  refine rc_iload_n Z dX8_init_88 rfl (lv_at hl 0 rfl) ?_
  refine rc_bipush (v := 6) Z dX8_init_89 rfl ?_
  refine rc_icmp_ge Z (tgt := 113) dX8_init_91 (by decide) (fun h => absurd h (by decide)) (fun _ => ?_)
  refine rc_aload_n Z dX8_init_94 rfl (lv_at hl 1 rfl) ?_
  refine rc_get (v := .ref q1) Z wn_lay8 2 rfl rfl 0 (by decide) wm_348 rfl rfl dX8_init_95 ?_
  refine rc_iload_n Z dX8_init_98 rfl (lv_at hl 0 rfl) ?_
  refine rc_new (ci := 6) (fs := [.null, .int 0]) (N := 2) Z wn_lay6 tyX6_ok wm_347 wm_366 wm_28 rfl (fun j hj => by rcases (show j = 0 ∨ j = 1 by omega) with rfl | rfl <;> rfl) (by decide) (by decide) dX8_init_99 (fun q21 => ?_)
  refine rc_dup Z dX8_init_102 rfl ?_
  refine rc_callN Z (Wf := WX6) kX6 ciX6 (List.mem_of_getElem? (i := 9) rfl) (by decide) (by decide) hl.1 (Nat.le_of_ble_eq_true rfl) dX8_init_103 (fun u22 => ?_)
  refine rc_as (ws2 := ((u22, .inl (cy 0, 40, .inl (fun _ => 0))) :: (q21, .inr (6, [.ref u22, .int (-1)])) :: (q12, .inl (cy 0, 6, .inl (fun _ => 0))) :: (q1, .inl (cy 4, 6, .inr (.inr (.inr (.inr (va_up (va_up (va_up (va_up (fun _ => none) 0 (some q13)) 1 (some q15)) 2 (some q17)) 3 (some q19))))))) :: (h0, .inr (8, [.ref q1, .ref q2, .ref q4, .ref q6, .ref q8, .ref q10, .ref q12, .int 0, .int 0])) :: ((((((((WX4 cy q2 u3 ++ WX5 cy q4 u5) ++ WX0 cy q6 u7) ++ WX3 cy q8 u9) ++ WX2 cy q10 u11) ++ WX6 cy q13 u14) ++ WX6 cy q15 u16) ++ WX6 cy q17 u18) ++ WX6 cy q19 u20) : va_W)) rfl ?_
  refine rc_aast (r := (RX6, TX6, 2)) Z 3 4 1 rfl rfl rfl rfl (show ¬ _ from by decide) dX8_init_106 (ws2 := ((u22, .inl (cy 0, 40, .inl (fun _ => 0))) :: (q21, .inr (6, [.ref u22, .int (-1)])) :: (q12, .inl (cy 0, 6, .inl (fun _ => 0))) :: (q1, .inl (cy 4, 6, .inr (.inr (.inr (.inr (va_up (va_up (va_up (va_up (va_up (fun _ => none) 0 (some q13)) 1 (some q15)) 2 (some q17)) 3 (some q19)) 4 (some q21))))))) :: (h0, .inr (8, [.ref q1, .ref q2, .ref q4, .ref q6, .ref q8, .ref q10, .ref q12, .int 0, .int 0])) :: ((((((((WX4 cy q2 u3 ++ WX5 cy q4 u5) ++ WX0 cy q6 u7) ++ WX3 cy q8 u9) ++ WX2 cy q10 u11) ++ WX6 cy q13 u14) ++ WX6 cy q15 u16) ++ WX6 cy q17 u18) ++ WX6 cy q19 u20) : va_W)) rfl ?_
  refine rc_as (ws2 := WX6 cy q21 u22 ++ ((q12, .inl (cy 0, 6, .inl (fun _ => 0))) :: (q1, .inl (cy 4, 6, .inr (.inr (.inr (.inr (va_up (va_up (va_up (va_up (va_up (fun _ => none) 0 (some q13)) 1 (some q15)) 2 (some q17)) 3 (some q19)) 4 (some q21))))))) :: (h0, .inr (8, [.ref q1, .ref q2, .ref q4, .ref q6, .ref q8, .ref q10, .ref q12, .int 0, .int 0])) :: ((((((((WX4 cy q2 u3 ++ WX5 cy q4 u5) ++ WX0 cy q6 u7) ++ WX3 cy q8 u9) ++ WX2 cy q10 u11) ++ WX6 cy q13 u14) ++ WX6 cy q15 u16) ++ WX6 cy q17 u18) ++ WX6 cy q19 u20))) rfl ?_
  refine rc_swap ?_
  refine rc_as (ws2 := ((q12, .inl (cy 0, 6, .inl (fun _ => 0))) :: (q1, .inl (cy 4, 6, .inr (.inr (.inr (.inr (va_up (va_up (va_up (va_up (va_up (fun _ => none) 0 (some q13)) 1 (some q15)) 2 (some q17)) 3 (some q19)) 4 (some q21))))))) :: (h0, .inr (8, [.ref q1, .ref q2, .ref q4, .ref q6, .ref q8, .ref q10, .ref q12, .int 0, .int 0])) :: (((((((((WX4 cy q2 u3 ++ WX5 cy q4 u5) ++ WX0 cy q6 u7) ++ WX3 cy q8 u9) ++ WX2 cy q10 u11) ++ WX6 cy q13 u14) ++ WX6 cy q15 u16) ++ WX6 cy q17 u18) ++ WX6 cy q19 u20) ++ WX6 cy q21 u22) : va_W)) rfl ?_
  refine rc_iinc (j := 0) (v := 5) (lv2 := [(1, .int 5), (0, .ref h0)]) Z dX8_init_107 hl rfl rfl (by decide) rfl (fun ls hl => ?_)
  refine rc_goto Z (tgt := 88) dX8_init_110 (by decide) ?_
  refine rc_iload_n Z dX8_init_88 rfl (lv_at hl 0 rfl) ?_
  refine rc_bipush (v := 6) Z dX8_init_89 rfl ?_
  refine rc_icmp_ge Z (tgt := 113) dX8_init_91 (by decide) (fun h => absurd h (by decide)) (fun _ => ?_)
  refine rc_aload_n Z dX8_init_94 rfl (lv_at hl 1 rfl) ?_
  refine rc_get (v := .ref q1) Z wn_lay8 2 rfl rfl 0 (by decide) wm_348 rfl rfl dX8_init_95 ?_
  refine rc_iload_n Z dX8_init_98 rfl (lv_at hl 0 rfl) ?_
  refine rc_new (ci := 6) (fs := [.null, .int 0]) (N := 2) Z wn_lay6 tyX6_ok wm_347 wm_366 wm_28 rfl (fun j hj => by rcases (show j = 0 ∨ j = 1 by omega) with rfl | rfl <;> rfl) (by decide) (by decide) dX8_init_99 (fun q23 => ?_)
  refine rc_dup Z dX8_init_102 rfl ?_
  refine rc_callN Z (Wf := WX6) kX6 ciX6 (List.mem_of_getElem? (i := 9) rfl) (by decide) (by decide) hl.1 (Nat.le_of_ble_eq_true rfl) dX8_init_103 (fun u24 => ?_)
  refine rc_as (ws2 := ((u24, .inl (cy 0, 40, .inl (fun _ => 0))) :: (q23, .inr (6, [.ref u24, .int (-1)])) :: (q12, .inl (cy 0, 6, .inl (fun _ => 0))) :: (q1, .inl (cy 4, 6, .inr (.inr (.inr (.inr (va_up (va_up (va_up (va_up (va_up (fun _ => none) 0 (some q13)) 1 (some q15)) 2 (some q17)) 3 (some q19)) 4 (some q21))))))) :: (h0, .inr (8, [.ref q1, .ref q2, .ref q4, .ref q6, .ref q8, .ref q10, .ref q12, .int 0, .int 0])) :: (((((((((WX4 cy q2 u3 ++ WX5 cy q4 u5) ++ WX0 cy q6 u7) ++ WX3 cy q8 u9) ++ WX2 cy q10 u11) ++ WX6 cy q13 u14) ++ WX6 cy q15 u16) ++ WX6 cy q17 u18) ++ WX6 cy q19 u20) ++ WX6 cy q21 u22) : va_W)) rfl ?_
  refine rc_aast (r := (RX6, TX6, 2)) Z 3 4 1 rfl rfl rfl rfl (show ¬ _ from by decide) dX8_init_106 (ws2 := ((u24, .inl (cy 0, 40, .inl (fun _ => 0))) :: (q23, .inr (6, [.ref u24, .int (-1)])) :: (q12, .inl (cy 0, 6, .inl (fun _ => 0))) :: (q1, .inl (cy 4, 6, .inr (.inr (.inr (.inr (va_up (va_up (va_up (va_up (va_up (va_up (fun _ => none) 0 (some q13)) 1 (some q15)) 2 (some q17)) 3 (some q19)) 4 (some q21)) 5 (some q23))))))) :: (h0, .inr (8, [.ref q1, .ref q2, .ref q4, .ref q6, .ref q8, .ref q10, .ref q12, .int 0, .int 0])) :: (((((((((WX4 cy q2 u3 ++ WX5 cy q4 u5) ++ WX0 cy q6 u7) ++ WX3 cy q8 u9) ++ WX2 cy q10 u11) ++ WX6 cy q13 u14) ++ WX6 cy q15 u16) ++ WX6 cy q17 u18) ++ WX6 cy q19 u20) ++ WX6 cy q21 u22) : va_W)) rfl ?_
  refine rc_as (ws2 := WX6 cy q23 u24 ++ ((q12, .inl (cy 0, 6, .inl (fun _ => 0))) :: (q1, .inl (cy 4, 6, .inr (.inr (.inr (.inr (va_up (va_up (va_up (va_up (va_up (va_up (fun _ => none) 0 (some q13)) 1 (some q15)) 2 (some q17)) 3 (some q19)) 4 (some q21)) 5 (some q23))))))) :: (h0, .inr (8, [.ref q1, .ref q2, .ref q4, .ref q6, .ref q8, .ref q10, .ref q12, .int 0, .int 0])) :: (((((((((WX4 cy q2 u3 ++ WX5 cy q4 u5) ++ WX0 cy q6 u7) ++ WX3 cy q8 u9) ++ WX2 cy q10 u11) ++ WX6 cy q13 u14) ++ WX6 cy q15 u16) ++ WX6 cy q17 u18) ++ WX6 cy q19 u20) ++ WX6 cy q21 u22))) rfl ?_
  refine rc_swap ?_
  refine rc_as (ws2 := ((q12, .inl (cy 0, 6, .inl (fun _ => 0))) :: (q1, .inl (cy 4, 6, .inr (.inr (.inr (.inr (va_up (va_up (va_up (va_up (va_up (va_up (fun _ => none) 0 (some q13)) 1 (some q15)) 2 (some q17)) 3 (some q19)) 4 (some q21)) 5 (some q23))))))) :: (h0, .inr (8, [.ref q1, .ref q2, .ref q4, .ref q6, .ref q8, .ref q10, .ref q12, .int 0, .int 0])) :: ((((((((((WX4 cy q2 u3 ++ WX5 cy q4 u5) ++ WX0 cy q6 u7) ++ WX3 cy q8 u9) ++ WX2 cy q10 u11) ++ WX6 cy q13 u14) ++ WX6 cy q15 u16) ++ WX6 cy q17 u18) ++ WX6 cy q19 u20) ++ WX6 cy q21 u22) ++ WX6 cy q23 u24) : va_W)) rfl ?_
  refine rc_iinc (j := 0) (v := 6) (lv2 := [(1, .int 6), (0, .ref h0)]) Z dX8_init_107 hl rfl rfl (by decide) rfl (fun ls hl => ?_)
  refine rc_goto Z (tgt := 88) dX8_init_110 (by decide) ?_
  refine rc_iload_n Z dX8_init_88 rfl (lv_at hl 0 rfl) ?_
  refine rc_bipush (v := 6) Z dX8_init_89 rfl ?_
  refine rc_icmp_ge Z (tgt := 113) dX8_init_91 (by decide) (fun _ => ?_) (fun h => absurd (by decide) h)
  exact rc_ret Z hQ (q1, q2, u3, q4, u5, q6, u7, q8, u9, q10, u11, q12, q13, u14, q15, u16, q17, u18, q19, u20, q21, u22, q23, u24) rfl (by decide) (by decide) dX8_init_113

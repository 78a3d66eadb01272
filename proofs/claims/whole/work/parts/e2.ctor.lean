/-! the constructors (3) -/
abbrev SX4 : Type := Nat × Nat × SX0 × Nat × SX7 × Nat × SX2 × Nat × SX2 × Nat × SX1 × Nat × SX1 × Nat × SX1 × Nat × SX1
def WX4 (cy : Nat → ClassId) (h0 : Nat) (u : SX4) : va_W := ((u.1, .inl (cy 3, 4, .inr (.inr (.inr (.inr (va_up (va_up (va_up (va_up (fun _ => none) 0 (some u.2.2.2.2.2.2.2.2.2.1)) 1 (some u.2.2.2.2.2.2.2.2.2.2.2.1)) 2 (some u.2.2.2.2.2.2.2.2.2.2.2.2.2.1)) 3 (some u.2.2.2.2.2.2.2.2.2.2.2.2.2.2.2.1))))))) :: (h0, .inr (4, [.ref u.1, .ref u.2.1, .ref u.2.2.2.1, .ref u.2.2.2.2.2.1, .ref u.2.2.2.2.2.2.2.1])) :: (((((((WX0 cy u.2.1 u.2.2.1 ++ WX7 cy u.2.2.2.1 u.2.2.2.2.1) ++ WX2 cy u.2.2.2.2.2.1 u.2.2.2.2.2.2.1) ++ WX2 cy u.2.2.2.2.2.2.2.1 u.2.2.2.2.2.2.2.2.1) ++ WX1 cy u.2.2.2.2.2.2.2.2.2.1 u.2.2.2.2.2.2.2.2.2.2.1) ++ WX1 cy u.2.2.2.2.2.2.2.2.2.2.2.1 u.2.2.2.2.2.2.2.2.2.2.2.2.1) ++ WX1 cy u.2.2.2.2.2.2.2.2.2.2.2.2.2.1 u.2.2.2.2.2.2.2.2.2.2.2.2.2.2.1) ++ WX1 cy u.2.2.2.2.2.2.2.2.2.2.2.2.2.2.2.1 u.2.2.2.2.2.2.2.2.2.2.2.2.2.2.2.2) : va_W)
abbrev rmX4 : Room := { frames := 3, cells := 36, slots := 188, locals := 52 }
theorem ciX4 : wn_cI yX4_init cX4_init 2 := ⟨wm_168, wm_180, wm_368, rfl, by decide +kernel⟩
set_option maxHeartbeats 4000000 in
set_option maxRecDepth 100000 in
theorem kX4 : KC yX4_init cX4_init 2 rmX4 4 [.null, .null, .null, .null, .null] WX4 := by
  refine wn_enterC (own := RX4) (by decide) rfl rfl (by decide) (fun cy X h0 ls Z hN hQ hl => ?_)
  refine rc_aload_n Z dX4_init_0 rfl (lv_at hl 0 rfl) ?_
  refine rc_objInit Z wm_152 (by decide) (Nat.le_of_ble_eq_true rfl) hl.1 dX4_init_1 ?_
  refine rc_aload_n Z dX4_init_4 rfl (lv_at hl 0 rfl) ?_
  refine rc_iconst (v := 4) Z dX4_init_5 rfl ?_
  refine rc_newq (t0 := 3) (N := 4) Z wm_153 (fun U h => h.2.1) rfl (by decide) rfl (by decide) (by decide) (by decide) dX4_init_6 (fun q1 => ?_)
  refine rc_putF (v := .ref q1) Z hN wn_lay4 tyX4_ok nmX4 1 rfl rfl 0 (by decide) wm_154 rfl rfl rfl rfl rfl (Nat.le_of_ble_eq_true rfl) dX4_init_9 (ws2 := ((q1, .inl (cy 3, 4, .inr (.inr (.inr (.inr (fun _ => none)))))) :: (h0, .inr (4, [.ref q1, .null, .null, .null, .null])) :: [] : va_W)) rfl ?_
  refine rc_aload_n Z dX4_init_12 rfl (lv_at hl 0 rfl) ?_
  refine rc_new (ci := 0) (fs := [.null, .null, .null, .int 0]) (N := 4) Z wn_lay0 tyX0_ok wm_155 wm_156 wm_40 rfl (fun j hj => by rcases (show j = 0 ∨ j = 1 ∨ j = 2 ∨ j = 3 by omega) with rfl | rfl | rfl | rfl <;> rfl) (by decide) (by decide) dX4_init_13 (fun q2 => ?_)
  refine rc_dup Z dX4_init_16 rfl ?_
  refine rc_callN Z (Wf := WX0) kX0 ciX0 (List.mem_of_getElem? (i := 0) rfl) (by decide) (by decide) hl.1 (Nat.le_of_ble_eq_true rfl) dX4_init_17 (fun u3 => ?_)
  refine rc_swap ?_
  refine rc_as (ws2 := ((q1, .inl (cy 3, 4, .inr (.inr (.inr (.inr (fun _ => none)))))) :: (h0, .inr (4, [.ref q1, .null, .null, .null, .null])) :: WX0 cy q2 u3 : va_W)) rfl ?_
  refine rc_putF (v := .ref q2) Z hN wn_lay4 tyX4_ok nmX4 1 rfl rfl 1 (by decide) wm_157 rfl rfl rfl rfl rfl (Nat.le_of_ble_eq_true rfl) dX4_init_20 (ws2 := ((q1, .inl (cy 3, 4, .inr (.inr (.inr (.inr (fun _ => none)))))) :: (h0, .inr (4, [.ref q1, .ref q2, .null, .null, .null])) :: WX0 cy q2 u3 : va_W)) rfl ?_
  refine rc_aload_n Z dX4_init_23 rfl (lv_at hl 0 rfl) ?_
  refine rc_new (ci := 7) (fs := [.null, .int 0]) (N := 2) Z wn_lay7 tyX7_ok wm_158 wm_15 wm_16 rfl (fun j hj => by rcases (show j = 0 ∨ j = 1 by omega) with rfl | rfl <;> rfl) (by decide) (by decide) dX4_init_24 (fun q4 => ?_)
  refine rc_dup Z dX4_init_27 rfl ?_
  refine rc_callN Z (Wf := WX7) kX7 ciX7 (List.mem_of_getElem? (i := 2) rfl) (by decide) (by decide) hl.1 (Nat.le_of_ble_eq_true rfl) dX4_init_28 (fun u5 => ?_)
  refine rc_swap ?_
  refine rc_as (ws2 := ((q1, .inl (cy 3, 4, .inr (.inr (.inr (.inr (fun _ => none)))))) :: (h0, .inr (4, [.ref q1, .ref q2, .null, .null, .null])) :: (WX0 cy q2 u3 ++ WX7 cy q4 u5) : va_W)) rfl ?_
  refine rc_putF (v := .ref q4) Z hN wn_lay4 tyX4_ok nmX4 1 rfl rfl 2 (by decide) wm_159 rfl rfl rfl rfl rfl (Nat.le_of_ble_eq_true rfl) dX4_init_31 (ws2 := ((q1, .inl (cy 3, 4, .inr (.inr (.inr (.inr (fun _ => none)))))) :: (h0, .inr (4, [.ref q1, .ref q2, .ref q4, .null, .null])) :: (WX0 cy q2 u3 ++ WX7 cy q4 u5) : va_W)) rfl ?_
  refine rc_aload_n Z dX4_init_34 rfl (lv_at hl 0 rfl) ?_
  refine rc_new (ci := 2) (fs := [.long 0, .long 0]) (N := 2) Z wn_lay2 tyX2_ok wm_160 wm_161 wm_94 rfl (fun j hj => by rcases (show j = 0 ∨ j = 1 by omega) with rfl | rfl <;> rfl) (by decide) (by decide) dX4_init_35 (fun q6 => ?_)
  refine rc_dup Z dX4_init_38 rfl ?_
  refine rc_callN Z (Wf := WX2) kX2 ciX2 (List.mem_of_getElem? (i := 3) rfl) (by decide) (by decide) hl.1 (Nat.le_of_ble_eq_true rfl) dX4_init_39 (fun u7 => ?_)
  refine rc_swap ?_
  refine rc_as (ws2 := ((q1, .inl (cy 3, 4, .inr (.inr (.inr (.inr (fun _ => none)))))) :: (h0, .inr (4, [.ref q1, .ref q2, .ref q4, .null, .null])) :: ((WX0 cy q2 u3 ++ WX7 cy q4 u5) ++ WX2 cy q6 u7) : va_W)) rfl ?_
  refine rc_putF (v := .ref q6) Z hN wn_lay4 tyX4_ok nmX4 1 rfl rfl 3 (by decide) wm_162 rfl rfl rfl rfl rfl (Nat.le_of_ble_eq_true rfl) dX4_init_42 (ws2 := ((q1, .inl (cy 3, 4, .inr (.inr (.inr (.inr (fun _ => none)))))) :: (h0, .inr (4, [.ref q1, .ref q2, .ref q4, .ref q6, .null])) :: ((WX0 cy q2 u3 ++ WX7 cy q4 u5) ++ WX2 cy q6 u7) : va_W)) rfl ?_
  refine rc_aload_n Z dX4_init_45 rfl (lv_at hl 0 rfl) ?_
  refine rc_new (ci := 2) (fs := [.long 0, .long 0]) (N := 2) Z wn_lay2 tyX2_ok wm_160 wm_161 wm_94 rfl (fun j hj => by rcases (show j = 0 ∨ j = 1 by omega) with rfl | rfl <;> rfl) (by decide) (by decide) dX4_init_46 (fun q8 => ?_)
  refine rc_dup Z dX4_init_49 rfl ?_
  refine rc_callN Z (Wf := WX2) kX2 ciX2 (List.mem_of_getElem? (i := 3) rfl) (by decide) (by decide) hl.1 (Nat.le_of_ble_eq_true rfl) dX4_init_50 (fun u9 => ?_)
  refine rc_swap ?_
  refine rc_as (ws2 := ((q1, .inl (cy 3, 4, .inr (.inr (.inr (.inr (fun _ => none)))))) :: (h0, .inr (4, [.ref q1, .ref q2, .ref q4, .ref q6, .null])) :: (((WX0 cy q2 u3 ++ WX7 cy q4 u5) ++ WX2 cy q6 u7) ++ WX2 cy q8 u9) : va_W)) rfl ?_
  refine rc_putF (v := .ref q8) Z hN wn_lay4 tyX4_ok nmX4 1 rfl rfl 4 (by decide) wm_163 rfl rfl rfl rfl rfl (Nat.le_of_ble_eq_true rfl) dX4_init_53 (ws2 := ((q1, .inl (cy 3, 4, .inr (.inr (.inr (.inr (fun _ => none)))))) :: (h0, .inr (4, [.ref q1, .ref q2, .ref q4, .ref q6, .ref q8])) :: (((WX0 cy q2 u3 ++ WX7 cy q4 u5) ++ WX2 cy q6 u7) ++ WX2 cy q8 u9) : va_W)) rfl ?_
  refine rc_iconst (v := 0) Z dX4_init_56 rfl ?_
  refine rc_istore_n (lv2 := [(1, .int 0), (0, .ref h0)])  Z dX4_init_57 rfl hl (by decide) rfl (fun ls hl => ?_)
  refine rc_iload_n Z dX4_init_58 rfl (lv_at hl 0 rfl) ?_
  refine rc_iconst (v := 4) Z dX4_init_59 rfl ?_
  refine rc_icmp_ge Z (tgt := 82) dX4_init_60 (by decide) (fun h => absurd h (by decide)) (fun _ => ?_)
  refine rc_aload_n Z dX4_init_63 rfl (lv_at hl 1 rfl) ?_
  refine rc_get (v := .ref q1) Z wn_lay4 1 rfl rfl 0 (by decide) wm_154 rfl rfl dX4_init_64 ?_
  refine rc_iload_n Z dX4_init_67 rfl (lv_at hl 0 rfl) ?_
  refine rc_new (ci := 1) (fs := [.null, .int 0, .int 0, .int 0, .int 0, .int 0]) (N := 6) Z wn_lay1 tyX1_ok wm_153 wm_164 wm_122 rfl (fun j hj => by rcases (show j = 0 ∨ j = 1 ∨ j = 2 ∨ j = 3 ∨ j = 4 ∨ j = 5 by omega) with rfl | rfl | rfl | rfl | rfl | rfl <;> rfl) (by decide) (by decide) dX4_init_68 (fun q10 => ?_)
  refine rc_dup Z dX4_init_71 rfl ?_
  refine rc_callN Z (Wf := WX1) kX1 ciX1 (List.mem_of_getElem? (i := 4) rfl) (by decide) (by decide) hl.1 (Nat.le_of_ble_eq_true rfl) dX4_init_72 (fun u11 => ?_)
  refine rc_as (ws2 := ((u11, .inl (cy 0, 4, .inl (fun _ => 0))) :: (q10, .inr (1, [.ref u11, .int (-1), .int 1, .int 1, .int 1, .int 0])) :: (q1, .inl (cy 3, 4, .inr (.inr (.inr (.inr (fun _ => none)))))) :: (h0, .inr (4, [.ref q1, .ref q2, .ref q4, .ref q6, .ref q8])) :: (((WX0 cy q2 u3 ++ WX7 cy q4 u5) ++ WX2 cy q6 u7) ++ WX2 cy q8 u9) : va_W)) rfl ?_
  refine rc_aast (r := (RX1, TX1, 6)) Z 2 3 1 rfl rfl rfl rfl (show ¬ _ from by decide) dX4_init_75 (ws2 := ((u11, .inl (cy 0, 4, .inl (fun _ => 0))) :: (q10, .inr (1, [.ref u11, .int (-1), .int 1, .int 1, .int 1, .int 0])) :: (q1, .inl (cy 3, 4, .inr (.inr (.inr (.inr (va_up (fun _ => none) 0 (some q10))))))) :: (h0, .inr (4, [.ref q1, .ref q2, .ref q4, .ref q6, .ref q8])) :: (((WX0 cy q2 u3 ++ WX7 cy q4 u5) ++ WX2 cy q6 u7) ++ WX2 cy q8 u9) : va_W)) rfl ?_
  refine rc_as (ws2 := WX1 cy q10 u11 ++ ((q1, .inl (cy 3, 4, .inr (.inr (.inr (.inr (va_up (fun _ => none) 0 (some q10))))))) :: (h0, .inr (4, [.ref q1, .ref q2, .ref q4, .ref q6, .ref q8])) :: (((WX0 cy q2 u3 ++ WX7 cy q4 u5) ++ WX2 cy q6 u7) ++ WX2 cy q8 u9))) rfl ?_
  refine rc_swap ?_
  refine rc_as (ws2 := ((q1, .inl (cy 3, 4, .inr (.inr (.inr (.inr (va_up (fun _ => none) 0 (some q10))))))) :: (h0, .inr (4, [.ref q1, .ref q2, .ref q4, .ref q6, .ref q8])) :: ((((WX0 cy q2 u3 ++ WX7 cy q4 u5) ++ WX2 cy q6 u7) ++ WX2 cy q8 u9) ++ WX1 cy q10 u11) : va_W)) rfl ?_
  refine rc_iinc (j := 0) (v := 1) (lv2 := [(1, .int 1), (0, .ref h0)]) Z dX4_init_76 hl rfl rfl (by decide) rfl (fun ls hl => ?_)
  refine rc_goto Z (tgt := 58) dX4_init_79 (by decide) ?_
  refine rc_iload_n Z dX4_init_58 rfl (lv_at hl 0 rfl) ?_
  refine rc_iconst (v := 4) Z dX4_init_59 rfl ?_
  refine rc_icmp_ge Z (tgt := 82) dX4_init_60 (by decide) (fun h => absurd h (by decide)) (fun _ => ?_)
  refine rc_aload_n Z dX4_init_63 rfl (lv_at hl 1 rfl) ?_
  refine rc_get (v := .ref q1) Z wn_lay4 1 rfl rfl 0 (by decide) wm_154 rfl rfl dX4_init_64 ?_
  refine rc_iload_n Z dX4_init_67 rfl (lv_at hl 0 rfl) ?_
  refine rc_new (ci := 1) (fs := [.null, .int 0, .int 0, .int 0, .int 0, .int 0]) (N := 6) Z wn_lay1 tyX1_ok wm_153 wm_164 wm_122 rfl (fun j hj => by rcases (show j = 0 ∨ j = 1 ∨ j = 2 ∨ j = 3 ∨ j = 4 ∨ j = 5 by omega) with rfl | rfl | rfl | rfl | rfl | rfl <;> rfl) (by decide) (by decide) dX4_init_68 (fun q12 => ?_)
  refine rc_dup Z dX4_init_71 rfl ?_
  refine rc_callN Z (Wf := WX1) kX1 ciX1 (List.mem_of_getElem? (i := 4) rfl) (by decide) (by decide) hl.1 (Nat.le_of_ble_eq_true rfl) dX4_init_72 (fun u13 => ?_)
  refine rc_as (ws2 := ((u13, .inl (cy 0, 4, .inl (fun _ => 0))) :: (q12, .inr (1, [.ref u13, .int (-1), .int 1, .int 1, .int 1, .int 0])) :: (q1, .inl (cy 3, 4, .inr (.inr (.inr (.inr (va_up (fun _ => none) 0 (some q10))))))) :: (h0, .inr (4, [.ref q1, .ref q2, .ref q4, .ref q6, .ref q8])) :: ((((WX0 cy q2 u3 ++ WX7 cy q4 u5) ++ WX2 cy q6 u7) ++ WX2 cy q8 u9) ++ WX1 cy q10 u11) : va_W)) rfl ?_
  refine rc_aast (r := (RX1, TX1, 6)) Z 2 3 1 rfl rfl rfl rfl (show ¬ _ from by decide) dX4_init_75 (ws2 := ((u13, .inl (cy 0, 4, .inl (fun _ => 0))) :: (q12, .inr (1, [.ref u13, .int (-1), .int 1, .int 1, .int 1, .int 0])) :: (q1, .inl (cy 3, 4, .inr (.inr (.inr (.inr (va_up (va_up (fun _ => none) 0 (some q10)) 1 (some q12))))))) :: (h0, .inr (4, [.ref q1, .ref q2, .ref q4, .ref q6, .ref q8])) :: ((((WX0 cy q2 u3 ++ WX7 cy q4 u5) ++ WX2 cy q6 u7) ++ WX2 cy q8 u9) ++ WX1 cy q10 u11) : va_W)) rfl ?_
  refine rc_as (ws2 := WX1 cy q12 u13 ++ ((q1, .inl (cy 3, 4, .inr (.inr (.inr (.inr (va_up (va_up (fun _ => none) 0 (some q10)) 1 (some q12))))))) :: (h0, .inr (4, [.ref q1, .ref q2, .ref q4, .ref q6, .ref q8])) :: ((((WX0 cy q2 u3 ++ WX7 cy q4 u5) ++ WX2 cy q6 u7) ++ WX2 cy q8 u9) ++ WX1 cy q10 u11))) rfl ?_
  refine rc_swap ?_
  refine rc_as (ws2 := ((q1, .inl (cy 3, 4, .inr (.inr (.inr (.inr (va_up (va_up (fun _ => none) 0 (some q10)) 1 (some q12))))))) :: (h0, .inr (4, [.ref q1, .ref q2, .ref q4, .ref q6, .ref q8])) :: (((((WX0 cy q2 u3 ++ WX7 cy q4 u5) ++ WX2 cy q6 u7) ++ WX2 cy q8 u9) ++ WX1 cy q10 u11) ++ WX1 cy q12 u13) : va_W)) rfl ?_
  refine rc_iinc (j := 0) (v := 2) (lv2 := [(1, .int 2), (0, .ref h0)]) Z dX4_init_76 hl rfl rfl (by decide) rfl (fun ls hl => ?_)
  refine rc_goto Z (tgt := 58) dX4_init_79 (by decide) ?_
  refine rc_iload_n Z dX4_init_58 rfl (lv_at hl 0 rfl) ?_
  refine rc_iconst (v := 4) Z dX4_init_59 rfl ?_
  refine rc_icmp_ge Z (tgt := 82) dX4_init_60 (by decide) (fun h => absurd h (by decide)) (fun _ => ?_)
  refine rc_aload_n Z dX4_init_63 rfl (lv_at hl 1 rfl) ?_
  refine rc_get (v := .ref q1) Z wn_lay4 1 rfl rfl 0 (by decide) wm_154 rfl rfl dX4_init_64 ?_
  refine rc_iload_n Z dX4_init_67 rfl (lv_at hl 0 rfl) ?_
  refine rc_new (ci := 1) (fs := [.null, .int 0, .int 0, .int 0, .int 0, .int 0]) (N := 6) Z wn_lay1 tyX1_ok wm_153 wm_164 wm_122 rfl (fun j hj => by rcases (show j = 0 ∨ j = 1 ∨ j = 2 ∨ j = 3 ∨ j = 4 ∨ j = 5 by omega) with rfl | rfl | rfl | rfl | rfl | rfl <;> rfl) (by decide) (by decide) dX4_init_68 (fun q14 => ?_)
  refine rc_dup Z dX4_init_71 rfl ?_
  refine rc_callN Z (Wf := WX1) kX1 ciX1 (List.mem_of_getElem? (i := 4) rfl) (by decide) (by decide) hl.1 (Nat.le_of_ble_eq_true rfl) dX4_init_72 (fun u15 => ?_)
  refine rc_as (ws2 := ((u15, .inl (cy 0, 4, .inl (fun _ => 0))) :: (q14, .inr (1, [.ref u15, .int (-1), .int 1, .int 1, .int 1, .int 0])) :: (q1, .inl (cy 3, 4, .inr (.inr (.inr (.inr (va_up (va_up (fun _ => none) 0 (some q10)) 1 (some q12))))))) :: (h0, .inr (4, [.ref q1, .ref q2, .ref q4, .ref q6, .ref q8])) :: (((((WX0 cy q2 u3 ++ WX7 cy q4 u5) ++ WX2 cy q6 u7) ++ WX2 cy q8 u9) ++ WX1 cy q10 u11) ++ WX1 cy q12 u13) : va_W)) rfl ?_
  refine rc_aast (r := (RX1, TX1, 6)) Z 2 3 1 rfl rfl rfl rfl (show ¬ _ from by decide) dX4_init_75 (ws2 := ((u15, .inl (cy 0, 4, .inl (fun _ => 0))) :: (q14, .inr (1, [.ref u15, .int (-1), .int 1, .int 1, .int 1, .int 0])) :: (q1, .inl (cy 3, 4, .inr (.inr (.inr (.inr (va_up (va_up (va_up (fun _ => none) 0 (some q10)) 1 (some q12)) 2 (some q14))))))) :: (h0, .inr (4, [.ref q1, .ref q2, .ref q4, .ref q6, .ref q8])) :: (((((WX0 cy q2 u3 ++ WX7 cy q4 u5) ++ WX2 cy q6 u7) ++ WX2 cy q8 u9) ++ WX1 cy q10 u11) ++ WX1 cy q12 u13) : va_W)) rfl ?_
  refine rc_as (ws2 := WX1 cy q14 u15 ++ ((q1, .inl (cy 3, 4, .inr (.inr (.inr (.inr (va_up (va_up (va_up (fun _ => none) 0 (some q10)) 1 (some q12)) 2 (some q14))))))) :: (h0, .inr (4, [.ref q1, .ref q2, .ref q4, .ref q6, .ref q8])) :: (((((WX0 cy q2 u3 ++ WX7 cy q4 u5) ++ WX2 cy q6 u7) ++ WX2 cy q8 u9) ++ WX1 cy q10 u11) ++ WX1 cy q12 u13))) rfl ?_
  refine rc_swap ?_
  refine rc_as (ws2 := ((q1, .inl (cy 3, 4, .inr (.inr (.inr (.inr (va_up (va_up (va_up (fun _ => none) 0 (some q10)) 1 (some q12)) 2 (some q14))))))) :: (h0, .inr (4, [.ref q1, .ref q2, .ref q4, .ref q6, .ref q8])) :: ((((((WX0 cy q2 u3 ++ WX7 cy q4 u5) ++ WX2 cy q6 u7) ++ WX2 cy q8 u9) ++ WX1 cy q10 u11) ++ WX1 cy q12 u13) ++ WX1 cy q14 u15) : va_W)) rfl ?_
  refine rc_iinc (j := 0) (v := 3) (lv2 := [(1, .int 3), (0, .ref h0)]) Z dX4_init_76 hl rfl rfl (by decide) rfl (fun ls hl => ?_)
  refine rc_goto Z (tgt := 58) dX4_init_79 (by decide) ?_
  refine rc_iload_n Z dX4_init_58 rfl (lv_at hl 0 rfl) ?_
  refine rc_iconst (v := 4) Z dX4_init_59 rfl ?_
  refine rc_icmp_ge Z (tgt := 82) dX4_init_60 (by decide) (fun h => absurd h (by decide)) (fun _ => ?_)
  refine rc_aload_n Z dX4_init_63 rfl (lv_at hl 1 rfl) ?_
  refine rc_get (v := .ref q1) Z wn_lay4 1 rfl rfl 0 (by decide) wm_154 rfl rfl dX4_init_64 ?_
  refine rc_iload_n Z dX4_init_67 rfl (lv_at hl 0 rfl) ?_
  refine rc_new (ci := 1) (fs := [.null, .int 0, .int 0, .int 0, .int 0, .int 0]) (N := 6) Z wn_lay1 tyX1_ok wm_153 wm_164 wm_122 rfl (fun j hj => by rcases (show j = 0 ∨ j = 1 ∨ j = 2 ∨ j = 3 ∨ j = 4 ∨ j = 5 by omega) with rfl | rfl | rfl | rfl | rfl | rfl <;> rfl) (by decide) (by decide) dX4_init_68 (fun q16 => ?_)
  refine rc_dup Z dX4_init_71 rfl ?_
  refine rc_callN Z (Wf := WX1) kX1 ciX1 (List.mem_of_getElem? (i := 4) rfl) (by decide) (by decide) hl.1 (Nat.le_of_ble_eq_true rfl) dX4_init_72 (fun u17 => ?_)
  refine rc_as (ws2 := ((u17, .inl (cy 0, 4, .inl (fun _ => 0))) :: (q16, .inr (1, [.ref u17, .int (-1), .int 1, .int 1, .int 1, .int 0])) :: (q1, .inl (cy 3, 4, .inr (.inr (.inr (.inr (va_up (va_up (va_up (fun _ => none) 0 (some q10)) 1 (some q12)) 2 (some q14))))))) :: (h0, .inr (4, [.ref q1, .ref q2, .ref q4, .ref q6, .ref q8])) :: ((((((WX0 cy q2 u3 ++ WX7 cy q4 u5) ++ WX2 cy q6 u7) ++ WX2 cy q8 u9) ++ WX1 cy q10 u11) ++ WX1 cy q12 u13) ++ WX1 cy q14 u15) : va_W)) rfl ?_
  refine rc_aast (r := (RX1, TX1, 6)) Z 2 3 1 rfl rfl rfl rfl (show ¬ _ from by decide) dX4_init_75 (ws2 := ((u17, .inl (cy 0, 4, .inl (fun _ => 0))) :: (q16, .inr (1, [.ref u17, .int (-1), .int 1, .int 1, .int 1, .int 0])) :: (q1, .inl (cy 3, 4, .inr (.inr (.inr (.inr (va_up (va_up (va_up (va_up (fun _ => none) 0 (some q10)) 1 (some q12)) 2 (some q14)) 3 (some q16))))))) :: (h0, .inr (4, [.ref q1, .ref q2, .ref q4, .ref q6, .ref q8])) :: ((((((WX0 cy q2 u3 ++ WX7 cy q4 u5) ++ WX2 cy q6 u7) ++ WX2 cy q8 u9) ++ WX1 cy q10 u11) ++ WX1 cy q12 u13) ++ WX1 cy q14 u15) : va_W)) rfl ?_
  refine rc_as (ws2 := WX1 cy q16 u17 ++ ((q1, .inl (cy 3, 4, .inr (.inr (.inr (.inr (va_up (va_up (va_up (va_up (fun _ => none) 0 (some q10)) 1 (some q12)) 2 (some q14)) 3 (some q16))))))) :: (h0, .inr (4, [.ref q1, .ref q2, .ref q4, .ref q6, .ref q8])) :: ((((((WX0 cy q2 u3 ++ WX7 cy q4 u5) ++ WX2 cy q6 u7) ++ WX2 cy q8 u9) ++ WX1 cy q10 u11) ++ WX1 cy q12 u13) ++ WX1 cy q14 u15))) rfl ?_
  refine rc_swap ?_
  refine rc_as (ws2 := ((q1, .inl (cy 3, 4, .inr (.inr (.inr (.inr (va_up (va_up (va_up (va_up (fun _ => none) 0 (some q10)) 1 (some q12)) 2 (some q14)) 3 (some q16))))))) :: (h0, .inr (4, [.ref q1, .ref q2, .ref q4, .ref q6, .ref q8])) :: (((((((WX0 cy q2 u3 ++ WX7 cy q4 u5) ++ WX2 cy q6 u7) ++ WX2 cy q8 u9) ++ WX1 cy q10 u11) ++ WX1 cy q12 u13) ++ WX1 cy q14 u15) ++ WX1 cy q16 u17) : va_W)) rfl ?_
  refine rc_iinc (j := 0) (v := 4) (lv2 := [(1, .int 4), (0, .ref h0)]) Z dX4_init_76 hl rfl rfl (by decide) rfl (fun ls hl => ?_)
  refine rc_goto Z (tgt := 58) dX4_init_79 (by decide) ?_
  refine rc_iload_n Z dX4_init_58 rfl (lv_at hl 0 rfl) ?_
  refine rc_iconst (v := 4) Z dX4_init_59 rfl ?_
  refine rc_icmp_ge Z (tgt := 82) dX4_init_60 (by decide) (fun _ => ?_) (fun h => absurd (by decide) h)
  exact rc_ret Z hQ (q1, q2, u3, q4, u5, q6, u7, q8, u9, q10, u11, q12, u13, q14, u15, q16, u17) rfl (by decide) (by decide) dX4_init_82

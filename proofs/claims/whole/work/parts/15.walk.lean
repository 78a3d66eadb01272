theorem dX8_average_0 : decode cX8_average 0 = .ok (.iload_n 1, 1) := by decide +kernel
theorem dX8_average_1 : decode cX8_average 1 = .ok (.invokestatic 62, 3) := by decide +kernel
theorem dX8_average_4 : decode cX8_average 4 = .ok (.ifCond .ne 5, 3) := by decide +kernel
theorem dX8_average_7 : decode cX8_average 7 = .ok (.iconst (-1), 1) := by decide +kernel
theorem dX8_average_8 : decode cX8_average 8 = .ok (.ireturn, 1) := by decide +kernel
theorem dX8_average_9 : decode cX8_average 9 = .ok (.aload_n 0, 1) := by decide +kernel
theorem dX8_average_10 : decode cX8_average 10 = .ok (.getfield 11, 3) := by decide +kernel
theorem dX8_average_13 : decode cX8_average 13 = .ok (.iload_n 1, 1) := by decide +kernel
theorem dX8_average_14 : decode cX8_average 14 = .ok (.aaload, 1) := by decide +kernel
theorem dX8_average_15 : decode cX8_average 15 = .ok (.invokevirtual 74, 3) := by decide +kernel
theorem dX8_average_18 : decode cX8_average 18 = .ok (.ifCond .ne 9, 3) := by decide +kernel
theorem dX8_average_21 : decode cX8_average 21 = .ok (.aload_n 0, 1) := by decide +kernel
theorem dX8_average_22 : decode cX8_average 22 = .ok (.iconst 1, 1) := by decide +kernel
theorem dX8_average_23 : decode cX8_average 23 = .ok (.invokevirtual 66, 3) := by decide +kernel
theorem dX8_average_26 : decode cX8_average 26 = .ok (.ireturn, 1) := by decide +kernel
theorem dX8_average_27 : decode cX8_average 27 = .ok (.aload_n 0, 1) := by decide +kernel
theorem dX8_average_28 : decode cX8_average 28 = .ok (.getfield 11, 3) := by decide +kernel
theorem dX8_average_31 : decode cX8_average 31 = .ok (.iload_n 1, 1) := by decide +kernel
theorem dX8_average_32 : decode cX8_average 32 = .ok (.aaload, 1) := by decide +kernel
theorem dX8_average_33 : decode cX8_average 33 = .ok (.getfield 99, 3) := by decide +kernel
theorem dX8_average_36 : decode cX8_average 36 = .ok (.istore_n 2, 1) := by decide +kernel
theorem dX8_average_37 : decode cX8_average 37 = .ok (.iload_n 2, 1) := by decide +kernel
theorem dX8_average_38 : decode cX8_average 38 = .ok (.ifCond .gt 9, 3) := by decide +kernel
theorem dX8_average_41 : decode cX8_average 41 = .ok (.aload_n 0, 1) := by decide +kernel
theorem dX8_average_42 : decode cX8_average 42 = .ok (.iconst 4, 1) := by decide +kernel
theorem dX8_average_43 : decode cX8_average 43 = .ok (.invokevirtual 66, 3) := by decide +kernel
theorem dX8_average_46 : decode cX8_average 46 = .ok (.ireturn, 1) := by decide +kernel
theorem dX8_average_47 : decode cX8_average 47 = .ok (.aload_n 0, 1) := by decide +kernel
theorem dX8_average_48 : decode cX8_average 48 = .ok (.aload_n 0, 1) := by decide +kernel
theorem dX8_average_49 : decode cX8_average 49 = .ok (.getfield 11, 3) := by decide +kernel
theorem dX8_average_52 : decode cX8_average 52 = .ok (.iload_n 1, 1) := by decide +kernel
theorem dX8_average_53 : decode cX8_average 53 = .ok (.aaload, 1) := by decide +kernel
theorem dX8_average_54 : decode cX8_average 54 = .ok (.invokevirtual 102, 3) := by decide +kernel
theorem dX8_average_57 : decode cX8_average 57 = .ok (.iload_n 2, 1) := by decide +kernel
theorem dX8_average_58 : decode cX8_average 58 = .ok (.i2l, 1) := by decide +kernel
theorem dX8_average_59 : decode cX8_average 59 = .ok (.ldiv, 1) := by decide +kernel
theorem dX8_average_60 : decode cX8_average 60 = .ok (.l2i, 1) := by decide +kernel
theorem dX8_average_61 : decode cX8_average 61 = .ok (.putfield 58, 3) := by decide +kernel
theorem dX8_average_64 : decode cX8_average 64 = .ok (.iconst 1, 1) := by decide +kernel
theorem dX8_average_65 : decode cX8_average 65 = .ok (.ireturn, 1) := by decide +kernel
theorem cv_X8_average : wn_cV yX8_average cX8_average 3 (some .int) RX8 1 := ⟨wm_407, wm_883, wm_884, wm_377, by decide +kernel⟩
abbrev rm_X8_average : Room := rmz 3 65
set_option maxHeartbeats 4000000 in
set_option maxRecDepth 100000 in
theorem c_X8_average {ad : Nat → Nat} {o : Nat} {x1 : Int32} {M : Mm} {q : Int32 × Mm} (ho : shp o = 8) (hF : f_X8_average o x1 M = some q) : KI ad yX8_average cX8_average 3 (some .int) rm_X8_average [.ref (ad o), .int x1] M q.1 q.2 := by
  refine wn_enterI (own := RX8) (by decide) rfl (Nat.le_of_ble_eq_true rfl) (fun X ls Z hQ hl => ?_)
  have hl : lv_has ls 3 [(0, .ref (ad o)), (1, .int x1)] := hl
  unfold f_X8_average at hF
  refine r_iload_n Z dX8_average_0 rfl (lv_at hl 1 rfl) ?_
  obtain ⟨q1, hq1, hF⟩ := bd_some hF
  refine r_invSi [] Z (c_X8_isRowNumber hq1) cv_X8_isRowNumber wm_375 rfl rfl ⟨Nat.le_of_ble_eq_true rfl, Nat.le_of_ble_eq_true rfl⟩ rfl hl.1 rfl (Nat.le_of_ble_eq_true rfl) dX8_average_1 ?_
  refine r_if_ne Z 9 dX8_average_4 (by decide) (fun hc2 => ?_) (fun hc2 => ?_)
  · replace hF := nif_some hc2 hF
    refine r_aload_n Z dX8_average_9 rfl (lv_at hl 0 rfl) ?_
    refine g_8_0 Z ho wm_348 dX8_average_10 ?_
    refine r_iload_n Z dX8_average_13 rfl (lv_at hl 1 rfl) ?_
    obtain ⟨hi3, hF⟩ := ck_some hF
    refine r_aald14 Z (sh_8_0 ho) hi3 dX8_average_14 ?_
    obtain ⟨q4, hq4, hF⟩ := bd_some hF
    refine r_invVi [] Z (c_X6_isThere (se_14 (sh_8_0 ho) hi3) hq4) cv_X6_isThere rfl (shp_lt (se_14 (sh_8_0 ho) hi3) (by decide)) (fun _ _ => ⟨_, ce_6 (se_14 (sh_8_0 ho) hi3)⟩) wm_385 rfl rfl ⟨Nat.le_of_ble_eq_true rfl, Nat.le_of_ble_eq_true rfl⟩ rfl hl.1 rfl (Nat.le_of_ble_eq_true rfl) dX8_average_15 ?_
    refine r_if_ne Z 27 dX8_average_18 (by decide) (fun hc5 => ?_) (fun hc5 => ?_)
    · replace hF := nif_some hc5 hF
      refine r_aload_n Z dX8_average_27 rfl (lv_at hl 0 rfl) ?_
      refine g_8_0 Z ho wm_348 dX8_average_28 ?_
      refine r_iload_n Z dX8_average_31 rfl (lv_at hl 1 rfl) ?_
      obtain ⟨hi6, hF⟩ := ck_some hF
      refine r_aald14 Z (sh_8_0 ho) hi6 dX8_average_32 ?_
      refine g_6_1 Z (se_14 (sh_8_0 ho) hi6) wm_403 dX8_average_33 ?_
      obtain ⟨t7, et7, hF⟩ := nm_some hF
      rw [← et7]
      refine r_istore_n Z [(2, .int t7), (0, .ref (ad o)), (1, .int x1)] dX8_average_36 rfl hl (by decide) rfl (fun ls hl => ?_)
      refine r_iload_n Z dX8_average_37 rfl (lv_at hl 0 rfl) ?_
      refine r_if_gt Z 47 dX8_average_38 (by decide) (fun hc8 => ?_) (fun hc8 => ?_)
      · replace hF := if_some hc8 hF
        refine r_aload_n Z dX8_average_47 rfl (lv_at hl 1 rfl) ?_
        refine r_aload_n Z dX8_average_48 rfl (lv_at hl 1 rfl) ?_
        refine g_8_0 Z ho wm_348 dX8_average_49 ?_
        refine r_iload_n Z dX8_average_52 rfl (lv_at hl 2 rfl) ?_
        obtain ⟨hi9, hF⟩ := ck_some hF
        refine r_aald14 Z (sh_8_0 ho) hi9 dX8_average_53 ?_
        obtain ⟨q10, hq10, hF⟩ := bd_some hF
        refine r_invVl [.ref (ad o)] Z (c_X6_sum (se_14 (sh_8_0 ho) hi9) hq10) cv_X6_sum rfl (shp_lt (se_14 (sh_8_0 ho) hi9) (by decide)) (fun _ _ => ⟨_, ce_6 (se_14 (sh_8_0 ho) hi9)⟩) wm_404 rfl rfl ⟨Nat.le_of_ble_eq_true rfl, Nat.le_of_ble_eq_true rfl⟩ rfl hl.1 rfl (Nat.le_of_ble_eq_true rfl) dX8_average_54 ?_
        refine r_iload_n Z dX8_average_57 rfl (lv_at hl 0 rfl) ?_
        refine r_i2l Z dX8_average_58 ?_
        obtain ⟨hd11, hF⟩ := dvJ_some hF
        refine r_ldiv Z dX8_average_59 hd11 ?_
        refine r_l2i Z dX8_average_60 ?_
        obtain ⟨M12, eM12, hF⟩ := nm_some hF
        refine p_8_8 Z ho wm_365 dX8_average_61 ?_
        rw [← eM12]
        refine r_iconst (v := 1) Z dX8_average_64 (by decide) ?_
        exact r_iret Z hQ hF dX8_average_65
      · replace hF := nif_some hc8 hF
        refine r_aload_n Z dX8_average_41 rfl (lv_at hl 1 rfl) ?_
        refine r_iconst (v := 4) Z dX8_average_42 (by decide) ?_
        obtain ⟨q13, hq13, hF⟩ := bd_some hF
        refine r_invVi [] Z (c_X8_refuse ho hq13) cv_X8_refuse rfl (shp_lt ho (by decide)) (fun _ _ => ⟨_, ce_8 ho⟩) wm_378 rfl rfl ⟨Nat.le_of_ble_eq_true rfl, Nat.le_of_ble_eq_true rfl⟩ rfl hl.1 rfl (Nat.le_of_ble_eq_true rfl) dX8_average_43 ?_
        exact r_iret Z hQ hF dX8_average_46
    · replace hF := if_some hc5 hF
      refine r_aload_n Z dX8_average_21 rfl (lv_at hl 0 rfl) ?_
      refine r_iconst (v := 1) Z dX8_average_22 (by decide) ?_
      obtain ⟨q14, hq14, hF⟩ := bd_some hF
      refine r_invVi [] Z (c_X8_refuse ho hq14) cv_X8_refuse rfl (shp_lt ho (by decide)) (fun _ _ => ⟨_, ce_8 ho⟩) wm_378 rfl rfl ⟨Nat.le_of_ble_eq_true rfl, Nat.le_of_ble_eq_true rfl⟩ rfl hl.1 rfl (Nat.le_of_ble_eq_true rfl) dX8_average_23 ?_
      exact r_iret Z hQ hF dX8_average_26
  · replace hF := if_some hc2 hF
    refine r_iconst (v := (-1)) Z dX8_average_7 (by decide) ?_
    exact r_iret Z hQ hF dX8_average_8
theorem dX8_isThings_0 : decode cX8_isThings 0 = .ok (.iload_n 0, 1) := by decide +kernel
theorem dX8_isThings_1 : decode cX8_isThings 1 = .ok (.iconst 1, 1) := by decide +kernel
theorem dX8_isThings_2 : decode cX8_isThings 2 = .ok (.if_icmp .lt 12, 3) := by decide +kernel
theorem dX8_isThings_5 : decode cX8_isThings 5 = .ok (.iload_n 0, 1) := by decide +kernel
theorem dX8_isThings_6 : decode cX8_isThings 6 = .ok (.iconst 4, 1) := by decide +kernel
theorem dX8_isThings_7 : decode cX8_isThings 7 = .ok (.if_icmp .gt 7, 3) := by decide +kernel
theorem dX8_isThings_10 : decode cX8_isThings 10 = .ok (.iconst 1, 1) := by decide +kernel
theorem dX8_isThings_11 : decode cX8_isThings 11 = .ok (.goto 4, 3) := by decide +kernel
theorem dX8_isThings_14 : decode cX8_isThings 14 = .ok (.iconst 0, 1) := by decide +kernel
theorem dX8_isThings_15 : decode cX8_isThings 15 = .ok (.ireturn, 1) := by decide +kernel
theorem cv_X8_isThings : wn_cS yX8_isThings cX8_isThings 1 (some .boolean) 1 := ⟨wm_477, wm_479, wm_377, by decide +kernel⟩
abbrev rm_X8_isThings : Room := rmz 0 0
set_option maxHeartbeats 4000000 in
set_option maxRecDepth 100000 in
theorem c_X8_isThings {ad : Nat → Nat} {x1 : Int32} {M : Mm} {q : Int32 × Mm} (hF : f_X8_isThings x1 M = some q) : KI ad yX8_isThings cX8_isThings 1 (some .boolean) rm_X8_isThings [.int x1] M q.1 q.2 := by
  refine wn_enterI (own := RX8) (by decide) rfl (Nat.le_of_ble_eq_true rfl) (fun X ls Z hQ hl => ?_)
  have hl : lv_has ls 1 [(0, .int x1)] := hl
  unfold f_X8_isThings at hF
  refine r_iload_n Z dX8_isThings_0 rfl (lv_at hl 0 rfl) ?_
  refine r_iconst (v := 1) Z dX8_isThings_1 (by decide) ?_
  refine r_icmp_lt Z 14 dX8_isThings_2 (by decide) (fun hc1 => ?_) (fun hc1 => ?_)
  · replace hF := if_some hc1 hF
    refine r_iconst (v := 0) Z dX8_isThings_14 (by decide) ?_
    exact r_zret Z hQ (by decide) hF dX8_isThings_15
  · replace hF := nif_some hc1 hF
    refine r_iload_n Z dX8_isThings_5 rfl (lv_at hl 0 rfl) ?_
    refine r_iconst (v := 4) Z dX8_isThings_6 (by decide) ?_
    refine r_icmp_gt Z 14 dX8_isThings_7 (by decide) (fun hc2 => ?_) (fun hc2 => ?_)
    · replace hF := if_some hc2 hF
      refine r_iconst (v := 0) Z dX8_isThings_14 (by decide) ?_
      exact r_zret Z hQ (by decide) hF dX8_isThings_15
    · replace hF := nif_some hc2 hF
      refine r_iconst (v := 1) Z dX8_isThings_10 (by decide) ?_
      refine r_goto Z 15 dX8_isThings_11 (by decide) ?_
      exact r_zret Z hQ (by decide) hF dX8_isThings_15
theorem dX8_balance_0 : decode cX8_balance 0 = .ok (.iload_n 1, 1) := by decide +kernel
theorem dX8_balance_1 : decode cX8_balance 1 = .ok (.invokestatic 231, 3) := by decide +kernel
theorem dX8_balance_4 : decode cX8_balance 4 = .ok (.ifCond .ne 5, 3) := by decide +kernel
theorem dX8_balance_7 : decode cX8_balance 7 = .ok (.iconst (-1), 1) := by decide +kernel
theorem dX8_balance_8 : decode cX8_balance 8 = .ok (.ireturn, 1) := by decide +kernel
theorem dX8_balance_9 : decode cX8_balance 9 = .ok (.aload_n 0, 1) := by decide +kernel
theorem dX8_balance_10 : decode cX8_balance 10 = .ok (.getfield 18, 3) := by decide +kernel
theorem dX8_balance_13 : decode cX8_balance 13 = .ok (.invokevirtual 195, 3) := by decide +kernel
theorem dX8_balance_16 : decode cX8_balance 16 = .ok (.ifCond .ne 6, 3) := by decide +kernel
theorem dX8_balance_19 : decode cX8_balance 19 = .ok (.bipush (-4), 2) := by decide +kernel
theorem dX8_balance_21 : decode cX8_balance 21 = .ok (.ireturn, 1) := by decide +kernel
theorem dX8_balance_22 : decode cX8_balance 22 = .ok (.aload_n 0, 1) := by decide +kernel
theorem dX8_balance_23 : decode cX8_balance 23 = .ok (.getfield 25, 3) := by decide +kernel
theorem dX8_balance_26 : decode cX8_balance 26 = .ok (.aload_n 0, 1) := by decide +kernel
theorem dX8_balance_27 : decode cX8_balance 27 = .ok (.getfield 18, 3) := by decide +kernel
theorem dX8_balance_30 : decode cX8_balance 30 = .ok (.invokevirtual 202, 3) := by decide +kernel
theorem dX8_balance_33 : decode cX8_balance 33 = .ok (.aload_n 0, 1) := by decide +kernel
theorem dX8_balance_34 : decode cX8_balance 34 = .ok (.getfield 25, 3) := by decide +kernel
theorem dX8_balance_37 : decode cX8_balance 37 = .ok (.iload_n 1, 1) := by decide +kernel
theorem dX8_balance_38 : decode cX8_balance 38 = .ok (.invokevirtual 238, 3) := by decide +kernel
theorem dX8_balance_41 : decode cX8_balance 41 = .ok (.ireturn, 1) := by decide +kernel
theorem cv_X8_balance : wn_cV yX8_balance cX8_balance 2 (some .int) RX8 1 := ⟨wm_518, wm_1027, wm_1028, wm_377, by decide +kernel⟩
abbrev rm_X8_balance : Room := rmz 6 132
set_option maxHeartbeats 4000000 in
set_option maxRecDepth 100000 in
theorem c_X8_balance {ad : Nat → Nat} {o : Nat} {x1 : Int32} {M : Mm} {q : Int32 × Mm} (ho : shp o = 8) (hF : f_X8_balance o x1 M = some q) : KI ad yX8_balance cX8_balance 2 (some .int) rm_X8_balance [.ref (ad o), .int x1] M q.1 q.2 := by
  refine wn_enterI (own := RX8) (by decide) rfl (Nat.le_of_ble_eq_true rfl) (fun X ls Z hQ hl => ?_)
  have hl : lv_has ls 2 [(0, .ref (ad o)), (1, .int x1)] := hl
  unfold f_X8_balance at hF
  refine r_iload_n Z dX8_balance_0 rfl (lv_at hl 1 rfl) ?_
  obtain ⟨q1, hq1, hF⟩ := bd_some hF
  refine r_invSi [] Z (c_X8_isThings hq1) cv_X8_isThings wm_478 rfl rfl ⟨Nat.le_of_ble_eq_true rfl, Nat.le_of_ble_eq_true rfl⟩ rfl hl.1 rfl (Nat.le_of_ble_eq_true rfl) dX8_balance_1 ?_
  refine r_if_ne Z 9 dX8_balance_4 (by decide) (fun hc2 => ?_) (fun hc2 => ?_)
  · replace hF := nif_some hc2 hF
    refine r_aload_n Z dX8_balance_9 rfl (lv_at hl 0 rfl) ?_
    refine g_8_1 Z ho wm_351 dX8_balance_10 ?_
    obtain ⟨q3, hq3, hF⟩ := bd_some hF
    refine r_invVi [] Z (c_X4_isClosed (sh_8_1 ho) hq3) cv_X4_isClosed rfl (shp_lt (sh_8_1 ho) (by decide)) (fun _ _ => ⟨_, ce_4 (sh_8_1 ho)⟩) wm_473 rfl rfl ⟨Nat.le_of_ble_eq_true rfl, Nat.le_of_ble_eq_true rfl⟩ rfl hl.1 rfl (Nat.le_of_ble_eq_true rfl) dX8_balance_13 ?_
    refine r_if_ne Z 22 dX8_balance_16 (by decide) (fun hc4 => ?_) (fun hc4 => ?_)
    · replace hF := nif_some hc4 hF
      refine r_aload_n Z dX8_balance_22 rfl (lv_at hl 0 rfl) ?_
      refine g_8_2 Z ho wm_354 dX8_balance_23 ?_
      refine r_aload_n Z dX8_balance_26 rfl (lv_at hl 0 rfl) ?_
      refine g_8_1 Z ho wm_351 dX8_balance_27 ?_
      obtain ⟨M5, hM5, hF⟩ := bd_some hF
      refine r_invVv [] Z (c_X5_load (sh_8_2 ho) (sh_8_1 ho) hM5) cv_X5_load rfl (shp_lt (sh_8_2 ho) (by decide)) (fun _ _ => ⟨_, ce_5 (sh_8_2 ho)⟩) wm_485 rfl rfl ⟨Nat.le_of_ble_eq_true rfl, Nat.le_of_ble_eq_true rfl⟩ rfl hl.1 rfl (Nat.le_of_ble_eq_true rfl) dX8_balance_30 ?_
      refine r_aload_n Z dX8_balance_33 rfl (lv_at hl 0 rfl) ?_
      refine g_8_2 Z ho wm_354 dX8_balance_34 ?_
      refine r_iload_n Z dX8_balance_37 rfl (lv_at hl 1 rfl) ?_
      obtain ⟨q6, hq6, hF⟩ := bd_some hF
      refine r_invVi [] Z (c_X5_balanced (sh_8_2 ho) hq6) cv_X5_balanced rfl (shp_lt (sh_8_2 ho) (by decide)) (fun _ _ => ⟨_, ce_5 (sh_8_2 ho)⟩) wm_515 rfl rfl ⟨Nat.le_of_ble_eq_true rfl, Nat.le_of_ble_eq_true rfl⟩ rfl hl.1 rfl (Nat.le_of_ble_eq_true rfl) dX8_balance_38 ?_
      exact r_iret Z hQ hF dX8_balance_41
    · replace hF := if_some hc4 hF
      refine r_bipush (v := (-4)) Z dX8_balance_19 (by decide) ?_
      exact r_iret Z hQ hF dX8_balance_21
  · replace hF := if_some hc2 hF
    refine r_iconst (v := (-1)) Z dX8_balance_7 (by decide) ?_
    exact r_iret Z hQ hF dX8_balance_8
theorem dX8_best_0 : decode cX8_best 0 = .ok (.iload_n 1, 1) := by decide +kernel
theorem dX8_best_1 : decode cX8_best 1 = .ok (.invokestatic 231, 3) := by decide +kernel
theorem dX8_best_4 : decode cX8_best 4 = .ok (.ifCond .ne 5, 3) := by decide +kernel
theorem dX8_best_7 : decode cX8_best 7 = .ok (.iconst (-1), 1) := by decide +kernel
theorem dX8_best_8 : decode cX8_best 8 = .ok (.ireturn, 1) := by decide +kernel
theorem dX8_best_9 : decode cX8_best 9 = .ok (.aload_n 0, 1) := by decide +kernel
theorem dX8_best_10 : decode cX8_best 10 = .ok (.getfield 18, 3) := by decide +kernel
theorem dX8_best_13 : decode cX8_best 13 = .ok (.invokevirtual 195, 3) := by decide +kernel
theorem dX8_best_16 : decode cX8_best 16 = .ok (.ifCond .ne 6, 3) := by decide +kernel
theorem dX8_best_19 : decode cX8_best 19 = .ok (.bipush (-4), 2) := by decide +kernel
theorem dX8_best_21 : decode cX8_best 21 = .ok (.ireturn, 1) := by decide +kernel
theorem dX8_best_22 : decode cX8_best 22 = .ok (.aload_n 0, 1) := by decide +kernel
theorem dX8_best_23 : decode cX8_best 23 = .ok (.getfield 25, 3) := by decide +kernel
theorem dX8_best_26 : decode cX8_best 26 = .ok (.aload_n 0, 1) := by decide +kernel
theorem dX8_best_27 : decode cX8_best 27 = .ok (.getfield 18, 3) := by decide +kernel
theorem dX8_best_30 : decode cX8_best 30 = .ok (.invokevirtual 202, 3) := by decide +kernel
theorem dX8_best_33 : decode cX8_best 33 = .ok (.aload_n 0, 1) := by decide +kernel
theorem dX8_best_34 : decode cX8_best 34 = .ok (.getfield 25, 3) := by decide +kernel
theorem dX8_best_37 : decode cX8_best 37 = .ok (.iload_n 1, 1) := by decide +kernel
theorem dX8_best_38 : decode cX8_best 38 = .ok (.aload_n 0, 1) := by decide +kernel
theorem dX8_best_39 : decode cX8_best 39 = .ok (.getfield 46, 3) := by decide +kernel
theorem dX8_best_42 : decode cX8_best 42 = .ok (.invokevirtual 234, 3) := by decide +kernel
theorem dX8_best_45 : decode cX8_best 45 = .ok (.ireturn, 1) := by decide +kernel
theorem cv_X8_best : wn_cV yX8_best cX8_best 2 (some .int) RX8 1 := ⟨wm_514, wm_1021, wm_1022, wm_377, by decide +kernel⟩
abbrev rm_X8_best : Room := rmz 5 118
set_option maxHeartbeats 4000000 in
set_option maxRecDepth 100000 in
theorem c_X8_best {ad : Nat → Nat} {o : Nat} {x1 : Int32} {M : Mm} {q : Int32 × Mm} (ho : shp o = 8) (hF : f_X8_best o x1 M = some q) : KI ad yX8_best cX8_best 2 (some .int) rm_X8_best [.ref (ad o), .int x1] M q.1 q.2 := by
  refine wn_enterI (own := RX8) (by decide) rfl (Nat.le_of_ble_eq_true rfl) (fun X ls Z hQ hl => ?_)
  have hl : lv_has ls 2 [(0, .ref (ad o)), (1, .int x1)] := hl
  unfold f_X8_best at hF
  refine r_iload_n Z dX8_best_0 rfl (lv_at hl 1 rfl) ?_
  obtain ⟨q1, hq1, hF⟩ := bd_some hF
  refine r_invSi [] Z (c_X8_isThings hq1) cv_X8_isThings wm_478 rfl rfl ⟨Nat.le_of_ble_eq_true rfl, Nat.le_of_ble_eq_true rfl⟩ rfl hl.1 rfl (Nat.le_of_ble_eq_true rfl) dX8_best_1 ?_
  refine r_if_ne Z 9 dX8_best_4 (by decide) (fun hc2 => ?_) (fun hc2 => ?_)
  · replace hF := nif_some hc2 hF
    refine r_aload_n Z dX8_best_9 rfl (lv_at hl 0 rfl) ?_
    refine g_8_1 Z ho wm_351 dX8_best_10 ?_
    obtain ⟨q3, hq3, hF⟩ := bd_some hF
    refine r_invVi [] Z (c_X4_isClosed (sh_8_1 ho) hq3) cv_X4_isClosed rfl (shp_lt (sh_8_1 ho) (by decide)) (fun _ _ => ⟨_, ce_4 (sh_8_1 ho)⟩) wm_473 rfl rfl ⟨Nat.le_of_ble_eq_true rfl, Nat.le_of_ble_eq_true rfl⟩ rfl hl.1 rfl (Nat.le_of_ble_eq_true rfl) dX8_best_13 ?_
    refine r_if_ne Z 22 dX8_best_16 (by decide) (fun hc4 => ?_) (fun hc4 => ?_)
    · replace hF := nif_some hc4 hF
      refine r_aload_n Z dX8_best_22 rfl (lv_at hl 0 rfl) ?_
      refine g_8_2 Z ho wm_354 dX8_best_23 ?_
      refine r_aload_n Z dX8_best_26 rfl (lv_at hl 0 rfl) ?_
      refine g_8_1 Z ho wm_351 dX8_best_27 ?_
      obtain ⟨M5, hM5, hF⟩ := bd_some hF
      refine r_invVv [] Z (c_X5_load (sh_8_2 ho) (sh_8_1 ho) hM5) cv_X5_load rfl (shp_lt (sh_8_2 ho) (by decide)) (fun _ _ => ⟨_, ce_5 (sh_8_2 ho)⟩) wm_485 rfl rfl ⟨Nat.le_of_ble_eq_true rfl, Nat.le_of_ble_eq_true rfl⟩ rfl hl.1 rfl (Nat.le_of_ble_eq_true rfl) dX8_best_30 ?_
      refine r_aload_n Z dX8_best_33 rfl (lv_at hl 0 rfl) ?_
      refine g_8_2 Z ho wm_354 dX8_best_34 ?_
      refine r_iload_n Z dX8_best_37 rfl (lv_at hl 1 rfl) ?_
      refine r_aload_n Z dX8_best_38 rfl (lv_at hl 0 rfl) ?_
      refine g_8_5 Z ho wm_362 dX8_best_39 ?_
      obtain ⟨q6, hq6, hF⟩ := bd_some hF
      refine r_invVi [] Z (c_X5_tellBest (sh_8_2 ho) (sh_8_5 ho) hq6) cv_X5_tellBest rfl (shp_lt (sh_8_2 ho) (by decide)) (fun _ _ => ⟨_, ce_5 (sh_8_2 ho)⟩) wm_511 rfl rfl ⟨Nat.le_of_ble_eq_true rfl, Nat.le_of_ble_eq_true rfl⟩ rfl hl.1 rfl (Nat.le_of_ble_eq_true rfl) dX8_best_42 ?_
      exact r_iret Z hQ hF dX8_best_45
    · replace hF := if_some hc4 hF
      refine r_bipush (v := (-4)) Z dX8_best_19 (by decide) ?_
      exact r_iret Z hQ hF dX8_best_21
  · replace hF := if_some hc2 hF
    refine r_iconst (v := (-1)) Z dX8_best_7 (by decide) ?_
    exact r_iret Z hQ hF dX8_best_8
theorem dX8_isCounterNumber_0 : decode cX8_isCounterNumber 0 = .ok (.iload_n 0, 1) := by decide +kernel
theorem dX8_isCounterNumber_1 : decode cX8_isCounterNumber 1 = .ok (.ifCond .lt 12, 3) := by decide +kernel
theorem dX8_isCounterNumber_4 : decode cX8_isCounterNumber 4 = .ok (.iload_n 0, 1) := by decide +kernel
theorem dX8_isCounterNumber_5 : decode cX8_isCounterNumber 5 = .ok (.iconst 4, 1) := by decide +kernel
theorem dX8_isCounterNumber_6 : decode cX8_isCounterNumber 6 = .ok (.if_icmp .ge 7, 3) := by decide +kernel
theorem dX8_isCounterNumber_9 : decode cX8_isCounterNumber 9 = .ok (.iconst 1, 1) := by decide +kernel
theorem dX8_isCounterNumber_10 : decode cX8_isCounterNumber 10 = .ok (.goto 4, 3) := by decide +kernel
theorem dX8_isCounterNumber_13 : decode cX8_isCounterNumber 13 = .ok (.iconst 0, 1) := by decide +kernel
theorem dX8_isCounterNumber_14 : decode cX8_isCounterNumber 14 = .ok (.ireturn, 1) := by decide +kernel
theorem cv_X8_isCounterNumber : wn_cS yX8_isCounterNumber cX8_isCounterNumber 1 (some .boolean) 1 := ⟨wm_408, wm_410, wm_377, by decide +kernel⟩
abbrev rm_X8_isCounterNumber : Room := rmz 0 0
set_option maxHeartbeats 4000000 in
set_option maxRecDepth 100000 in
theorem c_X8_isCounterNumber {ad : Nat → Nat} {x1 : Int32} {M : Mm} {q : Int32 × Mm} (hF : f_X8_isCounterNumber x1 M = some q) : KI ad yX8_isCounterNumber cX8_isCounterNumber 1 (some .boolean) rm_X8_isCounterNumber [.int x1] M q.1 q.2 := by
  refine wn_enterI (own := RX8) (by decide) rfl (Nat.le_of_ble_eq_true rfl) (fun X ls Z hQ hl => ?_)
  have hl : lv_has ls 1 [(0, .int x1)] := hl
  unfold f_X8_isCounterNumber at hF
  refine r_iload_n Z dX8_isCounterNumber_0 rfl (lv_at hl 0 rfl) ?_
  refine r_if_lt Z 13 dX8_isCounterNumber_1 (by decide) (fun hc1 => ?_) (fun hc1 => ?_)
  · replace hF := if_some hc1 hF
    refine r_iconst (v := 0) Z dX8_isCounterNumber_13 (by decide) ?_
    exact r_zret Z hQ (by decide) hF dX8_isCounterNumber_14
  · replace hF := nif_some hc1 hF
    refine r_iload_n Z dX8_isCounterNumber_4 rfl (lv_at hl 0 rfl) ?_
    refine r_iconst (v := 4) Z dX8_isCounterNumber_5 (by decide) ?_
    refine r_icmp_ge Z 13 dX8_isCounterNumber_6 (by decide) (fun hc2 => ?_) (fun hc2 => ?_)
    · replace hF := if_some hc2 hF
      refine r_iconst (v := 0) Z dX8_isCounterNumber_13 (by decide) ?_
      exact r_zret Z hQ (by decide) hF dX8_isCounterNumber_14
    · replace hF := nif_some hc2 hF
      refine r_iconst (v := 1) Z dX8_isCounterNumber_9 (by decide) ?_
      refine r_goto Z 14 dX8_isCounterNumber_10 (by decide) ?_
      exact r_zret Z hQ (by decide) hF dX8_isCounterNumber_14
theorem dX8_judgeRound_0 : decode cX8_judgeRound 0 = .ok (.iload_n 1, 1) := by decide +kernel
theorem dX8_judgeRound_1 : decode cX8_judgeRound 1 = .ok (.invokestatic 106, 3) := by decide +kernel
theorem dX8_judgeRound_4 : decode cX8_judgeRound 4 = .ok (.ifCond .eq 10, 3) := by decide +kernel
theorem dX8_judgeRound_7 : decode cX8_judgeRound 7 = .ok (.iload_n 2, 1) := by decide +kernel
theorem dX8_judgeRound_8 : decode cX8_judgeRound 8 = .ok (.invokestatic 231, 3) := by decide +kernel
theorem dX8_judgeRound_11 : decode cX8_judgeRound 11 = .ok (.ifCond .ne 5, 3) := by decide +kernel
theorem dX8_judgeRound_14 : decode cX8_judgeRound 14 = .ok (.iconst (-1), 1) := by decide +kernel
theorem dX8_judgeRound_15 : decode cX8_judgeRound 15 = .ok (.ireturn, 1) := by decide +kernel
theorem dX8_judgeRound_16 : decode cX8_judgeRound 16 = .ok (.aload_n 0, 1) := by decide +kernel
theorem dX8_judgeRound_17 : decode cX8_judgeRound 17 = .ok (.getfield 18, 3) := by decide +kernel
theorem dX8_judgeRound_20 : decode cX8_judgeRound 20 = .ok (.iload_n 1, 1) := by decide +kernel
theorem dX8_judgeRound_21 : decode cX8_judgeRound 21 = .ok (.invokevirtual 109, 3) := by decide +kernel
theorem dX8_judgeRound_24 : decode cX8_judgeRound 24 = .ok (.ifCond .ne 9, 3) := by decide +kernel
theorem dX8_judgeRound_27 : decode cX8_judgeRound 27 = .ok (.aload_n 0, 1) := by decide +kernel
theorem dX8_judgeRound_28 : decode cX8_judgeRound 28 = .ok (.iconst 1, 1) := by decide +kernel
theorem dX8_judgeRound_29 : decode cX8_judgeRound 29 = .ok (.invokevirtual 66, 3) := by decide +kernel
theorem dX8_judgeRound_32 : decode cX8_judgeRound 32 = .ok (.ireturn, 1) := by decide +kernel
theorem dX8_judgeRound_33 : decode cX8_judgeRound 33 = .ok (.aload_n 0, 1) := by decide +kernel
theorem dX8_judgeRound_34 : decode cX8_judgeRound 34 = .ok (.getfield 18, 3) := by decide +kernel
theorem dX8_judgeRound_37 : decode cX8_judgeRound 37 = .ok (.invokevirtual 195, 3) := by decide +kernel
theorem dX8_judgeRound_40 : decode cX8_judgeRound 40 = .ok (.ifCond .eq 7, 3) := by decide +kernel
theorem dX8_judgeRound_43 : decode cX8_judgeRound 43 = .ok (.iconst 0, 1) := by decide +kernel
theorem dX8_judgeRound_44 : decode cX8_judgeRound 44 = .ok (.goto 5, 3) := by decide +kernel
theorem dX8_judgeRound_47 : decode cX8_judgeRound 47 = .ok (.bipush (-4), 2) := by decide +kernel
theorem dX8_judgeRound_49 : decode cX8_judgeRound 49 = .ok (.ireturn, 1) := by decide +kernel
theorem cv_X8_judgeRound : wn_cV yX8_judgeRound cX8_judgeRound 3 (some .int) RX8 2 := ⟨wm_480, wm_483, wm_484, wm_377, by decide +kernel⟩
abbrev rm_X8_judgeRound : Room := rmz 4 85
set_option maxHeartbeats 4000000 in
set_option maxRecDepth 100000 in
theorem c_X8_judgeRound {ad : Nat → Nat} {o : Nat} {x1 : Int32} {x2 : Int32} {M : Mm} {q : Int32 × Mm} (ho : shp o = 8) (hF : f_X8_judgeRound o x1 x2 M = some q) : KI ad yX8_judgeRound cX8_judgeRound 3 (some .int) rm_X8_judgeRound [.ref (ad o), .int x1, .int x2] M q.1 q.2 := by
  refine wn_enterI (own := RX8) (by decide) rfl (Nat.le_of_ble_eq_true rfl) (fun X ls Z hQ hl => ?_)
  have hl : lv_has ls 3 [(0, .ref (ad o)), (1, .int x1), (2, .int x2)] := hl
  unfold f_X8_judgeRound at hF
  refine r_iload_n Z dX8_judgeRound_0 rfl (lv_at hl 1 rfl) ?_
  obtain ⟨q1, hq1, hF⟩ := bd_some hF
  refine r_invSi [] Z (c_X8_isCounterNumber hq1) cv_X8_isCounterNumber wm_409 rfl rfl ⟨Nat.le_of_ble_eq_true rfl, Nat.le_of_ble_eq_true rfl⟩ rfl hl.1 rfl (Nat.le_of_ble_eq_true rfl) dX8_judgeRound_1 ?_
  refine r_if_eq Z 14 dX8_judgeRound_4 (by decide) (fun hc2 => ?_) (fun hc2 => ?_)
  · replace hF := if_some hc2 hF
    refine r_iconst (v := (-1)) Z dX8_judgeRound_14 (by decide) ?_
    exact r_iret Z hQ hF dX8_judgeRound_15
  · replace hF := nif_some hc2 hF
    refine r_iload_n Z dX8_judgeRound_7 rfl (lv_at hl 2 rfl) ?_
    obtain ⟨q3, hq3, hF⟩ := bd_some hF
    refine r_invSi [] Z (c_X8_isThings hq3) cv_X8_isThings wm_478 rfl rfl ⟨Nat.le_of_ble_eq_true rfl, Nat.le_of_ble_eq_true rfl⟩ rfl hl.1 rfl (Nat.le_of_ble_eq_true rfl) dX8_judgeRound_8 ?_
    refine r_if_ne Z 16 dX8_judgeRound_11 (by decide) (fun hc4 => ?_) (fun hc4 => ?_)
    · replace hF := nif_some hc4 hF
      refine r_aload_n Z dX8_judgeRound_16 rfl (lv_at hl 0 rfl) ?_
      refine g_8_1 Z ho wm_351 dX8_judgeRound_17 ?_
      refine r_iload_n Z dX8_judgeRound_20 rfl (lv_at hl 1 rfl) ?_
      obtain ⟨q5, hq5, hF⟩ := bd_some hF
      refine r_invVi [] Z (c_X4_has (sh_8_1 ho) hq5) cv_X4_has rfl (shp_lt (sh_8_1 ho) (by decide)) (fun _ _ => ⟨_, ce_4 (sh_8_1 ho)⟩) wm_411 rfl rfl ⟨Nat.le_of_ble_eq_true rfl, Nat.le_of_ble_eq_true rfl⟩ rfl hl.1 rfl (Nat.le_of_ble_eq_true rfl) dX8_judgeRound_21 ?_
      refine r_if_ne Z 33 dX8_judgeRound_24 (by decide) (fun hc6 => ?_) (fun hc6 => ?_)
      · replace hF := nif_some hc6 hF
        refine r_aload_n Z dX8_judgeRound_33 rfl (lv_at hl 0 rfl) ?_
        refine g_8_1 Z ho wm_351 dX8_judgeRound_34 ?_
        obtain ⟨q7, hq7, hF⟩ := bd_some hF
        refine r_invVi [] Z (c_X4_isClosed (sh_8_1 ho) hq7) cv_X4_isClosed rfl (shp_lt (sh_8_1 ho) (by decide)) (fun _ _ => ⟨_, ce_4 (sh_8_1 ho)⟩) wm_473 rfl rfl ⟨Nat.le_of_ble_eq_true rfl, Nat.le_of_ble_eq_true rfl⟩ rfl hl.1 rfl (Nat.le_of_ble_eq_true rfl) dX8_judgeRound_37 ?_
        refine r_if_eq Z 47 dX8_judgeRound_40 (by decide) (fun hc8 => ?_) (fun hc8 => ?_)
        · replace hF := if_some hc8 hF
          refine r_bipush (v := (-4)) Z dX8_judgeRound_47 (by decide) ?_
          exact r_iret Z hQ hF dX8_judgeRound_49
        · replace hF := nif_some hc8 hF
          refine r_iconst (v := 0) Z dX8_judgeRound_43 (by decide) ?_
          refine r_goto Z 49 dX8_judgeRound_44 (by decide) ?_
          exact r_iret Z hQ hF dX8_judgeRound_49
      · replace hF := if_some hc6 hF
        refine r_aload_n Z dX8_judgeRound_27 rfl (lv_at hl 0 rfl) ?_
        refine r_iconst (v := 1) Z dX8_judgeRound_28 (by decide) ?_
        obtain ⟨q9, hq9, hF⟩ := bd_some hF
        refine r_invVi [] Z (c_X8_refuse ho hq9) cv_X8_refuse rfl (shp_lt ho (by decide)) (fun _ _ => ⟨_, ce_8 ho⟩) wm_378 rfl rfl ⟨Nat.le_of_ble_eq_true rfl, Nat.le_of_ble_eq_true rfl⟩ rfl hl.1 rfl (Nat.le_of_ble_eq_true rfl) dX8_judgeRound_29 ?_
        exact r_iret Z hQ hF dX8_judgeRound_32
    · replace hF := if_some hc4 hF
      refine r_iconst (v := (-1)) Z dX8_judgeRound_14 (by decide) ?_
      exact r_iret Z hQ hF dX8_judgeRound_15
theorem dX8_bound_0 : decode cX8_bound 0 = .ok (.aload_n 0, 1) := by decide +kernel
theorem dX8_bound_1 : decode cX8_bound 1 = .ok (.iload_n 1, 1) := by decide +kernel
theorem dX8_bound_2 : decode cX8_bound 2 = .ok (.iload_n 2, 1) := by decide +kernel
theorem dX8_bound_3 : decode cX8_bound 3 = .ok (.invokevirtual 198, 3) := by decide +kernel
theorem dX8_bound_6 : decode cX8_bound 6 = .ok (.istore_n 3, 1) := by decide +kernel
theorem dX8_bound_7 : decode cX8_bound 7 = .ok (.iload_n 3, 1) := by decide +kernel
theorem dX8_bound_8 : decode cX8_bound 8 = .ok (.ifCond .eq 5, 3) := by decide +kernel
theorem dX8_bound_11 : decode cX8_bound 11 = .ok (.iload_n 3, 1) := by decide +kernel
theorem dX8_bound_12 : decode cX8_bound 12 = .ok (.ireturn, 1) := by decide +kernel
theorem dX8_bound_13 : decode cX8_bound 13 = .ok (.aload_n 0, 1) := by decide +kernel
theorem dX8_bound_14 : decode cX8_bound 14 = .ok (.getfield 25, 3) := by decide +kernel
theorem dX8_bound_17 : decode cX8_bound 17 = .ok (.aload_n 0, 1) := by decide +kernel
theorem dX8_bound_18 : decode cX8_bound 18 = .ok (.getfield 18, 3) := by decide +kernel
theorem dX8_bound_21 : decode cX8_bound 21 = .ok (.invokevirtual 202, 3) := by decide +kernel
theorem dX8_bound_24 : decode cX8_bound 24 = .ok (.aload_n 0, 1) := by decide +kernel
theorem dX8_bound_25 : decode cX8_bound 25 = .ok (.getfield 25, 3) := by decide +kernel
theorem dX8_bound_28 : decode cX8_bound 28 = .ok (.iload_n 1, 1) := by decide +kernel
theorem dX8_bound_29 : decode cX8_bound 29 = .ok (.iload_n 2, 1) := by decide +kernel
theorem dX8_bound_30 : decode cX8_bound 30 = .ok (.aload_n 0, 1) := by decide +kernel
theorem dX8_bound_31 : decode cX8_bound 31 = .ok (.getfield 46, 3) := by decide +kernel
theorem dX8_bound_34 : decode cX8_bound 34 = .ok (.invokevirtual 228, 3) := by decide +kernel
theorem dX8_bound_37 : decode cX8_bound 37 = .ok (.iconst 1, 1) := by decide +kernel
theorem dX8_bound_38 : decode cX8_bound 38 = .ok (.ireturn, 1) := by decide +kernel
theorem cv_X8_bound : wn_cV yX8_bound cX8_bound 4 (some .int) RX8 2 := ⟨wm_510, wm_1015, wm_1016, wm_377, by decide +kernel⟩
abbrev rm_X8_bound : Room := rmz 5 107
set_option maxHeartbeats 4000000 in
set_option maxRecDepth 100000 in
theorem c_X8_bound {ad : Nat → Nat} {o : Nat} {x1 : Int32} {x2 : Int32} {M : Mm} {q : Int32 × Mm} (ho : shp o = 8) (hF : f_X8_bound o x1 x2 M = some q) : KI ad yX8_bound cX8_bound 4 (some .int) rm_X8_bound [.ref (ad o), .int x1, .int x2] M q.1 q.2 := by
  refine wn_enterI (own := RX8) (by decide) rfl (Nat.le_of_ble_eq_true rfl) (fun X ls Z hQ hl => ?_)
  have hl : lv_has ls 4 [(0, .ref (ad o)), (1, .int x1), (2, .int x2)] := hl
  unfold f_X8_bound at hF
  refine r_aload_n Z dX8_bound_0 rfl (lv_at hl 0 rfl) ?_
  refine r_iload_n Z dX8_bound_1 rfl (lv_at hl 1 rfl) ?_
  refine r_iload_n Z dX8_bound_2 rfl (lv_at hl 2 rfl) ?_
  obtain ⟨q1, hq1, hF⟩ := bd_some hF
  refine r_invVi [] Z (c_X8_judgeRound ho hq1) cv_X8_judgeRound rfl (shp_lt ho (by decide)) (fun _ _ => ⟨_, ce_8 ho⟩) wm_482 rfl rfl ⟨Nat.le_of_ble_eq_true rfl, Nat.le_of_ble_eq_true rfl⟩ rfl hl.1 rfl (Nat.le_of_ble_eq_true rfl) dX8_bound_3 ?_
  refine r_istore_n Z [(3, .int q1.1), (0, .ref (ad o)), (1, .int x1), (2, .int x2)] dX8_bound_6 rfl hl (by decide) rfl (fun ls hl => ?_)
  refine r_iload_n Z dX8_bound_7 rfl (lv_at hl 0 rfl) ?_
  refine r_if_eq Z 13 dX8_bound_8 (by decide) (fun hc2 => ?_) (fun hc2 => ?_)
  · replace hF := if_some hc2 hF
    refine r_aload_n Z dX8_bound_13 rfl (lv_at hl 1 rfl) ?_
    refine g_8_2 Z ho wm_354 dX8_bound_14 ?_
    refine r_aload_n Z dX8_bound_17 rfl (lv_at hl 1 rfl) ?_
    refine g_8_1 Z ho wm_351 dX8_bound_18 ?_
    obtain ⟨M3, hM3, hF⟩ := bd_some hF
    refine r_invVv [] Z (c_X5_load (sh_8_2 ho) (sh_8_1 ho) hM3) cv_X5_load rfl (shp_lt (sh_8_2 ho) (by decide)) (fun _ _ => ⟨_, ce_5 (sh_8_2 ho)⟩) wm_485 rfl rfl ⟨Nat.le_of_ble_eq_true rfl, Nat.le_of_ble_eq_true rfl⟩ rfl hl.1 rfl (Nat.le_of_ble_eq_true rfl) dX8_bound_21 ?_
    refine r_aload_n Z dX8_bound_24 rfl (lv_at hl 1 rfl) ?_
    refine g_8_2 Z ho wm_354 dX8_bound_25 ?_
    refine r_iload_n Z dX8_bound_28 rfl (lv_at hl 2 rfl) ?_
    refine r_iload_n Z dX8_bound_29 rfl (lv_at hl 3 rfl) ?_
    refine r_aload_n Z dX8_bound_30 rfl (lv_at hl 1 rfl) ?_
    refine g_8_5 Z ho wm_362 dX8_bound_31 ?_
    obtain ⟨M4, hM4, hF⟩ := bd_some hF
    refine r_invVv [] Z (c_X5_tellBound (sh_8_2 ho) (sh_8_5 ho) hM4) cv_X5_tellBound rfl (shp_lt (sh_8_2 ho) (by decide)) (fun _ _ => ⟨_, ce_5 (sh_8_2 ho)⟩) wm_507 rfl rfl ⟨Nat.le_of_ble_eq_true rfl, Nat.le_of_ble_eq_true rfl⟩ rfl hl.1 rfl (Nat.le_of_ble_eq_true rfl) dX8_bound_34 ?_
    refine r_iconst (v := 1) Z dX8_bound_37 (by decide) ?_
    exact r_iret Z hQ hF dX8_bound_38
  · replace hF := nif_some hc2 hF
    refine r_iload_n Z dX8_bound_11 rfl (lv_at hl 0 rfl) ?_
    exact r_iret Z hQ hF dX8_bound_12
theorem dX8_chance_0 : decode cX8_chance 0 = .ok (.iload_n 1, 1) := by decide +kernel
theorem dX8_chance_1 : decode cX8_chance 1 = .ok (.invokestatic 62, 3) := by decide +kernel
theorem dX8_chance_4 : decode cX8_chance 4 = .ok (.ifCond .ne 5, 3) := by decide +kernel
theorem dX8_chance_7 : decode cX8_chance 7 = .ok (.iconst (-1), 1) := by decide +kernel
theorem dX8_chance_8 : decode cX8_chance 8 = .ok (.ireturn, 1) := by decide +kernel
theorem dX8_chance_9 : decode cX8_chance 9 = .ok (.aload_n 0, 1) := by decide +kernel
theorem dX8_chance_10 : decode cX8_chance 10 = .ok (.getfield 18, 3) := by decide +kernel
theorem dX8_chance_13 : decode cX8_chance 13 = .ok (.invokevirtual 195, 3) := by decide +kernel
theorem dX8_chance_16 : decode cX8_chance 16 = .ok (.ifCond .ne 6, 3) := by decide +kernel
theorem dX8_chance_19 : decode cX8_chance 19 = .ok (.bipush (-4), 2) := by decide +kernel
theorem dX8_chance_21 : decode cX8_chance 21 = .ok (.ireturn, 1) := by decide +kernel
theorem dX8_chance_22 : decode cX8_chance 22 = .ok (.aload_n 0, 1) := by decide +kernel
theorem dX8_chance_23 : decode cX8_chance 23 = .ok (.getfield 11, 3) := by decide +kernel
theorem dX8_chance_26 : decode cX8_chance 26 = .ok (.iload_n 1, 1) := by decide +kernel
theorem dX8_chance_27 : decode cX8_chance 27 = .ok (.aaload, 1) := by decide +kernel
theorem dX8_chance_28 : decode cX8_chance 28 = .ok (.astore_n 2, 1) := by decide +kernel
theorem dX8_chance_29 : decode cX8_chance 29 = .ok (.aload_n 2, 1) := by decide +kernel
theorem dX8_chance_30 : decode cX8_chance 30 = .ok (.invokevirtual 74, 3) := by decide +kernel
theorem dX8_chance_33 : decode cX8_chance 33 = .ok (.ifCond .ne 9, 3) := by decide +kernel
theorem dX8_chance_36 : decode cX8_chance 36 = .ok (.aload_n 0, 1) := by decide +kernel
theorem dX8_chance_37 : decode cX8_chance 37 = .ok (.iconst 1, 1) := by decide +kernel
theorem dX8_chance_38 : decode cX8_chance 38 = .ok (.invokevirtual 66, 3) := by decide +kernel
theorem dX8_chance_41 : decode cX8_chance 41 = .ok (.ireturn, 1) := by decide +kernel
theorem dX8_chance_42 : decode cX8_chance 42 = .ok (.aload_n 2, 1) := by decide +kernel
theorem dX8_chance_43 : decode cX8_chance 43 = .ok (.getfield 99, 3) := by decide +kernel
theorem dX8_chance_46 : decode cX8_chance 46 = .ok (.iconst 4, 1) := by decide +kernel
theorem dX8_chance_47 : decode cX8_chance 47 = .ok (.if_icmp .eq 9, 3) := by decide +kernel
theorem dX8_chance_50 : decode cX8_chance 50 = .ok (.aload_n 0, 1) := by decide +kernel
theorem dX8_chance_51 : decode cX8_chance 51 = .ok (.iconst 5, 1) := by decide +kernel
theorem dX8_chance_52 : decode cX8_chance 52 = .ok (.invokevirtual 66, 3) := by decide +kernel
theorem dX8_chance_55 : decode cX8_chance 55 = .ok (.ireturn, 1) := by decide +kernel
theorem dX8_chance_56 : decode cX8_chance 56 = .ok (.aload_n 0, 1) := by decide +kernel
theorem dX8_chance_57 : decode cX8_chance 57 = .ok (.getfield 18, 3) := by decide +kernel
theorem dX8_chance_60 : decode cX8_chance 60 = .ok (.aload_n 2, 1) := by decide +kernel
theorem dX8_chance_61 : decode cX8_chance 61 = .ok (.invokevirtual 210, 3) := by decide +kernel
theorem dX8_chance_64 : decode cX8_chance 64 = .ok (.istore_n 3, 1) := by decide +kernel
theorem dX8_chance_65 : decode cX8_chance 65 = .ok (.iload_n 3, 1) := by decide +kernel
theorem dX8_chance_66 : decode cX8_chance 66 = .ok (.iconst 1, 1) := by decide +kernel
theorem dX8_chance_67 : decode cX8_chance 67 = .ok (.if_icmp .ge 9, 3) := by decide +kernel
theorem dX8_chance_70 : decode cX8_chance 70 = .ok (.aload_n 0, 1) := by decide +kernel
theorem dX8_chance_71 : decode cX8_chance 71 = .ok (.iconst 3, 1) := by decide +kernel
theorem dX8_chance_72 : decode cX8_chance 72 = .ok (.invokevirtual 66, 3) := by decide +kernel
theorem dX8_chance_75 : decode cX8_chance 75 = .ok (.ireturn, 1) := by decide +kernel
theorem dX8_chance_76 : decode cX8_chance 76 = .ok (.aload_n 0, 1) := by decide +kernel
theorem dX8_chance_77 : decode cX8_chance 77 = .ok (.getfield 25, 3) := by decide +kernel
theorem dX8_chance_80 : decode cX8_chance 80 = .ok (.aload_n 0, 1) := by decide +kernel
theorem dX8_chance_81 : decode cX8_chance 81 = .ok (.getfield 18, 3) := by decide +kernel
theorem dX8_chance_84 : decode cX8_chance 84 = .ok (.invokevirtual 202, 3) := by decide +kernel
theorem dX8_chance_87 : decode cX8_chance 87 = .ok (.aload_n 0, 1) := by decide +kernel
theorem dX8_chance_88 : decode cX8_chance 88 = .ok (.getfield 25, 3) := by decide +kernel
theorem dX8_chance_91 : decode cX8_chance 91 = .ok (.aload_n 2, 1) := by decide +kernel
theorem dX8_chance_92 : decode cX8_chance 92 = .ok (.iload_n 3, 1) := by decide +kernel
theorem dX8_chance_93 : decode cX8_chance 93 = .ok (.aload_n 0, 1) := by decide +kernel
theorem dX8_chance_94 : decode cX8_chance 94 = .ok (.getfield 46, 3) := by decide +kernel
theorem dX8_chance_97 : decode cX8_chance 97 = .ok (.invokevirtual 214, 3) := by decide +kernel
theorem dX8_chance_100 : decode cX8_chance 100 = .ok (.iload_n 3, 1) := by decide +kernel
theorem dX8_chance_101 : decode cX8_chance 101 = .ok (.ireturn, 1) := by decide +kernel
theorem cv_X8_chance : wn_cV yX8_chance cX8_chance 4 (some .int) RX8 1 := ⟨wm_495, wm_985, wm_986, wm_377, by decide +kernel⟩
abbrev rm_X8_chance : Room := rmz 5 112
set_option maxHeartbeats 4000000 in
set_option maxRecDepth 100000 in
theorem c_X8_chance {ad : Nat → Nat} {o : Nat} {x1 : Int32} {M : Mm} {q : Int32 × Mm} (ho : shp o = 8) (hF : f_X8_chance o x1 M = some q) : KI ad yX8_chance cX8_chance 4 (some .int) rm_X8_chance [.ref (ad o), .int x1] M q.1 q.2 := by
  refine wn_enterI (own := RX8) (by decide) rfl (Nat.le_of_ble_eq_true rfl) (fun X ls Z hQ hl => ?_)
  have hl : lv_has ls 4 [(0, .ref (ad o)), (1, .int x1)] := hl
  unfold f_X8_chance at hF
  refine r_iload_n Z dX8_chance_0 rfl (lv_at hl 1 rfl) ?_
  obtain ⟨q1, hq1, hF⟩ := bd_some hF
  refine r_invSi [] Z (c_X8_isRowNumber hq1) cv_X8_isRowNumber wm_375 rfl rfl ⟨Nat.le_of_ble_eq_true rfl, Nat.le_of_ble_eq_true rfl⟩ rfl hl.1 rfl (Nat.le_of_ble_eq_true rfl) dX8_chance_1 ?_
  refine r_if_ne Z 9 dX8_chance_4 (by decide) (fun hc2 => ?_) (fun hc2 => ?_)
  · replace hF := nif_some hc2 hF
    refine r_aload_n Z dX8_chance_9 rfl (lv_at hl 0 rfl) ?_
    refine g_8_1 Z ho wm_351 dX8_chance_10 ?_
    obtain ⟨q3, hq3, hF⟩ := bd_some hF
    refine r_invVi [] Z (c_X4_isClosed (sh_8_1 ho) hq3) cv_X4_isClosed rfl (shp_lt (sh_8_1 ho) (by decide)) (fun _ _ => ⟨_, ce_4 (sh_8_1 ho)⟩) wm_473 rfl rfl ⟨Nat.le_of_ble_eq_true rfl, Nat.le_of_ble_eq_true rfl⟩ rfl hl.1 rfl (Nat.le_of_ble_eq_true rfl) dX8_chance_13 ?_
    refine r_if_ne Z 22 dX8_chance_16 (by decide) (fun hc4 => ?_) (fun hc4 => ?_)
    · replace hF := nif_some hc4 hF
      refine r_aload_n Z dX8_chance_22 rfl (lv_at hl 0 rfl) ?_
      refine g_8_0 Z ho wm_348 dX8_chance_23 ?_
      refine r_iload_n Z dX8_chance_26 rfl (lv_at hl 1 rfl) ?_
      obtain ⟨hi5, hF⟩ := ck_some hF
      refine r_aald14 Z (sh_8_0 ho) hi5 dX8_chance_27 ?_
      refine r_astore_n Z [(2, .ref (ad (elm (fld o 0) (Int32.toNatClampNeg x1)))), (0, .ref (ad o)), (1, .int x1)] dX8_chance_28 rfl hl (by decide) rfl (fun ls hl => ?_)
      refine r_aload_n Z dX8_chance_29 rfl (lv_at hl 0 rfl) ?_
      obtain ⟨q6, hq6, hF⟩ := bd_some hF
      refine r_invVi [] Z (c_X6_isThere (se_14 (sh_8_0 ho) hi5) hq6) cv_X6_isThere rfl (shp_lt (se_14 (sh_8_0 ho) hi5) (by decide)) (fun _ _ => ⟨_, ce_6 (se_14 (sh_8_0 ho) hi5)⟩) wm_385 rfl rfl ⟨Nat.le_of_ble_eq_true rfl, Nat.le_of_ble_eq_true rfl⟩ rfl hl.1 rfl (Nat.le_of_ble_eq_true rfl) dX8_chance_30 ?_
      refine r_if_ne Z 42 dX8_chance_33 (by decide) (fun hc7 => ?_) (fun hc7 => ?_)
      · replace hF := nif_some hc7 hF
        refine r_aload_n Z dX8_chance_42 rfl (lv_at hl 0 rfl) ?_
        refine g_6_1 Z (se_14 (sh_8_0 ho) hi5) wm_403 dX8_chance_43 ?_
        refine r_iconst (v := 4) Z dX8_chance_46 (by decide) ?_
        refine r_icmp_eq Z 56 dX8_chance_47 (by decide) (fun hc8 => ?_) (fun hc8 => ?_)
        · replace hF := if_some hc8 hF
          refine r_aload_n Z dX8_chance_56 rfl (lv_at hl 1 rfl) ?_
          refine g_8_1 Z ho wm_351 dX8_chance_57 ?_
          refine r_aload_n Z dX8_chance_60 rfl (lv_at hl 0 rfl) ?_
          obtain ⟨q9, hq9, hF⟩ := bd_some hF
          refine r_invVi [] Z (c_X4_thingsOf (sh_8_1 ho) (se_14 (sh_8_0 ho) hi5) hq9) cv_X4_thingsOf rfl (shp_lt (sh_8_1 ho) (by decide)) (fun _ _ => ⟨_, ce_4 (sh_8_1 ho)⟩) wm_489 rfl rfl ⟨Nat.le_of_ble_eq_true rfl, Nat.le_of_ble_eq_true rfl⟩ rfl hl.1 rfl (Nat.le_of_ble_eq_true rfl) dX8_chance_61 ?_
          refine r_istore_n Z [(3, .int q9.1), (2, .ref (ad (elm (fld o 0) (Int32.toNatClampNeg x1)))), (0, .ref (ad o)), (1, .int x1)] dX8_chance_64 rfl hl (by decide) rfl (fun ls hl => ?_)
          refine r_iload_n Z dX8_chance_65 rfl (lv_at hl 0 rfl) ?_
          refine r_iconst (v := 1) Z dX8_chance_66 (by decide) ?_
          refine r_icmp_ge Z 76 dX8_chance_67 (by decide) (fun hc10 => ?_) (fun hc10 => ?_)
          · replace hF := if_some hc10 hF
            refine r_aload_n Z dX8_chance_76 rfl (lv_at hl 2 rfl) ?_
            refine g_8_2 Z ho wm_354 dX8_chance_77 ?_
            refine r_aload_n Z dX8_chance_80 rfl (lv_at hl 2 rfl) ?_
            refine g_8_1 Z ho wm_351 dX8_chance_81 ?_
            obtain ⟨M11, hM11, hF⟩ := bd_some hF
            refine r_invVv [] Z (c_X5_load (sh_8_2 ho) (sh_8_1 ho) hM11) cv_X5_load rfl (shp_lt (sh_8_2 ho) (by decide)) (fun _ _ => ⟨_, ce_5 (sh_8_2 ho)⟩) wm_485 rfl rfl ⟨Nat.le_of_ble_eq_true rfl, Nat.le_of_ble_eq_true rfl⟩ rfl hl.1 rfl (Nat.le_of_ble_eq_true rfl) dX8_chance_84 ?_
            refine r_aload_n Z dX8_chance_87 rfl (lv_at hl 2 rfl) ?_
            refine g_8_2 Z ho wm_354 dX8_chance_88 ?_
            refine r_aload_n Z dX8_chance_91 rfl (lv_at hl 1 rfl) ?_
            refine r_iload_n Z dX8_chance_92 rfl (lv_at hl 0 rfl) ?_
            refine r_aload_n Z dX8_chance_93 rfl (lv_at hl 2 rfl) ?_
            refine g_8_5 Z ho wm_362 dX8_chance_94 ?_
            obtain ⟨M12, hM12, hF⟩ := bd_some hF
            refine r_invVv [] Z (c_X5_tellChance (sh_8_2 ho) (se_14 (sh_8_0 ho) hi5) (sh_8_5 ho) hM12) cv_X5_tellChance rfl (shp_lt (sh_8_2 ho) (by decide)) (fun _ _ => ⟨_, ce_5 (sh_8_2 ho)⟩) wm_492 rfl rfl ⟨Nat.le_of_ble_eq_true rfl, Nat.le_of_ble_eq_true rfl⟩ rfl hl.1 rfl (Nat.le_of_ble_eq_true rfl) dX8_chance_97 ?_
            refine r_iload_n Z dX8_chance_100 rfl (lv_at hl 0 rfl) ?_
            exact r_iret Z hQ hF dX8_chance_101
          · replace hF := nif_some hc10 hF
            refine r_aload_n Z dX8_chance_70 rfl (lv_at hl 2 rfl) ?_
            refine r_iconst (v := 3) Z dX8_chance_71 (by decide) ?_
            obtain ⟨q13, hq13, hF⟩ := bd_some hF
            refine r_invVi [] Z (c_X8_refuse ho hq13) cv_X8_refuse rfl (shp_lt ho (by decide)) (fun _ _ => ⟨_, ce_8 ho⟩) wm_378 rfl rfl ⟨Nat.le_of_ble_eq_true rfl, Nat.le_of_ble_eq_true rfl⟩ rfl hl.1 rfl (Nat.le_of_ble_eq_true rfl) dX8_chance_72 ?_
            exact r_iret Z hQ hF dX8_chance_75
        · replace hF := nif_some hc8 hF
          refine r_aload_n Z dX8_chance_50 rfl (lv_at hl 1 rfl) ?_
          refine r_iconst (v := 5) Z dX8_chance_51 (by decide) ?_
          obtain ⟨q14, hq14, hF⟩ := bd_some hF
          refine r_invVi [] Z (c_X8_refuse ho hq14) cv_X8_refuse rfl (shp_lt ho (by decide)) (fun _ _ => ⟨_, ce_8 ho⟩) wm_378 rfl rfl ⟨Nat.le_of_ble_eq_true rfl, Nat.le_of_ble_eq_true rfl⟩ rfl hl.1 rfl (Nat.le_of_ble_eq_true rfl) dX8_chance_52 ?_
          exact r_iret Z hQ hF dX8_chance_55
      · replace hF := if_some hc7 hF
        refine r_aload_n Z dX8_chance_36 rfl (lv_at hl 1 rfl) ?_
        refine r_iconst (v := 1) Z dX8_chance_37 (by decide) ?_
        obtain ⟨q15, hq15, hF⟩ := bd_some hF
        refine r_invVi [] Z (c_X8_refuse ho hq15) cv_X8_refuse rfl (shp_lt ho (by decide)) (fun _ _ => ⟨_, ce_8 ho⟩) wm_378 rfl rfl ⟨Nat.le_of_ble_eq_true rfl, Nat.le_of_ble_eq_true rfl⟩ rfl hl.1 rfl (Nat.le_of_ble_eq_true rfl) dX8_chance_38 ?_
        exact r_iret Z hQ hF dX8_chance_41
    · replace hF := if_some hc4 hF
      refine r_bipush (v := (-4)) Z dX8_chance_19 (by decide) ?_
      exact r_iret Z hQ hF dX8_chance_21
  · replace hF := if_some hc2 hF
    refine r_iconst (v := (-1)) Z dX8_chance_7 (by decide) ?_
    exact r_iret Z hQ hF dX8_chance_8
theorem dX8_closed_0 : decode cX8_closed 0 = .ok (.aload_n 0, 1) := by decide +kernel
theorem dX8_closed_1 : decode cX8_closed 1 = .ok (.getfield 18, 3) := by decide +kernel
theorem dX8_closed_4 : decode cX8_closed 4 = .ok (.invokevirtual 195, 3) := by decide +kernel
theorem dX8_closed_7 : decode cX8_closed 7 = .ok (.ifCond .eq 7, 3) := by decide +kernel
theorem dX8_closed_10 : decode cX8_closed 10 = .ok (.iconst 1, 1) := by decide +kernel
theorem dX8_closed_11 : decode cX8_closed 11 = .ok (.goto 4, 3) := by decide +kernel
theorem dX8_closed_14 : decode cX8_closed 14 = .ok (.iconst 0, 1) := by decide +kernel
theorem dX8_closed_15 : decode cX8_closed 15 = .ok (.ireturn, 1) := by decide +kernel
theorem cv_X8_closed : wn_cV yX8_closed cX8_closed 1 (some .int) RX8 0 := ⟨wm_476, wm_973, wm_974, wm_377, by decide +kernel⟩
abbrev rm_X8_closed : Room := rmz 4 85
set_option maxHeartbeats 4000000 in
set_option maxRecDepth 100000 in
theorem c_X8_closed {ad : Nat → Nat} {o : Nat} {M : Mm} {q : Int32 × Mm} (ho : shp o = 8) (hF : f_X8_closed o M = some q) : KI ad yX8_closed cX8_closed 1 (some .int) rm_X8_closed [.ref (ad o)] M q.1 q.2 := by
  refine wn_enterI (own := RX8) (by decide) rfl (Nat.le_of_ble_eq_true rfl) (fun X ls Z hQ hl => ?_)
  have hl : lv_has ls 1 [(0, .ref (ad o))] := hl
  unfold f_X8_closed at hF
  refine r_aload_n Z dX8_closed_0 rfl (lv_at hl 0 rfl) ?_
  refine g_8_1 Z ho wm_351 dX8_closed_1 ?_
  obtain ⟨q1, hq1, hF⟩ := bd_some hF
  refine r_invVi [] Z (c_X4_isClosed (sh_8_1 ho) hq1) cv_X4_isClosed rfl (shp_lt (sh_8_1 ho) (by decide)) (fun _ _ => ⟨_, ce_4 (sh_8_1 ho)⟩) wm_473 rfl rfl ⟨Nat.le_of_ble_eq_true rfl, Nat.le_of_ble_eq_true rfl⟩ rfl hl.1 rfl (Nat.le_of_ble_eq_true rfl) dX8_closed_4 ?_
  refine r_if_eq Z 14 dX8_closed_7 (by decide) (fun hc2 => ?_) (fun hc2 => ?_)
  · replace hF := if_some hc2 hF
    refine r_iconst (v := 0) Z dX8_closed_14 (by decide) ?_
    exact r_iret Z hQ hF dX8_closed_15
  · replace hF := nif_some hc2 hF
    refine r_iconst (v := 1) Z dX8_closed_10 (by decide) ?_
    refine r_goto Z 15 dX8_closed_11 (by decide) ?_
    exact r_iret Z hQ hF dX8_closed_15
theorem dX8_comes_0 : decode cX8_comes 0 = .ok (.iload_n 1, 1) := by decide +kernel
theorem dX8_comes_1 : decode cX8_comes 1 = .ok (.invokestatic 106, 3) := by decide +kernel
theorem dX8_comes_4 : decode cX8_comes 4 = .ok (.ifCond .eq 13, 3) := by decide +kernel
theorem dX8_comes_7 : decode cX8_comes 7 = .ok (.iload_n 2, 1) := by decide +kernel
theorem dX8_comes_8 : decode cX8_comes 8 = .ok (.ifCond .lt 9, 3) := by decide +kernel
theorem dX8_comes_11 : decode cX8_comes 11 = .ok (.iload_n 2, 1) := by decide +kernel
theorem dX8_comes_12 : decode cX8_comes 12 = .ok (.bipush 9, 2) := by decide +kernel
theorem dX8_comes_14 : decode cX8_comes 14 = .ok (.if_icmp .le 5, 3) := by decide +kernel
theorem dX8_comes_17 : decode cX8_comes 17 = .ok (.iconst (-1), 1) := by decide +kernel
theorem dX8_comes_18 : decode cX8_comes 18 = .ok (.ireturn, 1) := by decide +kernel
theorem dX8_comes_19 : decode cX8_comes 19 = .ok (.aload_n 0, 1) := by decide +kernel
theorem dX8_comes_20 : decode cX8_comes 20 = .ok (.getfield 18, 3) := by decide +kernel
theorem dX8_comes_23 : decode cX8_comes 23 = .ok (.iload_n 1, 1) := by decide +kernel
theorem dX8_comes_24 : decode cX8_comes 24 = .ok (.invokevirtual 109, 3) := by decide +kernel
theorem dX8_comes_27 : decode cX8_comes 27 = .ok (.ifCond .ne 9, 3) := by decide +kernel
theorem dX8_comes_30 : decode cX8_comes 30 = .ok (.aload_n 0, 1) := by decide +kernel
theorem dX8_comes_31 : decode cX8_comes 31 = .ok (.iconst 1, 1) := by decide +kernel
theorem dX8_comes_32 : decode cX8_comes 32 = .ok (.invokevirtual 66, 3) := by decide +kernel
theorem dX8_comes_35 : decode cX8_comes 35 = .ok (.ireturn, 1) := by decide +kernel
theorem dX8_comes_36 : decode cX8_comes 36 = .ok (.aload_n 0, 1) := by decide +kernel
theorem dX8_comes_37 : decode cX8_comes 37 = .ok (.getfield 18, 3) := by decide +kernel
theorem dX8_comes_40 : decode cX8_comes 40 = .ok (.getfield 116, 3) := by decide +kernel
theorem dX8_comes_43 : decode cX8_comes 43 = .ok (.iload_n 1, 1) := by decide +kernel
theorem dX8_comes_44 : decode cX8_comes 44 = .ok (.aaload, 1) := by decide +kernel
theorem dX8_comes_45 : decode cX8_comes 45 = .ok (.getfield 141, 3) := by decide +kernel
theorem dX8_comes_48 : decode cX8_comes 48 = .ok (.istore_n 3, 1) := by decide +kernel
theorem dX8_comes_49 : decode cX8_comes 49 = .ok (.aload_n 0, 1) := by decide +kernel
theorem dX8_comes_50 : decode cX8_comes 50 = .ok (.getfield 18, 3) := by decide +kernel
theorem dX8_comes_53 : decode cX8_comes 53 = .ok (.getfield 116, 3) := by decide +kernel
theorem dX8_comes_56 : decode cX8_comes 56 = .ok (.iload_n 1, 1) := by decide +kernel
theorem dX8_comes_57 : decode cX8_comes 57 = .ok (.aaload, 1) := by decide +kernel
theorem dX8_comes_58 : decode cX8_comes 58 = .ok (.iload_n 2, 1) := by decide +kernel
theorem dX8_comes_59 : decode cX8_comes 59 = .ok (.putfield 141, 3) := by decide +kernel
theorem dX8_comes_62 : decode cX8_comes 62 = .ok (.iload_n 3, 1) := by decide +kernel
theorem dX8_comes_63 : decode cX8_comes 63 = .ok (.ireturn, 1) := by decide +kernel
theorem cv_X8_comes : wn_cV yX8_comes cX8_comes 4 (some .int) RX8 2 := ⟨wm_432, wm_925, wm_926, wm_377, by decide +kernel⟩
abbrev rm_X8_comes : Room := rmz 2 41
set_option maxHeartbeats 4000000 in
set_option maxRecDepth 100000 in
theorem c_X8_comes {ad : Nat → Nat} {o : Nat} {x1 : Int32} {x2 : Int32} {M : Mm} {q : Int32 × Mm} (ho : shp o = 8) (hF : f_X8_comes o x1 x2 M = some q) : KI ad yX8_comes cX8_comes 4 (some .int) rm_X8_comes [.ref (ad o), .int x1, .int x2] M q.1 q.2 := by
  refine wn_enterI (own := RX8) (by decide) rfl (Nat.le_of_ble_eq_true rfl) (fun X ls Z hQ hl => ?_)
  have hl : lv_has ls 4 [(0, .ref (ad o)), (1, .int x1), (2, .int x2)] := hl
  unfold f_X8_comes at hF
  refine r_iload_n Z dX8_comes_0 rfl (lv_at hl 1 rfl) ?_
  obtain ⟨q1, hq1, hF⟩ := bd_some hF
  refine r_invSi [] Z (c_X8_isCounterNumber hq1) cv_X8_isCounterNumber wm_409 rfl rfl ⟨Nat.le_of_ble_eq_true rfl, Nat.le_of_ble_eq_true rfl⟩ rfl hl.1 rfl (Nat.le_of_ble_eq_true rfl) dX8_comes_1 ?_
  refine r_if_eq Z 17 dX8_comes_4 (by decide) (fun hc2 => ?_) (fun hc2 => ?_)
  · replace hF := if_some hc2 hF
    refine r_iconst (v := (-1)) Z dX8_comes_17 (by decide) ?_
    exact r_iret Z hQ hF dX8_comes_18
  · replace hF := nif_some hc2 hF
    refine r_iload_n Z dX8_comes_7 rfl (lv_at hl 2 rfl) ?_
    refine r_if_lt Z 17 dX8_comes_8 (by decide) (fun hc3 => ?_) (fun hc3 => ?_)
    · replace hF := if_some hc3 hF
      refine r_iconst (v := (-1)) Z dX8_comes_17 (by decide) ?_
      exact r_iret Z hQ hF dX8_comes_18
    · replace hF := nif_some hc3 hF
      refine r_iload_n Z dX8_comes_11 rfl (lv_at hl 2 rfl) ?_
      refine r_bipush (v := 9) Z dX8_comes_12 (by decide) ?_
      refine r_icmp_le Z 19 dX8_comes_14 (by decide) (fun hc4 => ?_) (fun hc4 => ?_)
      · replace hF := if_some hc4 hF
        refine r_aload_n Z dX8_comes_19 rfl (lv_at hl 0 rfl) ?_
        refine g_8_1 Z ho wm_351 dX8_comes_20 ?_
        refine r_iload_n Z dX8_comes_23 rfl (lv_at hl 1 rfl) ?_
        obtain ⟨q5, hq5, hF⟩ := bd_some hF
        refine r_invVi [] Z (c_X4_has (sh_8_1 ho) hq5) cv_X4_has rfl (shp_lt (sh_8_1 ho) (by decide)) (fun _ _ => ⟨_, ce_4 (sh_8_1 ho)⟩) wm_411 rfl rfl ⟨Nat.le_of_ble_eq_true rfl, Nat.le_of_ble_eq_true rfl⟩ rfl hl.1 rfl (Nat.le_of_ble_eq_true rfl) dX8_comes_24 ?_
        refine r_if_ne Z 36 dX8_comes_27 (by decide) (fun hc6 => ?_) (fun hc6 => ?_)
        · replace hF := nif_some hc6 hF
          refine r_aload_n Z dX8_comes_36 rfl (lv_at hl 0 rfl) ?_
          refine g_8_1 Z ho wm_351 dX8_comes_37 ?_
          refine g_4_0 Z (sh_8_1 ho) wm_418 dX8_comes_40 ?_
          refine r_iload_n Z dX8_comes_43 rfl (lv_at hl 1 rfl) ?_
          obtain ⟨hi7, hF⟩ := ck_some hF
          refine r_aald13 Z (sh_4_0 (sh_8_1 ho)) hi7 dX8_comes_44 ?_
          refine g_1_5 Z (se_13 (sh_4_0 (sh_8_1 ho)) hi7) wm_431 dX8_comes_45 ?_
          obtain ⟨t8, et8, hF⟩ := nm_some hF
          rw [← et8]
          refine r_istore_n Z [(3, .int t8), (0, .ref (ad o)), (1, .int x1), (2, .int x2)] dX8_comes_48 rfl hl (by decide) rfl (fun ls hl => ?_)
          refine r_aload_n Z dX8_comes_49 rfl (lv_at hl 1 rfl) ?_
          refine g_8_1 Z ho wm_351 dX8_comes_50 ?_
          refine g_4_0 Z (sh_8_1 ho) wm_418 dX8_comes_53 ?_
          refine r_iload_n Z dX8_comes_56 rfl (lv_at hl 2 rfl) ?_
          obtain ⟨hi9, hF⟩ := ck_some hF
          refine r_aald13 Z (sh_4_0 (sh_8_1 ho)) hi9 dX8_comes_57 ?_
          refine r_iload_n Z dX8_comes_58 rfl (lv_at hl 3 rfl) ?_
          obtain ⟨M10, eM10, hF⟩ := nm_some hF
          refine p_1_5 Z (se_13 (sh_4_0 (sh_8_1 ho)) hi9) wm_431 dX8_comes_59 ?_
          rw [← eM10]
          refine r_iload_n Z dX8_comes_62 rfl (lv_at hl 0 rfl) ?_
          exact r_iret Z hQ hF dX8_comes_63
        · replace hF := if_some hc6 hF
          refine r_aload_n Z dX8_comes_30 rfl (lv_at hl 0 rfl) ?_
          refine r_iconst (v := 1) Z dX8_comes_31 (by decide) ?_
          obtain ⟨q11, hq11, hF⟩ := bd_some hF
          refine r_invVi [] Z (c_X8_refuse ho hq11) cv_X8_refuse rfl (shp_lt ho (by decide)) (fun _ _ => ⟨_, ce_8 ho⟩) wm_378 rfl rfl ⟨Nat.le_of_ble_eq_true rfl, Nat.le_of_ble_eq_true rfl⟩ rfl hl.1 rfl (Nat.le_of_ble_eq_true rfl) dX8_comes_32 ?_
          exact r_iret Z hQ hF dX8_comes_35
      · replace hF := nif_some hc4 hF
        refine r_iconst (v := (-1)) Z dX8_comes_17 (by decide) ?_
        exact r_iret Z hQ hF dX8_comes_18
theorem dX8_copy_0 : decode cX8_copy 0 = .ok (.iload_n 1, 1) := by decide +kernel
theorem dX8_copy_1 : decode cX8_copy 1 = .ok (.invokestatic 62, 3) := by decide +kernel
theorem dX8_copy_4 : decode cX8_copy 4 = .ok (.ifCond .eq 10, 3) := by decide +kernel
theorem dX8_copy_7 : decode cX8_copy 7 = .ok (.iload_n 3, 1) := by decide +kernel
theorem dX8_copy_8 : decode cX8_copy 8 = .ok (.invokestatic 62, 3) := by decide +kernel
theorem dX8_copy_11 : decode cX8_copy 11 = .ok (.ifCond .ne 5, 3) := by decide +kernel
theorem dX8_copy_14 : decode cX8_copy 14 = .ok (.iconst (-1), 1) := by decide +kernel
theorem dX8_copy_15 : decode cX8_copy 15 = .ok (.ireturn, 1) := by decide +kernel
theorem dX8_copy_16 : decode cX8_copy 16 = .ok (.iload 5, 2) := by decide +kernel
theorem dX8_copy_18 : decode cX8_copy 18 = .ok (.ifCond .ge 9, 3) := by decide +kernel
theorem dX8_copy_21 : decode cX8_copy 21 = .ok (.aload_n 0, 1) := by decide +kernel
theorem dX8_copy_22 : decode cX8_copy 22 = .ok (.iconst 5, 1) := by decide +kernel
theorem dX8_copy_23 : decode cX8_copy 23 = .ok (.invokevirtual 66, 3) := by decide +kernel
theorem dX8_copy_26 : decode cX8_copy 26 = .ok (.ireturn, 1) := by decide +kernel
theorem dX8_copy_27 : decode cX8_copy 27 = .ok (.aload_n 0, 1) := by decide +kernel
theorem dX8_copy_28 : decode cX8_copy 28 = .ok (.getfield 11, 3) := by decide +kernel
theorem dX8_copy_31 : decode cX8_copy 31 = .ok (.iload_n 1, 1) := by decide +kernel
theorem dX8_copy_32 : decode cX8_copy 32 = .ok (.aaload, 1) := by decide +kernel
theorem dX8_copy_33 : decode cX8_copy 33 = .ok (.invokevirtual 74, 3) := by decide +kernel
theorem dX8_copy_36 : decode cX8_copy 36 = .ok (.ifCond .eq 15, 3) := by decide +kernel
theorem dX8_copy_39 : decode cX8_copy 39 = .ok (.aload_n 0, 1) := by decide +kernel
theorem dX8_copy_40 : decode cX8_copy 40 = .ok (.getfield 11, 3) := by decide +kernel
theorem dX8_copy_43 : decode cX8_copy 43 = .ok (.iload_n 3, 1) := by decide +kernel
theorem dX8_copy_44 : decode cX8_copy 44 = .ok (.aaload, 1) := by decide +kernel
theorem dX8_copy_45 : decode cX8_copy 45 = .ok (.invokevirtual 74, 3) := by decide +kernel
theorem dX8_copy_48 : decode cX8_copy 48 = .ok (.ifCond .ne 9, 3) := by decide +kernel
theorem dX8_copy_51 : decode cX8_copy 51 = .ok (.aload_n 0, 1) := by decide +kernel
theorem dX8_copy_52 : decode cX8_copy 52 = .ok (.iconst 1, 1) := by decide +kernel
theorem dX8_copy_53 : decode cX8_copy 53 = .ok (.invokevirtual 66, 3) := by decide +kernel
theorem dX8_copy_56 : decode cX8_copy 56 = .ok (.ireturn, 1) := by decide +kernel
theorem dX8_copy_57 : decode cX8_copy 57 = .ok (.aload_n 0, 1) := by decide +kernel
theorem dX8_copy_58 : decode cX8_copy 58 = .ok (.getfield 11, 3) := by decide +kernel
theorem dX8_copy_61 : decode cX8_copy 61 = .ok (.iload_n 1, 1) := by decide +kernel
theorem dX8_copy_62 : decode cX8_copy 62 = .ok (.aaload, 1) := by decide +kernel
theorem dX8_copy_63 : decode cX8_copy 63 = .ok (.iload_n 2, 1) := by decide +kernel
theorem dX8_copy_64 : decode cX8_copy 64 = .ok (.iload 5, 2) := by decide +kernel
theorem dX8_copy_66 : decode cX8_copy 66 = .ok (.invokevirtual 91, 3) := by decide +kernel
theorem dX8_copy_69 : decode cX8_copy 69 = .ok (.ifCond .eq 19, 3) := by decide +kernel
theorem dX8_copy_72 : decode cX8_copy 72 = .ok (.aload_n 0, 1) := by decide +kernel
theorem dX8_copy_73 : decode cX8_copy 73 = .ok (.getfield 11, 3) := by decide +kernel
theorem dX8_copy_76 : decode cX8_copy 76 = .ok (.iload_n 3, 1) := by decide +kernel
theorem dX8_copy_77 : decode cX8_copy 77 = .ok (.aaload, 1) := by decide +kernel
theorem dX8_copy_78 : decode cX8_copy 78 = .ok (.iload 4, 2) := by decide +kernel
theorem dX8_copy_80 : decode cX8_copy 80 = .ok (.iload 5, 2) := by decide +kernel
theorem dX8_copy_82 : decode cX8_copy 82 = .ok (.invokevirtual 91, 3) := by decide +kernel
theorem dX8_copy_85 : decode cX8_copy 85 = .ok (.ifCond .ne 9, 3) := by decide +kernel
theorem dX8_copy_88 : decode cX8_copy 88 = .ok (.aload_n 0, 1) := by decide +kernel
theorem dX8_copy_89 : decode cX8_copy 89 = .ok (.iconst 2, 1) := by decide +kernel
theorem dX8_copy_90 : decode cX8_copy 90 = .ok (.invokevirtual 66, 3) := by decide +kernel
theorem dX8_copy_93 : decode cX8_copy 93 = .ok (.ireturn, 1) := by decide +kernel
theorem dX8_copy_94 : decode cX8_copy 94 = .ok (.aload_n 0, 1) := by decide +kernel
theorem dX8_copy_95 : decode cX8_copy 95 = .ok (.getfield 11, 3) := by decide +kernel
theorem dX8_copy_98 : decode cX8_copy 98 = .ok (.iload_n 3, 1) := by decide +kernel
theorem dX8_copy_99 : decode cX8_copy 99 = .ok (.aaload, 1) := by decide +kernel
theorem dX8_copy_100 : decode cX8_copy 100 = .ok (.aload_n 0, 1) := by decide +kernel
theorem dX8_copy_101 : decode cX8_copy 101 = .ok (.getfield 11, 3) := by decide +kernel
theorem dX8_copy_104 : decode cX8_copy 104 = .ok (.iload_n 1, 1) := by decide +kernel
theorem dX8_copy_105 : decode cX8_copy 105 = .ok (.aaload, 1) := by decide +kernel
theorem dX8_copy_106 : decode cX8_copy 106 = .ok (.iload_n 2, 1) := by decide +kernel
theorem dX8_copy_107 : decode cX8_copy 107 = .ok (.iload 4, 2) := by decide +kernel
theorem dX8_copy_109 : decode cX8_copy 109 = .ok (.iload 5, 2) := by decide +kernel
theorem dX8_copy_111 : decode cX8_copy 111 = .ok (.invokevirtual 95, 3) := by decide +kernel
theorem dX8_copy_114 : decode cX8_copy 114 = .ok (.iconst 1, 1) := by decide +kernel
theorem dX8_copy_115 : decode cX8_copy 115 = .ok (.ireturn, 1) := by decide +kernel
theorem cv_X8_copy : wn_cV yX8_copy cX8_copy 6 (some .int) RX8 5 := ⟨wm_402, wm_877, wm_878, wm_377, by decide +kernel⟩
abbrev rm_X8_copy : Room := rmz 2 46
set_option maxHeartbeats 4000000 in
set_option maxRecDepth 100000 in
theorem c_X8_copy {ad : Nat → Nat} {o : Nat} {x1 : Int32} {x2 : Int32} {x3 : Int32} {x4 : Int32} {x5 : Int32} {M : Mm} {q : Int32 × Mm} (ho : shp o = 8) (hF : f_X8_copy o x1 x2 x3 x4 x5 M = some q) : KI ad yX8_copy cX8_copy 6 (some .int) rm_X8_copy [.ref (ad o), .int x1, .int x2, .int x3, .int x4, .int x5] M q.1 q.2 := by
  refine wn_enterI (own := RX8) (by decide) rfl (Nat.le_of_ble_eq_true rfl) (fun X ls Z hQ hl => ?_)
  have hl : lv_has ls 6 [(0, .ref (ad o)), (1, .int x1), (2, .int x2), (3, .int x3), (4, .int x4), (5, .int x5)] := hl
  have L51 : ∀ (M : Mm) (ls : Array Slot), lv_has ls 6 [(0, .ref (ad o))] → f_X8_copy_b51 o M = some q → G ad X M 51 ls [] := by
    intro M ls hl hF
    unfold f_X8_copy_b51 at hF
    refine r_aload_n Z dX8_copy_51 rfl (lv_at hl 0 rfl) ?_
    refine r_iconst (v := 1) Z dX8_copy_52 (by decide) ?_
    obtain ⟨q1, hq1, hF⟩ := bd_some hF
    refine r_invVi [] Z (c_X8_refuse ho hq1) cv_X8_refuse rfl (shp_lt ho (by decide)) (fun _ _ => ⟨_, ce_8 ho⟩) wm_378 rfl rfl ⟨Nat.le_of_ble_eq_true rfl, Nat.le_of_ble_eq_true rfl⟩ rfl hl.1 rfl (Nat.le_of_ble_eq_true rfl) dX8_copy_53 ?_
    exact r_iret Z hQ hF dX8_copy_56
  have L88 : ∀ (M : Mm) (ls : Array Slot), lv_has ls 6 [(0, .ref (ad o))] → f_X8_copy_b88 o M = some q → G ad X M 88 ls [] := by
    intro M ls hl hF
    unfold f_X8_copy_b88 at hF
    refine r_aload_n Z dX8_copy_88 rfl (lv_at hl 0 rfl) ?_
    refine r_iconst (v := 2) Z dX8_copy_89 (by decide) ?_
    obtain ⟨q2, hq2, hF⟩ := bd_some hF
    refine r_invVi [] Z (c_X8_refuse ho hq2) cv_X8_refuse rfl (shp_lt ho (by decide)) (fun _ _ => ⟨_, ce_8 ho⟩) wm_378 rfl rfl ⟨Nat.le_of_ble_eq_true rfl, Nat.le_of_ble_eq_true rfl⟩ rfl hl.1 rfl (Nat.le_of_ble_eq_true rfl) dX8_copy_90 ?_
    exact r_iret Z hQ hF dX8_copy_93
  unfold f_X8_copy at hF
  refine r_iload_n Z dX8_copy_0 rfl (lv_at hl 1 rfl) ?_
  obtain ⟨q3, hq3, hF⟩ := bd_some hF
  refine r_invSi [] Z (c_X8_isRowNumber hq3) cv_X8_isRowNumber wm_375 rfl rfl ⟨Nat.le_of_ble_eq_true rfl, Nat.le_of_ble_eq_true rfl⟩ rfl hl.1 rfl (Nat.le_of_ble_eq_true rfl) dX8_copy_1 ?_
  refine r_if_eq Z 14 dX8_copy_4 (by decide) (fun hc4 => ?_) (fun hc4 => ?_)
  · replace hF := if_some hc4 hF
    refine r_iconst (v := (-1)) Z dX8_copy_14 (by decide) ?_
    exact r_iret Z hQ hF dX8_copy_15
  · replace hF := nif_some hc4 hF
    refine r_iload_n Z dX8_copy_7 rfl (lv_at hl 3 rfl) ?_
    obtain ⟨q5, hq5, hF⟩ := bd_some hF
    refine r_invSi [] Z (c_X8_isRowNumber hq5) cv_X8_isRowNumber wm_375 rfl rfl ⟨Nat.le_of_ble_eq_true rfl, Nat.le_of_ble_eq_true rfl⟩ rfl hl.1 rfl (Nat.le_of_ble_eq_true rfl) dX8_copy_8 ?_
    refine r_if_ne Z 16 dX8_copy_11 (by decide) (fun hc6 => ?_) (fun hc6 => ?_)
    · replace hF := nif_some hc6 hF
      refine r_iload Z dX8_copy_16 (lv_at hl 5 rfl) ?_
      refine r_if_ge Z 27 dX8_copy_18 (by decide) (fun hc7 => ?_) (fun hc7 => ?_)
      · replace hF := if_some hc7 hF
        refine r_aload_n Z dX8_copy_27 rfl (lv_at hl 0 rfl) ?_
        refine g_8_0 Z ho wm_348 dX8_copy_28 ?_
        refine r_iload_n Z dX8_copy_31 rfl (lv_at hl 1 rfl) ?_
        obtain ⟨hi8, hF⟩ := ck_some hF
        refine r_aald14 Z (sh_8_0 ho) hi8 dX8_copy_32 ?_
        obtain ⟨q9, hq9, hF⟩ := bd_some hF
        refine r_invVi [] Z (c_X6_isThere (se_14 (sh_8_0 ho) hi8) hq9) cv_X6_isThere rfl (shp_lt (se_14 (sh_8_0 ho) hi8) (by decide)) (fun _ _ => ⟨_, ce_6 (se_14 (sh_8_0 ho) hi8)⟩) wm_385 rfl rfl ⟨Nat.le_of_ble_eq_true rfl, Nat.le_of_ble_eq_true rfl⟩ rfl hl.1 rfl (Nat.le_of_ble_eq_true rfl) dX8_copy_33 ?_
        refine r_if_eq Z 51 dX8_copy_36 (by decide) (fun hc10 => ?_) (fun hc10 => ?_)
        · replace hF := if_some hc10 hF
          exact L51 q9.2 ls (lv_sub hl [0] rfl) hF
        · replace hF := nif_some hc10 hF
          refine r_aload_n Z dX8_copy_39 rfl (lv_at hl 0 rfl) ?_
          refine g_8_0 Z ho wm_348 dX8_copy_40 ?_
          refine r_iload_n Z dX8_copy_43 rfl (lv_at hl 3 rfl) ?_
          obtain ⟨hi11, hF⟩ := ck_some hF
          refine r_aald14 Z (sh_8_0 ho) hi11 dX8_copy_44 ?_
          obtain ⟨q12, hq12, hF⟩ := bd_some hF
          refine r_invVi [] Z (c_X6_isThere (se_14 (sh_8_0 ho) hi11) hq12) cv_X6_isThere rfl (shp_lt (se_14 (sh_8_0 ho) hi11) (by decide)) (fun _ _ => ⟨_, ce_6 (se_14 (sh_8_0 ho) hi11)⟩) wm_385 rfl rfl ⟨Nat.le_of_ble_eq_true rfl, Nat.le_of_ble_eq_true rfl⟩ rfl hl.1 rfl (Nat.le_of_ble_eq_true rfl) dX8_copy_45 ?_
          refine r_if_ne Z 57 dX8_copy_48 (by decide) (fun hc13 => ?_) (fun hc13 => ?_)
          · replace hF := nif_some hc13 hF
            refine r_aload_n Z dX8_copy_57 rfl (lv_at hl 0 rfl) ?_
            refine g_8_0 Z ho wm_348 dX8_copy_58 ?_
            refine r_iload_n Z dX8_copy_61 rfl (lv_at hl 1 rfl) ?_
            obtain ⟨hi14, hF⟩ := ck_some hF
            refine r_aald14 Z (sh_8_0 ho) hi14 dX8_copy_62 ?_
            refine r_iload_n Z dX8_copy_63 rfl (lv_at hl 2 rfl) ?_
            refine r_iload Z dX8_copy_64 (lv_at hl 5 rfl) ?_
            obtain ⟨q15, hq15, hF⟩ := bd_some hF
            refine r_invVi [] Z (c_X6_spans (se_14 (sh_8_0 ho) hi14) hq15) cv_X6_spans rfl (shp_lt (se_14 (sh_8_0 ho) hi14) (by decide)) (fun _ _ => ⟨_, ce_6 (se_14 (sh_8_0 ho) hi14)⟩) wm_398 rfl rfl ⟨Nat.le_of_ble_eq_true rfl, Nat.le_of_ble_eq_true rfl⟩ rfl hl.1 rfl (Nat.le_of_ble_eq_true rfl) dX8_copy_66 ?_
            refine r_if_eq Z 88 dX8_copy_69 (by decide) (fun hc16 => ?_) (fun hc16 => ?_)
            · replace hF := if_some hc16 hF
              exact L88 q15.2 ls (lv_sub hl [0] rfl) hF
            · replace hF := nif_some hc16 hF
              refine r_aload_n Z dX8_copy_72 rfl (lv_at hl 0 rfl) ?_
              refine g_8_0 Z ho wm_348 dX8_copy_73 ?_
              refine r_iload_n Z dX8_copy_76 rfl (lv_at hl 3 rfl) ?_
              obtain ⟨hi17, hF⟩ := ck_some hF
              refine r_aald14 Z (sh_8_0 ho) hi17 dX8_copy_77 ?_
              refine r_iload Z dX8_copy_78 (lv_at hl 4 rfl) ?_
              refine r_iload Z dX8_copy_80 (lv_at hl 5 rfl) ?_
              obtain ⟨q18, hq18, hF⟩ := bd_some hF
              refine r_invVi [] Z (c_X6_spans (se_14 (sh_8_0 ho) hi17) hq18) cv_X6_spans rfl (shp_lt (se_14 (sh_8_0 ho) hi17) (by decide)) (fun _ _ => ⟨_, ce_6 (se_14 (sh_8_0 ho) hi17)⟩) wm_398 rfl rfl ⟨Nat.le_of_ble_eq_true rfl, Nat.le_of_ble_eq_true rfl⟩ rfl hl.1 rfl (Nat.le_of_ble_eq_true rfl) dX8_copy_82 ?_
              refine r_if_ne Z 94 dX8_copy_85 (by decide) (fun hc19 => ?_) (fun hc19 => ?_)
              · replace hF := nif_some hc19 hF
                refine r_aload_n Z dX8_copy_94 rfl (lv_at hl 0 rfl) ?_
                refine g_8_0 Z ho wm_348 dX8_copy_95 ?_
                refine r_iload_n Z dX8_copy_98 rfl (lv_at hl 3 rfl) ?_
                obtain ⟨hi20, hF⟩ := ck_some hF
                refine r_aald14 Z (sh_8_0 ho) hi20 dX8_copy_99 ?_
                refine r_aload_n Z dX8_copy_100 rfl (lv_at hl 0 rfl) ?_
                refine g_8_0 Z ho wm_348 dX8_copy_101 ?_
                refine r_iload_n Z dX8_copy_104 rfl (lv_at hl 1 rfl) ?_
                obtain ⟨hi21, hF⟩ := ck_some hF
                refine r_aald14 Z (sh_8_0 ho) hi21 dX8_copy_105 ?_
                refine r_iload_n Z dX8_copy_106 rfl (lv_at hl 2 rfl) ?_
                refine r_iload Z dX8_copy_107 (lv_at hl 4 rfl) ?_
                refine r_iload Z dX8_copy_109 (lv_at hl 5 rfl) ?_
                obtain ⟨M22, hM22, hF⟩ := bd_some hF
                refine r_invVv [] Z (c_X6_take (se_14 (sh_8_0 ho) hi20) (se_14 (sh_8_0 ho) hi21) hM22) cv_X6_take rfl (shp_lt (se_14 (sh_8_0 ho) hi20) (by decide)) (fun _ _ => ⟨_, ce_6 (se_14 (sh_8_0 ho) hi20)⟩) wm_399 rfl rfl ⟨Nat.le_of_ble_eq_true rfl, Nat.le_of_ble_eq_true rfl⟩ rfl hl.1 rfl (Nat.le_of_ble_eq_true rfl) dX8_copy_111 ?_
                refine r_iconst (v := 1) Z dX8_copy_114 (by decide) ?_
                exact r_iret Z hQ hF dX8_copy_115
              · replace hF := if_some hc19 hF
                exact L88 q18.2 ls (lv_sub hl [0] rfl) hF
          · replace hF := if_some hc13 hF
            exact L51 q12.2 ls (lv_sub hl [0] rfl) hF
      · replace hF := nif_some hc7 hF
        refine r_aload_n Z dX8_copy_21 rfl (lv_at hl 0 rfl) ?_
        refine r_iconst (v := 5) Z dX8_copy_22 (by decide) ?_
        obtain ⟨q23, hq23, hF⟩ := bd_some hF
        refine r_invVi [] Z (c_X8_refuse ho hq23) cv_X8_refuse rfl (shp_lt ho (by decide)) (fun _ _ => ⟨_, ce_8 ho⟩) wm_378 rfl rfl ⟨Nat.le_of_ble_eq_true rfl, Nat.le_of_ble_eq_true rfl⟩ rfl hl.1 rfl (Nat.le_of_ble_eq_true rfl) dX8_copy_23 ?_
        exact r_iret Z hQ hF dX8_copy_26
    · replace hF := if_some hc6 hF
      refine r_iconst (v := (-1)) Z dX8_copy_14 (by decide) ?_
      exact r_iret Z hQ hF dX8_copy_15
theorem dX8_rowsThere_0 : decode cX8_rowsThere 0 = .ok (.iconst 0, 1) := by decide +kernel
theorem dX8_rowsThere_1 : decode cX8_rowsThere 1 = .ok (.istore_n 1, 1) := by decide +kernel
theorem dX8_rowsThere_2 : decode cX8_rowsThere 2 = .ok (.iconst 0, 1) := by decide +kernel
theorem dX8_rowsThere_3 : decode cX8_rowsThere 3 = .ok (.istore_n 2, 1) := by decide +kernel
theorem dX8_rowsThere_4 : decode cX8_rowsThere 4 = .ok (.iload_n 2, 1) := by decide +kernel
theorem dX8_rowsThere_5 : decode cX8_rowsThere 5 = .ok (.bipush 6, 2) := by decide +kernel
theorem dX8_rowsThere_7 : decode cX8_rowsThere 7 = .ok (.if_icmp .ge 24, 3) := by decide +kernel
theorem dX8_rowsThere_10 : decode cX8_rowsThere 10 = .ok (.aload_n 0, 1) := by decide +kernel
theorem dX8_rowsThere_11 : decode cX8_rowsThere 11 = .ok (.getfield 11, 3) := by decide +kernel
theorem dX8_rowsThere_14 : decode cX8_rowsThere 14 = .ok (.iload_n 2, 1) := by decide +kernel
theorem dX8_rowsThere_15 : decode cX8_rowsThere 15 = .ok (.aaload, 1) := by decide +kernel
theorem dX8_rowsThere_16 : decode cX8_rowsThere 16 = .ok (.invokevirtual 74, 3) := by decide +kernel
theorem dX8_rowsThere_19 : decode cX8_rowsThere 19 = .ok (.ifCond .eq 6, 3) := by decide +kernel
theorem dX8_rowsThere_22 : decode cX8_rowsThere 22 = .ok (.iinc 1 1, 3) := by decide +kernel
theorem dX8_rowsThere_25 : decode cX8_rowsThere 25 = .ok (.iinc 2 1, 3) := by decide +kernel
theorem dX8_rowsThere_28 : decode cX8_rowsThere 28 = .ok (.goto (-24), 3) := by decide +kernel
theorem dX8_rowsThere_31 : decode cX8_rowsThere 31 = .ok (.iload_n 1, 1) := by decide +kernel
theorem dX8_rowsThere_32 : decode cX8_rowsThere 32 = .ok (.ireturn, 1) := by decide +kernel
theorem cv_X8_rowsThere : wn_cV yX8_rowsThere cX8_rowsThere 3 (some .int) RX8 0 := ⟨wm_583, wm_585, wm_586, wm_377, by decide +kernel⟩
abbrev rm_X8_rowsThere : Room := rmz 1 20
set_option maxHeartbeats 4000000 in
set_option maxRecDepth 100000 in
theorem c_X8_rowsThere {ad : Nat → Nat} {o : Nat} {M : Mm} {q : Int32 × Mm} (ho : shp o = 8) (hF : f_X8_rowsThere o M = some q) : KI ad yX8_rowsThere cX8_rowsThere 3 (some .int) rm_X8_rowsThere [.ref (ad o)] M q.1 q.2 := by
  refine wn_enterI (own := RX8) (by decide) rfl (Nat.le_of_ble_eq_true rfl) (fun X ls Z hQ hl => ?_)
  have hl : lv_has ls 3 [(0, .ref (ad o))] := hl
  have L4 : ∀ (n4 : Nat) (v1 : Int32) (v2 : Int32) (M : Mm) (ls : Array Slot), lv_has ls 3 [(0, .ref (ad o)), (1, .int v1), (2, .int v2)] → f_X8_rowsThere_b4 o n4 v1 v2 M = some q → G ad X M 4 ls [] := by
    intro n4
    induction n4 with
    | zero =>
      intro v1 v2 M ls hl hF
      cases hF
    | succ n4 ih4 =>
      intro v1 v2 M ls hl hF
      replace hF : f_X8_rowsThere_b4B (f_X8_rowsThere_b4 o n4) o v1 v2 M = some q := hF
      unfold f_X8_rowsThere_b4B at hF
      refine r_iload_n Z dX8_rowsThere_4 rfl (lv_at hl 2 rfl) ?_
      refine r_bipush (v := 6) Z dX8_rowsThere_5 (by decide) ?_
      refine r_icmp_ge Z 31 dX8_rowsThere_7 (by decide) (fun hc1 => ?_) (fun hc1 => ?_)
      · replace hF := if_some hc1 hF
        refine r_iload_n Z dX8_rowsThere_31 rfl (lv_at hl 1 rfl) ?_
        exact r_iret Z hQ hF dX8_rowsThere_32
      · replace hF := nif_some hc1 hF
        refine r_aload_n Z dX8_rowsThere_10 rfl (lv_at hl 0 rfl) ?_
        refine g_8_0 Z ho wm_348 dX8_rowsThere_11 ?_
        refine r_iload_n Z dX8_rowsThere_14 rfl (lv_at hl 2 rfl) ?_
        obtain ⟨hi2, hF⟩ := ck_some hF
        refine r_aald14 Z (sh_8_0 ho) hi2 dX8_rowsThere_15 ?_
        obtain ⟨q3, hq3, hF⟩ := bd_some hF
        refine r_invVi [] Z (c_X6_isThere (se_14 (sh_8_0 ho) hi2) hq3) cv_X6_isThere rfl (shp_lt (se_14 (sh_8_0 ho) hi2) (by decide)) (fun _ _ => ⟨_, ce_6 (se_14 (sh_8_0 ho) hi2)⟩) wm_385 rfl rfl ⟨Nat.le_of_ble_eq_true rfl, Nat.le_of_ble_eq_true rfl⟩ rfl hl.1 rfl (Nat.le_of_ble_eq_true rfl) dX8_rowsThere_16 ?_
        refine r_if_eq Z 25 dX8_rowsThere_19 (by decide) (fun hc4 => ?_) (fun hc4 => ?_)
        · replace hF := if_some hc4 hF
          obtain ⟨t5, et5, hF⟩ := nm_some hF
          refine r_iinc (j := 2) Z t5 [(2, .int t5), (0, .ref (ad o)), (1, .int v1)] dX8_rowsThere_25 hl rfl (by rw [et5]; rfl) (by decide) rfl (fun ls hl => ?_)
          refine r_goto Z 4 dX8_rowsThere_28 (by decide) ?_
          exact ih4 v1 t5 q3.2 ls (lv_sub hl [1, 2, 0] rfl) hF
        · replace hF := nif_some hc4 hF
          obtain ⟨t6, et6, hF⟩ := nm_some hF
          refine r_iinc (j := 1) Z t6 [(1, .int t6), (0, .ref (ad o)), (2, .int v2)] dX8_rowsThere_22 hl rfl (by rw [et6]; rfl) (by decide) rfl (fun ls hl => ?_)
          obtain ⟨t7, et7, hF⟩ := nm_some hF
          refine r_iinc (j := 2) Z t7 [(2, .int t7), (1, .int t6), (0, .ref (ad o))] dX8_rowsThere_25 hl rfl (by rw [et7]; rfl) (by decide) rfl (fun ls hl => ?_)
          refine r_goto Z 4 dX8_rowsThere_28 (by decide) ?_
          exact ih4 t6 t7 q3.2 ls (lv_sub hl [2, 1, 0] rfl) hF
  unfold f_X8_rowsThere at hF
  refine r_iconst (v := 0) Z dX8_rowsThere_0 (by decide) ?_
  refine r_istore_n Z [(1, .int 0), (0, .ref (ad o))] dX8_rowsThere_1 rfl hl (by decide) rfl (fun ls hl => ?_)
  refine r_iconst (v := 0) Z dX8_rowsThere_2 (by decide) ?_
  refine r_istore_n Z [(2, .int 0), (1, .int 0), (0, .ref (ad o))] dX8_rowsThere_3 rfl hl (by decide) rfl (fun ls hl => ?_)
  exact L4 _ 0 0 M ls (lv_sub hl [2, 1, 0] rfl) hF
theorem dX8_count_0 : decode cX8_count 0 = .ok (.iload_n 1, 1) := by decide +kernel
theorem dX8_count_1 : decode cX8_count 1 = .ok (.tableswitch 63 0 3 #[31, 36, 47, 55], 31) := by decide +kernel
theorem dX8_count_32 : decode cX8_count 32 = .ok (.aload_n 0, 1) := by decide +kernel
theorem dX8_count_33 : decode cX8_count 33 = .ok (.invokevirtual 292, 3) := by decide +kernel
theorem dX8_count_36 : decode cX8_count 36 = .ok (.ireturn, 1) := by decide +kernel
theorem dX8_count_37 : decode cX8_count 37 = .ok (.aload_n 0, 1) := by decide +kernel
theorem dX8_count_38 : decode cX8_count 38 = .ok (.getfield 18, 3) := by decide +kernel
theorem dX8_count_41 : decode cX8_count 41 = .ok (.invokevirtual 295, 3) := by decide +kernel
theorem dX8_count_44 : decode cX8_count 44 = .ok (.invokestatic 298, 3) := by decide +kernel
theorem dX8_count_47 : decode cX8_count 47 = .ok (.ireturn, 1) := by decide +kernel
theorem dX8_count_48 : decode cX8_count 48 = .ok (.aload_n 0, 1) := by decide +kernel
theorem dX8_count_49 : decode cX8_count 49 = .ok (.getfield 18, 3) := by decide +kernel
theorem dX8_count_52 : decode cX8_count 52 = .ok (.invokevirtual 303, 3) := by decide +kernel
theorem dX8_count_55 : decode cX8_count 55 = .ok (.ireturn, 1) := by decide +kernel
theorem dX8_count_56 : decode cX8_count 56 = .ok (.aload_n 0, 1) := by decide +kernel
theorem dX8_count_57 : decode cX8_count 57 = .ok (.getfield 18, 3) := by decide +kernel
theorem dX8_count_60 : decode cX8_count 60 = .ok (.invokevirtual 306, 3) := by decide +kernel
theorem dX8_count_63 : decode cX8_count 63 = .ok (.ireturn, 1) := by decide +kernel
theorem dX8_count_64 : decode cX8_count 64 = .ok (.iconst (-1), 1) := by decide +kernel
theorem dX8_count_65 : decode cX8_count 65 = .ok (.ireturn, 1) := by decide +kernel
theorem cv_X8_count : wn_cV yX8_count cX8_count 2 (some .int) RX8 1 := ⟨wm_595, wm_1093, wm_1094, wm_377, by decide +kernel⟩
abbrev rm_X8_count : Room := rmz 4 86
set_option maxHeartbeats 4000000 in
set_option maxRecDepth 100000 in
theorem c_X8_count {ad : Nat → Nat} {o : Nat} {x1 : Int32} {M : Mm} {q : Int32 × Mm} (ho : shp o = 8) (hF : f_X8_count o x1 M = some q) : KI ad yX8_count cX8_count 2 (some .int) rm_X8_count [.ref (ad o), .int x1] M q.1 q.2 := by
  refine wn_enterI (own := RX8) (by decide) rfl (Nat.le_of_ble_eq_true rfl) (fun X ls Z hQ hl => ?_)
  have hl : lv_has ls 2 [(0, .ref (ad o)), (1, .int x1)] := hl
  unfold f_X8_count at hF
  refine r_iload_n Z dX8_count_0 rfl (lv_at hl 1 rfl) ?_
  by_cases hs1 : x1 = 0
  · replace hF := if_some hs1 hF
    subst hs1
    refine r_tabIn Z 32 dX8_count_1 (by decide) (by decide) rfl (by decide) ?_
    refine r_aload_n Z dX8_count_32 rfl (lv_at hl 0 rfl) ?_
    obtain ⟨q2, hq2, hF⟩ := bd_some hF
    refine r_invVi [] Z (c_X8_rowsThere ho hq2) cv_X8_rowsThere rfl (shp_lt ho (by decide)) (fun _ _ => ⟨_, ce_8 ho⟩) wm_584 rfl rfl ⟨Nat.le_of_ble_eq_true rfl, Nat.le_of_ble_eq_true rfl⟩ rfl hl.1 rfl (Nat.le_of_ble_eq_true rfl) dX8_count_33 ?_
    exact r_iret Z hQ hF dX8_count_36
  replace hF := nif_some hs1 hF
  by_cases hs3 : x1 = 1
  · replace hF := if_some hs3 hF
    subst hs3
    refine r_tabIn Z 37 dX8_count_1 (by decide) (by decide) rfl (by decide) ?_
    refine r_aload_n Z dX8_count_37 rfl (lv_at hl 0 rfl) ?_
    refine g_8_1 Z ho wm_351 dX8_count_38 ?_
    obtain ⟨q4, hq4, hF⟩ := bd_some hF
    refine r_invVi [] Z (c_X4_bitsThere (sh_8_1 ho) hq4) cv_X4_bitsThere rfl (shp_lt (sh_8_1 ho) (by decide)) (fun _ _ => ⟨_, ce_4 (sh_8_1 ho)⟩) wm_587 rfl rfl ⟨Nat.le_of_ble_eq_true rfl, Nat.le_of_ble_eq_true rfl⟩ rfl hl.1 rfl (Nat.le_of_ble_eq_true rfl) dX8_count_41 ?_
    obtain ⟨q5, hq5, hF⟩ := bd_some hF
    refine r_invSi [] Z (c_J6_bitCount_0f7a4 hq5) cv_J6_bitCount_0f7a4 wm_588 rfl rfl ⟨Nat.le_of_ble_eq_true rfl, Nat.le_of_ble_eq_true rfl⟩ rfl hl.1 rfl (Nat.le_of_ble_eq_true rfl) dX8_count_44 ?_
    exact r_iret Z hQ hF dX8_count_47
  replace hF := nif_some hs3 hF
  by_cases hs6 : x1 = 2
  · replace hF := if_some hs6 hF
    subst hs6
    refine r_tabIn Z 48 dX8_count_1 (by decide) (by decide) rfl (by decide) ?_
    refine r_aload_n Z dX8_count_48 rfl (lv_at hl 0 rfl) ?_
    refine g_8_1 Z ho wm_351 dX8_count_49 ?_
    obtain ⟨q7, hq7, hF⟩ := bd_some hF
    refine r_invVi [] Z (c_X4_handsThere (sh_8_1 ho) hq7) cv_X4_handsThere rfl (shp_lt (sh_8_1 ho) (by decide)) (fun _ _ => ⟨_, ce_4 (sh_8_1 ho)⟩) wm_589 rfl rfl ⟨Nat.le_of_ble_eq_true rfl, Nat.le_of_ble_eq_true rfl⟩ rfl hl.1 rfl (Nat.le_of_ble_eq_true rfl) dX8_count_52 ?_
    exact r_iret Z hQ hF dX8_count_55
  replace hF := nif_some hs6 hF
  by_cases hs8 : x1 = 3
  · replace hF := if_some hs8 hF
    subst hs8
    refine r_tabIn Z 56 dX8_count_1 (by decide) (by decide) rfl (by decide) ?_
    refine r_aload_n Z dX8_count_56 rfl (lv_at hl 0 rfl) ?_
    refine g_8_1 Z ho wm_351 dX8_count_57 ?_
    obtain ⟨q9, hq9, hF⟩ := bd_some hF
    refine r_invVi [] Z (c_X4_waysThere (sh_8_1 ho) hq9) cv_X4_waysThere rfl (shp_lt (sh_8_1 ho) (by decide)) (fun _ _ => ⟨_, ce_4 (sh_8_1 ho)⟩) wm_592 rfl rfl ⟨Nat.le_of_ble_eq_true rfl, Nat.le_of_ble_eq_true rfl⟩ rfl hl.1 rfl (Nat.le_of_ble_eq_true rfl) dX8_count_60 ?_
    exact r_iret Z hQ hF dX8_count_63
  replace hF := nif_some hs8 hF
  refine r_tabOut Z 64 dX8_count_1 (wn_out0_3 hs1 hs3 hs6 hs8) (by decide) ?_
  refine r_iconst (v := (-1)) Z dX8_count_64 (by decide) ?_
  exact r_iret Z hQ hF dX8_count_65
theorem dX8_counter_0 : decode cX8_counter 0 = .ok (.iload_n 1, 1) := by decide +kernel
theorem dX8_counter_1 : decode cX8_counter 1 = .ok (.invokestatic 106, 3) := by decide +kernel
theorem dX8_counter_4 : decode cX8_counter 4 = .ok (.ifCond .eq 12, 3) := by decide +kernel
theorem dX8_counter_7 : decode cX8_counter 7 = .ok (.iload_n 2, 1) := by decide +kernel
theorem dX8_counter_8 : decode cX8_counter 8 = .ok (.ifCond .lt 8, 3) := by decide +kernel
theorem dX8_counter_11 : decode cX8_counter 11 = .ok (.iload_n 2, 1) := by decide +kernel
theorem dX8_counter_12 : decode cX8_counter 12 = .ok (.iconst 5, 1) := by decide +kernel
theorem dX8_counter_13 : decode cX8_counter 13 = .ok (.if_icmp .le 5, 3) := by decide +kernel
theorem dX8_counter_16 : decode cX8_counter 16 = .ok (.iconst (-1), 1) := by decide +kernel
theorem dX8_counter_17 : decode cX8_counter 17 = .ok (.ireturn, 1) := by decide +kernel
theorem dX8_counter_18 : decode cX8_counter 18 = .ok (.aload_n 0, 1) := by decide +kernel
theorem dX8_counter_19 : decode cX8_counter 19 = .ok (.getfield 18, 3) := by decide +kernel
theorem dX8_counter_22 : decode cX8_counter 22 = .ok (.iload_n 1, 1) := by decide +kernel
theorem dX8_counter_23 : decode cX8_counter 23 = .ok (.invokevirtual 109, 3) := by decide +kernel
theorem dX8_counter_26 : decode cX8_counter 26 = .ok (.ifCond .eq 7, 3) := by decide +kernel
theorem dX8_counter_29 : decode cX8_counter 29 = .ok (.iconst 1, 1) := by decide +kernel
theorem dX8_counter_30 : decode cX8_counter 30 = .ok (.goto 4, 3) := by decide +kernel
theorem dX8_counter_33 : decode cX8_counter 33 = .ok (.iconst 0, 1) := by decide +kernel
theorem dX8_counter_34 : decode cX8_counter 34 = .ok (.istore_n 3, 1) := by decide +kernel
theorem dX8_counter_35 : decode cX8_counter 35 = .ok (.aload_n 0, 1) := by decide +kernel
theorem dX8_counter_36 : decode cX8_counter 36 = .ok (.getfield 18, 3) := by decide +kernel
theorem dX8_counter_39 : decode cX8_counter 39 = .ok (.iload_n 1, 1) := by decide +kernel
theorem dX8_counter_40 : decode cX8_counter 40 = .ok (.iload_n 2, 1) := by decide +kernel
theorem dX8_counter_41 : decode cX8_counter 41 = .ok (.invokevirtual 110, 3) := by decide +kernel
theorem dX8_counter_44 : decode cX8_counter 44 = .ok (.iload_n 3, 1) := by decide +kernel
theorem dX8_counter_45 : decode cX8_counter 45 = .ok (.ireturn, 1) := by decide +kernel
theorem cv_X8_counter : wn_cV yX8_counter cX8_counter 4 (some .int) RX8 2 := ⟨wm_415, wm_889, wm_890, wm_377, by decide +kernel⟩
abbrev rm_X8_counter : Room := rmz 2 45
set_option maxHeartbeats 4000000 in
set_option maxRecDepth 100000 in
theorem c_X8_counter {ad : Nat → Nat} {o : Nat} {x1 : Int32} {x2 : Int32} {M : Mm} {q : Int32 × Mm} (ho : shp o = 8) (hF : f_X8_counter o x1 x2 M = some q) : KI ad yX8_counter cX8_counter 4 (some .int) rm_X8_counter [.ref (ad o), .int x1, .int x2] M q.1 q.2 := by
  refine wn_enterI (own := RX8) (by decide) rfl (Nat.le_of_ble_eq_true rfl) (fun X ls Z hQ hl => ?_)
  have hl : lv_has ls 4 [(0, .ref (ad o)), (1, .int x1), (2, .int x2)] := hl
  have L34 : ∀ (v1 : Int32) (v2 : Int32) (s0 : Int32) (M : Mm) (ls : Array Slot), lv_has ls 4 [(0, .ref (ad o)), (1, .int v1), (2, .int v2)] → f_X8_counter_b34 o v1 v2 s0 M = some q → G ad X M 34 ls [.int s0] := by
    intro v1 v2 s0 M ls hl hF
    unfold f_X8_counter_b34 at hF
    refine r_istore_n Z [(3, .int s0), (0, .ref (ad o)), (1, .int v1), (2, .int v2)] dX8_counter_34 rfl hl (by decide) rfl (fun ls hl => ?_)
    refine r_aload_n Z dX8_counter_35 rfl (lv_at hl 1 rfl) ?_
    refine g_8_1 Z ho wm_351 dX8_counter_36 ?_
    refine r_iload_n Z dX8_counter_39 rfl (lv_at hl 2 rfl) ?_
    refine r_iload_n Z dX8_counter_40 rfl (lv_at hl 3 rfl) ?_
    obtain ⟨M1, hM1, hF⟩ := bd_some hF
    refine r_invVv [] Z (c_X4_replace (sh_8_1 ho) hM1) cv_X4_replace rfl (shp_lt (sh_8_1 ho) (by decide)) (fun _ _ => ⟨_, ce_4 (sh_8_1 ho)⟩) wm_412 rfl rfl ⟨Nat.le_of_ble_eq_true rfl, Nat.le_of_ble_eq_true rfl⟩ rfl hl.1 rfl (Nat.le_of_ble_eq_true rfl) dX8_counter_41 ?_
    refine r_iload_n Z dX8_counter_44 rfl (lv_at hl 0 rfl) ?_
    exact r_iret Z hQ hF dX8_counter_45
  unfold f_X8_counter at hF
  refine r_iload_n Z dX8_counter_0 rfl (lv_at hl 1 rfl) ?_
  obtain ⟨q2, hq2, hF⟩ := bd_some hF
  refine r_invSi [] Z (c_X8_isCounterNumber hq2) cv_X8_isCounterNumber wm_409 rfl rfl ⟨Nat.le_of_ble_eq_true rfl, Nat.le_of_ble_eq_true rfl⟩ rfl hl.1 rfl (Nat.le_of_ble_eq_true rfl) dX8_counter_1 ?_
  refine r_if_eq Z 16 dX8_counter_4 (by decide) (fun hc3 => ?_) (fun hc3 => ?_)
  · replace hF := if_some hc3 hF
    refine r_iconst (v := (-1)) Z dX8_counter_16 (by decide) ?_
    exact r_iret Z hQ hF dX8_counter_17
  · replace hF := nif_some hc3 hF
    refine r_iload_n Z dX8_counter_7 rfl (lv_at hl 2 rfl) ?_
    refine r_if_lt Z 16 dX8_counter_8 (by decide) (fun hc4 => ?_) (fun hc4 => ?_)
    · replace hF := if_some hc4 hF
      refine r_iconst (v := (-1)) Z dX8_counter_16 (by decide) ?_
      exact r_iret Z hQ hF dX8_counter_17
    · replace hF := nif_some hc4 hF
      refine r_iload_n Z dX8_counter_11 rfl (lv_at hl 2 rfl) ?_
      refine r_iconst (v := 5) Z dX8_counter_12 (by decide) ?_
      refine r_icmp_le Z 18 dX8_counter_13 (by decide) (fun hc5 => ?_) (fun hc5 => ?_)
      · replace hF := if_some hc5 hF
        refine r_aload_n Z dX8_counter_18 rfl (lv_at hl 0 rfl) ?_
        refine g_8_1 Z ho wm_351 dX8_counter_19 ?_
        refine r_iload_n Z dX8_counter_22 rfl (lv_at hl 1 rfl) ?_
        obtain ⟨q6, hq6, hF⟩ := bd_some hF
        refine r_invVi [] Z (c_X4_has (sh_8_1 ho) hq6) cv_X4_has rfl (shp_lt (sh_8_1 ho) (by decide)) (fun _ _ => ⟨_, ce_4 (sh_8_1 ho)⟩) wm_411 rfl rfl ⟨Nat.le_of_ble_eq_true rfl, Nat.le_of_ble_eq_true rfl⟩ rfl hl.1 rfl (Nat.le_of_ble_eq_true rfl) dX8_counter_23 ?_
        refine r_if_eq Z 33 dX8_counter_26 (by decide) (fun hc7 => ?_) (fun hc7 => ?_)
        · replace hF := if_some hc7 hF
          refine r_iconst (v := 0) Z dX8_counter_33 (by decide) ?_
          exact L34 x1 x2 0 q6.2 ls (lv_sub hl [0, 1, 2] rfl) hF
        · replace hF := nif_some hc7 hF
          refine r_iconst (v := 1) Z dX8_counter_29 (by decide) ?_
          refine r_goto Z 34 dX8_counter_30 (by decide) ?_
          exact L34 x1 x2 1 q6.2 ls (lv_sub hl [0, 1, 2] rfl) hF
      · replace hF := nif_some hc5 hF
        refine r_iconst (v := (-1)) Z dX8_counter_16 (by decide) ?_
        exact r_iret Z hQ hF dX8_counter_17
theorem dX8_digest_0 : decode cX8_digest 0 = .ok (.ldc2_w 309, 3) := by decide +kernel
theorem dX8_digest_3 : decode cX8_digest 3 = .ok (.lstore_n 1, 1) := by decide +kernel
theorem dX8_digest_4 : decode cX8_digest 4 = .ok (.iconst 0, 1) := by decide +kernel
theorem dX8_digest_5 : decode cX8_digest 5 = .ok (.istore_n 3, 1) := by decide +kernel
theorem dX8_digest_6 : decode cX8_digest 6 = .ok (.iload_n 3, 1) := by decide +kernel
theorem dX8_digest_7 : decode cX8_digest 7 = .ok (.iconst 4, 1) := by decide +kernel
theorem dX8_digest_8 : decode cX8_digest 8 = .ok (.if_icmp .ge 23, 3) := by decide +kernel
theorem dX8_digest_11 : decode cX8_digest 11 = .ok (.aload_n 0, 1) := by decide +kernel
theorem dX8_digest_12 : decode cX8_digest 12 = .ok (.getfield 18, 3) := by decide +kernel
theorem dX8_digest_15 : decode cX8_digest 15 = .ok (.getfield 116, 3) := by decide +kernel
theorem dX8_digest_18 : decode cX8_digest 18 = .ok (.iload_n 3, 1) := by decide +kernel
theorem dX8_digest_19 : decode cX8_digest 19 = .ok (.aaload, 1) := by decide +kernel
theorem dX8_digest_20 : decode cX8_digest 20 = .ok (.lload_n 1, 1) := by decide +kernel
theorem dX8_digest_21 : decode cX8_digest 21 = .ok (.invokevirtual 311, 3) := by decide +kernel
theorem dX8_digest_24 : decode cX8_digest 24 = .ok (.lstore_n 1, 1) := by decide +kernel
theorem dX8_digest_25 : decode cX8_digest 25 = .ok (.iinc 3 1, 3) := by decide +kernel
theorem dX8_digest_28 : decode cX8_digest 28 = .ok (.goto (-22), 3) := by decide +kernel
theorem dX8_digest_31 : decode cX8_digest 31 = .ok (.iconst 0, 1) := by decide +kernel
theorem dX8_digest_32 : decode cX8_digest 32 = .ok (.istore_n 3, 1) := by decide +kernel
theorem dX8_digest_33 : decode cX8_digest 33 = .ok (.iload_n 3, 1) := by decide +kernel
theorem dX8_digest_34 : decode cX8_digest 34 = .ok (.bipush 6, 2) := by decide +kernel
theorem dX8_digest_36 : decode cX8_digest 36 = .ok (.if_icmp .ge 20, 3) := by decide +kernel
theorem dX8_digest_39 : decode cX8_digest 39 = .ok (.aload_n 0, 1) := by decide +kernel
theorem dX8_digest_40 : decode cX8_digest 40 = .ok (.getfield 11, 3) := by decide +kernel
theorem dX8_digest_43 : decode cX8_digest 43 = .ok (.iload_n 3, 1) := by decide +kernel
theorem dX8_digest_44 : decode cX8_digest 44 = .ok (.aaload, 1) := by decide +kernel
theorem dX8_digest_45 : decode cX8_digest 45 = .ok (.lload_n 1, 1) := by decide +kernel
theorem dX8_digest_46 : decode cX8_digest 46 = .ok (.invokevirtual 315, 3) := by decide +kernel
theorem dX8_digest_49 : decode cX8_digest 49 = .ok (.lstore_n 1, 1) := by decide +kernel
theorem dX8_digest_50 : decode cX8_digest 50 = .ok (.iinc 3 1, 3) := by decide +kernel
theorem dX8_digest_53 : decode cX8_digest 53 = .ok (.goto (-20), 3) := by decide +kernel
theorem dX8_digest_56 : decode cX8_digest 56 = .ok (.lload_n 1, 1) := by decide +kernel
theorem dX8_digest_57 : decode cX8_digest 57 = .ok (.lreturn, 1) := by decide +kernel
theorem cv_X8_digest : wn_cV yX8_digest cX8_digest 4 (some .long) RX8 0 := ⟨wm_605, wm_1111, wm_1112, wm_377, by decide +kernel⟩
abbrev rm_X8_digest : Room := rmz 3 68
set_option maxHeartbeats 4000000 in
set_option maxRecDepth 100000 in
theorem c_X8_digest {ad : Nat → Nat} {o : Nat} {M : Mm} {q : Int64 × Mm} (ho : shp o = 8) (hF : f_X8_digest o M = some q) : KL ad yX8_digest cX8_digest 4 (some .long) rm_X8_digest [.ref (ad o)] M q.1 q.2 := by
  refine wn_enterL (own := RX8) (by decide) rfl (Nat.le_of_ble_eq_true rfl) (fun X ls Z hQ hl => ?_)
  have hl : lv_has ls 4 [(0, .ref (ad o))] := hl
  have L33 : ∀ (n33 : Nat) (v1 : Int64) (v3 : Int32) (M : Mm) (ls : Array Slot), lv_has ls 4 [(0, .ref (ad o)), (1, .long v1), (3, .int v3)] → f_X8_digest_b33 o n33 v1 v3 M = some q → G ad X M 33 ls [] := by
    intro n33
    induction n33 with
    | zero =>
      intro v1 v3 M ls hl hF
      cases hF
    | succ n33 ih33 =>
      intro v1 v3 M ls hl hF
      replace hF : f_X8_digest_b33B (f_X8_digest_b33 o n33) o v1 v3 M = some q := hF
      unfold f_X8_digest_b33B at hF
      refine r_iload_n Z dX8_digest_33 rfl (lv_at hl 2 rfl) ?_
      refine r_bipush (v := 6) Z dX8_digest_34 (by decide) ?_
      refine r_icmp_ge Z 56 dX8_digest_36 (by decide) (fun hc1 => ?_) (fun hc1 => ?_)
      · replace hF := if_some hc1 hF
        refine r_lload_n Z dX8_digest_56 rfl (lv_at hl 1 rfl) ?_
        exact r_lret Z hQ hF dX8_digest_57
      · replace hF := nif_some hc1 hF
        refine r_aload_n Z dX8_digest_39 rfl (lv_at hl 0 rfl) ?_
        refine g_8_0 Z ho wm_348 dX8_digest_40 ?_
        refine r_iload_n Z dX8_digest_43 rfl (lv_at hl 2 rfl) ?_
        obtain ⟨hi2, hF⟩ := ck_some hF
        refine r_aald14 Z (sh_8_0 ho) hi2 dX8_digest_44 ?_
        refine r_lload_n Z dX8_digest_45 rfl (lv_at hl 1 rfl) ?_
        obtain ⟨q3, hq3, hF⟩ := bd_some hF
        refine r_invVl [] Z (c_X6_mixInto (se_14 (sh_8_0 ho) hi2) hq3) cv_X6_mixInto rfl (shp_lt (se_14 (sh_8_0 ho) hi2) (by decide)) (fun _ _ => ⟨_, ce_6 (se_14 (sh_8_0 ho) hi2)⟩) wm_602 rfl rfl ⟨Nat.le_of_ble_eq_true rfl, Nat.le_of_ble_eq_true rfl⟩ rfl hl.1 rfl (Nat.le_of_ble_eq_true rfl) dX8_digest_46 ?_
        refine r_lstore_n Z [(1, .long q3.1), (0, .ref (ad o)), (3, .int v3)] dX8_digest_49 rfl hl (by decide) rfl (fun ls hl => ?_)
        obtain ⟨t4, et4, hF⟩ := nm_some hF
        refine r_iinc (j := 2) Z t4 [(3, .int t4), (1, .long q3.1), (0, .ref (ad o))] dX8_digest_50 hl rfl (by rw [et4]; rfl) (by decide) rfl (fun ls hl => ?_)
        refine r_goto Z 33 dX8_digest_53 (by decide) ?_
        exact ih33 q3.1 t4 q3.2 ls (lv_sub hl [2, 1, 0] rfl) hF
  have L6 : ∀ (n6 : Nat) (v1 : Int64) (v3 : Int32) (M : Mm) (ls : Array Slot), lv_has ls 4 [(0, .ref (ad o)), (1, .long v1), (3, .int v3)] → f_X8_digest_b6 o n6 v1 v3 M = some q → G ad X M 6 ls [] := by
    intro n6
    induction n6 with
    | zero =>
      intro v1 v3 M ls hl hF
      cases hF
    | succ n6 ih6 =>
      intro v1 v3 M ls hl hF
      replace hF : f_X8_digest_b6B (f_X8_digest_b6 o n6) o v1 v3 M = some q := hF
      unfold f_X8_digest_b6B at hF
      refine r_iload_n Z dX8_digest_6 rfl (lv_at hl 2 rfl) ?_
      refine r_iconst (v := 4) Z dX8_digest_7 (by decide) ?_
      refine r_icmp_ge Z 31 dX8_digest_8 (by decide) (fun hc5 => ?_) (fun hc5 => ?_)
      · replace hF := if_some hc5 hF
        refine r_iconst (v := 0) Z dX8_digest_31 (by decide) ?_
        refine r_istore_n Z [(3, .int 0), (0, .ref (ad o)), (1, .long v1)] dX8_digest_32 rfl hl (by decide) rfl (fun ls hl => ?_)
        exact L33 _ v1 0 M ls (lv_sub hl [1, 2, 0] rfl) hF
      · replace hF := nif_some hc5 hF
        refine r_aload_n Z dX8_digest_11 rfl (lv_at hl 0 rfl) ?_
        refine g_8_1 Z ho wm_351 dX8_digest_12 ?_
        refine g_4_0 Z (sh_8_1 ho) wm_418 dX8_digest_15 ?_
        refine r_iload_n Z dX8_digest_18 rfl (lv_at hl 2 rfl) ?_
        obtain ⟨hi6, hF⟩ := ck_some hF
        refine r_aald13 Z (sh_4_0 (sh_8_1 ho)) hi6 dX8_digest_19 ?_
        refine r_lload_n Z dX8_digest_20 rfl (lv_at hl 1 rfl) ?_
        obtain ⟨q7, hq7, hF⟩ := bd_some hF
        refine r_invVl [] Z (c_X1_mixInto (se_13 (sh_4_0 (sh_8_1 ho)) hi6) hq7) cv_X1_mixInto rfl (shp_lt (se_13 (sh_4_0 (sh_8_1 ho)) hi6) (by decide)) (fun _ _ => ⟨_, ce_1 (se_13 (sh_4_0 (sh_8_1 ho)) hi6)⟩) wm_599 rfl rfl ⟨Nat.le_of_ble_eq_true rfl, Nat.le_of_ble_eq_true rfl⟩ rfl hl.1 rfl (Nat.le_of_ble_eq_true rfl) dX8_digest_21 ?_
        refine r_lstore_n Z [(1, .long q7.1), (0, .ref (ad o)), (3, .int v3)] dX8_digest_24 rfl hl (by decide) rfl (fun ls hl => ?_)
        obtain ⟨t8, et8, hF⟩ := nm_some hF
        refine r_iinc (j := 2) Z t8 [(3, .int t8), (1, .long q7.1), (0, .ref (ad o))] dX8_digest_25 hl rfl (by rw [et8]; rfl) (by decide) rfl (fun ls hl => ?_)
        refine r_goto Z 6 dX8_digest_28 (by decide) ?_
        exact ih6 q7.1 t8 q7.2 ls (lv_sub hl [2, 1, 0] rfl) hF
  unfold f_X8_digest at hF
  refine r_ldc2 Z wm_598 dX8_digest_0 ?_
  refine r_lstore_n Z [(1, .long 17), (0, .ref (ad o))] dX8_digest_3 rfl hl (by decide) rfl (fun ls hl => ?_)
  refine r_iconst (v := 0) Z dX8_digest_4 (by decide) ?_
  refine r_istore_n Z [(3, .int 0), (1, .long 17), (0, .ref (ad o))] dX8_digest_5 rfl hl (by decide) rfl (fun ls hl => ?_)
  exact L6 _ 17 0 M ls (lv_sub hl [2, 1, 0] rfl) hF
theorem dX8_drop_0 : decode cX8_drop 0 = .ok (.iload_n 1, 1) := by decide +kernel
theorem dX8_drop_1 : decode cX8_drop 1 = .ok (.invokestatic 106, 3) := by decide +kernel
theorem dX8_drop_4 : decode cX8_drop 4 = .ok (.ifCond .ne 5, 3) := by decide +kernel
theorem dX8_drop_7 : decode cX8_drop 7 = .ok (.iconst (-1), 1) := by decide +kernel
theorem dX8_drop_8 : decode cX8_drop 8 = .ok (.ireturn, 1) := by decide +kernel
theorem dX8_drop_9 : decode cX8_drop 9 = .ok (.aload_n 0, 1) := by decide +kernel
theorem dX8_drop_10 : decode cX8_drop 10 = .ok (.getfield 18, 3) := by decide +kernel
theorem dX8_drop_13 : decode cX8_drop 13 = .ok (.iload_n 1, 1) := by decide +kernel
theorem dX8_drop_14 : decode cX8_drop 14 = .ok (.invokevirtual 109, 3) := by decide +kernel
theorem dX8_drop_17 : decode cX8_drop 17 = .ok (.ifCond .ne 9, 3) := by decide +kernel
theorem dX8_drop_20 : decode cX8_drop 20 = .ok (.aload_n 0, 1) := by decide +kernel
theorem dX8_drop_21 : decode cX8_drop 21 = .ok (.iconst 1, 1) := by decide +kernel
theorem dX8_drop_22 : decode cX8_drop 22 = .ok (.invokevirtual 66, 3) := by decide +kernel
theorem dX8_drop_25 : decode cX8_drop 25 = .ok (.ireturn, 1) := by decide +kernel
theorem dX8_drop_26 : decode cX8_drop 26 = .ok (.aload_n 0, 1) := by decide +kernel
theorem dX8_drop_27 : decode cX8_drop 27 = .ok (.getfield 18, 3) := by decide +kernel
theorem dX8_drop_30 : decode cX8_drop 30 = .ok (.iload_n 1, 1) := by decide +kernel
theorem dX8_drop_31 : decode cX8_drop 31 = .ok (.iconst (-1), 1) := by decide +kernel
theorem dX8_drop_32 : decode cX8_drop 32 = .ok (.invokevirtual 110, 3) := by decide +kernel
theorem dX8_drop_35 : decode cX8_drop 35 = .ok (.iconst 1, 1) := by decide +kernel
theorem dX8_drop_36 : decode cX8_drop 36 = .ok (.ireturn, 1) := by decide +kernel
theorem cv_X8_drop : wn_cV yX8_drop cX8_drop 2 (some .int) RX8 1 := ⟨wm_416, wm_895, wm_896, wm_377, by decide +kernel⟩
abbrev rm_X8_drop : Room := rmz 2 45
set_option maxHeartbeats 4000000 in
set_option maxRecDepth 100000 in
theorem c_X8_drop {ad : Nat → Nat} {o : Nat} {x1 : Int32} {M : Mm} {q : Int32 × Mm} (ho : shp o = 8) (hF : f_X8_drop o x1 M = some q) : KI ad yX8_drop cX8_drop 2 (some .int) rm_X8_drop [.ref (ad o), .int x1] M q.1 q.2 := by
  refine wn_enterI (own := RX8) (by decide) rfl (Nat.le_of_ble_eq_true rfl) (fun X ls Z hQ hl => ?_)
  have hl : lv_has ls 2 [(0, .ref (ad o)), (1, .int x1)] := hl
  unfold f_X8_drop at hF
  refine r_iload_n Z dX8_drop_0 rfl (lv_at hl 1 rfl) ?_
  obtain ⟨q1, hq1, hF⟩ := bd_some hF
  refine r_invSi [] Z (c_X8_isCounterNumber hq1) cv_X8_isCounterNumber wm_409 rfl rfl ⟨Nat.le_of_ble_eq_true rfl, Nat.le_of_ble_eq_true rfl⟩ rfl hl.1 rfl (Nat.le_of_ble_eq_true rfl) dX8_drop_1 ?_
  refine r_if_ne Z 9 dX8_drop_4 (by decide) (fun hc2 => ?_) (fun hc2 => ?_)
  · replace hF := nif_some hc2 hF
    refine r_aload_n Z dX8_drop_9 rfl (lv_at hl 0 rfl) ?_
    refine g_8_1 Z ho wm_351 dX8_drop_10 ?_
    refine r_iload_n Z dX8_drop_13 rfl (lv_at hl 1 rfl) ?_
    obtain ⟨q3, hq3, hF⟩ := bd_some hF
    refine r_invVi [] Z (c_X4_has (sh_8_1 ho) hq3) cv_X4_has rfl (shp_lt (sh_8_1 ho) (by decide)) (fun _ _ => ⟨_, ce_4 (sh_8_1 ho)⟩) wm_411 rfl rfl ⟨Nat.le_of_ble_eq_true rfl, Nat.le_of_ble_eq_true rfl⟩ rfl hl.1 rfl (Nat.le_of_ble_eq_true rfl) dX8_drop_14 ?_
    refine r_if_ne Z 26 dX8_drop_17 (by decide) (fun hc4 => ?_) (fun hc4 => ?_)
    · replace hF := nif_some hc4 hF
      refine r_aload_n Z dX8_drop_26 rfl (lv_at hl 0 rfl) ?_
      refine g_8_1 Z ho wm_351 dX8_drop_27 ?_
      refine r_iload_n Z dX8_drop_30 rfl (lv_at hl 1 rfl) ?_
      refine r_iconst (v := (-1)) Z dX8_drop_31 (by decide) ?_
      obtain ⟨M5, hM5, hF⟩ := bd_some hF
      refine r_invVv [] Z (c_X4_replace (sh_8_1 ho) hM5) cv_X4_replace rfl (shp_lt (sh_8_1 ho) (by decide)) (fun _ _ => ⟨_, ce_4 (sh_8_1 ho)⟩) wm_412 rfl rfl ⟨Nat.le_of_ble_eq_true rfl, Nat.le_of_ble_eq_true rfl⟩ rfl hl.1 rfl (Nat.le_of_ble_eq_true rfl) dX8_drop_32 ?_
      refine r_iconst (v := 1) Z dX8_drop_35 (by decide) ?_
      exact r_iret Z hQ hF dX8_drop_36
    · replace hF := if_some hc4 hF
      refine r_aload_n Z dX8_drop_20 rfl (lv_at hl 0 rfl) ?_
      refine r_iconst (v := 1) Z dX8_drop_21 (by decide) ?_
      obtain ⟨q6, hq6, hF⟩ := bd_some hF
      refine r_invVi [] Z (c_X8_refuse ho hq6) cv_X8_refuse rfl (shp_lt ho (by decide)) (fun _ _ => ⟨_, ce_8 ho⟩) wm_378 rfl rfl ⟨Nat.le_of_ble_eq_true rfl, Nat.le_of_ble_eq_true rfl⟩ rfl hl.1 rfl (Nat.le_of_ble_eq_true rfl) dX8_drop_22 ?_
      exact r_iret Z hQ hF dX8_drop_25
  · replace hF := if_some hc2 hF
    refine r_iconst (v := (-1)) Z dX8_drop_7 (by decide) ?_
    exact r_iret Z hQ hF dX8_drop_8
theorem dX8_finding_0 : decode cX8_finding 0 = .ok (.aload_n 0, 1) := by decide +kernel
theorem dX8_finding_1 : decode cX8_finding 1 = .ok (.getfield 54, 3) := by decide +kernel
theorem dX8_finding_4 : decode cX8_finding 4 = .ok (.ireturn, 1) := by decide +kernel
theorem cv_X8_finding : wn_cV yX8_finding cX8_finding 1 (some .int) RX8 0 := ⟨wm_596, wm_1099, wm_1100, wm_377, by decide +kernel⟩
abbrev rm_X8_finding : Room := rmz 0 0
set_option maxHeartbeats 4000000 in
set_option maxRecDepth 100000 in
theorem c_X8_finding {ad : Nat → Nat} {o : Nat} {M : Mm} {q : Int32 × Mm} (ho : shp o = 8) (hF : f_X8_finding o M = some q) : KI ad yX8_finding cX8_finding 1 (some .int) rm_X8_finding [.ref (ad o)] M q.1 q.2 := by
  refine wn_enterI (own := RX8) (by decide) rfl (Nat.le_of_ble_eq_true rfl) (fun X ls Z hQ hl => ?_)
  have hl : lv_has ls 1 [(0, .ref (ad o))] := hl
  unfold f_X8_finding at hF
  refine r_aload_n Z dX8_finding_0 rfl (lv_at hl 0 rfl) ?_
  refine g_8_7 Z ho wm_364 dX8_finding_1 ?_
  exact r_iret Z hQ hF dX8_finding_4
theorem dX8_findings_0 : decode cX8_findings 0 = .ok (.iload_n 1, 1) := by decide +kernel
theorem dX8_findings_1 : decode cX8_findings 1 = .ok (.iconst 1, 1) := by decide +kernel
theorem dX8_findings_2 : decode cX8_findings 2 = .ok (.if_icmp .lt 8, 3) := by decide +kernel
theorem dX8_findings_5 : decode cX8_findings 5 = .ok (.iload_n 1, 1) := by decide +kernel
theorem dX8_findings_6 : decode cX8_findings 6 = .ok (.iconst 5, 1) := by decide +kernel
theorem dX8_findings_7 : decode cX8_findings 7 = .ok (.if_icmp .le 5, 3) := by decide +kernel
theorem dX8_findings_10 : decode cX8_findings 10 = .ok (.iconst (-1), 1) := by decide +kernel
theorem dX8_findings_11 : decode cX8_findings 11 = .ok (.ireturn, 1) := by decide +kernel
theorem dX8_findings_12 : decode cX8_findings 12 = .ok (.aload_n 0, 1) := by decide +kernel
theorem dX8_findings_13 : decode cX8_findings 13 = .ok (.getfield 50, 3) := by decide +kernel
theorem dX8_findings_16 : decode cX8_findings 16 = .ok (.iload_n 1, 1) := by decide +kernel
theorem dX8_findings_17 : decode cX8_findings 17 = .ok (.iaload, 1) := by decide +kernel
theorem dX8_findings_18 : decode cX8_findings 18 = .ok (.ireturn, 1) := by decide +kernel
theorem cv_X8_findings : wn_cV yX8_findings cX8_findings 2 (some .int) RX8 1 := ⟨wm_597, wm_1105, wm_1106, wm_377, by decide +kernel⟩
abbrev rm_X8_findings : Room := rmz 0 0
set_option maxHeartbeats 4000000 in
set_option maxRecDepth 100000 in
theorem c_X8_findings {ad : Nat → Nat} {o : Nat} {x1 : Int32} {M : Mm} {q : Int32 × Mm} (ho : shp o = 8) (hF : f_X8_findings o x1 M = some q) : KI ad yX8_findings cX8_findings 2 (some .int) rm_X8_findings [.ref (ad o), .int x1] M q.1 q.2 := by
  refine wn_enterI (own := RX8) (by decide) rfl (Nat.le_of_ble_eq_true rfl) (fun X ls Z hQ hl => ?_)
  have hl : lv_has ls 2 [(0, .ref (ad o)), (1, .int x1)] := hl
  unfold f_X8_findings at hF
  refine r_iload_n Z dX8_findings_0 rfl (lv_at hl 1 rfl) ?_
  refine r_iconst (v := 1) Z dX8_findings_1 (by decide) ?_
  refine r_icmp_lt Z 10 dX8_findings_2 (by decide) (fun hc1 => ?_) (fun hc1 => ?_)
  · replace hF := if_some hc1 hF
    refine r_iconst (v := (-1)) Z dX8_findings_10 (by decide) ?_
    exact r_iret Z hQ hF dX8_findings_11
  · replace hF := nif_some hc1 hF
    refine r_iload_n Z dX8_findings_5 rfl (lv_at hl 1 rfl) ?_
    refine r_iconst (v := 5) Z dX8_findings_6 (by decide) ?_
    refine r_icmp_le Z 12 dX8_findings_7 (by decide) (fun hc2 => ?_) (fun hc2 => ?_)
    · replace hF := if_some hc2 hF
      refine r_aload_n Z dX8_findings_12 rfl (lv_at hl 0 rfl) ?_
      refine g_8_6 Z ho wm_363 dX8_findings_13 ?_
      refine r_iload_n Z dX8_findings_16 rfl (lv_at hl 1 rfl) ?_
      obtain ⟨hi3, hF⟩ := ck_some hF
      refine r_iaload Z (shp_lt (sh_8_6 ho) (by decide)) (fun _ _ => ce_106 (sh_8_6 ho)) hi3 dX8_findings_17 ?_
      exact r_iret Z hQ hF dX8_findings_18
    · replace hF := nif_some hc2 hF
      refine r_iconst (v := (-1)) Z dX8_findings_10 (by decide) ?_
      exact r_iret Z hQ hF dX8_findings_11
theorem dX8_judgeFlow_0 : decode cX8_judgeFlow 0 = .ok (.iload_n 1, 1) := by decide +kernel
theorem dX8_judgeFlow_1 : decode cX8_judgeFlow 1 = .ok (.invokestatic 106, 3) := by decide +kernel
theorem dX8_judgeFlow_4 : decode cX8_judgeFlow 4 = .ok (.ifCond .ne 5, 3) := by decide +kernel
theorem dX8_judgeFlow_7 : decode cX8_judgeFlow 7 = .ok (.iconst (-1), 1) := by decide +kernel
theorem dX8_judgeFlow_8 : decode cX8_judgeFlow 8 = .ok (.ireturn, 1) := by decide +kernel
theorem dX8_judgeFlow_9 : decode cX8_judgeFlow 9 = .ok (.aload_n 0, 1) := by decide +kernel
theorem dX8_judgeFlow_10 : decode cX8_judgeFlow 10 = .ok (.getfield 18, 3) := by decide +kernel
theorem dX8_judgeFlow_13 : decode cX8_judgeFlow 13 = .ok (.iload_n 1, 1) := by decide +kernel
theorem dX8_judgeFlow_14 : decode cX8_judgeFlow 14 = .ok (.invokevirtual 109, 3) := by decide +kernel
theorem dX8_judgeFlow_17 : decode cX8_judgeFlow 17 = .ok (.ifCond .ne 9, 3) := by decide +kernel
theorem dX8_judgeFlow_20 : decode cX8_judgeFlow 20 = .ok (.aload_n 0, 1) := by decide +kernel
theorem dX8_judgeFlow_21 : decode cX8_judgeFlow 21 = .ok (.iconst 1, 1) := by decide +kernel
theorem dX8_judgeFlow_22 : decode cX8_judgeFlow 22 = .ok (.invokevirtual 66, 3) := by decide +kernel
theorem dX8_judgeFlow_25 : decode cX8_judgeFlow 25 = .ok (.ireturn, 1) := by decide +kernel
theorem dX8_judgeFlow_26 : decode cX8_judgeFlow 26 = .ok (.aload_n 0, 1) := by decide +kernel
theorem dX8_judgeFlow_27 : decode cX8_judgeFlow 27 = .ok (.getfield 18, 3) := by decide +kernel
theorem dX8_judgeFlow_30 : decode cX8_judgeFlow 30 = .ok (.invokevirtual 159, 3) := by decide +kernel
theorem dX8_judgeFlow_33 : decode cX8_judgeFlow 33 = .ok (.ifCond .eq 8, 3) := by decide +kernel
theorem dX8_judgeFlow_36 : decode cX8_judgeFlow 36 = .ok (.bipush (-4), 2) := by decide +kernel
theorem dX8_judgeFlow_38 : decode cX8_judgeFlow 38 = .ok (.goto 4, 3) := by decide +kernel
theorem dX8_judgeFlow_41 : decode cX8_judgeFlow 41 = .ok (.iconst 0, 1) := by decide +kernel
theorem dX8_judgeFlow_42 : decode cX8_judgeFlow 42 = .ok (.ireturn, 1) := by decide +kernel
theorem cv_X8_judgeFlow : wn_cV yX8_judgeFlow cX8_judgeFlow 2 (some .int) RX8 1 := ⟨wm_449, wm_452, wm_453, wm_377, by decide +kernel⟩
abbrev rm_X8_judgeFlow : Room := rmz 4 87
set_option maxHeartbeats 4000000 in
set_option maxRecDepth 100000 in
theorem c_X8_judgeFlow {ad : Nat → Nat} {o : Nat} {x1 : Int32} {M : Mm} {q : Int32 × Mm} (ho : shp o = 8) (hF : f_X8_judgeFlow o x1 M = some q) : KI ad yX8_judgeFlow cX8_judgeFlow 2 (some .int) rm_X8_judgeFlow [.ref (ad o), .int x1] M q.1 q.2 := by
  refine wn_enterI (own := RX8) (by decide) rfl (Nat.le_of_ble_eq_true rfl) (fun X ls Z hQ hl => ?_)
  have hl : lv_has ls 2 [(0, .ref (ad o)), (1, .int x1)] := hl
  unfold f_X8_judgeFlow at hF
  refine r_iload_n Z dX8_judgeFlow_0 rfl (lv_at hl 1 rfl) ?_
  obtain ⟨q1, hq1, hF⟩ := bd_some hF
  refine r_invSi [] Z (c_X8_isCounterNumber hq1) cv_X8_isCounterNumber wm_409 rfl rfl ⟨Nat.le_of_ble_eq_true rfl, Nat.le_of_ble_eq_true rfl⟩ rfl hl.1 rfl (Nat.le_of_ble_eq_true rfl) dX8_judgeFlow_1 ?_
  refine r_if_ne Z 9 dX8_judgeFlow_4 (by decide) (fun hc2 => ?_) (fun hc2 => ?_)
  · replace hF := nif_some hc2 hF
    refine r_aload_n Z dX8_judgeFlow_9 rfl (lv_at hl 0 rfl) ?_
    refine g_8_1 Z ho wm_351 dX8_judgeFlow_10 ?_
    refine r_iload_n Z dX8_judgeFlow_13 rfl (lv_at hl 1 rfl) ?_
    obtain ⟨q3, hq3, hF⟩ := bd_some hF
    refine r_invVi [] Z (c_X4_has (sh_8_1 ho) hq3) cv_X4_has rfl (shp_lt (sh_8_1 ho) (by decide)) (fun _ _ => ⟨_, ce_4 (sh_8_1 ho)⟩) wm_411 rfl rfl ⟨Nat.le_of_ble_eq_true rfl, Nat.le_of_ble_eq_true rfl⟩ rfl hl.1 rfl (Nat.le_of_ble_eq_true rfl) dX8_judgeFlow_14 ?_
    refine r_if_ne Z 26 dX8_judgeFlow_17 (by decide) (fun hc4 => ?_) (fun hc4 => ?_)
    · replace hF := nif_some hc4 hF
      refine r_aload_n Z dX8_judgeFlow_26 rfl (lv_at hl 0 rfl) ?_
      refine g_8_1 Z ho wm_351 dX8_judgeFlow_27 ?_
      obtain ⟨q5, hq5, hF⟩ := bd_some hF
      refine r_invVi [] Z (c_X4_keptBits (sh_8_1 ho) hq5) cv_X4_keptBits rfl (shp_lt (sh_8_1 ho) (by decide)) (fun _ _ => ⟨_, ce_4 (sh_8_1 ho)⟩) wm_445 rfl rfl ⟨Nat.le_of_ble_eq_true rfl, Nat.le_of_ble_eq_true rfl⟩ rfl hl.1 rfl (Nat.le_of_ble_eq_true rfl) dX8_judgeFlow_30 ?_
      refine r_if_eq Z 41 dX8_judgeFlow_33 (by decide) (fun hc6 => ?_) (fun hc6 => ?_)
      · replace hF := if_some hc6 hF
        refine r_iconst (v := 0) Z dX8_judgeFlow_41 (by decide) ?_
        exact r_iret Z hQ hF dX8_judgeFlow_42
      · replace hF := nif_some hc6 hF
        refine r_bipush (v := (-4)) Z dX8_judgeFlow_36 (by decide) ?_
        refine r_goto Z 42 dX8_judgeFlow_38 (by decide) ?_
        exact r_iret Z hQ hF dX8_judgeFlow_42
    · replace hF := if_some hc4 hF
      refine r_aload_n Z dX8_judgeFlow_20 rfl (lv_at hl 0 rfl) ?_
      refine r_iconst (v := 1) Z dX8_judgeFlow_21 (by decide) ?_
      obtain ⟨q7, hq7, hF⟩ := bd_some hF
      refine r_invVi [] Z (c_X8_refuse ho hq7) cv_X8_refuse rfl (shp_lt ho (by decide)) (fun _ _ => ⟨_, ce_8 ho⟩) wm_378 rfl rfl ⟨Nat.le_of_ble_eq_true rfl, Nat.le_of_ble_eq_true rfl⟩ rfl hl.1 rfl (Nat.le_of_ble_eq_true rfl) dX8_judgeFlow_22 ?_
      exact r_iret Z hQ hF dX8_judgeFlow_25
  · replace hF := if_some hc2 hF
    refine r_iconst (v := (-1)) Z dX8_judgeFlow_7 (by decide) ?_
    exact r_iret Z hQ hF dX8_judgeFlow_8
theorem dX8_flow_0 : decode cX8_flow 0 = .ok (.aload_n 0, 1) := by decide +kernel
theorem dX8_flow_1 : decode cX8_flow 1 = .ok (.iload_n 1, 1) := by decide +kernel
theorem dX8_flow_2 : decode cX8_flow 2 = .ok (.invokevirtual 162, 3) := by decide +kernel
theorem dX8_flow_5 : decode cX8_flow 5 = .ok (.istore_n 2, 1) := by decide +kernel
theorem dX8_flow_6 : decode cX8_flow 6 = .ok (.iload_n 2, 1) := by decide +kernel
theorem dX8_flow_7 : decode cX8_flow 7 = .ok (.ifCond .eq 5, 3) := by decide +kernel
theorem dX8_flow_10 : decode cX8_flow 10 = .ok (.iload_n 2, 1) := by decide +kernel
theorem dX8_flow_11 : decode cX8_flow 11 = .ok (.ireturn, 1) := by decide +kernel
theorem dX8_flow_12 : decode cX8_flow 12 = .ok (.aload_n 0, 1) := by decide +kernel
theorem dX8_flow_13 : decode cX8_flow 13 = .ok (.getfield 18, 3) := by decide +kernel
theorem dX8_flow_16 : decode cX8_flow 16 = .ok (.iload_n 1, 1) := by decide +kernel
theorem dX8_flow_17 : decode cX8_flow 17 = .ok (.invokevirtual 165, 3) := by decide +kernel
theorem dX8_flow_20 : decode cX8_flow 20 = .ok (.aload_n 0, 1) := by decide +kernel
theorem dX8_flow_21 : decode cX8_flow 21 = .ok (.getfield 46, 3) := by decide +kernel
theorem dX8_flow_24 : decode cX8_flow 24 = .ok (.aload_n 0, 1) := by decide +kernel
theorem dX8_flow_25 : decode cX8_flow 25 = .ok (.getfield 18, 3) := by decide +kernel
theorem dX8_flow_28 : decode cX8_flow 28 = .ok (.getfield 168, 3) := by decide +kernel
theorem dX8_flow_31 : decode cX8_flow 31 = .ok (.invokevirtual 171, 3) := by decide +kernel
theorem dX8_flow_34 : decode cX8_flow 34 = .ok (.iconst 1, 1) := by decide +kernel
theorem dX8_flow_35 : decode cX8_flow 35 = .ok (.ireturn, 1) := by decide +kernel
theorem cv_X8_flow : wn_cV yX8_flow cX8_flow 3 (some .int) RX8 1 := ⟨wm_460, wm_955, wm_956, wm_377, by decide +kernel⟩
abbrev rm_X8_flow : Room := rmz 5 108
set_option maxHeartbeats 4000000 in
set_option maxRecDepth 100000 in
theorem c_X8_flow {ad : Nat → Nat} {o : Nat} {x1 : Int32} {M : Mm} {q : Int32 × Mm} (ho : shp o = 8) (hF : f_X8_flow o x1 M = some q) : KI ad yX8_flow cX8_flow 3 (some .int) rm_X8_flow [.ref (ad o), .int x1] M q.1 q.2 := by
  refine wn_enterI (own := RX8) (by decide) rfl (Nat.le_of_ble_eq_true rfl) (fun X ls Z hQ hl => ?_)
  have hl : lv_has ls 3 [(0, .ref (ad o)), (1, .int x1)] := hl
  unfold f_X8_flow at hF
  refine r_aload_n Z dX8_flow_0 rfl (lv_at hl 0 rfl) ?_
  refine r_iload_n Z dX8_flow_1 rfl (lv_at hl 1 rfl) ?_
  obtain ⟨q1, hq1, hF⟩ := bd_some hF
  refine r_invVi [] Z (c_X8_judgeFlow ho hq1) cv_X8_judgeFlow rfl (shp_lt ho (by decide)) (fun _ _ => ⟨_, ce_8 ho⟩) wm_451 rfl rfl ⟨Nat.le_of_ble_eq_true rfl, Nat.le_of_ble_eq_true rfl⟩ rfl hl.1 rfl (Nat.le_of_ble_eq_true rfl) dX8_flow_2 ?_
  refine r_istore_n Z [(2, .int q1.1), (0, .ref (ad o)), (1, .int x1)] dX8_flow_5 rfl hl (by decide) rfl (fun ls hl => ?_)
  refine r_iload_n Z dX8_flow_6 rfl (lv_at hl 0 rfl) ?_
  refine r_if_eq Z 12 dX8_flow_7 (by decide) (fun hc2 => ?_) (fun hc2 => ?_)
  · replace hF := if_some hc2 hF
    refine r_aload_n Z dX8_flow_12 rfl (lv_at hl 1 rfl) ?_
    refine g_8_1 Z ho wm_351 dX8_flow_13 ?_
    refine r_iload_n Z dX8_flow_16 rfl (lv_at hl 2 rfl) ?_
    obtain ⟨M3, hM3, hF⟩ := bd_some hF
    refine r_invVv [] Z (c_X4_workOutFlow (sh_8_1 ho) hM3) cv_X4_workOutFlow rfl (shp_lt (sh_8_1 ho) (by decide)) (fun _ _ => ⟨_, ce_4 (sh_8_1 ho)⟩) wm_454 rfl rfl ⟨Nat.le_of_ble_eq_true rfl, Nat.le_of_ble_eq_true rfl⟩ rfl hl.1 rfl (Nat.le_of_ble_eq_true rfl) dX8_flow_17 ?_
    refine r_aload_n Z dX8_flow_20 rfl (lv_at hl 1 rfl) ?_
    refine g_8_5 Z ho wm_362 dX8_flow_21 ?_
    refine r_aload_n Z dX8_flow_24 rfl (lv_at hl 1 rfl) ?_
    refine g_8_1 Z ho wm_351 dX8_flow_25 ?_
    refine g_4_3 Z (sh_8_1 ho) wm_450 dX8_flow_28 ?_
    obtain ⟨M4, hM4, hF⟩ := bd_some hF
    refine r_invVv [] Z (c_X2_take (sh_8_5 ho) (sh_4_3 (sh_8_1 ho)) hM4) cv_X2_take rfl (shp_lt (sh_8_5 ho) (by decide)) (fun _ _ => ⟨_, ce_2 (sh_8_5 ho)⟩) wm_457 rfl rfl ⟨Nat.le_of_ble_eq_true rfl, Nat.le_of_ble_eq_true rfl⟩ rfl hl.1 rfl (Nat.le_of_ble_eq_true rfl) dX8_flow_31 ?_
    refine r_iconst (v := 1) Z dX8_flow_34 (by decide) ?_
    exact r_iret Z hQ hF dX8_flow_35
  · replace hF := nif_some hc2 hF
    refine r_iload_n Z dX8_flow_10 rfl (lv_at hl 0 rfl) ?_
    exact r_iret Z hQ hF dX8_flow_11
theorem dX8_hands_0 : decode cX8_hands 0 = .ok (.iload_n 1, 1) := by decide +kernel
theorem dX8_hands_1 : decode cX8_hands 1 = .ok (.invokestatic 106, 3) := by decide +kernel
theorem dX8_hands_4 : decode cX8_hands 4 = .ok (.ifCond .eq 13, 3) := by decide +kernel
theorem dX8_hands_7 : decode cX8_hands 7 = .ok (.iload_n 2, 1) := by decide +kernel
theorem dX8_hands_8 : decode cX8_hands 8 = .ok (.iconst 1, 1) := by decide +kernel
theorem dX8_hands_9 : decode cX8_hands 9 = .ok (.if_icmp .lt 8, 3) := by decide +kernel
theorem dX8_hands_12 : decode cX8_hands 12 = .ok (.iload_n 2, 1) := by decide +kernel
theorem dX8_hands_13 : decode cX8_hands 13 = .ok (.iconst 2, 1) := by decide +kernel
theorem dX8_hands_14 : decode cX8_hands 14 = .ok (.if_icmp .le 5, 3) := by decide +kernel
theorem dX8_hands_17 : decode cX8_hands 17 = .ok (.iconst (-1), 1) := by decide +kernel
theorem dX8_hands_18 : decode cX8_hands 18 = .ok (.ireturn, 1) := by decide +kernel
theorem dX8_hands_19 : decode cX8_hands 19 = .ok (.aload_n 0, 1) := by decide +kernel
theorem dX8_hands_20 : decode cX8_hands 20 = .ok (.getfield 18, 3) := by decide +kernel
theorem dX8_hands_23 : decode cX8_hands 23 = .ok (.iload_n 1, 1) := by decide +kernel
theorem dX8_hands_24 : decode cX8_hands 24 = .ok (.invokevirtual 109, 3) := by decide +kernel
theorem dX8_hands_27 : decode cX8_hands 27 = .ok (.ifCond .ne 9, 3) := by decide +kernel
theorem dX8_hands_30 : decode cX8_hands 30 = .ok (.aload_n 0, 1) := by decide +kernel
theorem dX8_hands_31 : decode cX8_hands 31 = .ok (.iconst 1, 1) := by decide +kernel
theorem dX8_hands_32 : decode cX8_hands 32 = .ok (.invokevirtual 66, 3) := by decide +kernel
theorem dX8_hands_35 : decode cX8_hands 35 = .ok (.ireturn, 1) := by decide +kernel
theorem dX8_hands_36 : decode cX8_hands 36 = .ok (.aload_n 0, 1) := by decide +kernel
theorem dX8_hands_37 : decode cX8_hands 37 = .ok (.getfield 18, 3) := by decide +kernel
theorem dX8_hands_40 : decode cX8_hands 40 = .ok (.getfield 116, 3) := by decide +kernel
theorem dX8_hands_43 : decode cX8_hands 43 = .ok (.iload_n 1, 1) := by decide +kernel
theorem dX8_hands_44 : decode cX8_hands 44 = .ok (.aaload, 1) := by decide +kernel
theorem dX8_hands_45 : decode cX8_hands 45 = .ok (.getfield 125, 3) := by decide +kernel
theorem dX8_hands_48 : decode cX8_hands 48 = .ok (.ifCond .eq 9, 3) := by decide +kernel
theorem dX8_hands_51 : decode cX8_hands 51 = .ok (.aload_n 0, 1) := by decide +kernel
theorem dX8_hands_52 : decode cX8_hands 52 = .ok (.iconst 3, 1) := by decide +kernel
theorem dX8_hands_53 : decode cX8_hands 53 = .ok (.invokevirtual 66, 3) := by decide +kernel
theorem dX8_hands_56 : decode cX8_hands 56 = .ok (.ireturn, 1) := by decide +kernel
theorem dX8_hands_57 : decode cX8_hands 57 = .ok (.aload_n 0, 1) := by decide +kernel
theorem dX8_hands_58 : decode cX8_hands 58 = .ok (.getfield 18, 3) := by decide +kernel
theorem dX8_hands_61 : decode cX8_hands 61 = .ok (.getfield 116, 3) := by decide +kernel
theorem dX8_hands_64 : decode cX8_hands 64 = .ok (.iload_n 1, 1) := by decide +kernel
theorem dX8_hands_65 : decode cX8_hands 65 = .ok (.aaload, 1) := by decide +kernel
theorem dX8_hands_66 : decode cX8_hands 66 = .ok (.getfield 128, 3) := by decide +kernel
theorem dX8_hands_69 : decode cX8_hands 69 = .ok (.istore_n 3, 1) := by decide +kernel
theorem dX8_hands_70 : decode cX8_hands 70 = .ok (.aload_n 0, 1) := by decide +kernel
theorem dX8_hands_71 : decode cX8_hands 71 = .ok (.getfield 18, 3) := by decide +kernel
theorem dX8_hands_74 : decode cX8_hands 74 = .ok (.getfield 116, 3) := by decide +kernel
theorem dX8_hands_77 : decode cX8_hands 77 = .ok (.iload_n 1, 1) := by decide +kernel
theorem dX8_hands_78 : decode cX8_hands 78 = .ok (.aaload, 1) := by decide +kernel
theorem dX8_hands_79 : decode cX8_hands 79 = .ok (.iload_n 2, 1) := by decide +kernel
theorem dX8_hands_80 : decode cX8_hands 80 = .ok (.putfield 128, 3) := by decide +kernel
theorem dX8_hands_83 : decode cX8_hands 83 = .ok (.iload_n 3, 1) := by decide +kernel
theorem dX8_hands_84 : decode cX8_hands 84 = .ok (.ireturn, 1) := by decide +kernel
theorem cv_X8_hands : wn_cV yX8_hands cX8_hands 4 (some .int) RX8 2 := ⟨wm_425, wm_907, wm_908, wm_377, by decide +kernel⟩
abbrev rm_X8_hands : Room := rmz 2 41
set_option maxHeartbeats 4000000 in
set_option maxRecDepth 100000 in
theorem c_X8_hands {ad : Nat → Nat} {o : Nat} {x1 : Int32} {x2 : Int32} {M : Mm} {q : Int32 × Mm} (ho : shp o = 8) (hF : f_X8_hands o x1 x2 M = some q) : KI ad yX8_hands cX8_hands 4 (some .int) rm_X8_hands [.ref (ad o), .int x1, .int x2] M q.1 q.2 := by
  refine wn_enterI (own := RX8) (by decide) rfl (Nat.le_of_ble_eq_true rfl) (fun X ls Z hQ hl => ?_)
  have hl : lv_has ls 4 [(0, .ref (ad o)), (1, .int x1), (2, .int x2)] := hl
  unfold f_X8_hands at hF
  refine r_iload_n Z dX8_hands_0 rfl (lv_at hl 1 rfl) ?_
  obtain ⟨q1, hq1, hF⟩ := bd_some hF
  refine r_invSi [] Z (c_X8_isCounterNumber hq1) cv_X8_isCounterNumber wm_409 rfl rfl ⟨Nat.le_of_ble_eq_true rfl, Nat.le_of_ble_eq_true rfl⟩ rfl hl.1 rfl (Nat.le_of_ble_eq_true rfl) dX8_hands_1 ?_
  refine r_if_eq Z 17 dX8_hands_4 (by decide) (fun hc2 => ?_) (fun hc2 => ?_)
  · replace hF := if_some hc2 hF
    refine r_iconst (v := (-1)) Z dX8_hands_17 (by decide) ?_
    exact r_iret Z hQ hF dX8_hands_18
  · replace hF := nif_some hc2 hF
    refine r_iload_n Z dX8_hands_7 rfl (lv_at hl 2 rfl) ?_
    refine r_iconst (v := 1) Z dX8_hands_8 (by decide) ?_
    refine r_icmp_lt Z 17 dX8_hands_9 (by decide) (fun hc3 => ?_) (fun hc3 => ?_)
    · replace hF := if_some hc3 hF
      refine r_iconst (v := (-1)) Z dX8_hands_17 (by decide) ?_
      exact r_iret Z hQ hF dX8_hands_18
    · replace hF := nif_some hc3 hF
      refine r_iload_n Z dX8_hands_12 rfl (lv_at hl 2 rfl) ?_
      refine r_iconst (v := 2) Z dX8_hands_13 (by decide) ?_
      refine r_icmp_le Z 19 dX8_hands_14 (by decide) (fun hc4 => ?_) (fun hc4 => ?_)
      · replace hF := if_some hc4 hF
        refine r_aload_n Z dX8_hands_19 rfl (lv_at hl 0 rfl) ?_
        refine g_8_1 Z ho wm_351 dX8_hands_20 ?_
        refine r_iload_n Z dX8_hands_23 rfl (lv_at hl 1 rfl) ?_
        obtain ⟨q5, hq5, hF⟩ := bd_some hF
        refine r_invVi [] Z (c_X4_has (sh_8_1 ho) hq5) cv_X4_has rfl (shp_lt (sh_8_1 ho) (by decide)) (fun _ _ => ⟨_, ce_4 (sh_8_1 ho)⟩) wm_411 rfl rfl ⟨Nat.le_of_ble_eq_true rfl, Nat.le_of_ble_eq_true rfl⟩ rfl hl.1 rfl (Nat.le_of_ble_eq_true rfl) dX8_hands_24 ?_
        refine r_if_ne Z 36 dX8_hands_27 (by decide) (fun hc6 => ?_) (fun hc6 => ?_)
        · replace hF := nif_some hc6 hF
          refine r_aload_n Z dX8_hands_36 rfl (lv_at hl 0 rfl) ?_
          refine g_8_1 Z ho wm_351 dX8_hands_37 ?_
          refine g_4_0 Z (sh_8_1 ho) wm_418 dX8_hands_40 ?_
          refine r_iload_n Z dX8_hands_43 rfl (lv_at hl 1 rfl) ?_
          obtain ⟨hi7, hF⟩ := ck_some hF
          refine r_aald13 Z (sh_4_0 (sh_8_1 ho)) hi7 dX8_hands_44 ?_
          refine g_1_1 Z (se_13 (sh_4_0 (sh_8_1 ho)) hi7) wm_423 dX8_hands_45 ?_
          refine r_if_eq Z 57 dX8_hands_48 (by decide) (fun hc8 => ?_) (fun hc8 => ?_)
          · replace hF := if_some hc8 hF
            refine r_aload_n Z dX8_hands_57 rfl (lv_at hl 0 rfl) ?_
            refine g_8_1 Z ho wm_351 dX8_hands_58 ?_
            refine g_4_0 Z (sh_8_1 ho) wm_418 dX8_hands_61 ?_
            refine r_iload_n Z dX8_hands_64 rfl (lv_at hl 1 rfl) ?_
            obtain ⟨hi9, hF⟩ := ck_some hF
            refine r_aald13 Z (sh_4_0 (sh_8_1 ho)) hi9 dX8_hands_65 ?_
            refine g_1_3 Z (se_13 (sh_4_0 (sh_8_1 ho)) hi9) wm_424 dX8_hands_66 ?_
            obtain ⟨t10, et10, hF⟩ := nm_some hF
            rw [← et10]
            refine r_istore_n Z [(3, .int t10), (0, .ref (ad o)), (1, .int x1), (2, .int x2)] dX8_hands_69 rfl hl (by decide) rfl (fun ls hl => ?_)
            refine r_aload_n Z dX8_hands_70 rfl (lv_at hl 1 rfl) ?_
            refine g_8_1 Z ho wm_351 dX8_hands_71 ?_
            refine g_4_0 Z (sh_8_1 ho) wm_418 dX8_hands_74 ?_
            refine r_iload_n Z dX8_hands_77 rfl (lv_at hl 2 rfl) ?_
            obtain ⟨hi11, hF⟩ := ck_some hF
            refine r_aald13 Z (sh_4_0 (sh_8_1 ho)) hi11 dX8_hands_78 ?_
            refine r_iload_n Z dX8_hands_79 rfl (lv_at hl 3 rfl) ?_
            obtain ⟨M12, eM12, hF⟩ := nm_some hF
            refine p_1_3 Z (se_13 (sh_4_0 (sh_8_1 ho)) hi11) wm_424 dX8_hands_80 ?_
            rw [← eM12]
            refine r_iload_n Z dX8_hands_83 rfl (lv_at hl 0 rfl) ?_
            exact r_iret Z hQ hF dX8_hands_84
          · replace hF := nif_some hc8 hF
            refine r_aload_n Z dX8_hands_51 rfl (lv_at hl 0 rfl) ?_
            refine r_iconst (v := 3) Z dX8_hands_52 (by decide) ?_
            obtain ⟨q13, hq13, hF⟩ := bd_some hF
            refine r_invVi [] Z (c_X8_refuse ho hq13) cv_X8_refuse rfl (shp_lt ho (by decide)) (fun _ _ => ⟨_, ce_8 ho⟩) wm_378 rfl rfl ⟨Nat.le_of_ble_eq_true rfl, Nat.le_of_ble_eq_true rfl⟩ rfl hl.1 rfl (Nat.le_of_ble_eq_true rfl) dX8_hands_53 ?_
            exact r_iret Z hQ hF dX8_hands_56
        · replace hF := if_some hc6 hF
          refine r_aload_n Z dX8_hands_30 rfl (lv_at hl 0 rfl) ?_
          refine r_iconst (v := 1) Z dX8_hands_31 (by decide) ?_
          obtain ⟨q14, hq14, hF⟩ := bd_some hF
          refine r_invVi [] Z (c_X8_refuse ho hq14) cv_X8_refuse rfl (shp_lt ho (by decide)) (fun _ _ => ⟨_, ce_8 ho⟩) wm_378 rfl rfl ⟨Nat.le_of_ble_eq_true rfl, Nat.le_of_ble_eq_true rfl⟩ rfl hl.1 rfl (Nat.le_of_ble_eq_true rfl) dX8_hands_32 ?_
          exact r_iret Z hQ hF dX8_hands_35
      · replace hF := nif_some hc4 hF
        refine r_iconst (v := (-1)) Z dX8_hands_17 (by decide) ?_
        exact r_iret Z hQ hF dX8_hands_18
theorem dX8_isComing_0 : decode cX8_isComing 0 = .ok (.iload_n 0, 1) := by decide +kernel
theorem dX8_isComing_1 : decode cX8_isComing 1 = .ok (.ifCond .lt 13, 3) := by decide +kernel
theorem dX8_isComing_4 : decode cX8_isComing 4 = .ok (.iload_n 0, 1) := by decide +kernel
theorem dX8_isComing_5 : decode cX8_isComing 5 = .ok (.bipush 9, 2) := by decide +kernel
theorem dX8_isComing_7 : decode cX8_isComing 7 = .ok (.if_icmp .gt 7, 3) := by decide +kernel
theorem dX8_isComing_10 : decode cX8_isComing 10 = .ok (.iconst 1, 1) := by decide +kernel
theorem dX8_isComing_11 : decode cX8_isComing 11 = .ok (.goto 4, 3) := by decide +kernel
theorem dX8_isComing_14 : decode cX8_isComing 14 = .ok (.iconst 0, 1) := by decide +kernel
theorem dX8_isComing_15 : decode cX8_isComing 15 = .ok (.ireturn, 1) := by decide +kernel
theorem cv_X8_isComing : wn_cS yX8_isComing cX8_isComing 1 (some .boolean) 1 := ⟨wm_519, wm_523, wm_377, by decide +kernel⟩
abbrev rm_X8_isComing : Room := rmz 0 0
set_option maxHeartbeats 4000000 in
set_option maxRecDepth 100000 in
theorem c_X8_isComing {ad : Nat → Nat} {x1 : Int32} {M : Mm} {q : Int32 × Mm} (hF : f_X8_isComing x1 M = some q) : KI ad yX8_isComing cX8_isComing 1 (some .boolean) rm_X8_isComing [.int x1] M q.1 q.2 := by
  refine wn_enterI (own := RX8) (by decide) rfl (Nat.le_of_ble_eq_true rfl) (fun X ls Z hQ hl => ?_)
  have hl : lv_has ls 1 [(0, .int x1)] := hl
  unfold f_X8_isComing at hF
  refine r_iload_n Z dX8_isComing_0 rfl (lv_at hl 0 rfl) ?_
  refine r_if_lt Z 14 dX8_isComing_1 (by decide) (fun hc1 => ?_) (fun hc1 => ?_)
  · replace hF := if_some hc1 hF
    refine r_iconst (v := 0) Z dX8_isComing_14 (by decide) ?_
    exact r_zret Z hQ (by decide) hF dX8_isComing_15
  · replace hF := nif_some hc1 hF
    refine r_iload_n Z dX8_isComing_4 rfl (lv_at hl 0 rfl) ?_
    refine r_bipush (v := 9) Z dX8_isComing_5 (by decide) ?_
    refine r_icmp_gt Z 14 dX8_isComing_7 (by decide) (fun hc2 => ?_) (fun hc2 => ?_)
    · replace hF := if_some hc2 hF
      refine r_iconst (v := 0) Z dX8_isComing_14 (by decide) ?_
      exact r_zret Z hQ (by decide) hF dX8_isComing_15
    · replace hF := nif_some hc2 hF
      refine r_iconst (v := 1) Z dX8_isComing_10 (by decide) ?_
      refine r_goto Z 15 dX8_isComing_11 (by decide) ?_
      exact r_zret Z hQ (by decide) hF dX8_isComing_15

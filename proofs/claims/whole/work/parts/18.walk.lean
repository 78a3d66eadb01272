theorem dX8_waited_0 : decode cX8_waited 0 = .ok (.aload_n 0, 1) := by decide +kernel
theorem dX8_waited_1 : decode cX8_waited 1 = .ok (.iload_n 1, 1) := by decide +kernel
theorem dX8_waited_2 : decode cX8_waited 2 = .ok (.iload_n 2, 1) := by decide +kernel
theorem dX8_waited_3 : decode cX8_waited 3 = .ok (.iload_n 3, 1) := by decide +kernel
theorem dX8_waited_4 : decode cX8_waited 4 = .ok (.invokevirtual 284, 3) := by decide +kernel
theorem dX8_waited_7 : decode cX8_waited 7 = .ok (.istore 5, 2) := by decide +kernel
theorem dX8_waited_9 : decode cX8_waited 9 = .ok (.iload 5, 2) := by decide +kernel
theorem dX8_waited_11 : decode cX8_waited 11 = .ok (.ifCond .eq 6, 3) := by decide +kernel
theorem dX8_waited_14 : decode cX8_waited 14 = .ok (.iload 5, 2) := by decide +kernel
theorem dX8_waited_16 : decode cX8_waited 16 = .ok (.ireturn, 1) := by decide +kernel
theorem dX8_waited_17 : decode cX8_waited 17 = .ok (.aload_n 0, 1) := by decide +kernel
theorem dX8_waited_18 : decode cX8_waited 18 = .ok (.getfield 11, 3) := by decide +kernel
theorem dX8_waited_21 : decode cX8_waited 21 = .ok (.iload_n 2, 1) := by decide +kernel
theorem dX8_waited_22 : decode cX8_waited 22 = .ok (.aaload, 1) := by decide +kernel
theorem dX8_waited_23 : decode cX8_waited 23 = .ok (.iload 4, 2) := by decide +kernel
theorem dX8_waited_25 : decode cX8_waited 25 = .ok (.invokevirtual 78, 3) := by decide +kernel
theorem dX8_waited_28 : decode cX8_waited 28 = .ok (.ifCond .ne 9, 3) := by decide +kernel
theorem dX8_waited_31 : decode cX8_waited 31 = .ok (.aload_n 0, 1) := by decide +kernel
theorem dX8_waited_32 : decode cX8_waited 32 = .ok (.iconst 2, 1) := by decide +kernel
theorem dX8_waited_33 : decode cX8_waited 33 = .ok (.invokevirtual 66, 3) := by decide +kernel
theorem dX8_waited_36 : decode cX8_waited 36 = .ok (.ireturn, 1) := by decide +kernel
theorem dX8_waited_37 : decode cX8_waited 37 = .ok (.aload_n 0, 1) := by decide +kernel
theorem dX8_waited_38 : decode cX8_waited 38 = .ok (.getfield 39, 3) := by decide +kernel
theorem dX8_waited_41 : decode cX8_waited 41 = .ok (.aload_n 0, 1) := by decide +kernel
theorem dX8_waited_42 : decode cX8_waited 42 = .ok (.getfield 18, 3) := by decide +kernel
theorem dX8_waited_45 : decode cX8_waited 45 = .ok (.getfield 116, 3) := by decide +kernel
theorem dX8_waited_48 : decode cX8_waited 48 = .ok (.iload_n 1, 1) := by decide +kernel
theorem dX8_waited_49 : decode cX8_waited 49 = .ok (.aaload, 1) := by decide +kernel
theorem dX8_waited_50 : decode cX8_waited 50 = .ok (.getfield 128, 3) := by decide +kernel
theorem dX8_waited_53 : decode cX8_waited 53 = .ok (.invokevirtual 288, 3) := by decide +kernel
theorem dX8_waited_56 : decode cX8_waited 56 = .ok (.iconst 0, 1) := by decide +kernel
theorem dX8_waited_57 : decode cX8_waited 57 = .ok (.istore 6, 2) := by decide +kernel
theorem dX8_waited_59 : decode cX8_waited 59 = .ok (.iconst 0, 1) := by decide +kernel
theorem dX8_waited_60 : decode cX8_waited 60 = .ok (.istore 7, 2) := by decide +kernel
theorem dX8_waited_62 : decode cX8_waited 62 = .ok (.iload 7, 2) := by decide +kernel
theorem dX8_waited_64 : decode cX8_waited 64 = .ok (.iload 4, 2) := by decide +kernel
theorem dX8_waited_66 : decode cX8_waited 66 = .ok (.if_icmp .gt 40, 3) := by decide +kernel
theorem dX8_waited_69 : decode cX8_waited 69 = .ok (.aload_n 0, 1) := by decide +kernel
theorem dX8_waited_70 : decode cX8_waited 70 = .ok (.getfield 39, 3) := by decide +kernel
theorem dX8_waited_73 : decode cX8_waited 73 = .ok (.aload_n 0, 1) := by decide +kernel
theorem dX8_waited_74 : decode cX8_waited 74 = .ok (.getfield 11, 3) := by decide +kernel
theorem dX8_waited_77 : decode cX8_waited 77 = .ok (.iload_n 2, 1) := by decide +kernel
theorem dX8_waited_78 : decode cX8_waited 78 = .ok (.aaload, 1) := by decide +kernel
theorem dX8_waited_79 : decode cX8_waited 79 = .ok (.iload 7, 2) := by decide +kernel
theorem dX8_waited_81 : decode cX8_waited 81 = .ok (.invokevirtual 81, 3) := by decide +kernel
theorem dX8_waited_84 : decode cX8_waited 84 = .ok (.aload_n 0, 1) := by decide +kernel
theorem dX8_waited_85 : decode cX8_waited 85 = .ok (.getfield 11, 3) := by decide +kernel
theorem dX8_waited_88 : decode cX8_waited 88 = .ok (.iload_n 3, 1) := by decide +kernel
theorem dX8_waited_89 : decode cX8_waited 89 = .ok (.aaload, 1) := by decide +kernel
theorem dX8_waited_90 : decode cX8_waited 90 = .ok (.iload 7, 2) := by decide +kernel
theorem dX8_waited_92 : decode cX8_waited 92 = .ok (.invokevirtual 81, 3) := by decide +kernel
theorem dX8_waited_95 : decode cX8_waited 95 = .ok (.invokevirtual 289, 3) := by decide +kernel
theorem dX8_waited_98 : decode cX8_waited 98 = .ok (.istore 6, 2) := by decide +kernel
theorem dX8_waited_100 : decode cX8_waited 100 = .ok (.iinc 7 1, 3) := by decide +kernel
theorem dX8_waited_103 : decode cX8_waited 103 = .ok (.goto (-41), 3) := by decide +kernel
theorem dX8_waited_106 : decode cX8_waited 106 = .ok (.aload_n 0, 1) := by decide +kernel
theorem dX8_waited_107 : decode cX8_waited 107 = .ok (.iload 6, 2) := by decide +kernel
theorem dX8_waited_109 : decode cX8_waited 109 = .ok (.putfield 58, 3) := by decide +kernel
theorem dX8_waited_112 : decode cX8_waited 112 = .ok (.iconst 1, 1) := by decide +kernel
theorem dX8_waited_113 : decode cX8_waited 113 = .ok (.ireturn, 1) := by decide +kernel
theorem cv_X8_waited : wn_cV yX8_waited cX8_waited 8 (some .int) RX8 4 := ⟨wm_578, wm_1063, wm_1064, wm_377, by decide +kernel⟩
abbrev rm_X8_waited : Room := rmz 4 89
set_option maxHeartbeats 4000000 in
set_option maxRecDepth 100000 in
theorem c_X8_waited {ad : Nat → Nat} {o : Nat} {x1 : Int32} {x2 : Int32} {x3 : Int32} {x4 : Int32} {M : Mm} {q : Int32 × Mm} (ho : shp o = 8) (hF : f_X8_waited o x1 x2 x3 x4 M = some q) : KI ad yX8_waited cX8_waited 8 (some .int) rm_X8_waited [.ref (ad o), .int x1, .int x2, .int x3, .int x4] M q.1 q.2 := by
  refine wn_enterI (own := RX8) (by decide) rfl (Nat.le_of_ble_eq_true rfl) (fun X ls Z hQ hl => ?_)
  have hl : lv_has ls 8 [(0, .ref (ad o)), (1, .int x1), (2, .int x2), (3, .int x3), (4, .int x4)] := hl
  have L62 : ∀ (n62 : Nat) (v2 : Int32) (v3 : Int32) (v4 : Int32) (v6 : Int32) (v7 : Int32) (M : Mm) (ls : Array Slot), lv_has ls 8 [(0, .ref (ad o)), (2, .int v2), (3, .int v3), (4, .int v4), (6, .int v6), (7, .int v7)] → f_X8_waited_b62 o n62 v2 v3 v4 v6 v7 M = some q → G ad X M 62 ls [] := by
    intro n62
    induction n62 with
    | zero =>
      intro v2 v3 v4 v6 v7 M ls hl hF
      cases hF
    | succ n62 ih62 =>
      intro v2 v3 v4 v6 v7 M ls hl hF
      replace hF : f_X8_waited_b62B (f_X8_waited_b62 o n62) o v2 v3 v4 v6 v7 M = some q := hF
      unfold f_X8_waited_b62B at hF
      refine r_iload Z dX8_waited_62 (lv_at hl 5 rfl) ?_
      refine r_iload Z dX8_waited_64 (lv_at hl 3 rfl) ?_
      refine r_icmp_gt Z 106 dX8_waited_66 (by decide) (fun hc1 => ?_) (fun hc1 => ?_)
      · replace hF := if_some hc1 hF
        refine r_aload_n Z dX8_waited_106 rfl (lv_at hl 0 rfl) ?_
        refine r_iload Z dX8_waited_107 (lv_at hl 4 rfl) ?_
        obtain ⟨M2, eM2, hF⟩ := nm_some hF
        refine p_8_8 Z ho wm_365 dX8_waited_109 ?_
        rw [← eM2]
        refine r_iconst (v := 1) Z dX8_waited_112 (by decide) ?_
        exact r_iret Z hQ hF dX8_waited_113
      · replace hF := nif_some hc1 hF
        refine r_aload_n Z dX8_waited_69 rfl (lv_at hl 0 rfl) ?_
        refine g_8_4 Z ho wm_360 dX8_waited_70 ?_
        refine r_aload_n Z dX8_waited_73 rfl (lv_at hl 0 rfl) ?_
        refine g_8_0 Z ho wm_348 dX8_waited_74 ?_
        refine r_iload_n Z dX8_waited_77 rfl (lv_at hl 1 rfl) ?_
        obtain ⟨hi3, hF⟩ := ck_some hF
        refine r_aald14 Z (sh_8_0 ho) hi3 dX8_waited_78 ?_
        refine r_iload Z dX8_waited_79 (lv_at hl 5 rfl) ?_
        obtain ⟨q4, hq4, hF⟩ := bd_some hF
        refine r_invVi [.ref (ad (fld o 4))] Z (c_X6_at (se_14 (sh_8_0 ho) hi3) hq4) cv_X6_at rfl (shp_lt (se_14 (sh_8_0 ho) hi3) (by decide)) (fun _ _ => ⟨_, ce_6 (se_14 (sh_8_0 ho) hi3)⟩) wm_389 rfl rfl ⟨Nat.le_of_ble_eq_true rfl, Nat.le_of_ble_eq_true rfl⟩ rfl hl.1 rfl (Nat.le_of_ble_eq_true rfl) dX8_waited_81 ?_
        refine r_aload_n Z dX8_waited_84 rfl (lv_at hl 0 rfl) ?_
        refine g_8_0 Z ho wm_348 dX8_waited_85 ?_
        refine r_iload_n Z dX8_waited_88 rfl (lv_at hl 2 rfl) ?_
        obtain ⟨hi5, hF⟩ := ck_some hF
        refine r_aald14 Z (sh_8_0 ho) hi5 dX8_waited_89 ?_
        refine r_iload Z dX8_waited_90 (lv_at hl 5 rfl) ?_
        obtain ⟨q6, hq6, hF⟩ := bd_some hF
        refine r_invVi [.int q4.1, .ref (ad (fld o 4))] Z (c_X6_at (se_14 (sh_8_0 ho) hi5) hq6) cv_X6_at rfl (shp_lt (se_14 (sh_8_0 ho) hi5) (by decide)) (fun _ _ => ⟨_, ce_6 (se_14 (sh_8_0 ho) hi5)⟩) wm_389 rfl rfl ⟨Nat.le_of_ble_eq_true rfl, Nat.le_of_ble_eq_true rfl⟩ rfl hl.1 rfl (Nat.le_of_ble_eq_true rfl) dX8_waited_92 ?_
        obtain ⟨q7, hq7, hF⟩ := bd_some hF
        refine r_invVi [] Z (c_X3_serve (sh_8_4 ho) hq7) cv_X3_serve rfl (shp_lt (sh_8_4 ho) (by decide)) (fun _ _ => ⟨_, ce_3 (sh_8_4 ho)⟩) wm_575 rfl rfl ⟨Nat.le_of_ble_eq_true rfl, Nat.le_of_ble_eq_true rfl⟩ rfl hl.1 rfl (Nat.le_of_ble_eq_true rfl) dX8_waited_95 ?_
        refine r_istore Z [(6, .int q7.1), (0, .ref (ad o)), (2, .int v2), (3, .int v3), (4, .int v4), (7, .int v7)] dX8_waited_98 hl (by decide) rfl (fun ls hl => ?_)
        obtain ⟨t8, et8, hF⟩ := nm_some hF
        refine r_iinc (j := 5) Z t8 [(7, .int t8), (6, .int q7.1), (0, .ref (ad o)), (2, .int v2), (3, .int v3), (4, .int v4)] dX8_waited_100 hl rfl (by rw [et8]; rfl) (by decide) rfl (fun ls hl => ?_)
        refine r_goto Z 62 dX8_waited_103 (by decide) ?_
        exact ih62 v2 v3 v4 q7.1 t8 q7.2 ls (lv_sub hl [2, 3, 4, 5, 1, 0] rfl) hF
  unfold f_X8_waited at hF
  refine r_aload_n Z dX8_waited_0 rfl (lv_at hl 0 rfl) ?_
  refine r_iload_n Z dX8_waited_1 rfl (lv_at hl 1 rfl) ?_
  refine r_iload_n Z dX8_waited_2 rfl (lv_at hl 2 rfl) ?_
  refine r_iload_n Z dX8_waited_3 rfl (lv_at hl 3 rfl) ?_
  obtain ⟨q9, hq9, hF⟩ := bd_some hF
  refine r_invVi [] Z (c_X8_judgeRun ho hq9) cv_X8_judgeRun rfl (shp_lt ho (by decide)) (fun _ _ => ⟨_, ce_8 ho⟩) wm_569 rfl rfl ⟨Nat.le_of_ble_eq_true rfl, Nat.le_of_ble_eq_true rfl⟩ rfl hl.1 rfl (Nat.le_of_ble_eq_true rfl) dX8_waited_4 ?_
  refine r_istore Z [(5, .int q9.1), (0, .ref (ad o)), (1, .int x1), (2, .int x2), (3, .int x3), (4, .int x4)] dX8_waited_7 hl (by decide) rfl (fun ls hl => ?_)
  refine r_iload Z dX8_waited_9 (lv_at hl 0 rfl) ?_
  refine r_if_eq Z 17 dX8_waited_11 (by decide) (fun hc10 => ?_) (fun hc10 => ?_)
  · replace hF := if_some hc10 hF
    refine r_aload_n Z dX8_waited_17 rfl (lv_at hl 1 rfl) ?_
    refine g_8_0 Z ho wm_348 dX8_waited_18 ?_
    refine r_iload_n Z dX8_waited_21 rfl (lv_at hl 3 rfl) ?_
    obtain ⟨hi11, hF⟩ := ck_some hF
    refine r_aald14 Z (sh_8_0 ho) hi11 dX8_waited_22 ?_
    refine r_iload Z dX8_waited_23 (lv_at hl 5 rfl) ?_
    obtain ⟨q12, hq12, hF⟩ := bd_some hF
    refine r_invVi [] Z (c_X6_has (se_14 (sh_8_0 ho) hi11) hq12) cv_X6_has rfl (shp_lt (se_14 (sh_8_0 ho) hi11) (by decide)) (fun _ _ => ⟨_, ce_6 (se_14 (sh_8_0 ho) hi11)⟩) wm_388 rfl rfl ⟨Nat.le_of_ble_eq_true rfl, Nat.le_of_ble_eq_true rfl⟩ rfl hl.1 rfl (Nat.le_of_ble_eq_true rfl) dX8_waited_25 ?_
    refine r_if_ne Z 37 dX8_waited_28 (by decide) (fun hc13 => ?_) (fun hc13 => ?_)
    · replace hF := nif_some hc13 hF
      refine r_aload_n Z dX8_waited_37 rfl (lv_at hl 1 rfl) ?_
      refine g_8_4 Z ho wm_360 dX8_waited_38 ?_
      refine r_aload_n Z dX8_waited_41 rfl (lv_at hl 1 rfl) ?_
      refine g_8_1 Z ho wm_351 dX8_waited_42 ?_
      refine g_4_0 Z (sh_8_1 ho) wm_418 dX8_waited_45 ?_
      refine r_iload_n Z dX8_waited_48 rfl (lv_at hl 2 rfl) ?_
      obtain ⟨hi14, hF⟩ := ck_some hF
      refine r_aald13 Z (sh_4_0 (sh_8_1 ho)) hi14 dX8_waited_49 ?_
      refine g_1_3 Z (se_13 (sh_4_0 (sh_8_1 ho)) hi14) wm_424 dX8_waited_50 ?_
      obtain ⟨M15, hM15, hF⟩ := bd_some hF
      refine r_invVv [] Z (c_X3_begin (sh_8_4 ho) hM15) cv_X3_begin rfl (shp_lt (sh_8_4 ho) (by decide)) (fun _ _ => ⟨_, ce_3 (sh_8_4 ho)⟩) wm_572 rfl rfl ⟨Nat.le_of_ble_eq_true rfl, Nat.le_of_ble_eq_true rfl⟩ rfl hl.1 rfl (Nat.le_of_ble_eq_true rfl) dX8_waited_53 ?_
      refine r_iconst (v := 0) Z dX8_waited_56 (by decide) ?_
      refine r_istore Z [(6, .int 0), (5, .int q9.1), (0, .ref (ad o)), (1, .int x1), (2, .int x2), (3, .int x3), (4, .int x4)] dX8_waited_57 hl (by decide) rfl (fun ls hl => ?_)
      refine r_iconst (v := 0) Z dX8_waited_59 (by decide) ?_
      refine r_istore Z [(7, .int 0), (6, .int 0), (5, .int q9.1), (0, .ref (ad o)), (1, .int x1), (2, .int x2), (3, .int x3), (4, .int x4)] dX8_waited_60 hl (by decide) rfl (fun ls hl => ?_)
      exact L62 _ x2 x3 x4 0 0 M15 ls (lv_sub hl [3, 5, 6, 7, 1, 0] rfl) hF
    · replace hF := if_some hc13 hF
      refine r_aload_n Z dX8_waited_31 rfl (lv_at hl 1 rfl) ?_
      refine r_iconst (v := 2) Z dX8_waited_32 (by decide) ?_
      obtain ⟨q16, hq16, hF⟩ := bd_some hF
      refine r_invVi [] Z (c_X8_refuse ho hq16) cv_X8_refuse rfl (shp_lt ho (by decide)) (fun _ _ => ⟨_, ce_8 ho⟩) wm_378 rfl rfl ⟨Nat.le_of_ble_eq_true rfl, Nat.le_of_ble_eq_true rfl⟩ rfl hl.1 rfl (Nat.le_of_ble_eq_true rfl) dX8_waited_33 ?_
      exact r_iret Z hQ hF dX8_waited_36
  · replace hF := nif_some hc10 hF
    refine r_iload Z dX8_waited_14 (lv_at hl 0 rfl) ?_
    exact r_iret Z hQ hF dX8_waited_16
theorem dX8_way_0 : decode cX8_way 0 = .ok (.iload_n 1, 1) := by decide +kernel
theorem dX8_way_1 : decode cX8_way 1 = .ok (.invokestatic 106, 3) := by decide +kernel
theorem dX8_way_4 : decode cX8_way 4 = .ok (.ifCond .eq 19, 3) := by decide +kernel
theorem dX8_way_7 : decode cX8_way 7 = .ok (.iload_n 2, 1) := by decide +kernel
theorem dX8_way_8 : decode cX8_way 8 = .ok (.invokestatic 106, 3) := by decide +kernel
theorem dX8_way_11 : decode cX8_way 11 = .ok (.ifCond .eq 12, 3) := by decide +kernel
theorem dX8_way_14 : decode cX8_way 14 = .ok (.iload_n 3, 1) := by decide +kernel
theorem dX8_way_15 : decode cX8_way 15 = .ok (.ifCond .lt 8, 3) := by decide +kernel
theorem dX8_way_18 : decode cX8_way 18 = .ok (.iload_n 3, 1) := by decide +kernel
theorem dX8_way_19 : decode cX8_way 19 = .ok (.iconst 4, 1) := by decide +kernel
theorem dX8_way_20 : decode cX8_way 20 = .ok (.if_icmp .le 5, 3) := by decide +kernel
theorem dX8_way_23 : decode cX8_way 23 = .ok (.iconst (-1), 1) := by decide +kernel
theorem dX8_way_24 : decode cX8_way 24 = .ok (.ireturn, 1) := by decide +kernel
theorem dX8_way_25 : decode cX8_way 25 = .ok (.aload_n 0, 1) := by decide +kernel
theorem dX8_way_26 : decode cX8_way 26 = .ok (.getfield 18, 3) := by decide +kernel
theorem dX8_way_29 : decode cX8_way 29 = .ok (.iload_n 1, 1) := by decide +kernel
theorem dX8_way_30 : decode cX8_way 30 = .ok (.invokevirtual 109, 3) := by decide +kernel
theorem dX8_way_33 : decode cX8_way 33 = .ok (.ifCond .eq 14, 3) := by decide +kernel
theorem dX8_way_36 : decode cX8_way 36 = .ok (.aload_n 0, 1) := by decide +kernel
theorem dX8_way_37 : decode cX8_way 37 = .ok (.getfield 18, 3) := by decide +kernel
theorem dX8_way_40 : decode cX8_way 40 = .ok (.iload_n 2, 1) := by decide +kernel
theorem dX8_way_41 : decode cX8_way 41 = .ok (.invokevirtual 109, 3) := by decide +kernel
theorem dX8_way_44 : decode cX8_way 44 = .ok (.ifCond .ne 9, 3) := by decide +kernel
theorem dX8_way_47 : decode cX8_way 47 = .ok (.aload_n 0, 1) := by decide +kernel
theorem dX8_way_48 : decode cX8_way 48 = .ok (.iconst 1, 1) := by decide +kernel
theorem dX8_way_49 : decode cX8_way 49 = .ok (.invokevirtual 66, 3) := by decide +kernel
theorem dX8_way_52 : decode cX8_way 52 = .ok (.ireturn, 1) := by decide +kernel
theorem dX8_way_53 : decode cX8_way 53 = .ok (.aload_n 0, 1) := by decide +kernel
theorem dX8_way_54 : decode cX8_way 54 = .ok (.getfield 18, 3) := by decide +kernel
theorem dX8_way_57 : decode cX8_way 57 = .ok (.getfield 116, 3) := by decide +kernel
theorem dX8_way_60 : decode cX8_way 60 = .ok (.iload_n 1, 1) := by decide +kernel
theorem dX8_way_61 : decode cX8_way 61 = .ok (.aaload, 1) := by decide +kernel
theorem dX8_way_62 : decode cX8_way 62 = .ok (.getfield 134, 3) := by decide +kernel
theorem dX8_way_65 : decode cX8_way 65 = .ok (.iload_n 2, 1) := by decide +kernel
theorem dX8_way_66 : decode cX8_way 66 = .ok (.iaload, 1) := by decide +kernel
theorem dX8_way_67 : decode cX8_way 67 = .ok (.istore 4, 2) := by decide +kernel
theorem dX8_way_69 : decode cX8_way 69 = .ok (.aload_n 0, 1) := by decide +kernel
theorem dX8_way_70 : decode cX8_way 70 = .ok (.getfield 18, 3) := by decide +kernel
theorem dX8_way_73 : decode cX8_way 73 = .ok (.getfield 116, 3) := by decide +kernel
theorem dX8_way_76 : decode cX8_way 76 = .ok (.iload_n 1, 1) := by decide +kernel
theorem dX8_way_77 : decode cX8_way 77 = .ok (.aaload, 1) := by decide +kernel
theorem dX8_way_78 : decode cX8_way 78 = .ok (.invokevirtual 137, 3) := by decide +kernel
theorem dX8_way_81 : decode cX8_way 81 = .ok (.iload 4, 2) := by decide +kernel
theorem dX8_way_83 : decode cX8_way 83 = .ok (.iadd, 1) := by decide +kernel
theorem dX8_way_84 : decode cX8_way 84 = .ok (.iload_n 3, 1) := by decide +kernel
theorem dX8_way_85 : decode cX8_way 85 = .ok (.if_icmp .ge 6, 3) := by decide +kernel
theorem dX8_way_88 : decode cX8_way 88 = .ok (.bipush (-4), 2) := by decide +kernel
theorem dX8_way_90 : decode cX8_way 90 = .ok (.ireturn, 1) := by decide +kernel
theorem dX8_way_91 : decode cX8_way 91 = .ok (.aload_n 0, 1) := by decide +kernel
theorem dX8_way_92 : decode cX8_way 92 = .ok (.getfield 18, 3) := by decide +kernel
theorem dX8_way_95 : decode cX8_way 95 = .ok (.getfield 116, 3) := by decide +kernel
theorem dX8_way_98 : decode cX8_way 98 = .ok (.iload_n 1, 1) := by decide +kernel
theorem dX8_way_99 : decode cX8_way 99 = .ok (.aaload, 1) := by decide +kernel
theorem dX8_way_100 : decode cX8_way 100 = .ok (.getfield 134, 3) := by decide +kernel
theorem dX8_way_103 : decode cX8_way 103 = .ok (.iload_n 2, 1) := by decide +kernel
theorem dX8_way_104 : decode cX8_way 104 = .ok (.iload_n 3, 1) := by decide +kernel
theorem dX8_way_105 : decode cX8_way 105 = .ok (.iastore, 1) := by decide +kernel
theorem dX8_way_106 : decode cX8_way 106 = .ok (.iload 4, 2) := by decide +kernel
theorem dX8_way_108 : decode cX8_way 108 = .ok (.ireturn, 1) := by decide +kernel
theorem cv_X8_way : wn_cV yX8_way cX8_way 5 (some .int) RX8 3 := ⟨wm_430, wm_919, wm_920, wm_377, by decide +kernel⟩
abbrev rm_X8_way : Room := rmz 2 41
set_option maxHeartbeats 4000000 in
set_option maxRecDepth 100000 in
theorem c_X8_way {ad : Nat → Nat} {o : Nat} {x1 : Int32} {x2 : Int32} {x3 : Int32} {M : Mm} {q : Int32 × Mm} (ho : shp o = 8) (hF : f_X8_way o x1 x2 x3 M = some q) : KI ad yX8_way cX8_way 5 (some .int) rm_X8_way [.ref (ad o), .int x1, .int x2, .int x3] M q.1 q.2 := by
  refine wn_enterI (own := RX8) (by decide) rfl (Nat.le_of_ble_eq_true rfl) (fun X ls Z hQ hl => ?_)
  have hl : lv_has ls 5 [(0, .ref (ad o)), (1, .int x1), (2, .int x2), (3, .int x3)] := hl
  have L47 : ∀ (M : Mm) (ls : Array Slot), lv_has ls 5 [(0, .ref (ad o))] → f_X8_way_b47 o M = some q → G ad X M 47 ls [] := by
    intro M ls hl hF
    unfold f_X8_way_b47 at hF
    refine r_aload_n Z dX8_way_47 rfl (lv_at hl 0 rfl) ?_
    refine r_iconst (v := 1) Z dX8_way_48 (by decide) ?_
    obtain ⟨q1, hq1, hF⟩ := bd_some hF
    refine r_invVi [] Z (c_X8_refuse ho hq1) cv_X8_refuse rfl (shp_lt ho (by decide)) (fun _ _ => ⟨_, ce_8 ho⟩) wm_378 rfl rfl ⟨Nat.le_of_ble_eq_true rfl, Nat.le_of_ble_eq_true rfl⟩ rfl hl.1 rfl (Nat.le_of_ble_eq_true rfl) dX8_way_49 ?_
    exact r_iret Z hQ hF dX8_way_52
  unfold f_X8_way at hF
  refine r_iload_n Z dX8_way_0 rfl (lv_at hl 1 rfl) ?_
  obtain ⟨q2, hq2, hF⟩ := bd_some hF
  refine r_invSi [] Z (c_X8_isCounterNumber hq2) cv_X8_isCounterNumber wm_409 rfl rfl ⟨Nat.le_of_ble_eq_true rfl, Nat.le_of_ble_eq_true rfl⟩ rfl hl.1 rfl (Nat.le_of_ble_eq_true rfl) dX8_way_1 ?_
  refine r_if_eq Z 23 dX8_way_4 (by decide) (fun hc3 => ?_) (fun hc3 => ?_)
  · replace hF := if_some hc3 hF
    refine r_iconst (v := (-1)) Z dX8_way_23 (by decide) ?_
    exact r_iret Z hQ hF dX8_way_24
  · replace hF := nif_some hc3 hF
    refine r_iload_n Z dX8_way_7 rfl (lv_at hl 2 rfl) ?_
    obtain ⟨q4, hq4, hF⟩ := bd_some hF
    refine r_invSi [] Z (c_X8_isCounterNumber hq4) cv_X8_isCounterNumber wm_409 rfl rfl ⟨Nat.le_of_ble_eq_true rfl, Nat.le_of_ble_eq_true rfl⟩ rfl hl.1 rfl (Nat.le_of_ble_eq_true rfl) dX8_way_8 ?_
    refine r_if_eq Z 23 dX8_way_11 (by decide) (fun hc5 => ?_) (fun hc5 => ?_)
    · replace hF := if_some hc5 hF
      refine r_iconst (v := (-1)) Z dX8_way_23 (by decide) ?_
      exact r_iret Z hQ hF dX8_way_24
    · replace hF := nif_some hc5 hF
      refine r_iload_n Z dX8_way_14 rfl (lv_at hl 3 rfl) ?_
      refine r_if_lt Z 23 dX8_way_15 (by decide) (fun hc6 => ?_) (fun hc6 => ?_)
      · replace hF := if_some hc6 hF
        refine r_iconst (v := (-1)) Z dX8_way_23 (by decide) ?_
        exact r_iret Z hQ hF dX8_way_24
      · replace hF := nif_some hc6 hF
        refine r_iload_n Z dX8_way_18 rfl (lv_at hl 3 rfl) ?_
        refine r_iconst (v := 4) Z dX8_way_19 (by decide) ?_
        refine r_icmp_le Z 25 dX8_way_20 (by decide) (fun hc7 => ?_) (fun hc7 => ?_)
        · replace hF := if_some hc7 hF
          refine r_aload_n Z dX8_way_25 rfl (lv_at hl 0 rfl) ?_
          refine g_8_1 Z ho wm_351 dX8_way_26 ?_
          refine r_iload_n Z dX8_way_29 rfl (lv_at hl 1 rfl) ?_
          obtain ⟨q8, hq8, hF⟩ := bd_some hF
          refine r_invVi [] Z (c_X4_has (sh_8_1 ho) hq8) cv_X4_has rfl (shp_lt (sh_8_1 ho) (by decide)) (fun _ _ => ⟨_, ce_4 (sh_8_1 ho)⟩) wm_411 rfl rfl ⟨Nat.le_of_ble_eq_true rfl, Nat.le_of_ble_eq_true rfl⟩ rfl hl.1 rfl (Nat.le_of_ble_eq_true rfl) dX8_way_30 ?_
          refine r_if_eq Z 47 dX8_way_33 (by decide) (fun hc9 => ?_) (fun hc9 => ?_)
          · replace hF := if_some hc9 hF
            exact L47 q8.2 ls (lv_sub hl [0] rfl) hF
          · replace hF := nif_some hc9 hF
            refine r_aload_n Z dX8_way_36 rfl (lv_at hl 0 rfl) ?_
            refine g_8_1 Z ho wm_351 dX8_way_37 ?_
            refine r_iload_n Z dX8_way_40 rfl (lv_at hl 2 rfl) ?_
            obtain ⟨q10, hq10, hF⟩ := bd_some hF
            refine r_invVi [] Z (c_X4_has (sh_8_1 ho) hq10) cv_X4_has rfl (shp_lt (sh_8_1 ho) (by decide)) (fun _ _ => ⟨_, ce_4 (sh_8_1 ho)⟩) wm_411 rfl rfl ⟨Nat.le_of_ble_eq_true rfl, Nat.le_of_ble_eq_true rfl⟩ rfl hl.1 rfl (Nat.le_of_ble_eq_true rfl) dX8_way_41 ?_
            refine r_if_ne Z 53 dX8_way_44 (by decide) (fun hc11 => ?_) (fun hc11 => ?_)
            · replace hF := nif_some hc11 hF
              refine r_aload_n Z dX8_way_53 rfl (lv_at hl 0 rfl) ?_
              refine g_8_1 Z ho wm_351 dX8_way_54 ?_
              refine g_4_0 Z (sh_8_1 ho) wm_418 dX8_way_57 ?_
              refine r_iload_n Z dX8_way_60 rfl (lv_at hl 1 rfl) ?_
              obtain ⟨hi12, hF⟩ := ck_some hF
              refine r_aald13 Z (sh_4_0 (sh_8_1 ho)) hi12 dX8_way_61 ?_
              refine g_1_0 Z (se_13 (sh_4_0 (sh_8_1 ho)) hi12) wm_428 dX8_way_62 ?_
              refine r_iload_n Z dX8_way_65 rfl (lv_at hl 2 rfl) ?_
              obtain ⟨hi13, hF⟩ := ck_some hF
              refine r_iaload Z (shp_lt (sh_1_0 (se_13 (sh_4_0 (sh_8_1 ho)) hi12)) (by decide)) (fun _ _ => ce_104 (sh_1_0 (se_13 (sh_4_0 (sh_8_1 ho)) hi12))) hi13 dX8_way_66 ?_
              obtain ⟨t14, et14, hF⟩ := nm_some hF
              rw [← et14]
              refine r_istore Z [(4, .int t14), (0, .ref (ad o)), (1, .int x1), (2, .int x2), (3, .int x3)] dX8_way_67 hl (by decide) rfl (fun ls hl => ?_)
              refine r_aload_n Z dX8_way_69 rfl (lv_at hl 1 rfl) ?_
              refine g_8_1 Z ho wm_351 dX8_way_70 ?_
              refine g_4_0 Z (sh_8_1 ho) wm_418 dX8_way_73 ?_
              refine r_iload_n Z dX8_way_76 rfl (lv_at hl 2 rfl) ?_
              obtain ⟨hi15, hF⟩ := ck_some hF
              refine r_aald13 Z (sh_4_0 (sh_8_1 ho)) hi15 dX8_way_77 ?_
              obtain ⟨q16, hq16, hF⟩ := bd_some hF
              refine r_invVi [] Z (c_X1_leaving (se_13 (sh_4_0 (sh_8_1 ho)) hi15) hq16) cv_X1_leaving rfl (shp_lt (se_13 (sh_4_0 (sh_8_1 ho)) hi15) (by decide)) (fun _ _ => ⟨_, ce_1 (se_13 (sh_4_0 (sh_8_1 ho)) hi15)⟩) wm_429 rfl rfl ⟨Nat.le_of_ble_eq_true rfl, Nat.le_of_ble_eq_true rfl⟩ rfl hl.1 rfl (Nat.le_of_ble_eq_true rfl) dX8_way_78 ?_
              refine r_iload Z dX8_way_81 (lv_at hl 0 rfl) ?_
              refine r_iadd Z dX8_way_83 ?_
              refine r_iload_n Z dX8_way_84 rfl (lv_at hl 4 rfl) ?_
              refine r_icmp_ge Z 91 dX8_way_85 (by decide) (fun hc17 => ?_) (fun hc17 => ?_)
              · replace hF := if_some hc17 hF
                refine r_aload_n Z dX8_way_91 rfl (lv_at hl 1 rfl) ?_
                refine g_8_1 Z ho wm_351 dX8_way_92 ?_
                refine g_4_0 Z (sh_8_1 ho) wm_418 dX8_way_95 ?_
                refine r_iload_n Z dX8_way_98 rfl (lv_at hl 2 rfl) ?_
                obtain ⟨hi18, hF⟩ := ck_some hF
                refine r_aald13 Z (sh_4_0 (sh_8_1 ho)) hi18 dX8_way_99 ?_
                refine g_1_0 Z (se_13 (sh_4_0 (sh_8_1 ho)) hi18) wm_428 dX8_way_100 ?_
                refine r_iload_n Z dX8_way_103 rfl (lv_at hl 3 rfl) ?_
                refine r_iload_n Z dX8_way_104 rfl (lv_at hl 4 rfl) ?_
                obtain ⟨hi19, hF⟩ := ck_some hF
                obtain ⟨M20, eM20, hF⟩ := nm_some hF
                refine r_iastore Z (shp_lt (sh_1_0 (se_13 (sh_4_0 (sh_8_1 ho)) hi18)) (by decide)) (fun _ _ => ce_104 (sh_1_0 (se_13 (sh_4_0 (sh_8_1 ho)) hi18))) hi19 dX8_way_105 ?_
                rw [← eM20]
                refine r_iload Z dX8_way_106 (lv_at hl 0 rfl) ?_
                exact r_iret Z hQ hF dX8_way_108
              · replace hF := nif_some hc17 hF
                refine r_bipush (v := (-4)) Z dX8_way_88 (by decide) ?_
                exact r_iret Z hQ hF dX8_way_90
            · replace hF := if_some hc11 hF
              exact L47 q10.2 ls (lv_sub hl [0] rfl) hF
        · replace hF := nif_some hc7 hF
          refine r_iconst (v := (-1)) Z dX8_way_23 (by decide) ?_
          exact r_iret Z hQ hF dX8_way_24
theorem dX9_in_0 : decode cX9_in 0 = .ok (.iload_n 0, 1) := by decide +kernel
theorem dX9_in_1 : decode cX9_in 1 = .ok (.iload_n 1, 1) := by decide +kernel
theorem dX9_in_2 : decode cX9_in 2 = .ok (.if_icmp .lt 12, 3) := by decide +kernel
theorem dX9_in_5 : decode cX9_in 5 = .ok (.iload_n 0, 1) := by decide +kernel
theorem dX9_in_6 : decode cX9_in 6 = .ok (.iload_n 2, 1) := by decide +kernel
theorem dX9_in_7 : decode cX9_in 7 = .ok (.if_icmp .gt 7, 3) := by decide +kernel
theorem dX9_in_10 : decode cX9_in 10 = .ok (.iconst 1, 1) := by decide +kernel
theorem dX9_in_11 : decode cX9_in 11 = .ok (.goto 4, 3) := by decide +kernel
theorem dX9_in_14 : decode cX9_in 14 = .ok (.iconst 0, 1) := by decide +kernel
theorem dX9_in_15 : decode cX9_in 15 = .ok (.ireturn, 1) := by decide +kernel
theorem cv_X9_in : wn_cS yX9_in cX9_in 3 (some .boolean) 3 := ⟨wm_627, wm_640, wm_637, by decide +kernel⟩
abbrev rm_X9_in : Room := rmz 0 0
set_option maxHeartbeats 4000000 in
set_option maxRecDepth 100000 in
theorem c_X9_in {ad : Nat → Nat} {x1 : Int32} {x2 : Int32} {x3 : Int32} {M : Mm} {q : Int32 × Mm} (hF : f_X9_in x1 x2 x3 M = some q) : KI ad yX9_in cX9_in 3 (some .boolean) rm_X9_in [.int x1, .int x2, .int x3] M q.1 q.2 := by
  refine wn_enterI (own := RX9) (by decide) rfl (Nat.le_of_ble_eq_true rfl) (fun X ls Z hQ hl => ?_)
  have hl : lv_has ls 3 [(0, .int x1), (1, .int x2), (2, .int x3)] := hl
  unfold f_X9_in at hF
  refine r_iload_n Z dX9_in_0 rfl (lv_at hl 0 rfl) ?_
  refine r_iload_n Z dX9_in_1 rfl (lv_at hl 1 rfl) ?_
  refine r_icmp_lt Z 14 dX9_in_2 (by decide) (fun hc1 => ?_) (fun hc1 => ?_)
  · replace hF := if_some hc1 hF
    refine r_iconst (v := 0) Z dX9_in_14 (by decide) ?_
    exact r_zret Z hQ (by decide) hF dX9_in_15
  · replace hF := nif_some hc1 hF
    refine r_iload_n Z dX9_in_5 rfl (lv_at hl 0 rfl) ?_
    refine r_iload_n Z dX9_in_6 rfl (lv_at hl 2 rfl) ?_
    refine r_icmp_gt Z 14 dX9_in_7 (by decide) (fun hc2 => ?_) (fun hc2 => ?_)
    · replace hF := if_some hc2 hF
      refine r_iconst (v := 0) Z dX9_in_14 (by decide) ?_
      exact r_zret Z hQ (by decide) hF dX9_in_15
    · replace hF := nif_some hc2 hF
      refine r_iconst (v := 1) Z dX9_in_10 (by decide) ?_
      refine r_goto Z 15 dX9_in_11 (by decide) ?_
      exact r_zret Z hQ (by decide) hF dX9_in_15
theorem dX9_areRates_0 : decode cX9_areRates 0 = .ok (.iconst 1, 1) := by decide +kernel
theorem dX9_areRates_1 : decode cX9_areRates 1 = .ok (.istore_n 3, 1) := by decide +kernel
theorem dX9_areRates_2 : decode cX9_areRates 2 = .ok (.iconst 0, 1) := by decide +kernel
theorem dX9_areRates_3 : decode cX9_areRates 3 = .ok (.istore 4, 2) := by decide +kernel
theorem dX9_areRates_5 : decode cX9_areRates 5 = .ok (.iload 4, 2) := by decide +kernel
theorem dX9_areRates_7 : decode cX9_areRates 7 = .ok (.iload_n 2, 1) := by decide +kernel
theorem dX9_areRates_8 : decode cX9_areRates 8 = .ok (.iload_n 2, 1) := by decide +kernel
theorem dX9_areRates_9 : decode cX9_areRates 9 = .ok (.imul, 1) := by decide +kernel
theorem dX9_areRates_10 : decode cX9_areRates 10 = .ok (.if_icmp .ge 49, 3) := by decide +kernel
theorem dX9_areRates_13 : decode cX9_areRates 13 = .ok (.iload_n 3, 1) := by decide +kernel
theorem dX9_areRates_14 : decode cX9_areRates 14 = .ok (.ifCond .eq 37, 3) := by decide +kernel
theorem dX9_areRates_17 : decode cX9_areRates 17 = .ok (.iload 4, 2) := by decide +kernel
theorem dX9_areRates_19 : decode cX9_areRates 19 = .ok (.iload_n 2, 1) := by decide +kernel
theorem dX9_areRates_20 : decode cX9_areRates 20 = .ok (.iconst 1, 1) := by decide +kernel
theorem dX9_areRates_21 : decode cX9_areRates 21 = .ok (.iadd, 1) := by decide +kernel
theorem dX9_areRates_22 : decode cX9_areRates 22 = .ok (.irem, 1) := by decide +kernel
theorem dX9_areRates_23 : decode cX9_areRates 23 = .ok (.ifCond .eq 24, 3) := by decide +kernel
theorem dX9_areRates_26 : decode cX9_areRates 26 = .ok (.aload_n 0, 1) := by decide +kernel
theorem dX9_areRates_27 : decode cX9_areRates 27 = .ok (.getfield 20, 3) := by decide +kernel
theorem dX9_areRates_30 : decode cX9_areRates 30 = .ok (.bipush 40, 2) := by decide +kernel
theorem dX9_areRates_32 : decode cX9_areRates 32 = .ok (.iload_n 1, 1) := by decide +kernel
theorem dX9_areRates_33 : decode cX9_areRates 33 = .ok (.imul, 1) := by decide +kernel
theorem dX9_areRates_34 : decode cX9_areRates 34 = .ok (.iload 4, 2) := by decide +kernel
theorem dX9_areRates_36 : decode cX9_areRates 36 = .ok (.iadd, 1) := by decide +kernel
theorem dX9_areRates_37 : decode cX9_areRates 37 = .ok (.iaload, 1) := by decide +kernel
theorem dX9_areRates_38 : decode cX9_areRates 38 = .ok (.iconst 0, 1) := by decide +kernel
theorem dX9_areRates_39 : decode cX9_areRates 39 = .ok (.bipush 12, 2) := by decide +kernel
theorem dX9_areRates_41 : decode cX9_areRates 41 = .ok (.invokestatic 81, 3) := by decide +kernel
theorem dX9_areRates_44 : decode cX9_areRates 44 = .ok (.ifCond .eq 7, 3) := by decide +kernel
theorem dX9_areRates_47 : decode cX9_areRates 47 = .ok (.iconst 1, 1) := by decide +kernel
theorem dX9_areRates_48 : decode cX9_areRates 48 = .ok (.goto 4, 3) := by decide +kernel
theorem dX9_areRates_51 : decode cX9_areRates 51 = .ok (.iconst 0, 1) := by decide +kernel
theorem dX9_areRates_52 : decode cX9_areRates 52 = .ok (.istore_n 3, 1) := by decide +kernel
theorem dX9_areRates_53 : decode cX9_areRates 53 = .ok (.iinc 4 1, 3) := by decide +kernel
theorem dX9_areRates_56 : decode cX9_areRates 56 = .ok (.goto (-51), 3) := by decide +kernel
theorem dX9_areRates_59 : decode cX9_areRates 59 = .ok (.iload_n 3, 1) := by decide +kernel
theorem dX9_areRates_60 : decode cX9_areRates 60 = .ok (.ireturn, 1) := by decide +kernel
theorem cv_X9_areRates : wn_cV yX9_areRates cX9_areRates 5 (some .boolean) RX9 2 := ⟨wm_802, wm_817, wm_818, wm_637, by decide +kernel⟩
abbrev rm_X9_areRates : Room := rmz 1 22
set_option maxHeartbeats 4000000 in
set_option maxRecDepth 100000 in
theorem c_X9_areRates {ad : Nat → Nat} {o : Nat} {x1 : Int32} {x2 : Int32} {M : Mm} {q : Int32 × Mm} (ho : shp o = 9) (hF : f_X9_areRates o x1 x2 M = some q) : KI ad yX9_areRates cX9_areRates 5 (some .boolean) rm_X9_areRates [.ref (ad o), .int x1, .int x2] M q.1 q.2 := by
  refine wn_enterI (own := RX9) (by decide) rfl (Nat.le_of_ble_eq_true rfl) (fun X ls Z hQ hl => ?_)
  have hl : lv_has ls 5 [(0, .ref (ad o)), (1, .int x1), (2, .int x2)] := hl
  have L5 : ∀ (n5 : Nat) (v1 : Int32) (v2 : Int32) (v3 : Int32) (v4 : Int32) (M : Mm) (ls : Array Slot), lv_has ls 5 [(0, .ref (ad o)), (1, .int v1), (2, .int v2), (3, .int v3), (4, .int v4)] → f_X9_areRates_b5 o n5 v1 v2 v3 v4 M = some q → G ad X M 5 ls [] := by
    intro n5
    induction n5 with
    | zero =>
      intro v1 v2 v3 v4 M ls hl hF
      cases hF
    | succ n5 ih5 =>
      have L47 : ∀ (v1 : Int32) (v2 : Int32) (v4 : Int32) (M : Mm) (ls : Array Slot), lv_has ls 5 [(0, .ref (ad o)), (1, .int v1), (2, .int v2), (4, .int v4)] → f_X9_areRates_b47 (f_X9_areRates_b5 o n5) o v1 v2 v4 M = some q → G ad X M 47 ls [] := by
        intro v1 v2 v4 M ls hl hF
        unfold f_X9_areRates_b47 at hF
        refine r_iconst (v := 1) Z dX9_areRates_47 (by decide) ?_
        refine r_goto Z 52 dX9_areRates_48 (by decide) ?_
        refine r_istore_n Z [(3, .int 1), (0, .ref (ad o)), (1, .int v1), (2, .int v2), (4, .int v4)] dX9_areRates_52 rfl hl (by decide) rfl (fun ls hl => ?_)
        obtain ⟨t1, et1, hF⟩ := nm_some hF
        refine r_iinc (j := 4) Z t1 [(4, .int t1), (3, .int 1), (0, .ref (ad o)), (1, .int v1), (2, .int v2)] dX9_areRates_53 hl rfl (by rw [et1]; rfl) (by decide) rfl (fun ls hl => ?_)
        refine r_goto Z 5 dX9_areRates_56 (by decide) ?_
        exact ih5 v1 v2 1 t1 M ls (lv_sub hl [2, 3, 4, 1, 0] rfl) hF
      intro v1 v2 v3 v4 M ls hl hF
      replace hF : f_X9_areRates_b5B (f_X9_areRates_b5 o n5) o v1 v2 v3 v4 M = some q := hF
      unfold f_X9_areRates_b5B at hF
      refine r_iload Z dX9_areRates_5 (lv_at hl 4 rfl) ?_
      refine r_iload_n Z dX9_areRates_7 rfl (lv_at hl 2 rfl) ?_
      refine r_iload_n Z dX9_areRates_8 rfl (lv_at hl 2 rfl) ?_
      refine r_imul Z dX9_areRates_9 ?_
      refine r_icmp_ge Z 59 dX9_areRates_10 (by decide) (fun hc2 => ?_) (fun hc2 => ?_)
      · replace hF := if_some hc2 hF
        refine r_iload_n Z dX9_areRates_59 rfl (lv_at hl 3 rfl) ?_
        obtain ⟨hz, hF⟩ := bz_some hF
        exact r_zret Z hQ hz hF dX9_areRates_60
      · replace hF := nif_some hc2 hF
        refine r_iload_n Z dX9_areRates_13 rfl (lv_at hl 3 rfl) ?_
        refine r_if_eq Z 51 dX9_areRates_14 (by decide) (fun hc3 => ?_) (fun hc3 => ?_)
        · replace hF := if_some hc3 hF
          refine r_iconst (v := 0) Z dX9_areRates_51 (by decide) ?_
          refine r_istore_n Z [(3, .int 0), (0, .ref (ad o)), (1, .int v1), (2, .int v2), (4, .int v4)] dX9_areRates_52 rfl hl (by decide) rfl (fun ls hl => ?_)
          obtain ⟨t4, et4, hF⟩ := nm_some hF
          refine r_iinc (j := 4) Z t4 [(4, .int t4), (3, .int 0), (0, .ref (ad o)), (1, .int v1), (2, .int v2)] dX9_areRates_53 hl rfl (by rw [et4]; rfl) (by decide) rfl (fun ls hl => ?_)
          refine r_goto Z 5 dX9_areRates_56 (by decide) ?_
          exact ih5 v1 v2 0 t4 M ls (lv_sub hl [2, 3, 4, 1, 0] rfl) hF
        · replace hF := nif_some hc3 hF
          refine r_iload Z dX9_areRates_17 (lv_at hl 4 rfl) ?_
          refine r_iload_n Z dX9_areRates_19 rfl (lv_at hl 2 rfl) ?_
          refine r_iconst (v := 1) Z dX9_areRates_20 (by decide) ?_
          refine r_iadd Z dX9_areRates_21 ?_
          obtain ⟨hd5, hF⟩ := dvI_some hF
          refine r_irem Z dX9_areRates_22 hd5 ?_
          refine r_if_eq Z 47 dX9_areRates_23 (by decide) (fun hc6 => ?_) (fun hc6 => ?_)
          · replace hF := if_some hc6 hF
            exact L47 v1 v2 v4 M ls (lv_sub hl [0, 1, 2, 4] rfl) hF
          · replace hF := nif_some hc6 hF
            refine r_aload_n Z dX9_areRates_26 rfl (lv_at hl 0 rfl) ?_
            refine g_9_6 Z ho wm_611 dX9_areRates_27 ?_
            refine r_bipush (v := 40) Z dX9_areRates_30 (by decide) ?_
            refine r_iload_n Z dX9_areRates_32 rfl (lv_at hl 1 rfl) ?_
            refine r_imul Z dX9_areRates_33 ?_
            refine r_iload Z dX9_areRates_34 (lv_at hl 4 rfl) ?_
            refine r_iadd Z dX9_areRates_36 ?_
            obtain ⟨hi7, hF⟩ := ck_some hF
            refine r_iaload Z (shp_lt (sh_9_6 ho) (by decide)) (fun _ _ => ce_340 (sh_9_6 ho)) hi7 dX9_areRates_37 ?_
            refine r_iconst (v := 0) Z dX9_areRates_38 (by decide) ?_
            refine r_bipush (v := 12) Z dX9_areRates_39 (by decide) ?_
            obtain ⟨q8, hq8, hF⟩ := bd_some hF
            refine r_invSi [] Z (c_X9_in hq8) cv_X9_in wm_639 rfl rfl ⟨Nat.le_of_ble_eq_true rfl, Nat.le_of_ble_eq_true rfl⟩ rfl hl.1 rfl (Nat.le_of_ble_eq_true rfl) dX9_areRates_41 ?_
            refine r_if_eq Z 51 dX9_areRates_44 (by decide) (fun hc9 => ?_) (fun hc9 => ?_)
            · replace hF := if_some hc9 hF
              refine r_iconst (v := 0) Z dX9_areRates_51 (by decide) ?_
              refine r_istore_n Z [(3, .int 0), (0, .ref (ad o)), (1, .int v1), (2, .int v2), (4, .int v4)] dX9_areRates_52 rfl hl (by decide) rfl (fun ls hl => ?_)
              obtain ⟨t10, et10, hF⟩ := nm_some hF
              refine r_iinc (j := 4) Z t10 [(4, .int t10), (3, .int 0), (0, .ref (ad o)), (1, .int v1), (2, .int v2)] dX9_areRates_53 hl rfl (by rw [et10]; rfl) (by decide) rfl (fun ls hl => ?_)
              refine r_goto Z 5 dX9_areRates_56 (by decide) ?_
              exact ih5 v1 v2 0 t10 q8.2 ls (lv_sub hl [2, 3, 4, 1, 0] rfl) hF
            · replace hF := nif_some hc9 hF
              exact L47 v1 v2 v4 q8.2 ls (lv_sub hl [0, 1, 2, 4] rfl) hF
  unfold f_X9_areRates at hF
  refine r_iconst (v := 1) Z dX9_areRates_0 (by decide) ?_
  refine r_istore_n Z [(3, .int 1), (0, .ref (ad o)), (1, .int x1), (2, .int x2)] dX9_areRates_1 rfl hl (by decide) rfl (fun ls hl => ?_)
  refine r_iconst (v := 0) Z dX9_areRates_2 (by decide) ?_
  refine r_istore Z [(4, .int 0), (3, .int 1), (0, .ref (ad o)), (1, .int x1), (2, .int x2)] dX9_areRates_3 hl (by decide) rfl (fun ls hl => ?_)
  exact L5 _ x1 x2 1 0 M ls (lv_sub hl [2, 3, 4, 1, 0] rfl) hF
theorem dX9_ask_0 : decode cX9_ask 0 = .ok (.aload_n 0, 1) := by decide +kernel
theorem dX9_ask_1 : decode cX9_ask 1 = .ok (.iload_n 1, 1) := by decide +kernel
theorem dX9_ask_2 : decode cX9_ask 2 = .ok (.putfield 71, 3) := by decide +kernel
theorem dX9_ask_5 : decode cX9_ask 5 = .ok (.iload_n 2, 1) := by decide +kernel
theorem dX9_ask_6 : decode cX9_ask 6 = .ok (.ireturn, 1) := by decide +kernel
theorem cv_X9_ask : wn_cV yX9_ask cX9_ask 3 (some .int) RX9 2 := ⟨wm_630, wm_656, wm_657, wm_637, by decide +kernel⟩
abbrev rm_X9_ask : Room := rmz 0 0
set_option maxHeartbeats 4000000 in
set_option maxRecDepth 100000 in
theorem c_X9_ask {ad : Nat → Nat} {o : Nat} {x1 : Int32} {x2 : Int32} {M : Mm} {q : Int32 × Mm} (ho : shp o = 9) (hF : f_X9_ask o x1 x2 M = some q) : KI ad yX9_ask cX9_ask 3 (some .int) rm_X9_ask [.ref (ad o), .int x1, .int x2] M q.1 q.2 := by
  refine wn_enterI (own := RX9) (by decide) rfl (Nat.le_of_ble_eq_true rfl) (fun X ls Z hQ hl => ?_)
  have hl : lv_has ls 3 [(0, .ref (ad o)), (1, .int x1), (2, .int x2)] := hl
  unfold f_X9_ask at hF
  refine r_aload_n Z dX9_ask_0 rfl (lv_at hl 0 rfl) ?_
  refine r_iload_n Z dX9_ask_1 rfl (lv_at hl 1 rfl) ?_
  obtain ⟨M1, eM1, hF⟩ := nm_some hF
  refine p_9_2 Z ho wm_631 dX9_ask_2 ?_
  rw [← eM1]
  refine r_iload_n Z dX9_ask_5 rfl (lv_at hl 2 rfl) ?_
  exact r_iret Z hQ hF dX9_ask_6
theorem dX9_asked_0 : decode cX9_asked 0 = .ok (.aload_n 0, 1) := by decide +kernel
theorem dX9_asked_1 : decode cX9_asked 1 = .ok (.getfield 71, 3) := by decide +kernel
theorem dX9_asked_4 : decode cX9_asked 4 = .ok (.ireturn, 1) := by decide +kernel
theorem cv_X9_asked : wn_cV yX9_asked cX9_asked 1 (some .int) RX9 0 := ⟨wm_833, wm_1078, wm_1079, wm_637, by decide +kernel⟩
abbrev rm_X9_asked : Room := rmz 0 0
set_option maxHeartbeats 4000000 in
set_option maxRecDepth 100000 in
theorem c_X9_asked {ad : Nat → Nat} {o : Nat} {M : Mm} {q : Int32 × Mm} (ho : shp o = 9) (hF : f_X9_asked o M = some q) : KI ad yX9_asked cX9_asked 1 (some .int) rm_X9_asked [.ref (ad o)] M q.1 q.2 := by
  refine wn_enterI (own := RX9) (by decide) rfl (Nat.le_of_ble_eq_true rfl) (fun X ls Z hQ hl => ?_)
  have hl : lv_has ls 1 [(0, .ref (ad o))] := hl
  unfold f_X9_asked at hF
  refine r_aload_n Z dX9_asked_0 rfl (lv_at hl 0 rfl) ?_
  refine g_9_2 Z ho wm_631 dX9_asked_1 ?_
  exact r_iret Z hQ hF dX9_asked_4
theorem dX9_isRow_0 : decode cX9_isRow 0 = .ok (.iload_n 0, 1) := by decide +kernel
theorem dX9_isRow_1 : decode cX9_isRow 1 = .ok (.iconst 0, 1) := by decide +kernel
theorem dX9_isRow_2 : decode cX9_isRow 2 = .ok (.iconst 5, 1) := by decide +kernel
theorem dX9_isRow_3 : decode cX9_isRow 3 = .ok (.invokestatic 81, 3) := by decide +kernel
theorem dX9_isRow_6 : decode cX9_isRow 6 = .ok (.ireturn, 1) := by decide +kernel
theorem cv_X9_isRow : wn_cS yX9_isRow cX9_isRow 1 (some .boolean) 1 := ⟨wm_638, wm_643, wm_637, by decide +kernel⟩
abbrev rm_X9_isRow : Room := rmz 1 22
set_option maxHeartbeats 4000000 in
set_option maxRecDepth 100000 in
theorem c_X9_isRow {ad : Nat → Nat} {x1 : Int32} {M : Mm} {q : Int32 × Mm} (hF : f_X9_isRow x1 M = some q) : KI ad yX9_isRow cX9_isRow 1 (some .boolean) rm_X9_isRow [.int x1] M q.1 q.2 := by
  refine wn_enterI (own := RX9) (by decide) rfl (Nat.le_of_ble_eq_true rfl) (fun X ls Z hQ hl => ?_)
  have hl : lv_has ls 1 [(0, .int x1)] := hl
  unfold f_X9_isRow at hF
  refine r_iload_n Z dX9_isRow_0 rfl (lv_at hl 0 rfl) ?_
  refine r_iconst (v := 0) Z dX9_isRow_1 (by decide) ?_
  refine r_iconst (v := 5) Z dX9_isRow_2 (by decide) ?_
  obtain ⟨q1, hq1, hF⟩ := bd_some hF
  refine r_invSi [] Z (c_X9_in hq1) cv_X9_in wm_639 rfl rfl ⟨Nat.le_of_ble_eq_true rfl, Nat.le_of_ble_eq_true rfl⟩ rfl hl.1 rfl (Nat.le_of_ble_eq_true rfl) dX9_isRow_3 ?_
  obtain ⟨hz, hF⟩ := bz_some hF
  exact r_zret Z hQ hz hF dX9_isRow_6
theorem dX9_meets_0 : decode cX9_meets 0 = .ok (.aload_n 0, 1) := by decide +kernel
theorem dX9_meets_1 : decode cX9_meets 1 = .ok (.iload_n 1, 1) := by decide +kernel
theorem dX9_meets_2 : decode cX9_meets 2 = .ok (.putfield 67, 3) := by decide +kernel
theorem dX9_meets_5 : decode cX9_meets 5 = .ok (.aload_n 0, 1) := by decide +kernel
theorem dX9_meets_6 : decode cX9_meets 6 = .ok (.getfield 7, 3) := by decide +kernel
theorem dX9_meets_9 : decode cX9_meets 9 = .ok (.iload_n 1, 1) := by decide +kernel
theorem dX9_meets_10 : decode cX9_meets 10 = .ok (.dup2, 1) := by decide +kernel
theorem dX9_meets_11 : decode cX9_meets 11 = .ok (.iaload, 1) := by decide +kernel
theorem dX9_meets_12 : decode cX9_meets 12 = .ok (.iconst 1, 1) := by decide +kernel
theorem dX9_meets_13 : decode cX9_meets 13 = .ok (.iadd, 1) := by decide +kernel
theorem dX9_meets_14 : decode cX9_meets 14 = .ok (.iastore, 1) := by decide +kernel
theorem dX9_meets_15 : decode cX9_meets 15 = .ok (.bipush (-3), 2) := by decide +kernel
theorem dX9_meets_17 : decode cX9_meets 17 = .ok (.ireturn, 1) := by decide +kernel
theorem cv_X9_meets : wn_cV yX9_meets cX9_meets 2 (some .int) RX9 1 := ⟨wm_628, wm_645, wm_646, wm_637, by decide +kernel⟩
abbrev rm_X9_meets : Room := rmz 0 0
set_option maxHeartbeats 4000000 in
set_option maxRecDepth 100000 in
theorem c_X9_meets {ad : Nat → Nat} {o : Nat} {x1 : Int32} {M : Mm} {q : Int32 × Mm} (ho : shp o = 9) (hF : f_X9_meets o x1 M = some q) : KI ad yX9_meets cX9_meets 2 (some .int) rm_X9_meets [.ref (ad o), .int x1] M q.1 q.2 := by
  refine wn_enterI (own := RX9) (by decide) rfl (Nat.le_of_ble_eq_true rfl) (fun X ls Z hQ hl => ?_)
  have hl : lv_has ls 2 [(0, .ref (ad o)), (1, .int x1)] := hl
  unfold f_X9_meets at hF
  refine r_aload_n Z dX9_meets_0 rfl (lv_at hl 0 rfl) ?_
  refine r_iload_n Z dX9_meets_1 rfl (lv_at hl 1 rfl) ?_
  obtain ⟨M1, eM1, hF⟩ := nm_some hF
  refine p_9_0 Z ho wm_629 dX9_meets_2 ?_
  rw [← eM1]
  refine r_aload_n Z dX9_meets_5 rfl (lv_at hl 0 rfl) ?_
  refine g_9_1 Z ho wm_608 dX9_meets_6 ?_
  refine r_iload_n Z dX9_meets_9 rfl (lv_at hl 1 rfl) ?_
  refine r_dup2 Z dX9_meets_10 rfl rfl ?_
  obtain ⟨hi2, hF⟩ := ck_some hF
  refine r_iaload Z (shp_lt (sh_9_1 ho) (by decide)) (fun _ _ => ce_106 (sh_9_1 ho)) hi2 dX9_meets_11 ?_
  refine r_iconst (v := 1) Z dX9_meets_12 (by decide) ?_
  refine r_iadd Z dX9_meets_13 ?_
  obtain ⟨hi3, hF⟩ := ck_some hF
  obtain ⟨M4, eM4, hF⟩ := nm_some hF
  refine r_iastore Z (shp_lt (sh_9_1 ho) (by decide)) (fun _ _ => ce_106 (sh_9_1 ho)) hi3 dX9_meets_14 ?_
  rw [← eM4]
  refine r_bipush (v := (-3)) Z dX9_meets_15 (by decide) ?_
  exact r_iret Z hQ hF dX9_meets_17
theorem dX9_askedRow_0 : decode cX9_askedRow 0 = .ok (.iload_n 1, 1) := by decide +kernel
theorem dX9_askedRow_1 : decode cX9_askedRow 1 = .ok (.invokestatic 85, 3) := by decide +kernel
theorem dX9_askedRow_4 : decode cX9_askedRow 4 = .ok (.ifCond .ne 7, 3) := by decide +kernel
theorem dX9_askedRow_7 : decode cX9_askedRow 7 = .ok (.iconst (-1), 1) := by decide +kernel
theorem dX9_askedRow_8 : decode cX9_askedRow 8 = .ok (.goto 21, 3) := by decide +kernel
theorem dX9_askedRow_11 : decode cX9_askedRow 11 = .ok (.aload_n 0, 1) := by decide +kernel
theorem dX9_askedRow_12 : decode cX9_askedRow 12 = .ok (.getfield 17, 3) := by decide +kernel
theorem dX9_askedRow_15 : decode cX9_askedRow 15 = .ok (.iload_n 1, 1) := by decide +kernel
theorem dX9_askedRow_16 : decode cX9_askedRow 16 = .ok (.iaload, 1) := by decide +kernel
theorem dX9_askedRow_17 : decode cX9_askedRow 17 = .ok (.ifCond .ge 11, 3) := by decide +kernel
theorem dX9_askedRow_20 : decode cX9_askedRow 20 = .ok (.aload_n 0, 1) := by decide +kernel
theorem dX9_askedRow_21 : decode cX9_askedRow 21 = .ok (.iconst 1, 1) := by decide +kernel
theorem dX9_askedRow_22 : decode cX9_askedRow 22 = .ok (.invokevirtual 89, 3) := by decide +kernel
theorem dX9_askedRow_25 : decode cX9_askedRow 25 = .ok (.goto 4, 3) := by decide +kernel
theorem dX9_askedRow_28 : decode cX9_askedRow 28 = .ok (.iconst 0, 1) := by decide +kernel
theorem dX9_askedRow_29 : decode cX9_askedRow 29 = .ok (.ireturn, 1) := by decide +kernel
theorem cv_X9_askedRow : wn_cV yX9_askedRow cX9_askedRow 2 (some .int) RX9 1 := ⟨wm_641, wm_650, wm_651, wm_637, by decide +kernel⟩
abbrev rm_X9_askedRow : Room := rmz 2 42
set_option maxHeartbeats 4000000 in
set_option maxRecDepth 100000 in
theorem c_X9_askedRow {ad : Nat → Nat} {o : Nat} {x1 : Int32} {M : Mm} {q : Int32 × Mm} (ho : shp o = 9) (hF : f_X9_askedRow o x1 M = some q) : KI ad yX9_askedRow cX9_askedRow 2 (some .int) rm_X9_askedRow [.ref (ad o), .int x1] M q.1 q.2 := by
  refine wn_enterI (own := RX9) (by decide) rfl (Nat.le_of_ble_eq_true rfl) (fun X ls Z hQ hl => ?_)
  have hl : lv_has ls 2 [(0, .ref (ad o)), (1, .int x1)] := hl
  unfold f_X9_askedRow at hF
  refine r_iload_n Z dX9_askedRow_0 rfl (lv_at hl 1 rfl) ?_
  obtain ⟨q1, hq1, hF⟩ := bd_some hF
  refine r_invSi [] Z (c_X9_isRow hq1) cv_X9_isRow wm_642 rfl rfl ⟨Nat.le_of_ble_eq_true rfl, Nat.le_of_ble_eq_true rfl⟩ rfl hl.1 rfl (Nat.le_of_ble_eq_true rfl) dX9_askedRow_1 ?_
  refine r_if_ne Z 11 dX9_askedRow_4 (by decide) (fun hc2 => ?_) (fun hc2 => ?_)
  · replace hF := nif_some hc2 hF
    refine r_aload_n Z dX9_askedRow_11 rfl (lv_at hl 0 rfl) ?_
    refine g_9_5 Z ho wm_610 dX9_askedRow_12 ?_
    refine r_iload_n Z dX9_askedRow_15 rfl (lv_at hl 1 rfl) ?_
    obtain ⟨hi3, hF⟩ := ck_some hF
    refine r_iaload Z (shp_lt (sh_9_5 ho) (by decide)) (fun _ _ => ce_106 (sh_9_5 ho)) hi3 dX9_askedRow_16 ?_
    refine r_if_ge Z 28 dX9_askedRow_17 (by decide) (fun hc4 => ?_) (fun hc4 => ?_)
    · replace hF := if_some hc4 hF
      refine r_iconst (v := 0) Z dX9_askedRow_28 (by decide) ?_
      exact r_iret Z hQ hF dX9_askedRow_29
    · replace hF := nif_some hc4 hF
      refine r_aload_n Z dX9_askedRow_20 rfl (lv_at hl 0 rfl) ?_
      refine r_iconst (v := 1) Z dX9_askedRow_21 (by decide) ?_
      obtain ⟨q5, hq5, hF⟩ := bd_some hF
      refine r_invVi [] Z (c_X9_meets ho hq5) cv_X9_meets rfl (shp_lt ho (by decide)) (fun _ _ => ⟨_, ce_9 ho⟩) wm_644 rfl rfl ⟨Nat.le_of_ble_eq_true rfl, Nat.le_of_ble_eq_true rfl⟩ rfl hl.1 rfl (Nat.le_of_ble_eq_true rfl) dX9_askedRow_22 ?_
      refine r_goto Z 29 dX9_askedRow_25 (by decide) ?_
      exact r_iret Z hQ hF dX9_askedRow_29
  · replace hF := if_some hc2 hF
    refine r_iconst (v := (-1)) Z dX9_askedRow_7 (by decide) ?_
    refine r_goto Z 29 dX9_askedRow_8 (by decide) ?_
    exact r_iret Z hQ hF dX9_askedRow_29
theorem dX9_askedChain_0 : decode cX9_askedChain 0 = .ok (.aload_n 0, 1) := by decide +kernel
theorem dX9_askedChain_1 : decode cX9_askedChain 1 = .ok (.iload_n 1, 1) := by decide +kernel
theorem dX9_askedChain_2 : decode cX9_askedChain 2 = .ok (.invokevirtual 93, 3) := by decide +kernel
theorem dX9_askedChain_5 : decode cX9_askedChain 5 = .ok (.istore_n 2, 1) := by decide +kernel
theorem dX9_askedChain_6 : decode cX9_askedChain 6 = .ok (.iload_n 2, 1) := by decide +kernel
theorem dX9_askedChain_7 : decode cX9_askedChain 7 = .ok (.ifCond .ge 5, 3) := by decide +kernel
theorem dX9_askedChain_10 : decode cX9_askedChain 10 = .ok (.iload_n 2, 1) := by decide +kernel
theorem dX9_askedChain_11 : decode cX9_askedChain 11 = .ok (.ireturn, 1) := by decide +kernel
theorem dX9_askedChain_12 : decode cX9_askedChain 12 = .ok (.iconst 2, 1) := by decide +kernel
theorem dX9_askedChain_13 : decode cX9_askedChain 13 = .ok (.istore_n 3, 1) := by decide +kernel
theorem dX9_askedChain_14 : decode cX9_askedChain 14 = .ok (.iload_n 3, 1) := by decide +kernel
theorem dX9_askedChain_15 : decode cX9_askedChain 15 = .ok (.bipush 6, 2) := by decide +kernel
theorem dX9_askedChain_17 : decode cX9_askedChain 17 = .ok (.if_icmp .ge 21, 3) := by decide +kernel
theorem dX9_askedChain_20 : decode cX9_askedChain 20 = .ok (.iload_n 3, 1) := by decide +kernel
theorem dX9_askedChain_21 : decode cX9_askedChain 21 = .ok (.iload_n 3, 1) := by decide +kernel
theorem dX9_askedChain_22 : decode cX9_askedChain 22 = .ok (.imul, 1) := by decide +kernel
theorem dX9_askedChain_23 : decode cX9_askedChain 23 = .ok (.aload_n 0, 1) := by decide +kernel
theorem dX9_askedChain_24 : decode cX9_askedChain 24 = .ok (.getfield 17, 3) := by decide +kernel
theorem dX9_askedChain_27 : decode cX9_askedChain 27 = .ok (.iload_n 1, 1) := by decide +kernel
theorem dX9_askedChain_28 : decode cX9_askedChain 28 = .ok (.iaload, 1) := by decide +kernel
theorem dX9_askedChain_29 : decode cX9_askedChain 29 = .ok (.if_icmp .ge 9, 3) := by decide +kernel
theorem dX9_askedChain_32 : decode cX9_askedChain 32 = .ok (.iinc 3 1, 3) := by decide +kernel
theorem dX9_askedChain_35 : decode cX9_askedChain 35 = .ok (.goto (-21), 3) := by decide +kernel
theorem dX9_askedChain_38 : decode cX9_askedChain 38 = .ok (.iload_n 3, 1) := by decide +kernel
theorem dX9_askedChain_39 : decode cX9_askedChain 39 = .ok (.iload_n 3, 1) := by decide +kernel
theorem dX9_askedChain_40 : decode cX9_askedChain 40 = .ok (.imul, 1) := by decide +kernel
theorem dX9_askedChain_41 : decode cX9_askedChain 41 = .ok (.aload_n 0, 1) := by decide +kernel
theorem dX9_askedChain_42 : decode cX9_askedChain 42 = .ok (.getfield 17, 3) := by decide +kernel
theorem dX9_askedChain_45 : decode cX9_askedChain 45 = .ok (.iload_n 1, 1) := by decide +kernel
theorem dX9_askedChain_46 : decode cX9_askedChain 46 = .ok (.iaload, 1) := by decide +kernel
theorem dX9_askedChain_47 : decode cX9_askedChain 47 = .ok (.if_icmp .eq 9, 3) := by decide +kernel
theorem dX9_askedChain_50 : decode cX9_askedChain 50 = .ok (.aload_n 0, 1) := by decide +kernel
theorem dX9_askedChain_51 : decode cX9_askedChain 51 = .ok (.iconst 5, 1) := by decide +kernel
theorem dX9_askedChain_52 : decode cX9_askedChain 52 = .ok (.invokevirtual 89, 3) := by decide +kernel
theorem dX9_askedChain_55 : decode cX9_askedChain 55 = .ok (.ireturn, 1) := by decide +kernel
theorem dX9_askedChain_56 : decode cX9_askedChain 56 = .ok (.iload_n 3, 1) := by decide +kernel
theorem dX9_askedChain_57 : decode cX9_askedChain 57 = .ok (.ireturn, 1) := by decide +kernel
theorem cv_X9_askedChain : wn_cV yX9_askedChain cX9_askedChain 4 (some .int) RX9 1 := ⟨wm_801, wm_814, wm_815, wm_637, by decide +kernel⟩
abbrev rm_X9_askedChain : Room := rmz 3 63
set_option maxHeartbeats 4000000 in
set_option maxRecDepth 100000 in
theorem c_X9_askedChain {ad : Nat → Nat} {o : Nat} {x1 : Int32} {M : Mm} {q : Int32 × Mm} (ho : shp o = 9) (hF : f_X9_askedChain o x1 M = some q) : KI ad yX9_askedChain cX9_askedChain 4 (some .int) rm_X9_askedChain [.ref (ad o), .int x1] M q.1 q.2 := by
  refine wn_enterI (own := RX9) (by decide) rfl (Nat.le_of_ble_eq_true rfl) (fun X ls Z hQ hl => ?_)
  have hl : lv_has ls 4 [(0, .ref (ad o)), (1, .int x1)] := hl
  have L38 : ∀ (v1 : Int32) (v3 : Int32) (M : Mm) (ls : Array Slot), lv_has ls 4 [(0, .ref (ad o)), (1, .int v1), (3, .int v3)] → f_X9_askedChain_b38 o v1 v3 M = some q → G ad X M 38 ls [] := by
    intro v1 v3 M ls hl hF
    unfold f_X9_askedChain_b38 at hF
    refine r_iload_n Z dX9_askedChain_38 rfl (lv_at hl 2 rfl) ?_
    refine r_iload_n Z dX9_askedChain_39 rfl (lv_at hl 2 rfl) ?_
    refine r_imul Z dX9_askedChain_40 ?_
    refine r_aload_n Z dX9_askedChain_41 rfl (lv_at hl 0 rfl) ?_
    refine g_9_5 Z ho wm_610 dX9_askedChain_42 ?_
    refine r_iload_n Z dX9_askedChain_45 rfl (lv_at hl 1 rfl) ?_
    obtain ⟨hi1, hF⟩ := ck_some hF
    refine r_iaload Z (shp_lt (sh_9_5 ho) (by decide)) (fun _ _ => ce_106 (sh_9_5 ho)) hi1 dX9_askedChain_46 ?_
    refine r_icmp_eq Z 56 dX9_askedChain_47 (by decide) (fun hc2 => ?_) (fun hc2 => ?_)
    · replace hF := if_some hc2 hF
      refine r_iload_n Z dX9_askedChain_56 rfl (lv_at hl 2 rfl) ?_
      exact r_iret Z hQ hF dX9_askedChain_57
    · replace hF := nif_some hc2 hF
      refine r_aload_n Z dX9_askedChain_50 rfl (lv_at hl 0 rfl) ?_
      refine r_iconst (v := 5) Z dX9_askedChain_51 (by decide) ?_
      obtain ⟨q3, hq3, hF⟩ := bd_some hF
      refine r_invVi [] Z (c_X9_meets ho hq3) cv_X9_meets rfl (shp_lt ho (by decide)) (fun _ _ => ⟨_, ce_9 ho⟩) wm_644 rfl rfl ⟨Nat.le_of_ble_eq_true rfl, Nat.le_of_ble_eq_true rfl⟩ rfl hl.1 rfl (Nat.le_of_ble_eq_true rfl) dX9_askedChain_52 ?_
      exact r_iret Z hQ hF dX9_askedChain_55
  have L14 : ∀ (n14 : Nat) (v1 : Int32) (v3 : Int32) (M : Mm) (ls : Array Slot), lv_has ls 4 [(0, .ref (ad o)), (1, .int v1), (3, .int v3)] → f_X9_askedChain_b14 o n14 v1 v3 M = some q → G ad X M 14 ls [] := by
    intro n14
    induction n14 with
    | zero =>
      intro v1 v3 M ls hl hF
      cases hF
    | succ n14 ih14 =>
      intro v1 v3 M ls hl hF
      replace hF : f_X9_askedChain_b14B (f_X9_askedChain_b14 o n14) o v1 v3 M = some q := hF
      unfold f_X9_askedChain_b14B at hF
      refine r_iload_n Z dX9_askedChain_14 rfl (lv_at hl 2 rfl) ?_
      refine r_bipush (v := 6) Z dX9_askedChain_15 (by decide) ?_
      refine r_icmp_ge Z 38 dX9_askedChain_17 (by decide) (fun hc4 => ?_) (fun hc4 => ?_)
      · replace hF := if_some hc4 hF
        exact L38 v1 v3 M ls (lv_sub hl [0, 1, 2] rfl) hF
      · replace hF := nif_some hc4 hF
        refine r_iload_n Z dX9_askedChain_20 rfl (lv_at hl 2 rfl) ?_
        refine r_iload_n Z dX9_askedChain_21 rfl (lv_at hl 2 rfl) ?_
        refine r_imul Z dX9_askedChain_22 ?_
        refine r_aload_n Z dX9_askedChain_23 rfl (lv_at hl 0 rfl) ?_
        refine g_9_5 Z ho wm_610 dX9_askedChain_24 ?_
        refine r_iload_n Z dX9_askedChain_27 rfl (lv_at hl 1 rfl) ?_
        obtain ⟨hi5, hF⟩ := ck_some hF
        refine r_iaload Z (shp_lt (sh_9_5 ho) (by decide)) (fun _ _ => ce_106 (sh_9_5 ho)) hi5 dX9_askedChain_28 ?_
        refine r_icmp_ge Z 38 dX9_askedChain_29 (by decide) (fun hc6 => ?_) (fun hc6 => ?_)
        · replace hF := if_some hc6 hF
          exact L38 v1 v3 M ls (lv_sub hl [0, 1, 2] rfl) hF
        · replace hF := nif_some hc6 hF
          obtain ⟨t7, et7, hF⟩ := nm_some hF
          refine r_iinc (j := 2) Z t7 [(3, .int t7), (0, .ref (ad o)), (1, .int v1)] dX9_askedChain_32 hl rfl (by rw [et7]; rfl) (by decide) rfl (fun ls hl => ?_)
          refine r_goto Z 14 dX9_askedChain_35 (by decide) ?_
          exact ih14 v1 t7 M ls (lv_sub hl [1, 2, 0] rfl) hF
  unfold f_X9_askedChain at hF
  refine r_aload_n Z dX9_askedChain_0 rfl (lv_at hl 0 rfl) ?_
  refine r_iload_n Z dX9_askedChain_1 rfl (lv_at hl 1 rfl) ?_
  obtain ⟨q8, hq8, hF⟩ := bd_some hF
  refine r_invVi [] Z (c_X9_askedRow ho hq8) cv_X9_askedRow rfl (shp_lt ho (by decide)) (fun _ _ => ⟨_, ce_9 ho⟩) wm_649 rfl rfl ⟨Nat.le_of_ble_eq_true rfl, Nat.le_of_ble_eq_true rfl⟩ rfl hl.1 rfl (Nat.le_of_ble_eq_true rfl) dX9_askedChain_2 ?_
  refine r_istore_n Z [(2, .int q8.1), (0, .ref (ad o)), (1, .int x1)] dX9_askedChain_5 rfl hl (by decide) rfl (fun ls hl => ?_)
  refine r_iload_n Z dX9_askedChain_6 rfl (lv_at hl 0 rfl) ?_
  refine r_if_ge Z 12 dX9_askedChain_7 (by decide) (fun hc9 => ?_) (fun hc9 => ?_)
  · replace hF := if_some hc9 hF
    refine r_iconst (v := 2) Z dX9_askedChain_12 (by decide) ?_
    refine r_istore_n Z [(3, .int 2), (2, .int q8.1), (0, .ref (ad o)), (1, .int x1)] dX9_askedChain_13 rfl hl (by decide) rfl (fun ls hl => ?_)
    exact L14 _ x1 2 q8.2 ls (lv_sub hl [2, 3, 0] rfl) hF
  · replace hF := nif_some hc9 hF
    refine r_iload_n Z dX9_askedChain_10 rfl (lv_at hl 0 rfl) ?_
    exact r_iret Z hQ hF dX9_askedChain_11
theorem dX9_isCounter_0 : decode cX9_isCounter 0 = .ok (.iload_n 0, 1) := by decide +kernel
theorem dX9_isCounter_1 : decode cX9_isCounter 1 = .ok (.iconst 0, 1) := by decide +kernel
theorem dX9_isCounter_2 : decode cX9_isCounter 2 = .ok (.iconst 3, 1) := by decide +kernel
theorem dX9_isCounter_3 : decode cX9_isCounter 3 = .ok (.invokestatic 81, 3) := by decide +kernel
theorem dX9_isCounter_6 : decode cX9_isCounter 6 = .ok (.ireturn, 1) := by decide +kernel
theorem cv_X9_isCounter : wn_cS yX9_isCounter cX9_isCounter 1 (some .boolean) 1 := ⟨wm_658, wm_661, wm_637, by decide +kernel⟩
abbrev rm_X9_isCounter : Room := rmz 1 22
set_option maxHeartbeats 4000000 in
set_option maxRecDepth 100000 in
theorem c_X9_isCounter {ad : Nat → Nat} {x1 : Int32} {M : Mm} {q : Int32 × Mm} (hF : f_X9_isCounter x1 M = some q) : KI ad yX9_isCounter cX9_isCounter 1 (some .boolean) rm_X9_isCounter [.int x1] M q.1 q.2 := by
  refine wn_enterI (own := RX9) (by decide) rfl (Nat.le_of_ble_eq_true rfl) (fun X ls Z hQ hl => ?_)
  have hl : lv_has ls 1 [(0, .int x1)] := hl
  unfold f_X9_isCounter at hF
  refine r_iload_n Z dX9_isCounter_0 rfl (lv_at hl 0 rfl) ?_
  refine r_iconst (v := 0) Z dX9_isCounter_1 (by decide) ?_
  refine r_iconst (v := 3) Z dX9_isCounter_2 (by decide) ?_
  obtain ⟨q1, hq1, hF⟩ := bd_some hF
  refine r_invSi [] Z (c_X9_in hq1) cv_X9_in wm_639 rfl rfl ⟨Nat.le_of_ble_eq_true rfl, Nat.le_of_ble_eq_true rfl⟩ rfl hl.1 rfl (Nat.le_of_ble_eq_true rfl) dX9_isCounter_3 ?_
  obtain ⟨hz, hF⟩ := bz_some hF
  exact r_zret Z hQ hz hF dX9_isCounter_6
theorem dX9_askedFor_0 : decode cX9_askedFor 0 = .ok (.iload_n 1, 1) := by decide +kernel
theorem dX9_askedFor_1 : decode cX9_askedFor 1 = .ok (.invokestatic 100, 3) := by decide +kernel
theorem dX9_askedFor_4 : decode cX9_askedFor 4 = .ok (.ifCond .ne 7, 3) := by decide +kernel
theorem dX9_askedFor_7 : decode cX9_askedFor 7 = .ok (.iconst (-1), 1) := by decide +kernel
theorem dX9_askedFor_8 : decode cX9_askedFor 8 = .ok (.goto 21, 3) := by decide +kernel
theorem dX9_askedFor_11 : decode cX9_askedFor 11 = .ok (.aload_n 0, 1) := by decide +kernel
theorem dX9_askedFor_12 : decode cX9_askedFor 12 = .ok (.getfield 26, 3) := by decide +kernel
theorem dX9_askedFor_15 : decode cX9_askedFor 15 = .ok (.iload_n 1, 1) := by decide +kernel
theorem dX9_askedFor_16 : decode cX9_askedFor 16 = .ok (.baload, 1) := by decide +kernel
theorem dX9_askedFor_17 : decode cX9_askedFor 17 = .ok (.ifCond .eq 7, 3) := by decide +kernel
theorem dX9_askedFor_20 : decode cX9_askedFor 20 = .ok (.iconst 0, 1) := by decide +kernel
theorem dX9_askedFor_21 : decode cX9_askedFor 21 = .ok (.goto 8, 3) := by decide +kernel
theorem dX9_askedFor_24 : decode cX9_askedFor 24 = .ok (.aload_n 0, 1) := by decide +kernel
theorem dX9_askedFor_25 : decode cX9_askedFor 25 = .ok (.iconst 1, 1) := by decide +kernel
theorem dX9_askedFor_26 : decode cX9_askedFor 26 = .ok (.invokevirtual 89, 3) := by decide +kernel
theorem dX9_askedFor_29 : decode cX9_askedFor 29 = .ok (.ireturn, 1) := by decide +kernel
theorem cv_X9_askedFor : wn_cV yX9_askedFor cX9_askedFor 2 (some .int) RX9 1 := ⟨wm_659, wm_669, wm_670, wm_637, by decide +kernel⟩
abbrev rm_X9_askedFor : Room := rmz 2 42
set_option maxHeartbeats 4000000 in
set_option maxRecDepth 100000 in
theorem c_X9_askedFor {ad : Nat → Nat} {o : Nat} {x1 : Int32} {M : Mm} {q : Int32 × Mm} (ho : shp o = 9) (hF : f_X9_askedFor o x1 M = some q) : KI ad yX9_askedFor cX9_askedFor 2 (some .int) rm_X9_askedFor [.ref (ad o), .int x1] M q.1 q.2 := by
  refine wn_enterI (own := RX9) (by decide) rfl (Nat.le_of_ble_eq_true rfl) (fun X ls Z hQ hl => ?_)
  have hl : lv_has ls 2 [(0, .ref (ad o)), (1, .int x1)] := hl
  unfold f_X9_askedFor at hF
  refine r_iload_n Z dX9_askedFor_0 rfl (lv_at hl 1 rfl) ?_
  obtain ⟨q1, hq1, hF⟩ := bd_some hF
  refine r_invSi [] Z (c_X9_isCounter hq1) cv_X9_isCounter wm_660 rfl rfl ⟨Nat.le_of_ble_eq_true rfl, Nat.le_of_ble_eq_true rfl⟩ rfl hl.1 rfl (Nat.le_of_ble_eq_true rfl) dX9_askedFor_1 ?_
  refine r_if_ne Z 11 dX9_askedFor_4 (by decide) (fun hc2 => ?_) (fun hc2 => ?_)
  · replace hF := nif_some hc2 hF
    refine r_aload_n Z dX9_askedFor_11 rfl (lv_at hl 0 rfl) ?_
    refine g_9_8 Z ho wm_614 dX9_askedFor_12 ?_
    refine r_iload_n Z dX9_askedFor_15 rfl (lv_at hl 1 rfl) ?_
    obtain ⟨hi3, hF⟩ := ck_some hF
    refine r_zaload Z (shp_lt (sh_9_8 ho) (by decide)) (fun _ _ => ce_2004 (sh_9_8 ho)) hi3 dX9_askedFor_16 ?_
    refine r_if_eq Z 24 dX9_askedFor_17 (by decide) (fun hc4 => ?_) (fun hc4 => ?_)
    · replace hF := if_some hc4 hF
      refine r_aload_n Z dX9_askedFor_24 rfl (lv_at hl 0 rfl) ?_
      refine r_iconst (v := 1) Z dX9_askedFor_25 (by decide) ?_
      obtain ⟨q5, hq5, hF⟩ := bd_some hF
      refine r_invVi [] Z (c_X9_meets ho hq5) cv_X9_meets rfl (shp_lt ho (by decide)) (fun _ _ => ⟨_, ce_9 ho⟩) wm_644 rfl rfl ⟨Nat.le_of_ble_eq_true rfl, Nat.le_of_ble_eq_true rfl⟩ rfl hl.1 rfl (Nat.le_of_ble_eq_true rfl) dX9_askedFor_26 ?_
      exact r_iret Z hQ hF dX9_askedFor_29
    · replace hF := nif_some hc4 hF
      refine r_iconst (v := 0) Z dX9_askedFor_20 (by decide) ?_
      refine r_goto Z 29 dX9_askedFor_21 (by decide) ?_
      exact r_iret Z hQ hF dX9_askedFor_29
  · replace hF := if_some hc2 hF
    refine r_iconst (v := (-1)) Z dX9_askedFor_7 (by decide) ?_
    refine r_goto Z 29 dX9_askedFor_8 (by decide) ?_
    exact r_iret Z hQ hF dX9_askedFor_29
theorem dX9_isProduct_0 : decode cX9_isProduct 0 = .ok (.iconst 1, 1) := by decide +kernel
theorem dX9_isProduct_1 : decode cX9_isProduct 1 = .ok (.istore_n 1, 1) := by decide +kernel
theorem dX9_isProduct_2 : decode cX9_isProduct 2 = .ok (.iconst 0, 1) := by decide +kernel
theorem dX9_isProduct_3 : decode cX9_isProduct 3 = .ok (.istore_n 2, 1) := by decide +kernel
theorem dX9_isProduct_4 : decode cX9_isProduct 4 = .ok (.iload_n 2, 1) := by decide +kernel
theorem dX9_isProduct_5 : decode cX9_isProduct 5 = .ok (.iconst 4, 1) := by decide +kernel
theorem dX9_isProduct_6 : decode cX9_isProduct 6 = .ok (.if_icmp .ge 38, 3) := by decide +kernel
theorem dX9_isProduct_9 : decode cX9_isProduct 9 = .ok (.iload_n 1, 1) := by decide +kernel
theorem dX9_isProduct_10 : decode cX9_isProduct 10 = .ok (.ifCond .eq 26, 3) := by decide +kernel
theorem dX9_isProduct_13 : decode cX9_isProduct 13 = .ok (.aload_n 0, 1) := by decide +kernel
theorem dX9_isProduct_14 : decode cX9_isProduct 14 = .ok (.getfield 26, 3) := by decide +kernel
theorem dX9_isProduct_17 : decode cX9_isProduct 17 = .ok (.iload_n 2, 1) := by decide +kernel
theorem dX9_isProduct_18 : decode cX9_isProduct 18 = .ok (.baload, 1) := by decide +kernel
theorem dX9_isProduct_19 : decode cX9_isProduct 19 = .ok (.ifCond .eq 13, 3) := by decide +kernel
theorem dX9_isProduct_22 : decode cX9_isProduct 22 = .ok (.aload_n 0, 1) := by decide +kernel
theorem dX9_isProduct_23 : decode cX9_isProduct 23 = .ok (.getfield 30, 3) := by decide +kernel
theorem dX9_isProduct_26 : decode cX9_isProduct 26 = .ok (.iload_n 2, 1) := by decide +kernel
theorem dX9_isProduct_27 : decode cX9_isProduct 27 = .ok (.iaload, 1) := by decide +kernel
theorem dX9_isProduct_28 : decode cX9_isProduct 28 = .ok (.iconst 4, 1) := by decide +kernel
theorem dX9_isProduct_29 : decode cX9_isProduct 29 = .ok (.if_icmp .ge 7, 3) := by decide +kernel
theorem dX9_isProduct_32 : decode cX9_isProduct 32 = .ok (.iconst 1, 1) := by decide +kernel
theorem dX9_isProduct_33 : decode cX9_isProduct 33 = .ok (.goto 4, 3) := by decide +kernel
theorem dX9_isProduct_36 : decode cX9_isProduct 36 = .ok (.iconst 0, 1) := by decide +kernel
theorem dX9_isProduct_37 : decode cX9_isProduct 37 = .ok (.istore_n 1, 1) := by decide +kernel
theorem dX9_isProduct_38 : decode cX9_isProduct 38 = .ok (.iinc 2 1, 3) := by decide +kernel
theorem dX9_isProduct_41 : decode cX9_isProduct 41 = .ok (.goto (-37), 3) := by decide +kernel
theorem dX9_isProduct_44 : decode cX9_isProduct 44 = .ok (.iload_n 1, 1) := by decide +kernel
theorem dX9_isProduct_45 : decode cX9_isProduct 45 = .ok (.ireturn, 1) := by decide +kernel
theorem cv_X9_isProduct : wn_cV yX9_isProduct cX9_isProduct 3 (some .boolean) RX9 0 := ⟨wm_686, wm_689, wm_690, wm_637, by decide +kernel⟩
abbrev rm_X9_isProduct : Room := rmz 0 0
set_option maxHeartbeats 4000000 in
set_option maxRecDepth 100000 in
theorem c_X9_isProduct {ad : Nat → Nat} {o : Nat} {M : Mm} {q : Int32 × Mm} (ho : shp o = 9) (hF : f_X9_isProduct o M = some q) : KI ad yX9_isProduct cX9_isProduct 3 (some .boolean) rm_X9_isProduct [.ref (ad o)] M q.1 q.2 := by
  refine wn_enterI (own := RX9) (by decide) rfl (Nat.le_of_ble_eq_true rfl) (fun X ls Z hQ hl => ?_)
  have hl : lv_has ls 3 [(0, .ref (ad o))] := hl
  have L4 : ∀ (n4 : Nat) (v1 : Int32) (v2 : Int32) (M : Mm) (ls : Array Slot), lv_has ls 3 [(0, .ref (ad o)), (1, .int v1), (2, .int v2)] → f_X9_isProduct_b4 o n4 v1 v2 M = some q → G ad X M 4 ls [] := by
    intro n4
    induction n4 with
    | zero =>
      intro v1 v2 M ls hl hF
      cases hF
    | succ n4 ih4 =>
      have L32 : ∀ (v2 : Int32) (M : Mm) (ls : Array Slot), lv_has ls 3 [(0, .ref (ad o)), (2, .int v2)] → f_X9_isProduct_b32 (f_X9_isProduct_b4 o n4) o v2 M = some q → G ad X M 32 ls [] := by
        intro v2 M ls hl hF
        unfold f_X9_isProduct_b32 at hF
        refine r_iconst (v := 1) Z dX9_isProduct_32 (by decide) ?_
        refine r_goto Z 37 dX9_isProduct_33 (by decide) ?_
        refine r_istore_n Z [(1, .int 1), (0, .ref (ad o)), (2, .int v2)] dX9_isProduct_37 rfl hl (by decide) rfl (fun ls hl => ?_)
        obtain ⟨t1, et1, hF⟩ := nm_some hF
        refine r_iinc (j := 2) Z t1 [(2, .int t1), (1, .int 1), (0, .ref (ad o))] dX9_isProduct_38 hl rfl (by rw [et1]; rfl) (by decide) rfl (fun ls hl => ?_)
        refine r_goto Z 4 dX9_isProduct_41 (by decide) ?_
        exact ih4 1 t1 M ls (lv_sub hl [2, 1, 0] rfl) hF
      intro v1 v2 M ls hl hF
      replace hF : f_X9_isProduct_b4B (f_X9_isProduct_b4 o n4) o v1 v2 M = some q := hF
      unfold f_X9_isProduct_b4B at hF
      refine r_iload_n Z dX9_isProduct_4 rfl (lv_at hl 2 rfl) ?_
      refine r_iconst (v := 4) Z dX9_isProduct_5 (by decide) ?_
      refine r_icmp_ge Z 44 dX9_isProduct_6 (by decide) (fun hc2 => ?_) (fun hc2 => ?_)
      · replace hF := if_some hc2 hF
        refine r_iload_n Z dX9_isProduct_44 rfl (lv_at hl 1 rfl) ?_
        obtain ⟨hz, hF⟩ := bz_some hF
        exact r_zret Z hQ hz hF dX9_isProduct_45
      · replace hF := nif_some hc2 hF
        refine r_iload_n Z dX9_isProduct_9 rfl (lv_at hl 1 rfl) ?_
        refine r_if_eq Z 36 dX9_isProduct_10 (by decide) (fun hc3 => ?_) (fun hc3 => ?_)
        · replace hF := if_some hc3 hF
          refine r_iconst (v := 0) Z dX9_isProduct_36 (by decide) ?_
          refine r_istore_n Z [(1, .int 0), (0, .ref (ad o)), (2, .int v2)] dX9_isProduct_37 rfl hl (by decide) rfl (fun ls hl => ?_)
          obtain ⟨t4, et4, hF⟩ := nm_some hF
          refine r_iinc (j := 2) Z t4 [(2, .int t4), (1, .int 0), (0, .ref (ad o))] dX9_isProduct_38 hl rfl (by rw [et4]; rfl) (by decide) rfl (fun ls hl => ?_)
          refine r_goto Z 4 dX9_isProduct_41 (by decide) ?_
          exact ih4 0 t4 M ls (lv_sub hl [2, 1, 0] rfl) hF
        · replace hF := nif_some hc3 hF
          refine r_aload_n Z dX9_isProduct_13 rfl (lv_at hl 0 rfl) ?_
          refine g_9_8 Z ho wm_614 dX9_isProduct_14 ?_
          refine r_iload_n Z dX9_isProduct_17 rfl (lv_at hl 2 rfl) ?_
          obtain ⟨hi5, hF⟩ := ck_some hF
          refine r_zaload Z (shp_lt (sh_9_8 ho) (by decide)) (fun _ _ => ce_2004 (sh_9_8 ho)) hi5 dX9_isProduct_18 ?_
          refine r_if_eq Z 32 dX9_isProduct_19 (by decide) (fun hc6 => ?_) (fun hc6 => ?_)
          · replace hF := if_some hc6 hF
            exact L32 v2 M ls (lv_sub hl [0, 2] rfl) hF
          · replace hF := nif_some hc6 hF
            refine r_aload_n Z dX9_isProduct_22 rfl (lv_at hl 0 rfl) ?_
            refine g_9_9 Z ho wm_615 dX9_isProduct_23 ?_
            refine r_iload_n Z dX9_isProduct_26 rfl (lv_at hl 2 rfl) ?_
            obtain ⟨hi7, hF⟩ := ck_some hF
            refine r_iaload Z (shp_lt (sh_9_9 ho) (by decide)) (fun _ _ => ce_104 (sh_9_9 ho)) hi7 dX9_isProduct_27 ?_
            refine r_iconst (v := 4) Z dX9_isProduct_28 (by decide) ?_
            refine r_icmp_ge Z 36 dX9_isProduct_29 (by decide) (fun hc8 => ?_) (fun hc8 => ?_)
            · replace hF := if_some hc8 hF
              refine r_iconst (v := 0) Z dX9_isProduct_36 (by decide) ?_
              refine r_istore_n Z [(1, .int 0), (0, .ref (ad o)), (2, .int v2)] dX9_isProduct_37 rfl hl (by decide) rfl (fun ls hl => ?_)
              obtain ⟨t9, et9, hF⟩ := nm_some hF
              refine r_iinc (j := 2) Z t9 [(2, .int t9), (1, .int 0), (0, .ref (ad o))] dX9_isProduct_38 hl rfl (by rw [et9]; rfl) (by decide) rfl (fun ls hl => ?_)
              refine r_goto Z 4 dX9_isProduct_41 (by decide) ?_
              exact ih4 0 t9 M ls (lv_sub hl [2, 1, 0] rfl) hF
            · replace hF := nif_some hc8 hF
              exact L32 v2 M ls (lv_sub hl [0, 2] rfl) hF
  unfold f_X9_isProduct at hF
  refine r_iconst (v := 1) Z dX9_isProduct_0 (by decide) ?_
  refine r_istore_n Z [(1, .int 1), (0, .ref (ad o))] dX9_isProduct_1 rfl hl (by decide) rfl (fun ls hl => ?_)
  refine r_iconst (v := 0) Z dX9_isProduct_2 (by decide) ?_
  refine r_istore_n Z [(2, .int 0), (1, .int 1), (0, .ref (ad o))] dX9_isProduct_3 rfl hl (by decide) rfl (fun ls hl => ?_)
  exact L4 _ 1 0 M ls (lv_sub hl [2, 1, 0] rfl) hF
theorem dX9_outOf_0 : decode cX9_outOf 0 = .ok (.iconst 0, 1) := by decide +kernel
theorem dX9_outOf_1 : decode cX9_outOf 1 = .ok (.istore_n 2, 1) := by decide +kernel
theorem dX9_outOf_2 : decode cX9_outOf 2 = .ok (.iconst 0, 1) := by decide +kernel
theorem dX9_outOf_3 : decode cX9_outOf 3 = .ok (.istore_n 3, 1) := by decide +kernel
theorem dX9_outOf_4 : decode cX9_outOf 4 = .ok (.iload_n 3, 1) := by decide +kernel
theorem dX9_outOf_5 : decode cX9_outOf 5 = .ok (.iconst 4, 1) := by decide +kernel
theorem dX9_outOf_6 : decode cX9_outOf 6 = .ok (.if_icmp .ge 22, 3) := by decide +kernel
theorem dX9_outOf_9 : decode cX9_outOf 9 = .ok (.iload_n 2, 1) := by decide +kernel
theorem dX9_outOf_10 : decode cX9_outOf 10 = .ok (.aload_n 0, 1) := by decide +kernel
theorem dX9_outOf_11 : decode cX9_outOf 11 = .ok (.getfield 45, 3) := by decide +kernel
theorem dX9_outOf_14 : decode cX9_outOf 14 = .ok (.iconst 4, 1) := by decide +kernel
theorem dX9_outOf_15 : decode cX9_outOf 15 = .ok (.iload_n 1, 1) := by decide +kernel
theorem dX9_outOf_16 : decode cX9_outOf 16 = .ok (.imul, 1) := by decide +kernel
theorem dX9_outOf_17 : decode cX9_outOf 17 = .ok (.iload_n 3, 1) := by decide +kernel
theorem dX9_outOf_18 : decode cX9_outOf 18 = .ok (.iadd, 1) := by decide +kernel
theorem dX9_outOf_19 : decode cX9_outOf 19 = .ok (.iaload, 1) := by decide +kernel
theorem dX9_outOf_20 : decode cX9_outOf 20 = .ok (.iadd, 1) := by decide +kernel
theorem dX9_outOf_21 : decode cX9_outOf 21 = .ok (.istore_n 2, 1) := by decide +kernel
theorem dX9_outOf_22 : decode cX9_outOf 22 = .ok (.iinc 3 1, 3) := by decide +kernel
theorem dX9_outOf_25 : decode cX9_outOf 25 = .ok (.goto (-21), 3) := by decide +kernel
theorem dX9_outOf_28 : decode cX9_outOf 28 = .ok (.iload_n 2, 1) := by decide +kernel
theorem dX9_outOf_29 : decode cX9_outOf 29 = .ok (.ireturn, 1) := by decide +kernel
theorem cv_X9_outOf : wn_cV yX9_outOf cX9_outOf 4 (some .int) RX9 1 := ⟨wm_674, wm_677, wm_678, wm_637, by decide +kernel⟩
abbrev rm_X9_outOf : Room := rmz 0 0
set_option maxHeartbeats 4000000 in
set_option maxRecDepth 100000 in
theorem c_X9_outOf {ad : Nat → Nat} {o : Nat} {x1 : Int32} {M : Mm} {q : Int32 × Mm} (ho : shp o = 9) (hF : f_X9_outOf o x1 M = some q) : KI ad yX9_outOf cX9_outOf 4 (some .int) rm_X9_outOf [.ref (ad o), .int x1] M q.1 q.2 := by
  refine wn_enterI (own := RX9) (by decide) rfl (Nat.le_of_ble_eq_true rfl) (fun X ls Z hQ hl => ?_)
  have hl : lv_has ls 4 [(0, .ref (ad o)), (1, .int x1)] := hl
  have L4 : ∀ (n4 : Nat) (v1 : Int32) (v2 : Int32) (v3 : Int32) (M : Mm) (ls : Array Slot), lv_has ls 4 [(0, .ref (ad o)), (1, .int v1), (2, .int v2), (3, .int v3)] → f_X9_outOf_b4 o n4 v1 v2 v3 M = some q → G ad X M 4 ls [] := by
    intro n4
    induction n4 with
    | zero =>
      intro v1 v2 v3 M ls hl hF
      cases hF
    | succ n4 ih4 =>
      intro v1 v2 v3 M ls hl hF
      replace hF : f_X9_outOf_b4B (f_X9_outOf_b4 o n4) o v1 v2 v3 M = some q := hF
      unfold f_X9_outOf_b4B at hF
      refine r_iload_n Z dX9_outOf_4 rfl (lv_at hl 3 rfl) ?_
      refine r_iconst (v := 4) Z dX9_outOf_5 (by decide) ?_
      refine r_icmp_ge Z 28 dX9_outOf_6 (by decide) (fun hc1 => ?_) (fun hc1 => ?_)
      · replace hF := if_some hc1 hF
        refine r_iload_n Z dX9_outOf_28 rfl (lv_at hl 2 rfl) ?_
        exact r_iret Z hQ hF dX9_outOf_29
      · replace hF := nif_some hc1 hF
        refine r_iload_n Z dX9_outOf_9 rfl (lv_at hl 2 rfl) ?_
        refine r_aload_n Z dX9_outOf_10 rfl (lv_at hl 0 rfl) ?_
        refine g_9_14 Z ho wm_620 dX9_outOf_11 ?_
        refine r_iconst (v := 4) Z dX9_outOf_14 (by decide) ?_
        refine r_iload_n Z dX9_outOf_15 rfl (lv_at hl 1 rfl) ?_
        refine r_imul Z dX9_outOf_16 ?_
        refine r_iload_n Z dX9_outOf_17 rfl (lv_at hl 3 rfl) ?_
        refine r_iadd Z dX9_outOf_18 ?_
        obtain ⟨hi2, hF⟩ := ck_some hF
        refine r_iaload Z (shp_lt (sh_9_14 ho) (by decide)) (fun _ _ => ce_116 (sh_9_14 ho)) hi2 dX9_outOf_19 ?_
        refine r_iadd Z dX9_outOf_20 ?_
        obtain ⟨t3, et3, hF⟩ := nm_some hF
        rw [← et3]
        refine r_istore_n Z [(2, .int t3), (0, .ref (ad o)), (1, .int v1), (3, .int v3)] dX9_outOf_21 rfl hl (by decide) rfl (fun ls hl => ?_)
        obtain ⟨t4, et4, hF⟩ := nm_some hF
        refine r_iinc (j := 3) Z t4 [(3, .int t4), (2, .int t3), (0, .ref (ad o)), (1, .int v1)] dX9_outOf_22 hl rfl (by rw [et4]; rfl) (by decide) rfl (fun ls hl => ?_)
        refine r_goto Z 4 dX9_outOf_25 (by decide) ?_
        exact ih4 v1 t3 t4 M ls (lv_sub hl [2, 3, 1, 0] rfl) hF
  unfold f_X9_outOf at hF
  refine r_iconst (v := 0) Z dX9_outOf_0 (by decide) ?_
  refine r_istore_n Z [(2, .int 0), (0, .ref (ad o)), (1, .int x1)] dX9_outOf_1 rfl hl (by decide) rfl (fun ls hl => ?_)
  refine r_iconst (v := 0) Z dX9_outOf_2 (by decide) ?_
  refine r_istore_n Z [(3, .int 0), (2, .int 0), (0, .ref (ad o)), (1, .int x1)] dX9_outOf_3 rfl hl (by decide) rfl (fun ls hl => ?_)
  exact L4 _ x1 0 0 M ls (lv_sub hl [2, 3, 1, 0] rfl) hF
theorem dX9_leadsTo_0 : decode cX9_leadsTo 0 = .ok (.iconst 1, 1) := by decide +kernel
theorem dX9_leadsTo_1 : decode cX9_leadsTo 1 = .ok (.iload_n 1, 1) := by decide +kernel
theorem dX9_leadsTo_2 : decode cX9_leadsTo 2 = .ok (.ishl, 1) := by decide +kernel
theorem dX9_leadsTo_3 : decode cX9_leadsTo 3 = .ok (.istore_n 2, 1) := by decide +kernel
theorem dX9_leadsTo_4 : decode cX9_leadsTo 4 = .ok (.iconst 0, 1) := by decide +kernel
theorem dX9_leadsTo_5 : decode cX9_leadsTo 5 = .ok (.istore_n 3, 1) := by decide +kernel
theorem dX9_leadsTo_6 : decode cX9_leadsTo 6 = .ok (.iload_n 3, 1) := by decide +kernel
theorem dX9_leadsTo_7 : decode cX9_leadsTo 7 = .ok (.iconst 4, 1) := by decide +kernel
theorem dX9_leadsTo_8 : decode cX9_leadsTo 8 = .ok (.if_icmp .ge 75, 3) := by decide +kernel
theorem dX9_leadsTo_11 : decode cX9_leadsTo 11 = .ok (.iconst 0, 1) := by decide +kernel
theorem dX9_leadsTo_12 : decode cX9_leadsTo 12 = .ok (.istore 4, 2) := by decide +kernel
theorem dX9_leadsTo_14 : decode cX9_leadsTo 14 = .ok (.iload 4, 2) := by decide +kernel
theorem dX9_leadsTo_16 : decode cX9_leadsTo 16 = .ok (.iconst 4, 1) := by decide +kernel
theorem dX9_leadsTo_17 : decode cX9_leadsTo 17 = .ok (.if_icmp .ge 60, 3) := by decide +kernel
theorem dX9_leadsTo_20 : decode cX9_leadsTo 20 = .ok (.iconst 0, 1) := by decide +kernel
theorem dX9_leadsTo_21 : decode cX9_leadsTo 21 = .ok (.istore 5, 2) := by decide +kernel
theorem dX9_leadsTo_23 : decode cX9_leadsTo 23 = .ok (.iload 5, 2) := by decide +kernel
theorem dX9_leadsTo_25 : decode cX9_leadsTo 25 = .ok (.iconst 4, 1) := by decide +kernel
theorem dX9_leadsTo_26 : decode cX9_leadsTo 26 = .ok (.if_icmp .ge 45, 3) := by decide +kernel
theorem dX9_leadsTo_29 : decode cX9_leadsTo 29 = .ok (.iload_n 2, 1) := by decide +kernel
theorem dX9_leadsTo_30 : decode cX9_leadsTo 30 = .ok (.iload_n 2, 1) := by decide +kernel
theorem dX9_leadsTo_31 : decode cX9_leadsTo 31 = .ok (.iload 4, 2) := by decide +kernel
theorem dX9_leadsTo_33 : decode cX9_leadsTo 33 = .ok (.ishr, 1) := by decide +kernel
theorem dX9_leadsTo_34 : decode cX9_leadsTo 34 = .ok (.iconst 1, 1) := by decide +kernel
theorem dX9_leadsTo_35 : decode cX9_leadsTo 35 = .ok (.iand, 1) := by decide +kernel
theorem dX9_leadsTo_36 : decode cX9_leadsTo 36 = .ok (.iconst 1, 1) := by decide +kernel
theorem dX9_leadsTo_37 : decode cX9_leadsTo 37 = .ok (.if_icmp .ne 25, 3) := by decide +kernel
theorem dX9_leadsTo_40 : decode cX9_leadsTo 40 = .ok (.aload_n 0, 1) := by decide +kernel
theorem dX9_leadsTo_41 : decode cX9_leadsTo 41 = .ok (.getfield 45, 3) := by decide +kernel
theorem dX9_leadsTo_44 : decode cX9_leadsTo 44 = .ok (.iconst 4, 1) := by decide +kernel
theorem dX9_leadsTo_45 : decode cX9_leadsTo 45 = .ok (.iload 4, 2) := by decide +kernel
theorem dX9_leadsTo_47 : decode cX9_leadsTo 47 = .ok (.imul, 1) := by decide +kernel
theorem dX9_leadsTo_48 : decode cX9_leadsTo 48 = .ok (.iload 5, 2) := by decide +kernel
theorem dX9_leadsTo_50 : decode cX9_leadsTo 50 = .ok (.iadd, 1) := by decide +kernel
theorem dX9_leadsTo_51 : decode cX9_leadsTo 51 = .ok (.iaload, 1) := by decide +kernel
theorem dX9_leadsTo_52 : decode cX9_leadsTo 52 = .ok (.ifCond .le 10, 3) := by decide +kernel
theorem dX9_leadsTo_55 : decode cX9_leadsTo 55 = .ok (.iconst 1, 1) := by decide +kernel
theorem dX9_leadsTo_56 : decode cX9_leadsTo 56 = .ok (.iload 5, 2) := by decide +kernel
theorem dX9_leadsTo_58 : decode cX9_leadsTo 58 = .ok (.ishl, 1) := by decide +kernel
theorem dX9_leadsTo_59 : decode cX9_leadsTo 59 = .ok (.goto 4, 3) := by decide +kernel
theorem dX9_leadsTo_62 : decode cX9_leadsTo 62 = .ok (.iconst 0, 1) := by decide +kernel
theorem dX9_leadsTo_63 : decode cX9_leadsTo 63 = .ok (.ior, 1) := by decide +kernel
theorem dX9_leadsTo_64 : decode cX9_leadsTo 64 = .ok (.istore_n 2, 1) := by decide +kernel
theorem dX9_leadsTo_65 : decode cX9_leadsTo 65 = .ok (.iinc 5 1, 3) := by decide +kernel
theorem dX9_leadsTo_68 : decode cX9_leadsTo 68 = .ok (.goto (-45), 3) := by decide +kernel
theorem dX9_leadsTo_71 : decode cX9_leadsTo 71 = .ok (.iinc 4 1, 3) := by decide +kernel
theorem dX9_leadsTo_74 : decode cX9_leadsTo 74 = .ok (.goto (-60), 3) := by decide +kernel
theorem dX9_leadsTo_77 : decode cX9_leadsTo 77 = .ok (.iinc 3 1, 3) := by decide +kernel
theorem dX9_leadsTo_80 : decode cX9_leadsTo 80 = .ok (.goto (-74), 3) := by decide +kernel
theorem dX9_leadsTo_83 : decode cX9_leadsTo 83 = .ok (.iload_n 2, 1) := by decide +kernel
theorem dX9_leadsTo_84 : decode cX9_leadsTo 84 = .ok (.ireturn, 1) := by decide +kernel
theorem cv_X9_leadsTo : wn_cV yX9_leadsTo cX9_leadsTo 6 (some .int) RX9 1 := ⟨wm_734, wm_737, wm_738, wm_637, by decide +kernel⟩
abbrev rm_X9_leadsTo : Room := rmz 0 0
set_option maxHeartbeats 4000000 in
set_option maxRecDepth 100000 in
theorem c_X9_leadsTo {ad : Nat → Nat} {o : Nat} {x1 : Int32} {M : Mm} {q : Int32 × Mm} (ho : shp o = 9) (hF : f_X9_leadsTo o x1 M = some q) : KI ad yX9_leadsTo cX9_leadsTo 6 (some .int) rm_X9_leadsTo [.ref (ad o), .int x1] M q.1 q.2 := by
  refine wn_enterI (own := RX9) (by decide) rfl (Nat.le_of_ble_eq_true rfl) (fun X ls Z hQ hl => ?_)
  have hl : lv_has ls 6 [(0, .ref (ad o)), (1, .int x1)] := hl
  have L6 : ∀ (n6 : Nat) (v2 : Int32) (v3 : Int32) (M : Mm) (ls : Array Slot), lv_has ls 6 [(0, .ref (ad o)), (2, .int v2), (3, .int v3)] → f_X9_leadsTo_b6 o n6 v2 v3 M = some q → G ad X M 6 ls [] := by
    intro n6
    induction n6 with
    | zero =>
      intro v2 v3 M ls hl hF
      cases hF
    | succ n6 ih6 =>
      have L14 : ∀ (n14 : Nat) (v2 : Int32) (v3 : Int32) (v4 : Int32) (M : Mm) (ls : Array Slot), lv_has ls 6 [(0, .ref (ad o)), (2, .int v2), (3, .int v3), (4, .int v4)] → f_X9_leadsTo_b14 (f_X9_leadsTo_b6 o n6) o n14 v2 v3 v4 M = some q → G ad X M 14 ls [] := by
        intro n14
        induction n14 with
        | zero =>
          intro v2 v3 v4 M ls hl hF
          cases hF
        | succ n14 ih14 =>
          have L23 : ∀ (n23 : Nat) (v2 : Int32) (v3 : Int32) (v4 : Int32) (v5 : Int32) (M : Mm) (ls : Array Slot), lv_has ls 6 [(0, .ref (ad o)), (2, .int v2), (3, .int v3), (4, .int v4), (5, .int v5)] → f_X9_leadsTo_b23 (f_X9_leadsTo_b6 o n6) (f_X9_leadsTo_b14 (f_X9_leadsTo_b6 o n6) o n14) o n23 v2 v3 v4 v5 M = some q → G ad X M 23 ls [] := by
            intro n23
            induction n23 with
            | zero =>
              intro v2 v3 v4 v5 M ls hl hF
              cases hF
            | succ n23 ih23 =>
              have L63 : ∀ (v3 : Int32) (v4 : Int32) (v5 : Int32) (s0 : Int32) (s1 : Int32) (M : Mm) (ls : Array Slot), lv_has ls 6 [(0, .ref (ad o)), (3, .int v3), (4, .int v4), (5, .int v5)] → f_X9_leadsTo_b63 (f_X9_leadsTo_b6 o n6) (f_X9_leadsTo_b14 (f_X9_leadsTo_b6 o n6) o n14) (f_X9_leadsTo_b23 (f_X9_leadsTo_b6 o n6) (f_X9_leadsTo_b14 (f_X9_leadsTo_b6 o n6) o n14) o n23) o v3 v4 v5 s0 s1 M = some q → G ad X M 63 ls [.int s1, .int s0] := by
                intro v3 v4 v5 s0 s1 M ls hl hF
                unfold f_X9_leadsTo_b63 at hF
                refine r_ior Z dX9_leadsTo_63 ?_
                obtain ⟨t1, et1, hF⟩ := nm_some hF
                rw [← et1]
                refine r_istore_n Z [(2, .int t1), (0, .ref (ad o)), (3, .int v3), (4, .int v4), (5, .int v5)] dX9_leadsTo_64 rfl hl (by decide) rfl (fun ls hl => ?_)
                obtain ⟨t2, et2, hF⟩ := nm_some hF
                refine r_iinc (j := 4) Z t2 [(5, .int t2), (2, .int t1), (0, .ref (ad o)), (3, .int v3), (4, .int v4)] dX9_leadsTo_65 hl rfl (by rw [et2]; rfl) (by decide) rfl (fun ls hl => ?_)
                refine r_goto Z 23 dX9_leadsTo_68 (by decide) ?_
                exact ih23 t1 v3 v4 t2 M ls (lv_sub hl [2, 1, 3, 4, 0] rfl) hF
              have L62 : ∀ (v3 : Int32) (v4 : Int32) (v5 : Int32) (s0 : Int32) (M : Mm) (ls : Array Slot), lv_has ls 6 [(0, .ref (ad o)), (3, .int v3), (4, .int v4), (5, .int v5)] → f_X9_leadsTo_b62 (f_X9_leadsTo_b6 o n6) (f_X9_leadsTo_b14 (f_X9_leadsTo_b6 o n6) o n14) (f_X9_leadsTo_b23 (f_X9_leadsTo_b6 o n6) (f_X9_leadsTo_b14 (f_X9_leadsTo_b6 o n6) o n14) o n23) o v3 v4 v5 s0 M = some q → G ad X M 62 ls [.int s0] := by
                intro v3 v4 v5 s0 M ls hl hF
                unfold f_X9_leadsTo_b62 at hF
                refine r_iconst (v := 0) Z dX9_leadsTo_62 (by decide) ?_
                exact L63 v3 v4 v5 s0 0 M ls (lv_sub hl [0, 1, 2, 3] rfl) hF
              intro v2 v3 v4 v5 M ls hl hF
              replace hF : f_X9_leadsTo_b23B (f_X9_leadsTo_b6 o n6) (f_X9_leadsTo_b14 (f_X9_leadsTo_b6 o n6) o n14) (f_X9_leadsTo_b23 (f_X9_leadsTo_b6 o n6) (f_X9_leadsTo_b14 (f_X9_leadsTo_b6 o n6) o n14) o n23) o v2 v3 v4 v5 M = some q := hF
              unfold f_X9_leadsTo_b23B at hF
              refine r_iload Z dX9_leadsTo_23 (lv_at hl 4 rfl) ?_
              refine r_iconst (v := 4) Z dX9_leadsTo_25 (by decide) ?_
              refine r_icmp_ge Z 71 dX9_leadsTo_26 (by decide) (fun hc3 => ?_) (fun hc3 => ?_)
              · replace hF := if_some hc3 hF
                obtain ⟨t4, et4, hF⟩ := nm_some hF
                refine r_iinc (j := 3) Z t4 [(4, .int t4), (0, .ref (ad o)), (2, .int v2), (3, .int v3), (5, .int v5)] dX9_leadsTo_71 hl rfl (by rw [et4]; rfl) (by decide) rfl (fun ls hl => ?_)
                refine r_goto Z 14 dX9_leadsTo_74 (by decide) ?_
                exact ih14 v2 v3 t4 M ls (lv_sub hl [1, 2, 3, 0] rfl) hF
              · replace hF := nif_some hc3 hF
                refine r_iload_n Z dX9_leadsTo_29 rfl (lv_at hl 1 rfl) ?_
                refine r_iload_n Z dX9_leadsTo_30 rfl (lv_at hl 1 rfl) ?_
                refine r_iload Z dX9_leadsTo_31 (lv_at hl 3 rfl) ?_
                refine r_ishr Z dX9_leadsTo_33 ?_
                refine r_iconst (v := 1) Z dX9_leadsTo_34 (by decide) ?_
                refine r_iand Z dX9_leadsTo_35 ?_
                refine r_iconst (v := 1) Z dX9_leadsTo_36 (by decide) ?_
                refine r_icmp_ne Z 62 dX9_leadsTo_37 (by decide) (fun hc5 => ?_) (fun hc5 => ?_)
                · replace hF := nif_some hc5 hF
                  exact L62 v3 v4 v5 v2 M ls (lv_sub hl [0, 2, 3, 4] rfl) hF
                · replace hF := if_some hc5 hF
                  refine r_aload_n Z dX9_leadsTo_40 rfl (lv_at hl 0 rfl) ?_
                  refine g_9_14 Z ho wm_620 dX9_leadsTo_41 ?_
                  refine r_iconst (v := 4) Z dX9_leadsTo_44 (by decide) ?_
                  refine r_iload Z dX9_leadsTo_45 (lv_at hl 3 rfl) ?_
                  refine r_imul Z dX9_leadsTo_47 ?_
                  refine r_iload Z dX9_leadsTo_48 (lv_at hl 4 rfl) ?_
                  refine r_iadd Z dX9_leadsTo_50 ?_
                  obtain ⟨hi6, hF⟩ := ck_some hF
                  refine r_iaload Z (shp_lt (sh_9_14 ho) (by decide)) (fun _ _ => ce_116 (sh_9_14 ho)) hi6 dX9_leadsTo_51 ?_
                  refine r_if_le Z 62 dX9_leadsTo_52 (by decide) (fun hc7 => ?_) (fun hc7 => ?_)
                  · replace hF := if_some hc7 hF
                    exact L62 v3 v4 v5 v2 M ls (lv_sub hl [0, 2, 3, 4] rfl) hF
                  · replace hF := nif_some hc7 hF
                    refine r_iconst (v := 1) Z dX9_leadsTo_55 (by decide) ?_
                    refine r_iload Z dX9_leadsTo_56 (lv_at hl 4 rfl) ?_
                    refine r_ishl Z dX9_leadsTo_58 ?_
                    refine r_goto Z 63 dX9_leadsTo_59 (by decide) ?_
                    exact L63 v3 v4 v5 v2 (1 <<< (v5 &&& 31)) M ls (lv_sub hl [0, 2, 3, 4] rfl) hF
          intro v2 v3 v4 M ls hl hF
          replace hF : f_X9_leadsTo_b14B (f_X9_leadsTo_b6 o n6) (f_X9_leadsTo_b14 (f_X9_leadsTo_b6 o n6) o n14) o v2 v3 v4 M = some q := hF
          unfold f_X9_leadsTo_b14B at hF
          refine r_iload Z dX9_leadsTo_14 (lv_at hl 3 rfl) ?_
          refine r_iconst (v := 4) Z dX9_leadsTo_16 (by decide) ?_
          refine r_icmp_ge Z 77 dX9_leadsTo_17 (by decide) (fun hc8 => ?_) (fun hc8 => ?_)
          · replace hF := if_some hc8 hF
            obtain ⟨t9, et9, hF⟩ := nm_some hF
            refine r_iinc (j := 2) Z t9 [(3, .int t9), (0, .ref (ad o)), (2, .int v2), (4, .int v4)] dX9_leadsTo_77 hl rfl (by rw [et9]; rfl) (by decide) rfl (fun ls hl => ?_)
            refine r_goto Z 6 dX9_leadsTo_80 (by decide) ?_
            exact ih6 v2 t9 M ls (lv_sub hl [1, 2, 0] rfl) hF
          · replace hF := nif_some hc8 hF
            refine r_iconst (v := 0) Z dX9_leadsTo_20 (by decide) ?_
            refine r_istore Z [(5, .int 0), (0, .ref (ad o)), (2, .int v2), (3, .int v3), (4, .int v4)] dX9_leadsTo_21 hl (by decide) rfl (fun ls hl => ?_)
            exact L23 _ v2 v3 v4 0 M ls (lv_sub hl [1, 2, 3, 4, 0] rfl) hF
      intro v2 v3 M ls hl hF
      replace hF : f_X9_leadsTo_b6B (f_X9_leadsTo_b6 o n6) o v2 v3 M = some q := hF
      unfold f_X9_leadsTo_b6B at hF
      refine r_iload_n Z dX9_leadsTo_6 rfl (lv_at hl 2 rfl) ?_
      refine r_iconst (v := 4) Z dX9_leadsTo_7 (by decide) ?_
      refine r_icmp_ge Z 83 dX9_leadsTo_8 (by decide) (fun hc10 => ?_) (fun hc10 => ?_)
      · replace hF := if_some hc10 hF
        refine r_iload_n Z dX9_leadsTo_83 rfl (lv_at hl 1 rfl) ?_
        exact r_iret Z hQ hF dX9_leadsTo_84
      · replace hF := nif_some hc10 hF
        refine r_iconst (v := 0) Z dX9_leadsTo_11 (by decide) ?_
        refine r_istore Z [(4, .int 0), (0, .ref (ad o)), (2, .int v2), (3, .int v3)] dX9_leadsTo_12 hl (by decide) rfl (fun ls hl => ?_)
        exact L14 _ v2 v3 0 M ls (lv_sub hl [1, 2, 3, 0] rfl) hF
  unfold f_X9_leadsTo at hF
  refine r_iconst (v := 1) Z dX9_leadsTo_0 (by decide) ?_
  refine r_iload_n Z dX9_leadsTo_1 rfl (lv_at hl 1 rfl) ?_
  refine r_ishl Z dX9_leadsTo_2 ?_
  obtain ⟨t11, et11, hF⟩ := nm_some hF
  rw [← et11]
  refine r_istore_n Z [(2, .int t11), (0, .ref (ad o)), (1, .int x1)] dX9_leadsTo_3 rfl hl (by decide) rfl (fun ls hl => ?_)
  refine r_iconst (v := 0) Z dX9_leadsTo_4 (by decide) ?_
  refine r_istore_n Z [(3, .int 0), (2, .int t11), (0, .ref (ad o)), (1, .int x1)] dX9_leadsTo_5 rfl hl (by decide) rfl (fun ls hl => ?_)
  exact L6 _ t11 0 M ls (lv_sub hl [2, 1, 0] rfl) hF
theorem dX9_isClosed_0 : decode cX9_isClosed 0 = .ok (.iconst 0, 1) := by decide +kernel
theorem dX9_isClosed_1 : decode cX9_isClosed 1 = .ok (.istore_n 1, 1) := by decide +kernel
theorem dX9_isClosed_2 : decode cX9_isClosed 2 = .ok (.aload_n 0, 1) := by decide +kernel
theorem dX9_isClosed_3 : decode cX9_isClosed 3 = .ok (.invokevirtual 116, 3) := by decide +kernel
theorem dX9_isClosed_6 : decode cX9_isClosed 6 = .ok (.istore_n 2, 1) := by decide +kernel
theorem dX9_isClosed_7 : decode cX9_isClosed 7 = .ok (.iconst 0, 1) := by decide +kernel
theorem dX9_isClosed_8 : decode cX9_isClosed 8 = .ok (.istore_n 3, 1) := by decide +kernel
theorem dX9_isClosed_9 : decode cX9_isClosed 9 = .ok (.iload_n 3, 1) := by decide +kernel
theorem dX9_isClosed_10 : decode cX9_isClosed 10 = .ok (.iconst 4, 1) := by decide +kernel
theorem dX9_isClosed_11 : decode cX9_isClosed 11 = .ok (.if_icmp .ge 65, 3) := by decide +kernel
theorem dX9_isClosed_14 : decode cX9_isClosed 14 = .ok (.iload_n 1, 1) := by decide +kernel
theorem dX9_isClosed_15 : decode cX9_isClosed 15 = .ok (.aload_n 0, 1) := by decide +kernel
theorem dX9_isClosed_16 : decode cX9_isClosed 16 = .ok (.getfield 26, 3) := by decide +kernel
theorem dX9_isClosed_19 : decode cX9_isClosed 19 = .ok (.iload_n 3, 1) := by decide +kernel
theorem dX9_isClosed_20 : decode cX9_isClosed 20 = .ok (.baload, 1) := by decide +kernel
theorem dX9_isClosed_21 : decode cX9_isClosed 21 = .ok (.ifCond .eq 9, 3) := by decide +kernel
theorem dX9_isClosed_24 : decode cX9_isClosed 24 = .ok (.iconst 1, 1) := by decide +kernel
theorem dX9_isClosed_25 : decode cX9_isClosed 25 = .ok (.iload_n 3, 1) := by decide +kernel
theorem dX9_isClosed_26 : decode cX9_isClosed 26 = .ok (.ishl, 1) := by decide +kernel
theorem dX9_isClosed_27 : decode cX9_isClosed 27 = .ok (.goto 4, 3) := by decide +kernel
theorem dX9_isClosed_30 : decode cX9_isClosed 30 = .ok (.iconst 0, 1) := by decide +kernel
theorem dX9_isClosed_31 : decode cX9_isClosed 31 = .ok (.ior, 1) := by decide +kernel
theorem dX9_isClosed_32 : decode cX9_isClosed 32 = .ok (.istore_n 1, 1) := by decide +kernel
theorem dX9_isClosed_33 : decode cX9_isClosed 33 = .ok (.iload_n 2, 1) := by decide +kernel
theorem dX9_isClosed_34 : decode cX9_isClosed 34 = .ok (.ifCond .eq 34, 3) := by decide +kernel
theorem dX9_isClosed_37 : decode cX9_isClosed 37 = .ok (.aload_n 0, 1) := by decide +kernel
theorem dX9_isClosed_38 : decode cX9_isClosed 38 = .ok (.getfield 26, 3) := by decide +kernel
theorem dX9_isClosed_41 : decode cX9_isClosed 41 = .ok (.iload_n 3, 1) := by decide +kernel
theorem dX9_isClosed_42 : decode cX9_isClosed 42 = .ok (.baload, 1) := by decide +kernel
theorem dX9_isClosed_43 : decode cX9_isClosed 43 = .ok (.ifCond .eq 21, 3) := by decide +kernel
theorem dX9_isClosed_46 : decode cX9_isClosed 46 = .ok (.aload_n 0, 1) := by decide +kernel
theorem dX9_isClosed_47 : decode cX9_isClosed 47 = .ok (.getfield 42, 3) := by decide +kernel
theorem dX9_isClosed_50 : decode cX9_isClosed 50 = .ok (.iload_n 3, 1) := by decide +kernel
theorem dX9_isClosed_51 : decode cX9_isClosed 51 = .ok (.iaload, 1) := by decide +kernel
theorem dX9_isClosed_52 : decode cX9_isClosed 52 = .ok (.ifCond .ne 16, 3) := by decide +kernel
theorem dX9_isClosed_55 : decode cX9_isClosed 55 = .ok (.aload_n 0, 1) := by decide +kernel
theorem dX9_isClosed_56 : decode cX9_isClosed 56 = .ok (.iload_n 3, 1) := by decide +kernel
theorem dX9_isClosed_57 : decode cX9_isClosed 57 = .ok (.invokevirtual 110, 3) := by decide +kernel
theorem dX9_isClosed_60 : decode cX9_isClosed 60 = .ok (.iconst 4, 1) := by decide +kernel
theorem dX9_isClosed_61 : decode cX9_isClosed 61 = .ok (.if_icmp .ne 7, 3) := by decide +kernel
theorem dX9_isClosed_64 : decode cX9_isClosed 64 = .ok (.iconst 1, 1) := by decide +kernel
theorem dX9_isClosed_65 : decode cX9_isClosed 65 = .ok (.goto 4, 3) := by decide +kernel
theorem dX9_isClosed_68 : decode cX9_isClosed 68 = .ok (.iconst 0, 1) := by decide +kernel
theorem dX9_isClosed_69 : decode cX9_isClosed 69 = .ok (.istore_n 2, 1) := by decide +kernel
theorem dX9_isClosed_70 : decode cX9_isClosed 70 = .ok (.iinc 3 1, 3) := by decide +kernel
theorem dX9_isClosed_73 : decode cX9_isClosed 73 = .ok (.goto (-64), 3) := by decide +kernel
theorem dX9_isClosed_76 : decode cX9_isClosed 76 = .ok (.iconst 0, 1) := by decide +kernel
theorem dX9_isClosed_77 : decode cX9_isClosed 77 = .ok (.istore_n 3, 1) := by decide +kernel
theorem dX9_isClosed_78 : decode cX9_isClosed 78 = .ok (.iload_n 3, 1) := by decide +kernel
theorem dX9_isClosed_79 : decode cX9_isClosed 79 = .ok (.iconst 4, 1) := by decide +kernel
theorem dX9_isClosed_80 : decode cX9_isClosed 80 = .ok (.if_icmp .ge 37, 3) := by decide +kernel
theorem dX9_isClosed_83 : decode cX9_isClosed 83 = .ok (.iload_n 2, 1) := by decide +kernel
theorem dX9_isClosed_84 : decode cX9_isClosed 84 = .ok (.ifCond .eq 33, 3) := by decide +kernel
theorem dX9_isClosed_87 : decode cX9_isClosed 87 = .ok (.aload_n 0, 1) := by decide +kernel
theorem dX9_isClosed_88 : decode cX9_isClosed 88 = .ok (.getfield 26, 3) := by decide +kernel
theorem dX9_isClosed_91 : decode cX9_isClosed 91 = .ok (.iload_n 3, 1) := by decide +kernel
theorem dX9_isClosed_92 : decode cX9_isClosed 92 = .ok (.baload, 1) := by decide +kernel
theorem dX9_isClosed_93 : decode cX9_isClosed 93 = .ok (.ifCond .eq 12, 3) := by decide +kernel
theorem dX9_isClosed_96 : decode cX9_isClosed 96 = .ok (.aload_n 0, 1) := by decide +kernel
theorem dX9_isClosed_97 : decode cX9_isClosed 97 = .ok (.iload_n 3, 1) := by decide +kernel
theorem dX9_isClosed_98 : decode cX9_isClosed 98 = .ok (.invokevirtual 161, 3) := by decide +kernel
theorem dX9_isClosed_101 : decode cX9_isClosed 101 = .ok (.iload_n 1, 1) := by decide +kernel
theorem dX9_isClosed_102 : decode cX9_isClosed 102 = .ok (.if_icmp .ne 7, 3) := by decide +kernel
theorem dX9_isClosed_105 : decode cX9_isClosed 105 = .ok (.iconst 1, 1) := by decide +kernel
theorem dX9_isClosed_106 : decode cX9_isClosed 106 = .ok (.goto 4, 3) := by decide +kernel
theorem dX9_isClosed_109 : decode cX9_isClosed 109 = .ok (.iconst 0, 1) := by decide +kernel
theorem dX9_isClosed_110 : decode cX9_isClosed 110 = .ok (.istore_n 2, 1) := by decide +kernel
theorem dX9_isClosed_111 : decode cX9_isClosed 111 = .ok (.iinc 3 1, 3) := by decide +kernel
theorem dX9_isClosed_114 : decode cX9_isClosed 114 = .ok (.goto (-36), 3) := by decide +kernel
theorem dX9_isClosed_117 : decode cX9_isClosed 117 = .ok (.iload_n 2, 1) := by decide +kernel
theorem dX9_isClosed_118 : decode cX9_isClosed 118 = .ok (.ifCond .eq 11, 3) := by decide +kernel
theorem dX9_isClosed_121 : decode cX9_isClosed 121 = .ok (.iload_n 1, 1) := by decide +kernel
theorem dX9_isClosed_122 : decode cX9_isClosed 122 = .ok (.ifCond .eq 7, 3) := by decide +kernel
theorem dX9_isClosed_125 : decode cX9_isClosed 125 = .ok (.iconst 1, 1) := by decide +kernel
theorem dX9_isClosed_126 : decode cX9_isClosed 126 = .ok (.goto 4, 3) := by decide +kernel
theorem dX9_isClosed_129 : decode cX9_isClosed 129 = .ok (.iconst 0, 1) := by decide +kernel
theorem dX9_isClosed_130 : decode cX9_isClosed 130 = .ok (.ireturn, 1) := by decide +kernel
theorem cv_X9_isClosed : wn_cV yX9_isClosed cX9_isClosed 4 (some .boolean) RX9 0 := ⟨wm_735, wm_741, wm_742, wm_637, by decide +kernel⟩
abbrev rm_X9_isClosed : Room := rmz 1 25
set_option maxHeartbeats 4000000 in
set_option maxRecDepth 100000 in
theorem c_X9_isClosed {ad : Nat → Nat} {o : Nat} {M : Mm} {q : Int32 × Mm} (ho : shp o = 9) (hF : f_X9_isClosed o M = some q) : KI ad yX9_isClosed cX9_isClosed 4 (some .boolean) rm_X9_isClosed [.ref (ad o)] M q.1 q.2 := by
  refine wn_enterI (own := RX9) (by decide) rfl (Nat.le_of_ble_eq_true rfl) (fun X ls Z hQ hl => ?_)
  have hl : lv_has ls 4 [(0, .ref (ad o))] := hl
  have L117 : ∀ (v1 : Int32) (v2 : Int32) (M : Mm) (ls : Array Slot), lv_has ls 4 [(1, .int v1), (2, .int v2)] → f_X9_isClosed_b117 o v1 v2 M = some q → G ad X M 117 ls [] := by
    intro v1 v2 M ls hl hF
    unfold f_X9_isClosed_b117 at hF
    refine r_iload_n Z dX9_isClosed_117 rfl (lv_at hl 1 rfl) ?_
    refine r_if_eq Z 129 dX9_isClosed_118 (by decide) (fun hc14 => ?_) (fun hc14 => ?_)
    · replace hF := if_some hc14 hF
      refine r_iconst (v := 0) Z dX9_isClosed_129 (by decide) ?_
      exact r_zret Z hQ (by decide) hF dX9_isClosed_130
    · replace hF := nif_some hc14 hF
      refine r_iload_n Z dX9_isClosed_121 rfl (lv_at hl 0 rfl) ?_
      refine r_if_eq Z 129 dX9_isClosed_122 (by decide) (fun hc15 => ?_) (fun hc15 => ?_)
      · replace hF := if_some hc15 hF
        refine r_iconst (v := 0) Z dX9_isClosed_129 (by decide) ?_
        exact r_zret Z hQ (by decide) hF dX9_isClosed_130
      · replace hF := nif_some hc15 hF
        refine r_iconst (v := 1) Z dX9_isClosed_125 (by decide) ?_
        refine r_goto Z 130 dX9_isClosed_126 (by decide) ?_
        exact r_zret Z hQ (by decide) hF dX9_isClosed_130
  have L78 : ∀ (n78 : Nat) (v1 : Int32) (v2 : Int32) (v3 : Int32) (M : Mm) (ls : Array Slot), lv_has ls 4 [(0, .ref (ad o)), (1, .int v1), (2, .int v2), (3, .int v3)] → f_X9_isClosed_b78 o n78 v1 v2 v3 M = some q → G ad X M 78 ls [] := by
    intro n78
    induction n78 with
    | zero =>
      intro v1 v2 v3 M ls hl hF
      cases hF
    | succ n78 ih78 =>
      have L105 : ∀ (v1 : Int32) (v3 : Int32) (M : Mm) (ls : Array Slot), lv_has ls 4 [(0, .ref (ad o)), (1, .int v1), (3, .int v3)] → f_X9_isClosed_b105 (f_X9_isClosed_b78 o n78) o v1 v3 M = some q → G ad X M 105 ls [] := by
        intro v1 v3 M ls hl hF
        unfold f_X9_isClosed_b105 at hF
        refine r_iconst (v := 1) Z dX9_isClosed_105 (by decide) ?_
        refine r_goto Z 110 dX9_isClosed_106 (by decide) ?_
        refine r_istore_n Z [(2, .int 1), (0, .ref (ad o)), (1, .int v1), (3, .int v3)] dX9_isClosed_110 rfl hl (by decide) rfl (fun ls hl => ?_)
        obtain ⟨t13, et13, hF⟩ := nm_some hF
        refine r_iinc (j := 3) Z t13 [(3, .int t13), (2, .int 1), (0, .ref (ad o)), (1, .int v1)] dX9_isClosed_111 hl rfl (by rw [et13]; rfl) (by decide) rfl (fun ls hl => ?_)
        refine r_goto Z 78 dX9_isClosed_114 (by decide) ?_
        exact ih78 v1 1 t13 M ls (lv_sub hl [2, 3, 1, 0] rfl) hF
      intro v1 v2 v3 M ls hl hF
      replace hF : f_X9_isClosed_b78B (f_X9_isClosed_b78 o n78) o v1 v2 v3 M = some q := hF
      unfold f_X9_isClosed_b78B at hF
      refine r_iload_n Z dX9_isClosed_78 rfl (lv_at hl 3 rfl) ?_
      refine r_iconst (v := 4) Z dX9_isClosed_79 (by decide) ?_
      refine r_icmp_ge Z 117 dX9_isClosed_80 (by decide) (fun hc16 => ?_) (fun hc16 => ?_)
      · replace hF := if_some hc16 hF
        exact L117 v1 v2 M ls (lv_sub hl [1, 2] rfl) hF
      · replace hF := nif_some hc16 hF
        refine r_iload_n Z dX9_isClosed_83 rfl (lv_at hl 2 rfl) ?_
        refine r_if_eq Z 117 dX9_isClosed_84 (by decide) (fun hc17 => ?_) (fun hc17 => ?_)
        · replace hF := if_some hc17 hF
          exact L117 v1 v2 M ls (lv_sub hl [1, 2] rfl) hF
        · replace hF := nif_some hc17 hF
          refine r_aload_n Z dX9_isClosed_87 rfl (lv_at hl 0 rfl) ?_
          refine g_9_8 Z ho wm_614 dX9_isClosed_88 ?_
          refine r_iload_n Z dX9_isClosed_91 rfl (lv_at hl 3 rfl) ?_
          obtain ⟨hi18, hF⟩ := ck_some hF
          refine r_zaload Z (shp_lt (sh_9_8 ho) (by decide)) (fun _ _ => ce_2004 (sh_9_8 ho)) hi18 dX9_isClosed_92 ?_
          refine r_if_eq Z 105 dX9_isClosed_93 (by decide) (fun hc19 => ?_) (fun hc19 => ?_)
          · replace hF := if_some hc19 hF
            exact L105 v1 v3 M ls (lv_sub hl [0, 1, 3] rfl) hF
          · replace hF := nif_some hc19 hF
            refine r_aload_n Z dX9_isClosed_96 rfl (lv_at hl 0 rfl) ?_
            refine r_iload_n Z dX9_isClosed_97 rfl (lv_at hl 3 rfl) ?_
            obtain ⟨q20, hq20, hF⟩ := bd_some hF
            refine r_invVi [] Z (c_X9_leadsTo ho hq20) cv_X9_leadsTo rfl (shp_lt ho (by decide)) (fun _ _ => ⟨_, ce_9 ho⟩) wm_736 rfl rfl ⟨Nat.le_of_ble_eq_true rfl, Nat.le_of_ble_eq_true rfl⟩ rfl hl.1 rfl (Nat.le_of_ble_eq_true rfl) dX9_isClosed_98 ?_
            refine r_iload_n Z dX9_isClosed_101 rfl (lv_at hl 1 rfl) ?_
            refine r_icmp_ne Z 109 dX9_isClosed_102 (by decide) (fun hc21 => ?_) (fun hc21 => ?_)
            · replace hF := nif_some hc21 hF
              refine r_iconst (v := 0) Z dX9_isClosed_109 (by decide) ?_
              refine r_istore_n Z [(2, .int 0), (0, .ref (ad o)), (1, .int v1), (3, .int v3)] dX9_isClosed_110 rfl hl (by decide) rfl (fun ls hl => ?_)
              obtain ⟨t22, et22, hF⟩ := nm_some hF
              refine r_iinc (j := 3) Z t22 [(3, .int t22), (2, .int 0), (0, .ref (ad o)), (1, .int v1)] dX9_isClosed_111 hl rfl (by rw [et22]; rfl) (by decide) rfl (fun ls hl => ?_)
              refine r_goto Z 78 dX9_isClosed_114 (by decide) ?_
              exact ih78 v1 0 t22 q20.2 ls (lv_sub hl [2, 3, 1, 0] rfl) hF
            · replace hF := if_some hc21 hF
              exact L105 v1 v3 q20.2 ls (lv_sub hl [0, 1, 3] rfl) hF
  have L9 : ∀ (n9 : Nat) (v1 : Int32) (v2 : Int32) (v3 : Int32) (M : Mm) (ls : Array Slot), lv_has ls 4 [(0, .ref (ad o)), (1, .int v1), (2, .int v2), (3, .int v3)] → f_X9_isClosed_b9 o n9 v1 v2 v3 M = some q → G ad X M 9 ls [] := by
    intro n9
    induction n9 with
    | zero =>
      intro v1 v2 v3 M ls hl hF
      cases hF
    | succ n9 ih9 =>
      have L64 : ∀ (v1 : Int32) (v3 : Int32) (M : Mm) (ls : Array Slot), lv_has ls 4 [(0, .ref (ad o)), (1, .int v1), (3, .int v3)] → f_X9_isClosed_b64 (f_X9_isClosed_b9 o n9) o v1 v3 M = some q → G ad X M 64 ls [] := by
        intro v1 v3 M ls hl hF
        unfold f_X9_isClosed_b64 at hF
        refine r_iconst (v := 1) Z dX9_isClosed_64 (by decide) ?_
        refine r_goto Z 69 dX9_isClosed_65 (by decide) ?_
        refine r_istore_n Z [(2, .int 1), (0, .ref (ad o)), (1, .int v1), (3, .int v3)] dX9_isClosed_69 rfl hl (by decide) rfl (fun ls hl => ?_)
        obtain ⟨t1, et1, hF⟩ := nm_some hF
        refine r_iinc (j := 3) Z t1 [(3, .int t1), (2, .int 1), (0, .ref (ad o)), (1, .int v1)] dX9_isClosed_70 hl rfl (by rw [et1]; rfl) (by decide) rfl (fun ls hl => ?_)
        refine r_goto Z 9 dX9_isClosed_73 (by decide) ?_
        exact ih9 v1 1 t1 M ls (lv_sub hl [2, 3, 1, 0] rfl) hF
      have L31 : ∀ (v2 : Int32) (v3 : Int32) (s0 : Int32) (s1 : Int32) (M : Mm) (ls : Array Slot), lv_has ls 4 [(0, .ref (ad o)), (2, .int v2), (3, .int v3)] → f_X9_isClosed_b31 (f_X9_isClosed_b9 o n9) o v2 v3 s0 s1 M = some q → G ad X M 31 ls [.int s1, .int s0] := by
        intro v2 v3 s0 s1 M ls hl hF
        unfold f_X9_isClosed_b31 at hF
        refine r_ior Z dX9_isClosed_31 ?_
        obtain ⟨t2, et2, hF⟩ := nm_some hF
        rw [← et2]
        refine r_istore_n Z [(1, .int t2), (0, .ref (ad o)), (2, .int v2), (3, .int v3)] dX9_isClosed_32 rfl hl (by decide) rfl (fun ls hl => ?_)
        refine r_iload_n Z dX9_isClosed_33 rfl (lv_at hl 2 rfl) ?_
        refine r_if_eq Z 68 dX9_isClosed_34 (by decide) (fun hc3 => ?_) (fun hc3 => ?_)
        · replace hF := if_some hc3 hF
          refine r_iconst (v := 0) Z dX9_isClosed_68 (by decide) ?_
          refine r_istore_n Z [(2, .int 0), (1, .int t2), (0, .ref (ad o)), (3, .int v3)] dX9_isClosed_69 rfl hl (by decide) rfl (fun ls hl => ?_)
          obtain ⟨t4, et4, hF⟩ := nm_some hF
          refine r_iinc (j := 3) Z t4 [(3, .int t4), (2, .int 0), (1, .int t2), (0, .ref (ad o))] dX9_isClosed_70 hl rfl (by rw [et4]; rfl) (by decide) rfl (fun ls hl => ?_)
          refine r_goto Z 9 dX9_isClosed_73 (by decide) ?_
          exact ih9 t2 0 t4 M ls (lv_sub hl [3, 2, 1, 0] rfl) hF
        · replace hF := nif_some hc3 hF
          refine r_aload_n Z dX9_isClosed_37 rfl (lv_at hl 1 rfl) ?_
          refine g_9_8 Z ho wm_614 dX9_isClosed_38 ?_
          refine r_iload_n Z dX9_isClosed_41 rfl (lv_at hl 3 rfl) ?_
          obtain ⟨hi5, hF⟩ := ck_some hF
          refine r_zaload Z (shp_lt (sh_9_8 ho) (by decide)) (fun _ _ => ce_2004 (sh_9_8 ho)) hi5 dX9_isClosed_42 ?_
          refine r_if_eq Z 64 dX9_isClosed_43 (by decide) (fun hc6 => ?_) (fun hc6 => ?_)
          · replace hF := if_some hc6 hF
            exact L64 t2 v3 M ls (lv_sub hl [1, 0, 3] rfl) hF
          · replace hF := nif_some hc6 hF
            refine r_aload_n Z dX9_isClosed_46 rfl (lv_at hl 1 rfl) ?_
            refine g_9_13 Z ho wm_619 dX9_isClosed_47 ?_
            refine r_iload_n Z dX9_isClosed_50 rfl (lv_at hl 3 rfl) ?_
            obtain ⟨hi7, hF⟩ := ck_some hF
            refine r_iaload Z (shp_lt (sh_9_13 ho) (by decide)) (fun _ _ => ce_104 (sh_9_13 ho)) hi7 dX9_isClosed_51 ?_
            refine r_if_ne Z 68 dX9_isClosed_52 (by decide) (fun hc8 => ?_) (fun hc8 => ?_)
            · replace hF := nif_some hc8 hF
              refine r_iconst (v := 0) Z dX9_isClosed_68 (by decide) ?_
              refine r_istore_n Z [(2, .int 0), (1, .int t2), (0, .ref (ad o)), (3, .int v3)] dX9_isClosed_69 rfl hl (by decide) rfl (fun ls hl => ?_)
              obtain ⟨t9, et9, hF⟩ := nm_some hF
              refine r_iinc (j := 3) Z t9 [(3, .int t9), (2, .int 0), (1, .int t2), (0, .ref (ad o))] dX9_isClosed_70 hl rfl (by rw [et9]; rfl) (by decide) rfl (fun ls hl => ?_)
              refine r_goto Z 9 dX9_isClosed_73 (by decide) ?_
              exact ih9 t2 0 t9 M ls (lv_sub hl [3, 2, 1, 0] rfl) hF
            · replace hF := if_some hc8 hF
              refine r_aload_n Z dX9_isClosed_55 rfl (lv_at hl 1 rfl) ?_
              refine r_iload_n Z dX9_isClosed_56 rfl (lv_at hl 3 rfl) ?_
              obtain ⟨q10, hq10, hF⟩ := bd_some hF
              refine r_invVi [] Z (c_X9_outOf ho hq10) cv_X9_outOf rfl (shp_lt ho (by decide)) (fun _ _ => ⟨_, ce_9 ho⟩) wm_676 rfl rfl ⟨Nat.le_of_ble_eq_true rfl, Nat.le_of_ble_eq_true rfl⟩ rfl hl.1 rfl (Nat.le_of_ble_eq_true rfl) dX9_isClosed_57 ?_
              refine r_iconst (v := 4) Z dX9_isClosed_60 (by decide) ?_
              refine r_icmp_ne Z 68 dX9_isClosed_61 (by decide) (fun hc11 => ?_) (fun hc11 => ?_)
              · replace hF := nif_some hc11 hF
                refine r_iconst (v := 0) Z dX9_isClosed_68 (by decide) ?_
                refine r_istore_n Z [(2, .int 0), (1, .int t2), (0, .ref (ad o)), (3, .int v3)] dX9_isClosed_69 rfl hl (by decide) rfl (fun ls hl => ?_)
                obtain ⟨t12, et12, hF⟩ := nm_some hF
                refine r_iinc (j := 3) Z t12 [(3, .int t12), (2, .int 0), (1, .int t2), (0, .ref (ad o))] dX9_isClosed_70 hl rfl (by rw [et12]; rfl) (by decide) rfl (fun ls hl => ?_)
                refine r_goto Z 9 dX9_isClosed_73 (by decide) ?_
                exact ih9 t2 0 t12 q10.2 ls (lv_sub hl [3, 2, 1, 0] rfl) hF
              · replace hF := if_some hc11 hF
                exact L64 t2 v3 q10.2 ls (lv_sub hl [1, 0, 3] rfl) hF
      intro v1 v2 v3 M ls hl hF
      replace hF : f_X9_isClosed_b9B (f_X9_isClosed_b9 o n9) o v1 v2 v3 M = some q := hF
      unfold f_X9_isClosed_b9B at hF
      refine r_iload_n Z dX9_isClosed_9 rfl (lv_at hl 3 rfl) ?_
      refine r_iconst (v := 4) Z dX9_isClosed_10 (by decide) ?_
      refine r_icmp_ge Z 76 dX9_isClosed_11 (by decide) (fun hc23 => ?_) (fun hc23 => ?_)
      · replace hF := if_some hc23 hF
        refine r_iconst (v := 0) Z dX9_isClosed_76 (by decide) ?_
        refine r_istore_n Z [(3, .int 0), (0, .ref (ad o)), (1, .int v1), (2, .int v2)] dX9_isClosed_77 rfl hl (by decide) rfl (fun ls hl => ?_)
        exact L78 _ v1 v2 0 M ls (lv_sub hl [1, 2, 3, 0] rfl) hF
      · replace hF := nif_some hc23 hF
        refine r_iload_n Z dX9_isClosed_14 rfl (lv_at hl 1 rfl) ?_
        refine r_aload_n Z dX9_isClosed_15 rfl (lv_at hl 0 rfl) ?_
        refine g_9_8 Z ho wm_614 dX9_isClosed_16 ?_
        refine r_iload_n Z dX9_isClosed_19 rfl (lv_at hl 3 rfl) ?_
        obtain ⟨hi24, hF⟩ := ck_some hF
        refine r_zaload Z (shp_lt (sh_9_8 ho) (by decide)) (fun _ _ => ce_2004 (sh_9_8 ho)) hi24 dX9_isClosed_20 ?_
        refine r_if_eq Z 30 dX9_isClosed_21 (by decide) (fun hc25 => ?_) (fun hc25 => ?_)
        · replace hF := if_some hc25 hF
          refine r_iconst (v := 0) Z dX9_isClosed_30 (by decide) ?_
          exact L31 v2 v3 v1 0 M ls (lv_sub hl [0, 2, 3] rfl) hF
        · replace hF := nif_some hc25 hF
          refine r_iconst (v := 1) Z dX9_isClosed_24 (by decide) ?_
          refine r_iload_n Z dX9_isClosed_25 rfl (lv_at hl 3 rfl) ?_
          refine r_ishl Z dX9_isClosed_26 ?_
          refine r_goto Z 31 dX9_isClosed_27 (by decide) ?_
          exact L31 v2 v3 v1 (1 <<< (v3 &&& 31)) M ls (lv_sub hl [0, 2, 3] rfl) hF
  unfold f_X9_isClosed at hF
  refine r_iconst (v := 0) Z dX9_isClosed_0 (by decide) ?_
  refine r_istore_n Z [(1, .int 0), (0, .ref (ad o))] dX9_isClosed_1 rfl hl (by decide) rfl (fun ls hl => ?_)
  refine r_aload_n Z dX9_isClosed_2 rfl (lv_at hl 1 rfl) ?_
  obtain ⟨q26, hq26, hF⟩ := bd_some hF
  refine r_invVi [] Z (c_X9_isProduct ho hq26) cv_X9_isProduct rfl (shp_lt ho (by decide)) (fun _ _ => ⟨_, ce_9 ho⟩) wm_688 rfl rfl ⟨Nat.le_of_ble_eq_true rfl, Nat.le_of_ble_eq_true rfl⟩ rfl hl.1 rfl (Nat.le_of_ble_eq_true rfl) dX9_isClosed_3 ?_
  refine r_istore_n Z [(2, .int q26.1), (1, .int 0), (0, .ref (ad o))] dX9_isClosed_6 rfl hl (by decide) rfl (fun ls hl => ?_)
  refine r_iconst (v := 0) Z dX9_isClosed_7 (by decide) ?_
  refine r_istore_n Z [(3, .int 0), (2, .int q26.1), (1, .int 0), (0, .ref (ad o))] dX9_isClosed_8 rfl hl (by decide) rfl (fun ls hl => ?_)
  exact L9 _ 0 q26.1 0 q26.2 ls (lv_sub hl [3, 2, 1, 0] rfl) hF

theorem dX4_workOutFlow_0 : decode cX4_workOutFlow 0 = .ok (.aload_n 0, 1) := by decide +kernel
theorem dX4_workOutFlow_1 : decode cX4_workOutFlow 1 = .ok (.iload_n 1, 1) := by decide +kernel
theorem dX4_workOutFlow_2 : decode cX4_workOutFlow 2 = .ok (.invokevirtual 54, 3) := by decide +kernel
theorem dX4_workOutFlow_5 : decode cX4_workOutFlow 5 = .ok (.ifCond .ne 4, 3) := by decide +kernel
theorem dX4_workOutFlow_8 : decode cX4_workOutFlow 8 = .ok (.return_, 1) := by decide +kernel
theorem dX4_workOutFlow_9 : decode cX4_workOutFlow 9 = .ok (.aload_n 0, 1) := by decide +kernel
theorem dX4_workOutFlow_10 : decode cX4_workOutFlow 10 = .ok (.invokevirtual 85, 3) := by decide +kernel
theorem dX4_workOutFlow_13 : decode cX4_workOutFlow 13 = .ok (.aload_n 0, 1) := by decide +kernel
theorem dX4_workOutFlow_14 : decode cX4_workOutFlow 14 = .ok (.invokevirtual 92, 3) := by decide +kernel
theorem dX4_workOutFlow_17 : decode cX4_workOutFlow 17 = .ok (.istore_n 2, 1) := by decide +kernel
theorem dX4_workOutFlow_18 : decode cX4_workOutFlow 18 = .ok (.aload_n 0, 1) := by decide +kernel
theorem dX4_workOutFlow_19 : decode cX4_workOutFlow 19 = .ok (.iload_n 2, 1) := by decide +kernel
theorem dX4_workOutFlow_20 : decode cX4_workOutFlow 20 = .ok (.bipush (-9), 2) := by decide +kernel
theorem dX4_workOutFlow_22 : decode cX4_workOutFlow 22 = .ok (.invokevirtual 95, 3) := by decide +kernel
theorem dX4_workOutFlow_25 : decode cX4_workOutFlow 25 = .ok (.lstore_n 3, 1) := by decide +kernel
theorem dX4_workOutFlow_26 : decode cX4_workOutFlow 26 = .ok (.aload_n 0, 1) := by decide +kernel
theorem dX4_workOutFlow_27 : decode cX4_workOutFlow 27 = .ok (.iload_n 2, 1) := by decide +kernel
theorem dX4_workOutFlow_28 : decode cX4_workOutFlow 28 = .ok (.iload_n 1, 1) := by decide +kernel
theorem dX4_workOutFlow_29 : decode cX4_workOutFlow 29 = .ok (.invokevirtual 95, 3) := by decide +kernel
theorem dX4_workOutFlow_32 : decode cX4_workOutFlow 32 = .ok (.lstore 5, 2) := by decide +kernel
theorem dX4_workOutFlow_34 : decode cX4_workOutFlow 34 = .ok (.aload_n 0, 1) := by decide +kernel
theorem dX4_workOutFlow_35 : decode cX4_workOutFlow 35 = .ok (.getfield 34, 3) := by decide +kernel
theorem dX4_workOutFlow_38 : decode cX4_workOutFlow 38 = .ok (.ldc2_w 99, 3) := by decide +kernel
theorem dX4_workOutFlow_41 : decode cX4_workOutFlow 41 = .ok (.lload 5, 2) := by decide +kernel
theorem dX4_workOutFlow_43 : decode cX4_workOutFlow 43 = .ok (.lmul, 1) := by decide +kernel
theorem dX4_workOutFlow_44 : decode cX4_workOutFlow 44 = .ok (.lload_n 3, 1) := by decide +kernel
theorem dX4_workOutFlow_45 : decode cX4_workOutFlow 45 = .ok (.invokevirtual 101, 3) := by decide +kernel
theorem dX4_workOutFlow_48 : decode cX4_workOutFlow 48 = .ok (.aload_n 0, 1) := by decide +kernel
theorem dX4_workOutFlow_49 : decode cX4_workOutFlow 49 = .ok (.getfield 11, 3) := by decide +kernel
theorem dX4_workOutFlow_52 : decode cX4_workOutFlow 52 = .ok (.iload_n 1, 1) := by decide +kernel
theorem dX4_workOutFlow_53 : decode cX4_workOutFlow 53 = .ok (.aaload, 1) := by decide +kernel
theorem dX4_workOutFlow_54 : decode cX4_workOutFlow 54 = .ok (.astore 7, 2) := by decide +kernel
theorem dX4_workOutFlow_56 : decode cX4_workOutFlow 56 = .ok (.aload_n 0, 1) := by decide +kernel
theorem dX4_workOutFlow_57 : decode cX4_workOutFlow 57 = .ok (.getfield 38, 3) := by decide +kernel
theorem dX4_workOutFlow_60 : decode cX4_workOutFlow 60 = .ok (.aload_n 0, 1) := by decide +kernel
theorem dX4_workOutFlow_61 : decode cX4_workOutFlow 61 = .ok (.getfield 34, 3) := by decide +kernel
theorem dX4_workOutFlow_64 : decode cX4_workOutFlow 64 = .ok (.getfield 105, 3) := by decide +kernel
theorem dX4_workOutFlow_67 : decode cX4_workOutFlow 67 = .ok (.aload_n 0, 1) := by decide +kernel
theorem dX4_workOutFlow_68 : decode cX4_workOutFlow 68 = .ok (.getfield 34, 3) := by decide +kernel
theorem dX4_workOutFlow_71 : decode cX4_workOutFlow 71 = .ok (.getfield 109, 3) := by decide +kernel
theorem dX4_workOutFlow_74 : decode cX4_workOutFlow 74 = .ok (.aload 7, 2) := by decide +kernel
theorem dX4_workOutFlow_76 : decode cX4_workOutFlow 76 = .ok (.getfield 112, 3) := by decide +kernel
theorem dX4_workOutFlow_79 : decode cX4_workOutFlow 79 = .ok (.i2l, 1) := by decide +kernel
theorem dX4_workOutFlow_80 : decode cX4_workOutFlow 80 = .ok (.lmul, 1) := by decide +kernel
theorem dX4_workOutFlow_81 : decode cX4_workOutFlow 81 = .ok (.aload 7, 2) := by decide +kernel
theorem dX4_workOutFlow_83 : decode cX4_workOutFlow 83 = .ok (.getfield 62, 3) := by decide +kernel
theorem dX4_workOutFlow_86 : decode cX4_workOutFlow 86 = .ok (.i2l, 1) := by decide +kernel
theorem dX4_workOutFlow_87 : decode cX4_workOutFlow 87 = .ok (.lmul, 1) := by decide +kernel
theorem dX4_workOutFlow_88 : decode cX4_workOutFlow 88 = .ok (.invokevirtual 101, 3) := by decide +kernel
theorem dX4_workOutFlow_91 : decode cX4_workOutFlow 91 = .ok (.return_, 1) := by decide +kernel
theorem cv_X4_workOutFlow : wn_cV yX4_workOutFlow cX4_workOutFlow 8 none RX4 1 := ⟨wm_217, wm_455, wm_456, wm_180, by decide +kernel⟩
abbrev rm_X4_workOutFlow : Room := rmz 3 81
set_option maxHeartbeats 4000000 in
set_option maxRecDepth 100000 in
theorem c_X4_workOutFlow {ad : Nat → Nat} {o : Nat} {x1 : Int32} {M : Mm} {q : Mm} (ho : shp o = 4) (hF : f_X4_workOutFlow o x1 M = some q) : KV ad yX4_workOutFlow cX4_workOutFlow 8 none rm_X4_workOutFlow [.ref (ad o), .int x1] M q := by
  refine wn_enterV (own := RX4) (by decide) rfl (Nat.le_of_ble_eq_true rfl) (fun X ls Z hQ hl => ?_)
  have hl : lv_has ls 8 [(0, .ref (ad o)), (1, .int x1)] := hl
  unfold f_X4_workOutFlow at hF
  refine r_aload_n Z dX4_workOutFlow_0 rfl (lv_at hl 0 rfl) ?_
  refine r_iload_n Z dX4_workOutFlow_1 rfl (lv_at hl 1 rfl) ?_
  obtain ⟨q1, hq1, hF⟩ := bd_some hF
  refine r_invVi [] Z (c_X4_has ho hq1) cv_X4_has rfl (shp_lt ho (by decide)) (fun _ _ => ⟨_, ce_4 ho⟩) wm_177 rfl rfl ⟨Nat.le_of_ble_eq_true rfl, Nat.le_of_ble_eq_true rfl⟩ rfl hl.1 rfl (Nat.le_of_ble_eq_true rfl) dX4_workOutFlow_2 ?_
  refine r_if_ne Z 9 dX4_workOutFlow_5 (by decide) (fun hc2 => ?_) (fun hc2 => ?_)
  · replace hF := nif_some hc2 hF
    refine r_aload_n Z dX4_workOutFlow_9 rfl (lv_at hl 0 rfl) ?_
    obtain ⟨M3, hM3, hF⟩ := bd_some hF
    refine r_invVv [] Z (c_X4_loadPaths ho hM3) cv_X4_loadPaths rfl (shp_lt ho (by decide)) (fun _ _ => ⟨_, ce_4 ho⟩) wm_197 rfl rfl ⟨Nat.le_of_ble_eq_true rfl, Nat.le_of_ble_eq_true rfl⟩ rfl hl.1 rfl (Nat.le_of_ble_eq_true rfl) dX4_workOutFlow_10 ?_
    refine r_aload_n Z dX4_workOutFlow_13 rfl (lv_at hl 0 rfl) ?_
    obtain ⟨q4, hq4, hF⟩ := bd_some hF
    refine r_invVi [] Z (c_X4_bitsReached ho hq4) cv_X4_bitsReached rfl (shp_lt ho (by decide)) (fun _ _ => ⟨_, ce_4 ho⟩) wm_201 rfl rfl ⟨Nat.le_of_ble_eq_true rfl, Nat.le_of_ble_eq_true rfl⟩ rfl hl.1 rfl (Nat.le_of_ble_eq_true rfl) dX4_workOutFlow_14 ?_
    refine r_istore_n Z [(2, .int q4.1), (0, .ref (ad o)), (1, .int x1)] dX4_workOutFlow_17 rfl hl (by decide) rfl (fun ls hl => ?_)
    refine r_aload_n Z dX4_workOutFlow_18 rfl (lv_at hl 1 rfl) ?_
    refine r_iload_n Z dX4_workOutFlow_19 rfl (lv_at hl 0 rfl) ?_
    refine r_bipush (v := (-9)) Z dX4_workOutFlow_20 (by decide) ?_
    obtain ⟨q5, hq5, hF⟩ := bd_some hF
    refine r_invVl [] Z (c_X4_flowDeterminant ho hq5) cv_X4_flowDeterminant rfl (shp_lt ho (by decide)) (fun _ _ => ⟨_, ce_4 ho⟩) wm_213 rfl rfl ⟨Nat.le_of_ble_eq_true rfl, Nat.le_of_ble_eq_true rfl⟩ rfl hl.1 rfl (Nat.le_of_ble_eq_true rfl) dX4_workOutFlow_22 ?_
    refine r_lstore_n Z [(3, .long q5.1), (2, .int q4.1), (0, .ref (ad o)), (1, .int x1)] dX4_workOutFlow_25 rfl hl (by decide) rfl (fun ls hl => ?_)
    refine r_aload_n Z dX4_workOutFlow_26 rfl (lv_at hl 2 rfl) ?_
    refine r_iload_n Z dX4_workOutFlow_27 rfl (lv_at hl 1 rfl) ?_
    refine r_iload_n Z dX4_workOutFlow_28 rfl (lv_at hl 3 rfl) ?_
    obtain ⟨q6, hq6, hF⟩ := bd_some hF
    refine r_invVl [] Z (c_X4_flowDeterminant ho hq6) cv_X4_flowDeterminant rfl (shp_lt ho (by decide)) (fun _ _ => ⟨_, ce_4 ho⟩) wm_213 rfl rfl ⟨Nat.le_of_ble_eq_true rfl, Nat.le_of_ble_eq_true rfl⟩ rfl hl.1 rfl (Nat.le_of_ble_eq_true rfl) dX4_workOutFlow_29 ?_
    refine r_lstore Z [(5, .long q6.1), (3, .long q5.1), (2, .int q4.1), (0, .ref (ad o)), (1, .int x1)] dX4_workOutFlow_32 hl (by decide) rfl (fun ls hl => ?_)
    refine r_aload_n Z dX4_workOutFlow_34 rfl (lv_at hl 3 rfl) ?_
    refine g_4_3 Z ho wm_162 dX4_workOutFlow_35 ?_
    refine r_ldc2 Z wm_206 dX4_workOutFlow_38 ?_
    refine r_lload Z dX4_workOutFlow_41 (lv_at hl 0 rfl) ?_
    refine r_lmul Z dX4_workOutFlow_43 ?_
    refine r_lload_n Z dX4_workOutFlow_44 rfl (lv_at hl 1 rfl) ?_
    obtain ⟨M7, hM7, hF⟩ := bd_some hF
    refine r_invVv [] Z (c_X2_set (sh_4_3 ho) hM7) cv_X2_set rfl (shp_lt (sh_4_3 ho) (by decide)) (fun _ _ => ⟨_, ce_2 (sh_4_3 ho)⟩) wm_216 rfl rfl ⟨Nat.le_of_ble_eq_true rfl, Nat.le_of_ble_eq_true rfl⟩ rfl hl.1 rfl (Nat.le_of_ble_eq_true rfl) dX4_workOutFlow_45 ?_
    refine r_aload_n Z dX4_workOutFlow_48 rfl (lv_at hl 3 rfl) ?_
    refine g_4_0 Z ho wm_154 dX4_workOutFlow_49 ?_
    refine r_iload_n Z dX4_workOutFlow_52 rfl (lv_at hl 4 rfl) ?_
    obtain ⟨hi8, hF⟩ := ck_some hF
    refine r_aald13 Z (sh_4_0 ho) hi8 dX4_workOutFlow_53 ?_
    refine r_astore Z [(7, .ref (ad (elm (fld o 0) (Int32.toNatClampNeg x1)))), (5, .long q6.1), (3, .long q5.1), (2, .int q4.1), (0, .ref (ad o)), (1, .int x1)] dX4_workOutFlow_54 hl (by decide) rfl (fun ls hl => ?_)
    refine r_aload_n Z dX4_workOutFlow_56 rfl (lv_at hl 4 rfl) ?_
    refine g_4_4 Z ho wm_163 dX4_workOutFlow_57 ?_
    refine r_aload_n Z dX4_workOutFlow_60 rfl (lv_at hl 4 rfl) ?_
    refine g_4_3 Z ho wm_162 dX4_workOutFlow_61 ?_
    refine g_2_0 Z (sh_4_3 ho) wm_210 dX4_workOutFlow_64 ?_
    refine r_aload_n Z dX4_workOutFlow_67 rfl (lv_at hl 4 rfl) ?_
    refine g_4_3 Z ho wm_162 dX4_workOutFlow_68 ?_
    refine g_2_1 Z (sh_4_3 ho) wm_211 dX4_workOutFlow_71 ?_
    refine r_aload Z dX4_workOutFlow_74 (lv_at hl 0 rfl) ?_
    refine g_1_2 Z (se_13 (sh_4_0 ho) hi8) wm_212 dX4_workOutFlow_76 ?_
    refine r_i2l Z dX4_workOutFlow_79 ?_
    refine r_lmul Z dX4_workOutFlow_80 ?_
    refine r_aload Z dX4_workOutFlow_81 (lv_at hl 0 rfl) ?_
    refine g_1_3 Z (se_13 (sh_4_0 ho) hi8) wm_183 dX4_workOutFlow_83 ?_
    refine r_i2l Z dX4_workOutFlow_86 ?_
    refine r_lmul Z dX4_workOutFlow_87 ?_
    obtain ⟨M9, hM9, hF⟩ := bd_some hF
    refine r_invVv [] Z (c_X2_set (sh_4_4 ho) hM9) cv_X2_set rfl (shp_lt (sh_4_4 ho) (by decide)) (fun _ _ => ⟨_, ce_2 (sh_4_4 ho)⟩) wm_216 rfl rfl ⟨Nat.le_of_ble_eq_true rfl, Nat.le_of_ble_eq_true rfl⟩ rfl hl.1 rfl (Nat.le_of_ble_eq_true rfl) dX4_workOutFlow_88 ?_
    exact r_vret Z hQ hF dX4_workOutFlow_91
  · replace hF := if_some hc2 hF
    exact r_vret Z hQ hF dX4_workOutFlow_8
theorem dX4_workOutMean_0 : decode cX4_workOutMean 0 = .ok (.aload_n 0, 1) := by decide +kernel
theorem dX4_workOutMean_1 : decode cX4_workOutMean 1 = .ok (.iload_n 1, 1) := by decide +kernel
theorem dX4_workOutMean_2 : decode cX4_workOutMean 2 = .ok (.invokevirtual 54, 3) := by decide +kernel
theorem dX4_workOutMean_5 : decode cX4_workOutMean 5 = .ok (.ifCond .ne 4, 3) := by decide +kernel
theorem dX4_workOutMean_8 : decode cX4_workOutMean 8 = .ok (.return_, 1) := by decide +kernel
theorem dX4_workOutMean_9 : decode cX4_workOutMean 9 = .ok (.aload_n 0, 1) := by decide +kernel
theorem dX4_workOutMean_10 : decode cX4_workOutMean 10 = .ok (.getfield 38, 3) := by decide +kernel
theorem dX4_workOutMean_13 : decode cX4_workOutMean 13 = .ok (.getfield 105, 3) := by decide +kernel
theorem dX4_workOutMean_16 : decode cX4_workOutMean 16 = .ok (.lstore_n 3, 1) := by decide +kernel
theorem dX4_workOutMean_17 : decode cX4_workOutMean 17 = .ok (.aload_n 0, 1) := by decide +kernel
theorem dX4_workOutMean_18 : decode cX4_workOutMean 18 = .ok (.getfield 38, 3) := by decide +kernel
theorem dX4_workOutMean_21 : decode cX4_workOutMean 21 = .ok (.getfield 109, 3) := by decide +kernel
theorem dX4_workOutMean_24 : decode cX4_workOutMean 24 = .ok (.lstore 5, 2) := by decide +kernel
theorem dX4_workOutMean_26 : decode cX4_workOutMean 26 = .ok (.aload_n 0, 1) := by decide +kernel
theorem dX4_workOutMean_27 : decode cX4_workOutMean 27 = .ok (.getfield 11, 3) := by decide +kernel
theorem dX4_workOutMean_30 : decode cX4_workOutMean 30 = .ok (.iload_n 1, 1) := by decide +kernel
theorem dX4_workOutMean_31 : decode cX4_workOutMean 31 = .ok (.aaload, 1) := by decide +kernel
theorem dX4_workOutMean_32 : decode cX4_workOutMean 32 = .ok (.getfield 58, 3) := by decide +kernel
theorem dX4_workOutMean_35 : decode cX4_workOutMean 35 = .ok (.iconst 3, 1) := by decide +kernel
theorem dX4_workOutMean_36 : decode cX4_workOutMean 36 = .ok (.if_icmp .ne 13, 3) := by decide +kernel
theorem dX4_workOutMean_39 : decode cX4_workOutMean 39 = .ok (.aload_n 2, 1) := by decide +kernel
theorem dX4_workOutMean_40 : decode cX4_workOutMean 40 = .ok (.lload_n 3, 1) := by decide +kernel
theorem dX4_workOutMean_41 : decode cX4_workOutMean 41 = .ok (.lload 5, 2) := by decide +kernel
theorem dX4_workOutMean_43 : decode cX4_workOutMean 43 = .ok (.invokevirtual 101, 3) := by decide +kernel
theorem dX4_workOutMean_46 : decode cX4_workOutMean 46 = .ok (.goto 49, 3) := by decide +kernel
theorem dX4_workOutMean_49 : decode cX4_workOutMean 49 = .ok (.aload_n 0, 1) := by decide +kernel
theorem dX4_workOutMean_50 : decode cX4_workOutMean 50 = .ok (.getfield 11, 3) := by decide +kernel
theorem dX4_workOutMean_53 : decode cX4_workOutMean 53 = .ok (.iload_n 1, 1) := by decide +kernel
theorem dX4_workOutMean_54 : decode cX4_workOutMean 54 = .ok (.aaload, 1) := by decide +kernel
theorem dX4_workOutMean_55 : decode cX4_workOutMean 55 = .ok (.getfield 62, 3) := by decide +kernel
theorem dX4_workOutMean_58 : decode cX4_workOutMean 58 = .ok (.iconst 2, 1) := by decide +kernel
theorem dX4_workOutMean_59 : decode cX4_workOutMean 59 = .ok (.if_icmp .ne 27, 3) := by decide +kernel
theorem dX4_workOutMean_62 : decode cX4_workOutMean 62 = .ok (.aload_n 2, 1) := by decide +kernel
theorem dX4_workOutMean_63 : decode cX4_workOutMean 63 = .ok (.ldc2_w 124, 3) := by decide +kernel
theorem dX4_workOutMean_66 : decode cX4_workOutMean 66 = .ok (.lload_n 3, 1) := by decide +kernel
theorem dX4_workOutMean_67 : decode cX4_workOutMean 67 = .ok (.lmul, 1) := by decide +kernel
theorem dX4_workOutMean_68 : decode cX4_workOutMean 68 = .ok (.lload 5, 2) := by decide +kernel
theorem dX4_workOutMean_70 : decode cX4_workOutMean 70 = .ok (.lmul, 1) := by decide +kernel
theorem dX4_workOutMean_71 : decode cX4_workOutMean 71 = .ok (.lload 5, 2) := by decide +kernel
theorem dX4_workOutMean_73 : decode cX4_workOutMean 73 = .ok (.lload 5, 2) := by decide +kernel
theorem dX4_workOutMean_75 : decode cX4_workOutMean 75 = .ok (.lmul, 1) := by decide +kernel
theorem dX4_workOutMean_76 : decode cX4_workOutMean 76 = .ok (.lload_n 3, 1) := by decide +kernel
theorem dX4_workOutMean_77 : decode cX4_workOutMean 77 = .ok (.lload_n 3, 1) := by decide +kernel
theorem dX4_workOutMean_78 : decode cX4_workOutMean 78 = .ok (.lmul, 1) := by decide +kernel
theorem dX4_workOutMean_79 : decode cX4_workOutMean 79 = .ok (.lsub, 1) := by decide +kernel
theorem dX4_workOutMean_80 : decode cX4_workOutMean 80 = .ok (.invokevirtual 101, 3) := by decide +kernel
theorem dX4_workOutMean_83 : decode cX4_workOutMean 83 = .ok (.goto 12, 3) := by decide +kernel
theorem dX4_workOutMean_86 : decode cX4_workOutMean 86 = .ok (.aload_n 2, 1) := by decide +kernel
theorem dX4_workOutMean_87 : decode cX4_workOutMean 87 = .ok (.lload_n 3, 1) := by decide +kernel
theorem dX4_workOutMean_88 : decode cX4_workOutMean 88 = .ok (.lload 5, 2) := by decide +kernel
theorem dX4_workOutMean_90 : decode cX4_workOutMean 90 = .ok (.lload_n 3, 1) := by decide +kernel
theorem dX4_workOutMean_91 : decode cX4_workOutMean 91 = .ok (.lsub, 1) := by decide +kernel
theorem dX4_workOutMean_92 : decode cX4_workOutMean 92 = .ok (.invokevirtual 101, 3) := by decide +kernel
theorem dX4_workOutMean_95 : decode cX4_workOutMean 95 = .ok (.return_, 1) := by decide +kernel
theorem cv_X4_workOutMean : wn_cV yX4_workOutMean cX4_workOutMean 7 none RX4 2 := ⟨wm_220, wm_469, wm_470, wm_180, by decide +kernel⟩
abbrev rm_X4_workOutMean : Room := rmz 3 71
set_option maxHeartbeats 4000000 in
set_option maxRecDepth 100000 in
theorem c_X4_workOutMean {ad : Nat → Nat} {o : Nat} {x1 : Int32} {x2 : Nat} {M : Mm} {q : Mm} (ho : shp o = 4) (h2 : shp x2 = 2) (hF : f_X4_workOutMean o x1 x2 M = some q) : KV ad yX4_workOutMean cX4_workOutMean 7 none rm_X4_workOutMean [.ref (ad o), .int x1, .ref (ad x2)] M q := by
  refine wn_enterV (own := RX4) (by decide) rfl (Nat.le_of_ble_eq_true rfl) (fun X ls Z hQ hl => ?_)
  have hl : lv_has ls 7 [(0, .ref (ad o)), (1, .int x1), (2, .ref (ad x2))] := hl
  unfold f_X4_workOutMean at hF
  refine r_aload_n Z dX4_workOutMean_0 rfl (lv_at hl 0 rfl) ?_
  refine r_iload_n Z dX4_workOutMean_1 rfl (lv_at hl 1 rfl) ?_
  obtain ⟨q1, hq1, hF⟩ := bd_some hF
  refine r_invVi [] Z (c_X4_has ho hq1) cv_X4_has rfl (shp_lt ho (by decide)) (fun _ _ => ⟨_, ce_4 ho⟩) wm_177 rfl rfl ⟨Nat.le_of_ble_eq_true rfl, Nat.le_of_ble_eq_true rfl⟩ rfl hl.1 rfl (Nat.le_of_ble_eq_true rfl) dX4_workOutMean_2 ?_
  refine r_if_ne Z 9 dX4_workOutMean_5 (by decide) (fun hc2 => ?_) (fun hc2 => ?_)
  · replace hF := nif_some hc2 hF
    refine r_aload_n Z dX4_workOutMean_9 rfl (lv_at hl 0 rfl) ?_
    refine g_4_4 Z ho wm_163 dX4_workOutMean_10 ?_
    refine g_2_0 Z (sh_4_4 ho) wm_210 dX4_workOutMean_13 ?_
    obtain ⟨t3, et3, hF⟩ := nm_some hF
    rw [← et3]
    refine r_lstore_n Z [(3, .long t3), (0, .ref (ad o)), (1, .int x1), (2, .ref (ad x2))] dX4_workOutMean_16 rfl hl (by decide) rfl (fun ls hl => ?_)
    refine r_aload_n Z dX4_workOutMean_17 rfl (lv_at hl 1 rfl) ?_
    refine g_4_4 Z ho wm_163 dX4_workOutMean_18 ?_
    refine g_2_1 Z (sh_4_4 ho) wm_211 dX4_workOutMean_21 ?_
    obtain ⟨t4, et4, hF⟩ := nm_some hF
    rw [← et4]
    refine r_lstore Z [(5, .long t4), (3, .long t3), (0, .ref (ad o)), (1, .int x1), (2, .ref (ad x2))] dX4_workOutMean_24 hl (by decide) rfl (fun ls hl => ?_)
    refine r_aload_n Z dX4_workOutMean_26 rfl (lv_at hl 2 rfl) ?_
    refine g_4_0 Z ho wm_154 dX4_workOutMean_27 ?_
    refine r_iload_n Z dX4_workOutMean_30 rfl (lv_at hl 3 rfl) ?_
    obtain ⟨hi5, hF⟩ := ck_some hF
    refine r_aald13 Z (sh_4_0 ho) hi5 dX4_workOutMean_31 ?_
    refine g_1_1 Z (se_13 (sh_4_0 ho) hi5) wm_182 dX4_workOutMean_32 ?_
    refine r_iconst (v := 3) Z dX4_workOutMean_35 (by decide) ?_
    refine r_icmp_ne Z 49 dX4_workOutMean_36 (by decide) (fun hc6 => ?_) (fun hc6 => ?_)
    · replace hF := nif_some hc6 hF
      refine r_aload_n Z dX4_workOutMean_49 rfl (lv_at hl 2 rfl) ?_
      refine g_4_0 Z ho wm_154 dX4_workOutMean_50 ?_
      refine r_iload_n Z dX4_workOutMean_53 rfl (lv_at hl 3 rfl) ?_
      obtain ⟨hi7, hF⟩ := ck_some hF
      refine r_aald13 Z (sh_4_0 ho) hi7 dX4_workOutMean_54 ?_
      refine g_1_3 Z (se_13 (sh_4_0 ho) hi7) wm_183 dX4_workOutMean_55 ?_
      refine r_iconst (v := 2) Z dX4_workOutMean_58 (by decide) ?_
      refine r_icmp_ne Z 86 dX4_workOutMean_59 (by decide) (fun hc8 => ?_) (fun hc8 => ?_)
      · replace hF := nif_some hc8 hF
        refine r_aload_n Z dX4_workOutMean_86 rfl (lv_at hl 4 rfl) ?_
        refine r_lload_n Z dX4_workOutMean_87 rfl (lv_at hl 1 rfl) ?_
        refine r_lload Z dX4_workOutMean_88 (lv_at hl 0 rfl) ?_
        refine r_lload_n Z dX4_workOutMean_90 rfl (lv_at hl 1 rfl) ?_
        refine r_lsub Z dX4_workOutMean_91 ?_
        obtain ⟨M9, hM9, hF⟩ := bd_some hF
        refine r_invVv [] Z (c_X2_set h2 hM9) cv_X2_set rfl (shp_lt h2 (by decide)) (fun _ _ => ⟨_, ce_2 h2⟩) wm_216 rfl rfl ⟨Nat.le_of_ble_eq_true rfl, Nat.le_of_ble_eq_true rfl⟩ rfl hl.1 rfl (Nat.le_of_ble_eq_true rfl) dX4_workOutMean_92 ?_
        exact r_vret Z hQ hF dX4_workOutMean_95
      · replace hF := if_some hc8 hF
        refine r_aload_n Z dX4_workOutMean_62 rfl (lv_at hl 4 rfl) ?_
        refine r_ldc2 Z wm_219 dX4_workOutMean_63 ?_
        refine r_lload_n Z dX4_workOutMean_66 rfl (lv_at hl 1 rfl) ?_
        refine r_lmul Z dX4_workOutMean_67 ?_
        refine r_lload Z dX4_workOutMean_68 (lv_at hl 0 rfl) ?_
        refine r_lmul Z dX4_workOutMean_70 ?_
        refine r_lload Z dX4_workOutMean_71 (lv_at hl 0 rfl) ?_
        refine r_lload Z dX4_workOutMean_73 (lv_at hl 0 rfl) ?_
        refine r_lmul Z dX4_workOutMean_75 ?_
        refine r_lload_n Z dX4_workOutMean_76 rfl (lv_at hl 1 rfl) ?_
        refine r_lload_n Z dX4_workOutMean_77 rfl (lv_at hl 1 rfl) ?_
        refine r_lmul Z dX4_workOutMean_78 ?_
        refine r_lsub Z dX4_workOutMean_79 ?_
        obtain ⟨M10, hM10, hF⟩ := bd_some hF
        refine r_invVv [] Z (c_X2_set h2 hM10) cv_X2_set rfl (shp_lt h2 (by decide)) (fun _ _ => ⟨_, ce_2 h2⟩) wm_216 rfl rfl ⟨Nat.le_of_ble_eq_true rfl, Nat.le_of_ble_eq_true rfl⟩ rfl hl.1 rfl (Nat.le_of_ble_eq_true rfl) dX4_workOutMean_80 ?_
        refine r_goto Z 95 dX4_workOutMean_83 (by decide) ?_
        exact r_vret Z hQ hF dX4_workOutMean_95
    · replace hF := if_some hc6 hF
      refine r_aload_n Z dX4_workOutMean_39 rfl (lv_at hl 4 rfl) ?_
      refine r_lload_n Z dX4_workOutMean_40 rfl (lv_at hl 1 rfl) ?_
      refine r_lload Z dX4_workOutMean_41 (lv_at hl 0 rfl) ?_
      obtain ⟨M11, hM11, hF⟩ := bd_some hF
      refine r_invVv [] Z (c_X2_set h2 hM11) cv_X2_set rfl (shp_lt h2 (by decide)) (fun _ _ => ⟨_, ce_2 h2⟩) wm_216 rfl rfl ⟨Nat.le_of_ble_eq_true rfl, Nat.le_of_ble_eq_true rfl⟩ rfl hl.1 rfl (Nat.le_of_ble_eq_true rfl) dX4_workOutMean_43 ?_
      refine r_goto Z 95 dX4_workOutMean_46 (by decide) ?_
      exact r_vret Z hQ hF dX4_workOutMean_95
  · replace hF := if_some hc2 hF
    exact r_vret Z hQ hF dX4_workOutMean_8
theorem dX5_beginStates_0 : decode cX5_beginStates 0 = .ok (.iconst 0, 1) := by decide +kernel
theorem dX5_beginStates_1 : decode cX5_beginStates 1 = .ok (.istore_n 2, 1) := by decide +kernel
theorem dX5_beginStates_2 : decode cX5_beginStates 2 = .ok (.iload_n 2, 1) := by decide +kernel
theorem dX5_beginStates_3 : decode cX5_beginStates 3 = .ok (.iconst 4, 1) := by decide +kernel
theorem dX5_beginStates_4 : decode cX5_beginStates 4 = .ok (.if_icmp .ge 16, 3) := by decide +kernel
theorem dX5_beginStates_7 : decode cX5_beginStates 7 = .ok (.aload_n 0, 1) := by decide +kernel
theorem dX5_beginStates_8 : decode cX5_beginStates 8 = .ok (.getfield 33, 3) := by decide +kernel
theorem dX5_beginStates_11 : decode cX5_beginStates 11 = .ok (.iload_n 2, 1) := by decide +kernel
theorem dX5_beginStates_12 : decode cX5_beginStates 12 = .ok (.iconst 0, 1) := by decide +kernel
theorem dX5_beginStates_13 : decode cX5_beginStates 13 = .ok (.iastore, 1) := by decide +kernel
theorem dX5_beginStates_14 : decode cX5_beginStates 14 = .ok (.iinc 2 1, 3) := by decide +kernel
theorem dX5_beginStates_17 : decode cX5_beginStates 17 = .ok (.goto (-15), 3) := by decide +kernel
theorem dX5_beginStates_20 : decode cX5_beginStates 20 = .ok (.aload_n 0, 1) := by decide +kernel
theorem dX5_beginStates_21 : decode cX5_beginStates 21 = .ok (.getfield 33, 3) := by decide +kernel
theorem dX5_beginStates_24 : decode cX5_beginStates 24 = .ok (.iconst 0, 1) := by decide +kernel
theorem dX5_beginStates_25 : decode cX5_beginStates 25 = .ok (.iload_n 1, 1) := by decide +kernel
theorem dX5_beginStates_26 : decode cX5_beginStates 26 = .ok (.iastore, 1) := by decide +kernel
theorem dX5_beginStates_27 : decode cX5_beginStates 27 = .ok (.return_, 1) := by decide +kernel
theorem cv_X5_beginStates : wn_cV yX5_beginStates cX5_beginStates 3 none RX5 1 := ⟨wm_256, wm_267, wm_268, wm_265, by decide +kernel⟩
abbrev rm_X5_beginStates : Room := rmz 0 0
set_option maxHeartbeats 4000000 in
set_option maxRecDepth 100000 in
theorem c_X5_beginStates {ad : Nat → Nat} {o : Nat} {x1 : Int32} {M : Mm} {q : Mm} (ho : shp o = 5) (hF : f_X5_beginStates o x1 M = some q) : KV ad yX5_beginStates cX5_beginStates 3 none rm_X5_beginStates [.ref (ad o), .int x1] M q := by
  refine wn_enterV (own := RX5) (by decide) rfl (Nat.le_of_ble_eq_true rfl) (fun X ls Z hQ hl => ?_)
  have hl : lv_has ls 3 [(0, .ref (ad o)), (1, .int x1)] := hl
  have L2 : ∀ (n2 : Nat) (v1 : Int32) (v2 : Int32) (M : Mm) (ls : Array Slot), lv_has ls 3 [(0, .ref (ad o)), (1, .int v1), (2, .int v2)] → f_X5_beginStates_b2 o n2 v1 v2 M = some q → G ad X M 2 ls [] := by
    intro n2
    induction n2 with
    | zero =>
      intro v1 v2 M ls hl hF
      cases hF
    | succ n2 ih2 =>
      intro v1 v2 M ls hl hF
      replace hF : f_X5_beginStates_b2B (f_X5_beginStates_b2 o n2) o v1 v2 M = some q := hF
      unfold f_X5_beginStates_b2B at hF
      refine r_iload_n Z dX5_beginStates_2 rfl (lv_at hl 2 rfl) ?_
      refine r_iconst (v := 4) Z dX5_beginStates_3 (by decide) ?_
      refine r_icmp_ge Z 20 dX5_beginStates_4 (by decide) (fun hc1 => ?_) (fun hc1 => ?_)
      · replace hF := if_some hc1 hF
        refine r_aload_n Z dX5_beginStates_20 rfl (lv_at hl 0 rfl) ?_
        refine g_5_6 Z ho wm_243 dX5_beginStates_21 ?_
        refine r_iconst (v := 0) Z dX5_beginStates_24 (by decide) ?_
        refine r_iload_n Z dX5_beginStates_25 rfl (lv_at hl 1 rfl) ?_
        obtain ⟨hi2, hF⟩ := ck_some hF
        obtain ⟨M3, eM3, hF⟩ := nm_some hF
        refine r_iastore Z (shp_lt (sh_5_6 ho) (by decide)) (fun _ _ => ce_104 (sh_5_6 ho)) hi2 dX5_beginStates_26 ?_
        rw [← eM3]
        exact r_vret Z hQ hF dX5_beginStates_27
      · replace hF := nif_some hc1 hF
        refine r_aload_n Z dX5_beginStates_7 rfl (lv_at hl 0 rfl) ?_
        refine g_5_6 Z ho wm_243 dX5_beginStates_8 ?_
        refine r_iload_n Z dX5_beginStates_11 rfl (lv_at hl 2 rfl) ?_
        refine r_iconst (v := 0) Z dX5_beginStates_12 (by decide) ?_
        obtain ⟨hi4, hF⟩ := ck_some hF
        obtain ⟨M5, eM5, hF⟩ := nm_some hF
        refine r_iastore Z (shp_lt (sh_5_6 ho) (by decide)) (fun _ _ => ce_104 (sh_5_6 ho)) hi4 dX5_beginStates_13 ?_
        rw [← eM5]
        obtain ⟨t6, et6, hF⟩ := nm_some hF
        refine r_iinc (j := 2) Z t6 [(2, .int t6), (0, .ref (ad o)), (1, .int v1)] dX5_beginStates_14 hl rfl (by rw [et6]; rfl) (by decide) rfl (fun ls hl => ?_)
        refine r_goto Z 2 dX5_beginStates_17 (by decide) ?_
        exact ih2 v1 t6 M5 ls (lv_sub hl [1, 2, 0] rfl) hF
  unfold f_X5_beginStates at hF
  refine r_iconst (v := 0) Z dX5_beginStates_0 (by decide) ?_
  refine r_istore_n Z [(2, .int 0), (0, .ref (ad o)), (1, .int x1)] dX5_beginStates_1 rfl hl (by decide) rfl (fun ls hl => ?_)
  exact L2 _ x1 0 M ls (lv_sub hl [1, 2, 0] rfl) hF
theorem dX5_isState_0 : decode cX5_isState 0 = .ok (.iconst 0, 1) := by decide +kernel
theorem dX5_isState_1 : decode cX5_isState 1 = .ok (.istore_n 1, 1) := by decide +kernel
theorem dX5_isState_2 : decode cX5_isState 2 = .ok (.iload_n 1, 1) := by decide +kernel
theorem dX5_isState_3 : decode cX5_isState 3 = .ok (.iconst 4, 1) := by decide +kernel
theorem dX5_isState_4 : decode cX5_isState 4 = .ok (.if_icmp .ge 30, 3) := by decide +kernel
theorem dX5_isState_7 : decode cX5_isState 7 = .ok (.aload_n 0, 1) := by decide +kernel
theorem dX5_isState_8 : decode cX5_isState 8 = .ok (.getfield 33, 3) := by decide +kernel
theorem dX5_isState_11 : decode cX5_isState 11 = .ok (.iload_n 1, 1) := by decide +kernel
theorem dX5_isState_12 : decode cX5_isState 12 = .ok (.iaload, 1) := by decide +kernel
theorem dX5_isState_13 : decode cX5_isState 13 = .ok (.ifCond .le 15, 3) := by decide +kernel
theorem dX5_isState_16 : decode cX5_isState 16 = .ok (.aload_n 0, 1) := by decide +kernel
theorem dX5_isState_17 : decode cX5_isState 17 = .ok (.getfield 15, 3) := by decide +kernel
theorem dX5_isState_20 : decode cX5_isState 20 = .ok (.iload_n 1, 1) := by decide +kernel
theorem dX5_isState_21 : decode cX5_isState 21 = .ok (.iaload, 1) := by decide +kernel
theorem dX5_isState_22 : decode cX5_isState 22 = .ok (.iconst (-1), 1) := by decide +kernel
theorem dX5_isState_23 : decode cX5_isState 23 = .ok (.if_icmp .ne 5, 3) := by decide +kernel
theorem dX5_isState_26 : decode cX5_isState 26 = .ok (.iconst 0, 1) := by decide +kernel
theorem dX5_isState_27 : decode cX5_isState 27 = .ok (.ireturn, 1) := by decide +kernel
theorem dX5_isState_28 : decode cX5_isState 28 = .ok (.iinc 1 1, 3) := by decide +kernel
theorem dX5_isState_31 : decode cX5_isState 31 = .ok (.goto (-29), 3) := by decide +kernel
theorem dX5_isState_34 : decode cX5_isState 34 = .ok (.iconst 1, 1) := by decide +kernel
theorem dX5_isState_35 : decode cX5_isState 35 = .ok (.ireturn, 1) := by decide +kernel
theorem cv_X5_isState : wn_cV yX5_isState cX5_isState 2 (some .boolean) RX5 0 := ⟨wm_301, wm_313, wm_314, wm_265, by decide +kernel⟩
abbrev rm_X5_isState : Room := rmz 0 0
set_option maxHeartbeats 4000000 in
set_option maxRecDepth 100000 in
theorem c_X5_isState {ad : Nat → Nat} {o : Nat} {M : Mm} {q : Int32 × Mm} (ho : shp o = 5) (hF : f_X5_isState o M = some q) : KI ad yX5_isState cX5_isState 2 (some .boolean) rm_X5_isState [.ref (ad o)] M q.1 q.2 := by
  refine wn_enterI (own := RX5) (by decide) rfl (Nat.le_of_ble_eq_true rfl) (fun X ls Z hQ hl => ?_)
  have hl : lv_has ls 2 [(0, .ref (ad o))] := hl
  have L2 : ∀ (n2 : Nat) (v1 : Int32) (M : Mm) (ls : Array Slot), lv_has ls 2 [(0, .ref (ad o)), (1, .int v1)] → f_X5_isState_b2 o n2 v1 M = some q → G ad X M 2 ls [] := by
    intro n2
    induction n2 with
    | zero =>
      intro v1 M ls hl hF
      cases hF
    | succ n2 ih2 =>
      intro v1 M ls hl hF
      replace hF : f_X5_isState_b2B (f_X5_isState_b2 o n2) o v1 M = some q := hF
      unfold f_X5_isState_b2B at hF
      refine r_iload_n Z dX5_isState_2 rfl (lv_at hl 1 rfl) ?_
      refine r_iconst (v := 4) Z dX5_isState_3 (by decide) ?_
      refine r_icmp_ge Z 34 dX5_isState_4 (by decide) (fun hc1 => ?_) (fun hc1 => ?_)
      · replace hF := if_some hc1 hF
        refine r_iconst (v := 1) Z dX5_isState_34 (by decide) ?_
        exact r_zret Z hQ (by decide) hF dX5_isState_35
      · replace hF := nif_some hc1 hF
        refine r_aload_n Z dX5_isState_7 rfl (lv_at hl 0 rfl) ?_
        refine g_5_6 Z ho wm_243 dX5_isState_8 ?_
        refine r_iload_n Z dX5_isState_11 rfl (lv_at hl 1 rfl) ?_
        obtain ⟨hi2, hF⟩ := ck_some hF
        refine r_iaload Z (shp_lt (sh_5_6 ho) (by decide)) (fun _ _ => ce_104 (sh_5_6 ho)) hi2 dX5_isState_12 ?_
        refine r_if_le Z 28 dX5_isState_13 (by decide) (fun hc3 => ?_) (fun hc3 => ?_)
        · replace hF := if_some hc3 hF
          obtain ⟨t4, et4, hF⟩ := nm_some hF
          refine r_iinc (j := 1) Z t4 [(1, .int t4), (0, .ref (ad o))] dX5_isState_28 hl rfl (by rw [et4]; rfl) (by decide) rfl (fun ls hl => ?_)
          refine r_goto Z 2 dX5_isState_31 (by decide) ?_
          exact ih2 t4 M ls (lv_sub hl [1, 0] rfl) hF
        · replace hF := nif_some hc3 hF
          refine r_aload_n Z dX5_isState_16 rfl (lv_at hl 0 rfl) ?_
          refine g_5_1 Z ho wm_237 dX5_isState_17 ?_
          refine r_iload_n Z dX5_isState_20 rfl (lv_at hl 1 rfl) ?_
          obtain ⟨hi5, hF⟩ := ck_some hF
          refine r_iaload Z (shp_lt (sh_5_1 ho) (by decide)) (fun _ _ => ce_104 (sh_5_1 ho)) hi5 dX5_isState_21 ?_
          refine r_iconst (v := (-1)) Z dX5_isState_22 (by decide) ?_
          refine r_icmp_ne Z 28 dX5_isState_23 (by decide) (fun hc6 => ?_) (fun hc6 => ?_)
          · replace hF := nif_some hc6 hF
            obtain ⟨t7, et7, hF⟩ := nm_some hF
            refine r_iinc (j := 1) Z t7 [(1, .int t7), (0, .ref (ad o))] dX5_isState_28 hl rfl (by rw [et7]; rfl) (by decide) rfl (fun ls hl => ?_)
            refine r_goto Z 2 dX5_isState_31 (by decide) ?_
            exact ih2 t7 M ls (lv_sub hl [1, 0] rfl) hF
          · replace hF := if_some hc6 hF
            refine r_iconst (v := 0) Z dX5_isState_26 (by decide) ?_
            exact r_zret Z hQ (by decide) hF dX5_isState_27
  unfold f_X5_isState at hF
  refine r_iconst (v := 0) Z dX5_isState_0 (by decide) ?_
  refine r_istore_n Z [(1, .int 0), (0, .ref (ad o))] dX5_isState_1 rfl hl (by decide) rfl (fun ls hl => ?_)
  exact L2 _ 0 M ls (lv_sub hl [1, 0] rfl) hF
theorem dX5_busy_0 : decode cX5_busy 0 = .ok (.aload_n 0, 1) := by decide +kernel
theorem dX5_busy_1 : decode cX5_busy 1 = .ok (.getfield 15, 3) := by decide +kernel
theorem dX5_busy_4 : decode cX5_busy 4 = .ok (.iload_n 1, 1) := by decide +kernel
theorem dX5_busy_5 : decode cX5_busy 5 = .ok (.iaload, 1) := by decide +kernel
theorem dX5_busy_6 : decode cX5_busy 6 = .ok (.iconst 3, 1) := by decide +kernel
theorem dX5_busy_7 : decode cX5_busy 7 = .ok (.if_icmp .ne 7, 3) := by decide +kernel
theorem dX5_busy_10 : decode cX5_busy 10 = .ok (.iload_n 2, 1) := by decide +kernel
theorem dX5_busy_11 : decode cX5_busy 11 = .ok (.goto 13, 3) := by decide +kernel
theorem dX5_busy_14 : decode cX5_busy 14 = .ok (.iload_n 2, 1) := by decide +kernel
theorem dX5_busy_15 : decode cX5_busy 15 = .ok (.aload_n 0, 1) := by decide +kernel
theorem dX5_busy_16 : decode cX5_busy 16 = .ok (.getfield 22, 3) := by decide +kernel
theorem dX5_busy_19 : decode cX5_busy 19 = .ok (.iload_n 1, 1) := by decide +kernel
theorem dX5_busy_20 : decode cX5_busy 20 = .ok (.iaload, 1) := by decide +kernel
theorem dX5_busy_21 : decode cX5_busy 21 = .ok (.invokestatic 87, 3) := by decide +kernel
theorem dX5_busy_24 : decode cX5_busy 24 = .ok (.ireturn, 1) := by decide +kernel
theorem cv_X5_busy : wn_cV yX5_busy cX5_busy 3 (some .int) RX5 2 := ⟨wm_258, wm_263, wm_264, wm_265, by decide +kernel⟩
abbrev rm_X5_busy : Room := rmz 1 13
set_option maxHeartbeats 4000000 in
set_option maxRecDepth 100000 in
theorem c_X5_busy {ad : Nat → Nat} {o : Nat} {x1 : Int32} {x2 : Int32} {M : Mm} {q : Int32 × Mm} (ho : shp o = 5) (hF : f_X5_busy o x1 x2 M = some q) : KI ad yX5_busy cX5_busy 3 (some .int) rm_X5_busy [.ref (ad o), .int x1, .int x2] M q.1 q.2 := by
  refine wn_enterI (own := RX5) (by decide) rfl (Nat.le_of_ble_eq_true rfl) (fun X ls Z hQ hl => ?_)
  have hl : lv_has ls 3 [(0, .ref (ad o)), (1, .int x1), (2, .int x2)] := hl
  unfold f_X5_busy at hF
  refine r_aload_n Z dX5_busy_0 rfl (lv_at hl 0 rfl) ?_
  refine g_5_1 Z ho wm_237 dX5_busy_1 ?_
  refine r_iload_n Z dX5_busy_4 rfl (lv_at hl 1 rfl) ?_
  obtain ⟨hi1, hF⟩ := ck_some hF
  refine r_iaload Z (shp_lt (sh_5_1 ho) (by decide)) (fun _ _ => ce_104 (sh_5_1 ho)) hi1 dX5_busy_5 ?_
  refine r_iconst (v := 3) Z dX5_busy_6 (by decide) ?_
  refine r_icmp_ne Z 14 dX5_busy_7 (by decide) (fun hc2 => ?_) (fun hc2 => ?_)
  · replace hF := nif_some hc2 hF
    refine r_iload_n Z dX5_busy_14 rfl (lv_at hl 2 rfl) ?_
    refine r_aload_n Z dX5_busy_15 rfl (lv_at hl 0 rfl) ?_
    refine g_5_3 Z ho wm_239 dX5_busy_16 ?_
    refine r_iload_n Z dX5_busy_19 rfl (lv_at hl 1 rfl) ?_
    obtain ⟨hi3, hF⟩ := ck_some hF
    refine r_iaload Z (shp_lt (sh_5_3 ho) (by decide)) (fun _ _ => ce_104 (sh_5_3 ho)) hi3 dX5_busy_20 ?_
    refine r_mmin Z wm_259 wm_65 wm_66 wm_67 (Nat.le_of_ble_eq_true rfl) (Nat.le_of_ble_eq_true rfl) hl.1 dX5_busy_21 ?_
    exact r_iret Z hQ hF dX5_busy_24
  · replace hF := if_some hc2 hF
    refine r_iload_n Z dX5_busy_10 rfl (lv_at hl 2 rfl) ?_
    refine r_goto Z 24 dX5_busy_11 (by decide) ?_
    exact r_iret Z hQ hF dX5_busy_24
theorem dX5_weight_0 : decode cX5_weight 0 = .ok (.lconst 1, 1) := by decide +kernel
theorem dX5_weight_1 : decode cX5_weight 1 = .ok (.lstore_n 1, 1) := by decide +kernel
theorem dX5_weight_2 : decode cX5_weight 2 = .ok (.lconst 1, 1) := by decide +kernel
theorem dX5_weight_3 : decode cX5_weight 3 = .ok (.lstore_n 3, 1) := by decide +kernel
theorem dX5_weight_4 : decode cX5_weight 4 = .ok (.iconst 0, 1) := by decide +kernel
theorem dX5_weight_5 : decode cX5_weight 5 = .ok (.istore 5, 2) := by decide +kernel
theorem dX5_weight_7 : decode cX5_weight 7 = .ok (.iload 5, 2) := by decide +kernel
theorem dX5_weight_9 : decode cX5_weight 9 = .ok (.iconst 4, 1) := by decide +kernel
theorem dX5_weight_10 : decode cX5_weight 10 = .ok (.if_icmp .ge 52, 3) := by decide +kernel
theorem dX5_weight_13 : decode cX5_weight 13 = .ok (.iconst 1, 1) := by decide +kernel
theorem dX5_weight_14 : decode cX5_weight 14 = .ok (.istore 6, 2) := by decide +kernel
theorem dX5_weight_16 : decode cX5_weight 16 = .ok (.iload 6, 2) := by decide +kernel
theorem dX5_weight_18 : decode cX5_weight 18 = .ok (.aload_n 0, 1) := by decide +kernel
theorem dX5_weight_19 : decode cX5_weight 19 = .ok (.getfield 33, 3) := by decide +kernel
theorem dX5_weight_22 : decode cX5_weight 22 = .ok (.iload 5, 2) := by decide +kernel
theorem dX5_weight_24 : decode cX5_weight 24 = .ok (.iaload, 1) := by decide +kernel
theorem dX5_weight_25 : decode cX5_weight 25 = .ok (.if_icmp .gt 31, 3) := by decide +kernel
theorem dX5_weight_28 : decode cX5_weight 28 = .ok (.lload_n 1, 1) := by decide +kernel
theorem dX5_weight_29 : decode cX5_weight 29 = .ok (.aload_n 0, 1) := by decide +kernel
theorem dX5_weight_30 : decode cX5_weight 30 = .ok (.getfield 25, 3) := by decide +kernel
theorem dX5_weight_33 : decode cX5_weight 33 = .ok (.iload 5, 2) := by decide +kernel
theorem dX5_weight_35 : decode cX5_weight 35 = .ok (.laload, 1) := by decide +kernel
theorem dX5_weight_36 : decode cX5_weight 36 = .ok (.lmul, 1) := by decide +kernel
theorem dX5_weight_37 : decode cX5_weight 37 = .ok (.lstore_n 1, 1) := by decide +kernel
theorem dX5_weight_38 : decode cX5_weight 38 = .ok (.lload_n 3, 1) := by decide +kernel
theorem dX5_weight_39 : decode cX5_weight 39 = .ok (.aload_n 0, 1) := by decide +kernel
theorem dX5_weight_40 : decode cX5_weight 40 = .ok (.iload 5, 2) := by decide +kernel
theorem dX5_weight_42 : decode cX5_weight 42 = .ok (.iload 6, 2) := by decide +kernel
theorem dX5_weight_44 : decode cX5_weight 44 = .ok (.invokevirtual 81, 3) := by decide +kernel
theorem dX5_weight_47 : decode cX5_weight 47 = .ok (.i2l, 1) := by decide +kernel
theorem dX5_weight_48 : decode cX5_weight 48 = .ok (.lmul, 1) := by decide +kernel
theorem dX5_weight_49 : decode cX5_weight 49 = .ok (.lstore_n 3, 1) := by decide +kernel
theorem dX5_weight_50 : decode cX5_weight 50 = .ok (.iinc 6 1, 3) := by decide +kernel
theorem dX5_weight_53 : decode cX5_weight 53 = .ok (.goto (-37), 3) := by decide +kernel
theorem dX5_weight_56 : decode cX5_weight 56 = .ok (.iinc 5 1, 3) := by decide +kernel
theorem dX5_weight_59 : decode cX5_weight 59 = .ok (.goto (-52), 3) := by decide +kernel
theorem dX5_weight_62 : decode cX5_weight 62 = .ok (.lload_n 3, 1) := by decide +kernel
theorem dX5_weight_63 : decode cX5_weight 63 = .ok (.lconst 0, 1) := by decide +kernel
theorem dX5_weight_64 : decode cX5_weight 64 = .ok (.lcmp, 1) := by decide +kernel
theorem dX5_weight_65 : decode cX5_weight 65 = .ok (.ifCond .le 13, 3) := by decide +kernel
theorem dX5_weight_68 : decode cX5_weight 68 = .ok (.lload_n 1, 1) := by decide +kernel
theorem dX5_weight_69 : decode cX5_weight 69 = .ok (.ldc2_w 85, 3) := by decide +kernel
theorem dX5_weight_72 : decode cX5_weight 72 = .ok (.lload_n 3, 1) := by decide +kernel
theorem dX5_weight_73 : decode cX5_weight 73 = .ok (.ldiv, 1) := by decide +kernel
theorem dX5_weight_74 : decode cX5_weight 74 = .ok (.lmul, 1) := by decide +kernel
theorem dX5_weight_75 : decode cX5_weight 75 = .ok (.goto 4, 3) := by decide +kernel
theorem dX5_weight_78 : decode cX5_weight 78 = .ok (.lconst 0, 1) := by decide +kernel
theorem dX5_weight_79 : decode cX5_weight 79 = .ok (.lreturn, 1) := by decide +kernel
theorem cv_X5_weight : wn_cV yX5_weight cX5_weight 7 (some .long) RX5 0 := ⟨wm_260, wm_270, wm_271, wm_265, by decide +kernel⟩
abbrev rm_X5_weight : Room := rmz 2 35
set_option maxHeartbeats 4000000 in
set_option maxRecDepth 100000 in
theorem c_X5_weight {ad : Nat → Nat} {o : Nat} {M : Mm} {q : Int64 × Mm} (ho : shp o = 5) (hF : f_X5_weight o M = some q) : KL ad yX5_weight cX5_weight 7 (some .long) rm_X5_weight [.ref (ad o)] M q.1 q.2 := by
  refine wn_enterL (own := RX5) (by decide) rfl (Nat.le_of_ble_eq_true rfl) (fun X ls Z hQ hl => ?_)
  have hl : lv_has ls 7 [(0, .ref (ad o))] := hl
  have L7 : ∀ (n7 : Nat) (v1 : Int64) (v3 : Int64) (v5 : Int32) (M : Mm) (ls : Array Slot), lv_has ls 7 [(0, .ref (ad o)), (1, .long v1), (3, .long v3), (5, .int v5)] → f_X5_weight_b7 o n7 v1 v3 v5 M = some q → G ad X M 7 ls [] := by
    intro n7
    induction n7 with
    | zero =>
      intro v1 v3 v5 M ls hl hF
      cases hF
    | succ n7 ih7 =>
      have L16 : ∀ (n16 : Nat) (v1 : Int64) (v3 : Int64) (v5 : Int32) (v6 : Int32) (M : Mm) (ls : Array Slot), lv_has ls 7 [(0, .ref (ad o)), (1, .long v1), (3, .long v3), (5, .int v5), (6, .int v6)] → f_X5_weight_b16 (f_X5_weight_b7 o n7) o n16 v1 v3 v5 v6 M = some q → G ad X M 16 ls [] := by
        intro n16
        induction n16 with
        | zero =>
          intro v1 v3 v5 v6 M ls hl hF
          cases hF
        | succ n16 ih16 =>
          intro v1 v3 v5 v6 M ls hl hF
          replace hF : f_X5_weight_b16B (f_X5_weight_b7 o n7) (f_X5_weight_b16 (f_X5_weight_b7 o n7) o n16) o v1 v3 v5 v6 M = some q := hF
          unfold f_X5_weight_b16B at hF
          refine r_iload Z dX5_weight_16 (lv_at hl 4 rfl) ?_
          refine r_aload_n Z dX5_weight_18 rfl (lv_at hl 0 rfl) ?_
          refine g_5_6 Z ho wm_243 dX5_weight_19 ?_
          refine r_iload Z dX5_weight_22 (lv_at hl 3 rfl) ?_
          obtain ⟨hi1, hF⟩ := ck_some hF
          refine r_iaload Z (shp_lt (sh_5_6 ho) (by decide)) (fun _ _ => ce_104 (sh_5_6 ho)) hi1 dX5_weight_24 ?_
          refine r_icmp_gt Z 56 dX5_weight_25 (by decide) (fun hc2 => ?_) (fun hc2 => ?_)
          · replace hF := if_some hc2 hF
            obtain ⟨t3, et3, hF⟩ := nm_some hF
            refine r_iinc (j := 3) Z t3 [(5, .int t3), (0, .ref (ad o)), (1, .long v1), (3, .long v3), (6, .int v6)] dX5_weight_56 hl rfl (by rw [et3]; rfl) (by decide) rfl (fun ls hl => ?_)
            refine r_goto Z 7 dX5_weight_59 (by decide) ?_
            exact ih7 v1 v3 t3 M ls (lv_sub hl [1, 2, 3, 0] rfl) hF
          · replace hF := nif_some hc2 hF
            refine r_lload_n Z dX5_weight_28 rfl (lv_at hl 1 rfl) ?_
            refine r_aload_n Z dX5_weight_29 rfl (lv_at hl 0 rfl) ?_
            refine g_5_4 Z ho wm_240 dX5_weight_30 ?_
            refine r_iload Z dX5_weight_33 (lv_at hl 3 rfl) ?_
            obtain ⟨hi4, hF⟩ := ck_some hF
            refine r_laload Z (shp_lt (sh_5_4 ho) (by decide)) (fun _ _ => ce_1004 (sh_5_4 ho)) hi4 dX5_weight_35 ?_
            refine r_lmul Z dX5_weight_36 ?_
            obtain ⟨t5, et5, hF⟩ := nm_some hF
            rw [← et5]
            refine r_lstore_n Z [(1, .long t5), (0, .ref (ad o)), (3, .long v3), (5, .int v5), (6, .int v6)] dX5_weight_37 rfl hl (by decide) rfl (fun ls hl => ?_)
            refine r_lload_n Z dX5_weight_38 rfl (lv_at hl 2 rfl) ?_
            refine r_aload_n Z dX5_weight_39 rfl (lv_at hl 1 rfl) ?_
            refine r_iload Z dX5_weight_40 (lv_at hl 3 rfl) ?_
            refine r_iload Z dX5_weight_42 (lv_at hl 4 rfl) ?_
            obtain ⟨q6, hq6, hF⟩ := bd_some hF
            refine r_invVi [.long v3] Z (c_X5_busy ho hq6) cv_X5_busy rfl (shp_lt ho (by decide)) (fun _ _ => ⟨_, ce_5 ho⟩) wm_262 rfl rfl ⟨Nat.le_of_ble_eq_true rfl, Nat.le_of_ble_eq_true rfl⟩ rfl hl.1 rfl (Nat.le_of_ble_eq_true rfl) dX5_weight_44 ?_
            refine r_i2l Z dX5_weight_47 ?_
            refine r_lmul Z dX5_weight_48 ?_
            obtain ⟨t7, et7, hF⟩ := nm_some hF
            rw [← et7]
            refine r_lstore_n Z [(3, .long t7), (1, .long t5), (0, .ref (ad o)), (5, .int v5), (6, .int v6)] dX5_weight_49 rfl hl (by decide) rfl (fun ls hl => ?_)
            obtain ⟨t8, et8, hF⟩ := nm_some hF
            refine r_iinc (j := 4) Z t8 [(6, .int t8), (3, .long t7), (1, .long t5), (0, .ref (ad o)), (5, .int v5)] dX5_weight_50 hl rfl (by rw [et8]; rfl) (by decide) rfl (fun ls hl => ?_)
            refine r_goto Z 16 dX5_weight_53 (by decide) ?_
            exact ih16 t5 t7 v5 t8 q6.2 ls (lv_sub hl [3, 2, 1, 4, 0] rfl) hF
      intro v1 v3 v5 M ls hl hF
      replace hF : f_X5_weight_b7B (f_X5_weight_b7 o n7) o v1 v3 v5 M = some q := hF
      unfold f_X5_weight_b7B at hF
      refine r_iload Z dX5_weight_7 (lv_at hl 3 rfl) ?_
      refine r_iconst (v := 4) Z dX5_weight_9 (by decide) ?_
      refine r_icmp_ge Z 62 dX5_weight_10 (by decide) (fun hc9 => ?_) (fun hc9 => ?_)
      · replace hF := if_some hc9 hF
        refine r_lload_n Z dX5_weight_62 rfl (lv_at hl 2 rfl) ?_
        refine r_lconst (v := 0) Z dX5_weight_63 (by decide) ?_
        refine r_lcmp Z dX5_weight_64 ?_
        refine r_if_le Z 78 dX5_weight_65 (by decide) (fun hc10 => ?_) (fun hc10 => ?_)
        · replace hF := if_some hc10 hF
          refine r_lconst (v := 0) Z dX5_weight_78 (by decide) ?_
          exact r_lret Z hQ hF dX5_weight_79
        · replace hF := nif_some hc10 hF
          refine r_lload_n Z dX5_weight_68 rfl (lv_at hl 1 rfl) ?_
          refine r_ldc2 Z wm_261 dX5_weight_69 ?_
          refine r_lload_n Z dX5_weight_72 rfl (lv_at hl 2 rfl) ?_
          obtain ⟨hd11, hF⟩ := dvJ_some hF
          refine r_ldiv Z dX5_weight_73 hd11 ?_
          refine r_lmul Z dX5_weight_74 ?_
          refine r_goto Z 79 dX5_weight_75 (by decide) ?_
          exact r_lret Z hQ hF dX5_weight_79
      · replace hF := nif_some hc9 hF
        refine r_iconst (v := 1) Z dX5_weight_13 (by decide) ?_
        refine r_istore Z [(6, .int 1), (0, .ref (ad o)), (1, .long v1), (3, .long v3), (5, .int v5)] dX5_weight_14 hl (by decide) rfl (fun ls hl => ?_)
        exact L16 _ v1 v3 v5 1 M ls (lv_sub hl [1, 2, 3, 4, 0] rfl) hF
  unfold f_X5_weight at hF
  refine r_lconst (v := 1) Z dX5_weight_0 (by decide) ?_
  refine r_lstore_n Z [(1, .long 1), (0, .ref (ad o))] dX5_weight_1 rfl hl (by decide) rfl (fun ls hl => ?_)
  refine r_lconst (v := 1) Z dX5_weight_2 (by decide) ?_
  refine r_lstore_n Z [(3, .long 1), (1, .long 1), (0, .ref (ad o))] dX5_weight_3 rfl hl (by decide) rfl (fun ls hl => ?_)
  refine r_iconst (v := 0) Z dX5_weight_4 (by decide) ?_
  refine r_istore Z [(5, .int 0), (3, .long 1), (1, .long 1), (0, .ref (ad o))] dX5_weight_5 hl (by decide) rfl (fun ls hl => ?_)
  exact L7 _ 1 1 0 M ls (lv_sub hl [3, 2, 1, 0] rfl) hF
theorem dX5_served_0 : decode cX5_served 0 = .ok (.aload_n 0, 1) := by decide +kernel
theorem dX5_served_1 : decode cX5_served 1 = .ok (.getfield 19, 3) := by decide +kernel
theorem dX5_served_4 : decode cX5_served 4 = .ok (.iload_n 1, 1) := by decide +kernel
theorem dX5_served_5 : decode cX5_served 5 = .ok (.iaload, 1) := by decide +kernel
theorem dX5_served_6 : decode cX5_served 6 = .ok (.i2l, 1) := by decide +kernel
theorem dX5_served_7 : decode cX5_served 7 = .ok (.aload_n 0, 1) := by decide +kernel
theorem dX5_served_8 : decode cX5_served 8 = .ok (.iload_n 1, 1) := by decide +kernel
theorem dX5_served_9 : decode cX5_served 9 = .ok (.aload_n 0, 1) := by decide +kernel
theorem dX5_served_10 : decode cX5_served 10 = .ok (.getfield 33, 3) := by decide +kernel
theorem dX5_served_13 : decode cX5_served 13 = .ok (.iload_n 1, 1) := by decide +kernel
theorem dX5_served_14 : decode cX5_served 14 = .ok (.iaload, 1) := by decide +kernel
theorem dX5_served_15 : decode cX5_served 15 = .ok (.invokevirtual 81, 3) := by decide +kernel
theorem dX5_served_18 : decode cX5_served 18 = .ok (.i2l, 1) := by decide +kernel
theorem dX5_served_19 : decode cX5_served 19 = .ok (.lmul, 1) := by decide +kernel
theorem dX5_served_20 : decode cX5_served 20 = .ok (.lreturn, 1) := by decide +kernel
theorem cv_X5_served : wn_cV yX5_served cX5_served 2 (some .long) RX5 1 := ⟨wm_302, wm_305, wm_306, wm_265, by decide +kernel⟩
abbrev rm_X5_served : Room := rmz 2 35
set_option maxHeartbeats 4000000 in
set_option maxRecDepth 100000 in
theorem c_X5_served {ad : Nat → Nat} {o : Nat} {x1 : Int32} {M : Mm} {q : Int64 × Mm} (ho : shp o = 5) (hF : f_X5_served o x1 M = some q) : KL ad yX5_served cX5_served 2 (some .long) rm_X5_served [.ref (ad o), .int x1] M q.1 q.2 := by
  refine wn_enterL (own := RX5) (by decide) rfl (Nat.le_of_ble_eq_true rfl) (fun X ls Z hQ hl => ?_)
  have hl : lv_has ls 2 [(0, .ref (ad o)), (1, .int x1)] := hl
  unfold f_X5_served at hF
  refine r_aload_n Z dX5_served_0 rfl (lv_at hl 0 rfl) ?_
  refine g_5_2 Z ho wm_238 dX5_served_1 ?_
  refine r_iload_n Z dX5_served_4 rfl (lv_at hl 1 rfl) ?_
  obtain ⟨hi1, hF⟩ := ck_some hF
  refine r_iaload Z (shp_lt (sh_5_2 ho) (by decide)) (fun _ _ => ce_104 (sh_5_2 ho)) hi1 dX5_served_5 ?_
  refine r_i2l Z dX5_served_6 ?_
  refine r_aload_n Z dX5_served_7 rfl (lv_at hl 0 rfl) ?_
  refine r_iload_n Z dX5_served_8 rfl (lv_at hl 1 rfl) ?_
  refine r_aload_n Z dX5_served_9 rfl (lv_at hl 0 rfl) ?_
  refine g_5_6 Z ho wm_243 dX5_served_10 ?_
  refine r_iload_n Z dX5_served_13 rfl (lv_at hl 1 rfl) ?_
  obtain ⟨hi2, hF⟩ := ck_some hF
  refine r_iaload Z (shp_lt (sh_5_6 ho) (by decide)) (fun _ _ => ce_104 (sh_5_6 ho)) hi2 dX5_served_14 ?_
  obtain ⟨q3, hq3, hF⟩ := bd_some hF
  refine r_invVi [.long (Int32.toInt64 (mI M (fld o 2) (Int32.toNatClampNeg x1)))] Z (c_X5_busy ho hq3) cv_X5_busy rfl (shp_lt ho (by decide)) (fun _ _ => ⟨_, ce_5 ho⟩) wm_262 rfl rfl ⟨Nat.le_of_ble_eq_true rfl, Nat.le_of_ble_eq_true rfl⟩ rfl hl.1 rfl (Nat.le_of_ble_eq_true rfl) dX5_served_15 ?_
  refine r_i2l Z dX5_served_18 ?_
  refine r_lmul Z dX5_served_19 ?_
  exact r_lret Z hQ hF dX5_served_20
theorem dX5_comingTo_0 : decode cX5_comingTo 0 = .ok (.lconst 0, 1) := by decide +kernel
theorem dX5_comingTo_1 : decode cX5_comingTo 1 = .ok (.lstore_n 2, 1) := by decide +kernel
theorem dX5_comingTo_2 : decode cX5_comingTo 2 = .ok (.iconst 0, 1) := by decide +kernel
theorem dX5_comingTo_3 : decode cX5_comingTo 3 = .ok (.istore 4, 2) := by decide +kernel
theorem dX5_comingTo_5 : decode cX5_comingTo 5 = .ok (.iload 4, 2) := by decide +kernel
theorem dX5_comingTo_7 : decode cX5_comingTo 7 = .ok (.iconst 4, 1) := by decide +kernel
theorem dX5_comingTo_8 : decode cX5_comingTo 8 = .ok (.if_icmp .ge 68, 3) := by decide +kernel
theorem dX5_comingTo_11 : decode cX5_comingTo 11 = .ok (.aload_n 0, 1) := by decide +kernel
theorem dX5_comingTo_12 : decode cX5_comingTo 12 = .ok (.getfield 30, 3) := by decide +kernel
theorem dX5_comingTo_15 : decode cX5_comingTo 15 = .ok (.iload 4, 2) := by decide +kernel
theorem dX5_comingTo_17 : decode cX5_comingTo 17 = .ok (.aaload, 1) := by decide +kernel
theorem dX5_comingTo_18 : decode cX5_comingTo 18 = .ok (.iload_n 1, 1) := by decide +kernel
theorem dX5_comingTo_19 : decode cX5_comingTo 19 = .ok (.iaload, 1) := by decide +kernel
theorem dX5_comingTo_20 : decode cX5_comingTo 20 = .ok (.ifCond .le 50, 3) := by decide +kernel
theorem dX5_comingTo_23 : decode cX5_comingTo 23 = .ok (.aload_n 0, 1) := by decide +kernel
theorem dX5_comingTo_24 : decode cX5_comingTo 24 = .ok (.getfield 33, 3) := by decide +kernel
theorem dX5_comingTo_27 : decode cX5_comingTo 27 = .ok (.iload 4, 2) := by decide +kernel
theorem dX5_comingTo_29 : decode cX5_comingTo 29 = .ok (.dup2, 1) := by decide +kernel
theorem dX5_comingTo_30 : decode cX5_comingTo 30 = .ok (.iaload, 1) := by decide +kernel
theorem dX5_comingTo_31 : decode cX5_comingTo 31 = .ok (.iconst 1, 1) := by decide +kernel
theorem dX5_comingTo_32 : decode cX5_comingTo 32 = .ok (.iadd, 1) := by decide +kernel
theorem dX5_comingTo_33 : decode cX5_comingTo 33 = .ok (.iastore, 1) := by decide +kernel
theorem dX5_comingTo_34 : decode cX5_comingTo 34 = .ok (.lload_n 2, 1) := by decide +kernel
theorem dX5_comingTo_35 : decode cX5_comingTo 35 = .ok (.aload_n 0, 1) := by decide +kernel
theorem dX5_comingTo_36 : decode cX5_comingTo 36 = .ok (.invokevirtual 96, 3) := by decide +kernel
theorem dX5_comingTo_39 : decode cX5_comingTo 39 = .ok (.aload_n 0, 1) := by decide +kernel
theorem dX5_comingTo_40 : decode cX5_comingTo 40 = .ok (.iload 4, 2) := by decide +kernel
theorem dX5_comingTo_42 : decode cX5_comingTo 42 = .ok (.invokevirtual 142, 3) := by decide +kernel
theorem dX5_comingTo_45 : decode cX5_comingTo 45 = .ok (.lmul, 1) := by decide +kernel
theorem dX5_comingTo_46 : decode cX5_comingTo 46 = .ok (.aload_n 0, 1) := by decide +kernel
theorem dX5_comingTo_47 : decode cX5_comingTo 47 = .ok (.getfield 30, 3) := by decide +kernel
theorem dX5_comingTo_50 : decode cX5_comingTo 50 = .ok (.iload 4, 2) := by decide +kernel
theorem dX5_comingTo_52 : decode cX5_comingTo 52 = .ok (.aaload, 1) := by decide +kernel
theorem dX5_comingTo_53 : decode cX5_comingTo 53 = .ok (.iload_n 1, 1) := by decide +kernel
theorem dX5_comingTo_54 : decode cX5_comingTo 54 = .ok (.iaload, 1) := by decide +kernel
theorem dX5_comingTo_55 : decode cX5_comingTo 55 = .ok (.i2l, 1) := by decide +kernel
theorem dX5_comingTo_56 : decode cX5_comingTo 56 = .ok (.lmul, 1) := by decide +kernel
theorem dX5_comingTo_57 : decode cX5_comingTo 57 = .ok (.ladd, 1) := by decide +kernel
theorem dX5_comingTo_58 : decode cX5_comingTo 58 = .ok (.lstore_n 2, 1) := by decide +kernel
theorem dX5_comingTo_59 : decode cX5_comingTo 59 = .ok (.aload_n 0, 1) := by decide +kernel
theorem dX5_comingTo_60 : decode cX5_comingTo 60 = .ok (.getfield 33, 3) := by decide +kernel
theorem dX5_comingTo_63 : decode cX5_comingTo 63 = .ok (.iload 4, 2) := by decide +kernel
theorem dX5_comingTo_65 : decode cX5_comingTo 65 = .ok (.dup2, 1) := by decide +kernel
theorem dX5_comingTo_66 : decode cX5_comingTo 66 = .ok (.iaload, 1) := by decide +kernel
theorem dX5_comingTo_67 : decode cX5_comingTo 67 = .ok (.iconst 1, 1) := by decide +kernel
theorem dX5_comingTo_68 : decode cX5_comingTo 68 = .ok (.isub, 1) := by decide +kernel
theorem dX5_comingTo_69 : decode cX5_comingTo 69 = .ok (.iastore, 1) := by decide +kernel
theorem dX5_comingTo_70 : decode cX5_comingTo 70 = .ok (.iinc 4 1, 3) := by decide +kernel
theorem dX5_comingTo_73 : decode cX5_comingTo 73 = .ok (.goto (-68), 3) := by decide +kernel
theorem dX5_comingTo_76 : decode cX5_comingTo 76 = .ok (.lload_n 2, 1) := by decide +kernel
theorem dX5_comingTo_77 : decode cX5_comingTo 77 = .ok (.lreturn, 1) := by decide +kernel
theorem cv_X5_comingTo : wn_cV yX5_comingTo cX5_comingTo 5 (some .long) RX5 1 := ⟨wm_303, wm_308, wm_309, wm_265, by decide +kernel⟩
abbrev rm_X5_comingTo : Room := rmz 3 61
set_option maxHeartbeats 4000000 in
set_option maxRecDepth 100000 in
theorem c_X5_comingTo {ad : Nat → Nat} {o : Nat} {x1 : Int32} {M : Mm} {q : Int64 × Mm} (ho : shp o = 5) (hF : f_X5_comingTo o x1 M = some q) : KL ad yX5_comingTo cX5_comingTo 5 (some .long) rm_X5_comingTo [.ref (ad o), .int x1] M q.1 q.2 := by
  refine wn_enterL (own := RX5) (by decide) rfl (Nat.le_of_ble_eq_true rfl) (fun X ls Z hQ hl => ?_)
  have hl : lv_has ls 5 [(0, .ref (ad o)), (1, .int x1)] := hl
  have L5 : ∀ (n5 : Nat) (v1 : Int32) (v2 : Int64) (v4 : Int32) (M : Mm) (ls : Array Slot), lv_has ls 5 [(0, .ref (ad o)), (1, .int v1), (2, .long v2), (4, .int v4)] → f_X5_comingTo_b5 o n5 v1 v2 v4 M = some q → G ad X M 5 ls [] := by
    intro n5
    induction n5 with
    | zero =>
      intro v1 v2 v4 M ls hl hF
      cases hF
    | succ n5 ih5 =>
      intro v1 v2 v4 M ls hl hF
      replace hF : f_X5_comingTo_b5B (f_X5_comingTo_b5 o n5) o v1 v2 v4 M = some q := hF
      unfold f_X5_comingTo_b5B at hF
      refine r_iload Z dX5_comingTo_5 (lv_at hl 3 rfl) ?_
      refine r_iconst (v := 4) Z dX5_comingTo_7 (by decide) ?_
      refine r_icmp_ge Z 76 dX5_comingTo_8 (by decide) (fun hc1 => ?_) (fun hc1 => ?_)
      · replace hF := if_some hc1 hF
        refine r_lload_n Z dX5_comingTo_76 rfl (lv_at hl 2 rfl) ?_
        exact r_lret Z hQ hF dX5_comingTo_77
      · replace hF := nif_some hc1 hF
        refine r_aload_n Z dX5_comingTo_11 rfl (lv_at hl 0 rfl) ?_
        refine g_5_5 Z ho wm_242 dX5_comingTo_12 ?_
        refine r_iload Z dX5_comingTo_15 (lv_at hl 3 rfl) ?_
        obtain ⟨hi2, hF⟩ := ck_some hF
        refine r_aald17 Z (sh_5_5 ho) hi2 dX5_comingTo_17 ?_
        refine r_iload_n Z dX5_comingTo_18 rfl (lv_at hl 1 rfl) ?_
        obtain ⟨hi3, hF⟩ := ck_some hF
        refine r_iaload Z (shp_lt (se_17 (sh_5_5 ho) hi2) (by decide)) (fun _ _ => ce_104 (se_17 (sh_5_5 ho) hi2)) hi3 dX5_comingTo_19 ?_
        refine r_if_le Z 70 dX5_comingTo_20 (by decide) (fun hc4 => ?_) (fun hc4 => ?_)
        · replace hF := if_some hc4 hF
          obtain ⟨t5, et5, hF⟩ := nm_some hF
          refine r_iinc (j := 3) Z t5 [(4, .int t5), (0, .ref (ad o)), (1, .int v1), (2, .long v2)] dX5_comingTo_70 hl rfl (by rw [et5]; rfl) (by decide) rfl (fun ls hl => ?_)
          refine r_goto Z 5 dX5_comingTo_73 (by decide) ?_
          exact ih5 v1 v2 t5 M ls (lv_sub hl [1, 2, 3, 0] rfl) hF
        · replace hF := nif_some hc4 hF
          refine r_aload_n Z dX5_comingTo_23 rfl (lv_at hl 0 rfl) ?_
          refine g_5_6 Z ho wm_243 dX5_comingTo_24 ?_
          refine r_iload Z dX5_comingTo_27 (lv_at hl 3 rfl) ?_
          refine r_dup2 Z dX5_comingTo_29 rfl rfl ?_
          obtain ⟨hi6, hF⟩ := ck_some hF
          refine r_iaload Z (shp_lt (sh_5_6 ho) (by decide)) (fun _ _ => ce_104 (sh_5_6 ho)) hi6 dX5_comingTo_30 ?_
          refine r_iconst (v := 1) Z dX5_comingTo_31 (by decide) ?_
          refine r_iadd Z dX5_comingTo_32 ?_
          obtain ⟨hi7, hF⟩ := ck_some hF
          obtain ⟨M8, eM8, hF⟩ := nm_some hF
          refine r_iastore Z (shp_lt (sh_5_6 ho) (by decide)) (fun _ _ => ce_104 (sh_5_6 ho)) hi7 dX5_comingTo_33 ?_
          rw [← eM8]
          refine r_lload_n Z dX5_comingTo_34 rfl (lv_at hl 2 rfl) ?_
          refine r_aload_n Z dX5_comingTo_35 rfl (lv_at hl 0 rfl) ?_
          obtain ⟨q9, hq9, hF⟩ := bd_some hF
          refine r_invVl [.long v2] Z (c_X5_weight ho hq9) cv_X5_weight rfl (shp_lt ho (by decide)) (fun _ _ => ⟨_, ce_5 ho⟩) wm_269 rfl rfl ⟨Nat.le_of_ble_eq_true rfl, Nat.le_of_ble_eq_true rfl⟩ rfl hl.1 rfl (Nat.le_of_ble_eq_true rfl) dX5_comingTo_36 ?_
          refine r_aload_n Z dX5_comingTo_39 rfl (lv_at hl 0 rfl) ?_
          refine r_iload Z dX5_comingTo_40 (lv_at hl 3 rfl) ?_
          obtain ⟨q10, hq10, hF⟩ := bd_some hF
          refine r_invVl [.long q9.1, .long v2] Z (c_X5_served ho hq10) cv_X5_served rfl (shp_lt ho (by decide)) (fun _ _ => ⟨_, ce_5 ho⟩) wm_304 rfl rfl ⟨Nat.le_of_ble_eq_true rfl, Nat.le_of_ble_eq_true rfl⟩ rfl hl.1 rfl (Nat.le_of_ble_eq_true rfl) dX5_comingTo_42 ?_
          refine r_lmul Z dX5_comingTo_45 ?_
          refine r_aload_n Z dX5_comingTo_46 rfl (lv_at hl 0 rfl) ?_
          refine g_5_5 Z ho wm_242 dX5_comingTo_47 ?_
          refine r_iload Z dX5_comingTo_50 (lv_at hl 3 rfl) ?_
          obtain ⟨hi11, hF⟩ := ck_some hF
          refine r_aald17 Z (sh_5_5 ho) hi11 dX5_comingTo_52 ?_
          refine r_iload_n Z dX5_comingTo_53 rfl (lv_at hl 1 rfl) ?_
          obtain ⟨hi12, hF⟩ := ck_some hF
          refine r_iaload Z (shp_lt (se_17 (sh_5_5 ho) hi11) (by decide)) (fun _ _ => ce_104 (se_17 (sh_5_5 ho) hi11)) hi12 dX5_comingTo_54 ?_
          refine r_i2l Z dX5_comingTo_55 ?_
          refine r_lmul Z dX5_comingTo_56 ?_
          refine r_ladd Z dX5_comingTo_57 ?_
          obtain ⟨t13, et13, hF⟩ := nm_some hF
          rw [← et13]
          refine r_lstore_n Z [(2, .long t13), (0, .ref (ad o)), (1, .int v1), (4, .int v4)] dX5_comingTo_58 rfl hl (by decide) rfl (fun ls hl => ?_)
          refine r_aload_n Z dX5_comingTo_59 rfl (lv_at hl 1 rfl) ?_
          refine g_5_6 Z ho wm_243 dX5_comingTo_60 ?_
          refine r_iload Z dX5_comingTo_63 (lv_at hl 3 rfl) ?_
          refine r_dup2 Z dX5_comingTo_65 rfl rfl ?_
          obtain ⟨hi14, hF⟩ := ck_some hF
          refine r_iaload Z (shp_lt (sh_5_6 ho) (by decide)) (fun _ _ => ce_104 (sh_5_6 ho)) hi14 dX5_comingTo_66 ?_
          refine r_iconst (v := 1) Z dX5_comingTo_67 (by decide) ?_
          refine r_isub Z dX5_comingTo_68 ?_
          obtain ⟨hi15, hF⟩ := ck_some hF
          obtain ⟨M16, eM16, hF⟩ := nm_some hF
          refine r_iastore Z (shp_lt (sh_5_6 ho) (by decide)) (fun _ _ => ce_104 (sh_5_6 ho)) hi15 dX5_comingTo_69 ?_
          rw [← eM16]
          obtain ⟨t17, et17, hF⟩ := nm_some hF
          refine r_iinc (j := 3) Z t17 [(4, .int t17), (2, .long t13), (0, .ref (ad o)), (1, .int v1)] dX5_comingTo_70 hl rfl (by rw [et17]; rfl) (by decide) rfl (fun ls hl => ?_)
          refine r_goto Z 5 dX5_comingTo_73 (by decide) ?_
          exact ih5 v1 t13 t17 M16 ls (lv_sub hl [2, 3, 1, 0] rfl) hF
  unfold f_X5_comingTo at hF
  refine r_lconst (v := 0) Z dX5_comingTo_0 (by decide) ?_
  refine r_lstore_n Z [(2, .long 0), (0, .ref (ad o)), (1, .int x1)] dX5_comingTo_1 rfl hl (by decide) rfl (fun ls hl => ?_)
  refine r_iconst (v := 0) Z dX5_comingTo_2 (by decide) ?_
  refine r_istore Z [(4, .int 0), (2, .long 0), (0, .ref (ad o)), (1, .int x1)] dX5_comingTo_3 hl (by decide) rfl (fun ls hl => ?_)
  exact L5 _ x1 0 0 M ls (lv_sub hl [2, 3, 1, 0] rfl) hF
theorem dX5_comingHere_0 : decode cX5_comingHere 0 = .ok (.lconst 0, 1) := by decide +kernel
theorem dX5_comingHere_1 : decode cX5_comingHere 1 = .ok (.lstore_n 1, 1) := by decide +kernel
theorem dX5_comingHere_2 : decode cX5_comingHere 2 = .ok (.iconst 0, 1) := by decide +kernel
theorem dX5_comingHere_3 : decode cX5_comingHere 3 = .ok (.istore_n 3, 1) := by decide +kernel
theorem dX5_comingHere_4 : decode cX5_comingHere 4 = .ok (.iload_n 3, 1) := by decide +kernel
theorem dX5_comingHere_5 : decode cX5_comingHere 5 = .ok (.iconst 4, 1) := by decide +kernel
theorem dX5_comingHere_6 : decode cX5_comingHere 6 = .ok (.if_icmp .ge 46, 3) := by decide +kernel
theorem dX5_comingHere_9 : decode cX5_comingHere 9 = .ok (.aload_n 0, 1) := by decide +kernel
theorem dX5_comingHere_10 : decode cX5_comingHere 10 = .ok (.getfield 33, 3) := by decide +kernel
theorem dX5_comingHere_13 : decode cX5_comingHere 13 = .ok (.iload_n 3, 1) := by decide +kernel
theorem dX5_comingHere_14 : decode cX5_comingHere 14 = .ok (.iaload, 1) := by decide +kernel
theorem dX5_comingHere_15 : decode cX5_comingHere 15 = .ok (.ifCond .le 31, 3) := by decide +kernel
theorem dX5_comingHere_18 : decode cX5_comingHere 18 = .ok (.aload_n 0, 1) := by decide +kernel
theorem dX5_comingHere_19 : decode cX5_comingHere 19 = .ok (.getfield 33, 3) := by decide +kernel
theorem dX5_comingHere_22 : decode cX5_comingHere 22 = .ok (.iload_n 3, 1) := by decide +kernel
theorem dX5_comingHere_23 : decode cX5_comingHere 23 = .ok (.dup2, 1) := by decide +kernel
theorem dX5_comingHere_24 : decode cX5_comingHere 24 = .ok (.iaload, 1) := by decide +kernel
theorem dX5_comingHere_25 : decode cX5_comingHere 25 = .ok (.iconst 1, 1) := by decide +kernel
theorem dX5_comingHere_26 : decode cX5_comingHere 26 = .ok (.isub, 1) := by decide +kernel
theorem dX5_comingHere_27 : decode cX5_comingHere 27 = .ok (.iastore, 1) := by decide +kernel
theorem dX5_comingHere_28 : decode cX5_comingHere 28 = .ok (.lload_n 1, 1) := by decide +kernel
theorem dX5_comingHere_29 : decode cX5_comingHere 29 = .ok (.aload_n 0, 1) := by decide +kernel
theorem dX5_comingHere_30 : decode cX5_comingHere 30 = .ok (.iload_n 3, 1) := by decide +kernel
theorem dX5_comingHere_31 : decode cX5_comingHere 31 = .ok (.invokevirtual 145, 3) := by decide +kernel
theorem dX5_comingHere_34 : decode cX5_comingHere 34 = .ok (.ladd, 1) := by decide +kernel
theorem dX5_comingHere_35 : decode cX5_comingHere 35 = .ok (.lstore_n 1, 1) := by decide +kernel
theorem dX5_comingHere_36 : decode cX5_comingHere 36 = .ok (.aload_n 0, 1) := by decide +kernel
theorem dX5_comingHere_37 : decode cX5_comingHere 37 = .ok (.getfield 33, 3) := by decide +kernel
theorem dX5_comingHere_40 : decode cX5_comingHere 40 = .ok (.iload_n 3, 1) := by decide +kernel
theorem dX5_comingHere_41 : decode cX5_comingHere 41 = .ok (.dup2, 1) := by decide +kernel
theorem dX5_comingHere_42 : decode cX5_comingHere 42 = .ok (.iaload, 1) := by decide +kernel
theorem dX5_comingHere_43 : decode cX5_comingHere 43 = .ok (.iconst 1, 1) := by decide +kernel
theorem dX5_comingHere_44 : decode cX5_comingHere 44 = .ok (.iadd, 1) := by decide +kernel
theorem dX5_comingHere_45 : decode cX5_comingHere 45 = .ok (.iastore, 1) := by decide +kernel
theorem dX5_comingHere_46 : decode cX5_comingHere 46 = .ok (.iinc 3 1, 3) := by decide +kernel
theorem dX5_comingHere_49 : decode cX5_comingHere 49 = .ok (.goto (-45), 3) := by decide +kernel
theorem dX5_comingHere_52 : decode cX5_comingHere 52 = .ok (.lload_n 1, 1) := by decide +kernel
theorem dX5_comingHere_53 : decode cX5_comingHere 53 = .ok (.lreturn, 1) := by decide +kernel
theorem cv_X5_comingHere : wn_cV yX5_comingHere cX5_comingHere 4 (some .long) RX5 0 := ⟨wm_310, wm_316, wm_317, wm_265, by decide +kernel⟩
abbrev rm_X5_comingHere : Room := rmz 4 85
set_option maxHeartbeats 4000000 in
set_option maxRecDepth 100000 in
theorem c_X5_comingHere {ad : Nat → Nat} {o : Nat} {M : Mm} {q : Int64 × Mm} (ho : shp o = 5) (hF : f_X5_comingHere o M = some q) : KL ad yX5_comingHere cX5_comingHere 4 (some .long) rm_X5_comingHere [.ref (ad o)] M q.1 q.2 := by
  refine wn_enterL (own := RX5) (by decide) rfl (Nat.le_of_ble_eq_true rfl) (fun X ls Z hQ hl => ?_)
  have hl : lv_has ls 4 [(0, .ref (ad o))] := hl
  have L4 : ∀ (n4 : Nat) (v1 : Int64) (v3 : Int32) (M : Mm) (ls : Array Slot), lv_has ls 4 [(0, .ref (ad o)), (1, .long v1), (3, .int v3)] → f_X5_comingHere_b4 o n4 v1 v3 M = some q → G ad X M 4 ls [] := by
    intro n4
    induction n4 with
    | zero =>
      intro v1 v3 M ls hl hF
      cases hF
    | succ n4 ih4 =>
      intro v1 v3 M ls hl hF
      replace hF : f_X5_comingHere_b4B (f_X5_comingHere_b4 o n4) o v1 v3 M = some q := hF
      unfold f_X5_comingHere_b4B at hF
      refine r_iload_n Z dX5_comingHere_4 rfl (lv_at hl 2 rfl) ?_
      refine r_iconst (v := 4) Z dX5_comingHere_5 (by decide) ?_
      refine r_icmp_ge Z 52 dX5_comingHere_6 (by decide) (fun hc1 => ?_) (fun hc1 => ?_)
      · replace hF := if_some hc1 hF
        refine r_lload_n Z dX5_comingHere_52 rfl (lv_at hl 1 rfl) ?_
        exact r_lret Z hQ hF dX5_comingHere_53
      · replace hF := nif_some hc1 hF
        refine r_aload_n Z dX5_comingHere_9 rfl (lv_at hl 0 rfl) ?_
        refine g_5_6 Z ho wm_243 dX5_comingHere_10 ?_
        refine r_iload_n Z dX5_comingHere_13 rfl (lv_at hl 2 rfl) ?_
        obtain ⟨hi2, hF⟩ := ck_some hF
        refine r_iaload Z (shp_lt (sh_5_6 ho) (by decide)) (fun _ _ => ce_104 (sh_5_6 ho)) hi2 dX5_comingHere_14 ?_
        refine r_if_le Z 46 dX5_comingHere_15 (by decide) (fun hc3 => ?_) (fun hc3 => ?_)
        · replace hF := if_some hc3 hF
          obtain ⟨t4, et4, hF⟩ := nm_some hF
          refine r_iinc (j := 2) Z t4 [(3, .int t4), (0, .ref (ad o)), (1, .long v1)] dX5_comingHere_46 hl rfl (by rw [et4]; rfl) (by decide) rfl (fun ls hl => ?_)
          refine r_goto Z 4 dX5_comingHere_49 (by decide) ?_
          exact ih4 v1 t4 M ls (lv_sub hl [1, 2, 0] rfl) hF
        · replace hF := nif_some hc3 hF
          refine r_aload_n Z dX5_comingHere_18 rfl (lv_at hl 0 rfl) ?_
          refine g_5_6 Z ho wm_243 dX5_comingHere_19 ?_
          refine r_iload_n Z dX5_comingHere_22 rfl (lv_at hl 2 rfl) ?_
          refine r_dup2 Z dX5_comingHere_23 rfl rfl ?_
          obtain ⟨hi5, hF⟩ := ck_some hF
          refine r_iaload Z (shp_lt (sh_5_6 ho) (by decide)) (fun _ _ => ce_104 (sh_5_6 ho)) hi5 dX5_comingHere_24 ?_
          refine r_iconst (v := 1) Z dX5_comingHere_25 (by decide) ?_
          refine r_isub Z dX5_comingHere_26 ?_
          obtain ⟨hi6, hF⟩ := ck_some hF
          obtain ⟨M7, eM7, hF⟩ := nm_some hF
          refine r_iastore Z (shp_lt (sh_5_6 ho) (by decide)) (fun _ _ => ce_104 (sh_5_6 ho)) hi6 dX5_comingHere_27 ?_
          rw [← eM7]
          refine r_lload_n Z dX5_comingHere_28 rfl (lv_at hl 1 rfl) ?_
          refine r_aload_n Z dX5_comingHere_29 rfl (lv_at hl 0 rfl) ?_
          refine r_iload_n Z dX5_comingHere_30 rfl (lv_at hl 2 rfl) ?_
          obtain ⟨q8, hq8, hF⟩ := bd_some hF
          refine r_invVl [.long v1] Z (c_X5_comingTo ho hq8) cv_X5_comingTo rfl (shp_lt ho (by decide)) (fun _ _ => ⟨_, ce_5 ho⟩) wm_307 rfl rfl ⟨Nat.le_of_ble_eq_true rfl, Nat.le_of_ble_eq_true rfl⟩ rfl hl.1 rfl (Nat.le_of_ble_eq_true rfl) dX5_comingHere_31 ?_
          refine r_ladd Z dX5_comingHere_34 ?_
          obtain ⟨t9, et9, hF⟩ := nm_some hF
          rw [← et9]
          refine r_lstore_n Z [(1, .long t9), (0, .ref (ad o)), (3, .int v3)] dX5_comingHere_35 rfl hl (by decide) rfl (fun ls hl => ?_)
          refine r_aload_n Z dX5_comingHere_36 rfl (lv_at hl 1 rfl) ?_
          refine g_5_6 Z ho wm_243 dX5_comingHere_37 ?_
          refine r_iload_n Z dX5_comingHere_40 rfl (lv_at hl 2 rfl) ?_
          refine r_dup2 Z dX5_comingHere_41 rfl rfl ?_
          obtain ⟨hi10, hF⟩ := ck_some hF
          refine r_iaload Z (shp_lt (sh_5_6 ho) (by decide)) (fun _ _ => ce_104 (sh_5_6 ho)) hi10 dX5_comingHere_42 ?_
          refine r_iconst (v := 1) Z dX5_comingHere_43 (by decide) ?_
          refine r_iadd Z dX5_comingHere_44 ?_
          obtain ⟨hi11, hF⟩ := ck_some hF
          obtain ⟨M12, eM12, hF⟩ := nm_some hF
          refine r_iastore Z (shp_lt (sh_5_6 ho) (by decide)) (fun _ _ => ce_104 (sh_5_6 ho)) hi11 dX5_comingHere_45 ?_
          rw [← eM12]
          obtain ⟨t13, et13, hF⟩ := nm_some hF
          refine r_iinc (j := 2) Z t13 [(3, .int t13), (1, .long t9), (0, .ref (ad o))] dX5_comingHere_46 hl rfl (by rw [et13]; rfl) (by decide) rfl (fun ls hl => ?_)
          refine r_goto Z 4 dX5_comingHere_49 (by decide) ?_
          exact ih4 t9 t13 M12 ls (lv_sub hl [2, 1, 0] rfl) hF
  unfold f_X5_comingHere at hF
  refine r_lconst (v := 0) Z dX5_comingHere_0 (by decide) ?_
  refine r_lstore_n Z [(1, .long 0), (0, .ref (ad o))] dX5_comingHere_1 rfl hl (by decide) rfl (fun ls hl => ?_)
  refine r_iconst (v := 0) Z dX5_comingHere_2 (by decide) ?_
  refine r_istore_n Z [(3, .int 0), (1, .long 0), (0, .ref (ad o))] dX5_comingHere_3 rfl hl (by decide) rfl (fun ls hl => ?_)
  exact L4 _ 0 0 M ls (lv_sub hl [2, 1, 0] rfl) hF
theorem dX5_goingFromHere_0 : decode cX5_goingFromHere 0 = .ok (.lconst 0, 1) := by decide +kernel
theorem dX5_goingFromHere_1 : decode cX5_goingFromHere 1 = .ok (.lstore_n 1, 1) := by decide +kernel
theorem dX5_goingFromHere_2 : decode cX5_goingFromHere 2 = .ok (.iconst 0, 1) := by decide +kernel
theorem dX5_goingFromHere_3 : decode cX5_goingFromHere 3 = .ok (.istore_n 3, 1) := by decide +kernel
theorem dX5_goingFromHere_4 : decode cX5_goingFromHere 4 = .ok (.iload_n 3, 1) := by decide +kernel
theorem dX5_goingFromHere_5 : decode cX5_goingFromHere 5 = .ok (.iconst 4, 1) := by decide +kernel
theorem dX5_goingFromHere_6 : decode cX5_goingFromHere 6 = .ok (.if_icmp .ge 43, 3) := by decide +kernel
theorem dX5_goingFromHere_9 : decode cX5_goingFromHere 9 = .ok (.iconst 0, 1) := by decide +kernel
theorem dX5_goingFromHere_10 : decode cX5_goingFromHere 10 = .ok (.istore 4, 2) := by decide +kernel
theorem dX5_goingFromHere_12 : decode cX5_goingFromHere 12 = .ok (.iload 4, 2) := by decide +kernel
theorem dX5_goingFromHere_14 : decode cX5_goingFromHere 14 = .ok (.iconst 4, 1) := by decide +kernel
theorem dX5_goingFromHere_15 : decode cX5_goingFromHere 15 = .ok (.if_icmp .ge 28, 3) := by decide +kernel
theorem dX5_goingFromHere_18 : decode cX5_goingFromHere 18 = .ok (.lload_n 1, 1) := by decide +kernel
theorem dX5_goingFromHere_19 : decode cX5_goingFromHere 19 = .ok (.aload_n 0, 1) := by decide +kernel
theorem dX5_goingFromHere_20 : decode cX5_goingFromHere 20 = .ok (.iload_n 3, 1) := by decide +kernel
theorem dX5_goingFromHere_21 : decode cX5_goingFromHere 21 = .ok (.invokevirtual 142, 3) := by decide +kernel
theorem dX5_goingFromHere_24 : decode cX5_goingFromHere 24 = .ok (.aload_n 0, 1) := by decide +kernel
theorem dX5_goingFromHere_25 : decode cX5_goingFromHere 25 = .ok (.getfield 30, 3) := by decide +kernel
theorem dX5_goingFromHere_28 : decode cX5_goingFromHere 28 = .ok (.iload_n 3, 1) := by decide +kernel
theorem dX5_goingFromHere_29 : decode cX5_goingFromHere 29 = .ok (.aaload, 1) := by decide +kernel
theorem dX5_goingFromHere_30 : decode cX5_goingFromHere 30 = .ok (.iload 4, 2) := by decide +kernel
theorem dX5_goingFromHere_32 : decode cX5_goingFromHere 32 = .ok (.iaload, 1) := by decide +kernel
theorem dX5_goingFromHere_33 : decode cX5_goingFromHere 33 = .ok (.i2l, 1) := by decide +kernel
theorem dX5_goingFromHere_34 : decode cX5_goingFromHere 34 = .ok (.lmul, 1) := by decide +kernel
theorem dX5_goingFromHere_35 : decode cX5_goingFromHere 35 = .ok (.ladd, 1) := by decide +kernel
theorem dX5_goingFromHere_36 : decode cX5_goingFromHere 36 = .ok (.lstore_n 1, 1) := by decide +kernel
theorem dX5_goingFromHere_37 : decode cX5_goingFromHere 37 = .ok (.iinc 4 1, 3) := by decide +kernel
theorem dX5_goingFromHere_40 : decode cX5_goingFromHere 40 = .ok (.goto (-28), 3) := by decide +kernel
theorem dX5_goingFromHere_43 : decode cX5_goingFromHere 43 = .ok (.iinc 3 1, 3) := by decide +kernel
theorem dX5_goingFromHere_46 : decode cX5_goingFromHere 46 = .ok (.goto (-42), 3) := by decide +kernel
theorem dX5_goingFromHere_49 : decode cX5_goingFromHere 49 = .ok (.lload_n 1, 1) := by decide +kernel
theorem dX5_goingFromHere_50 : decode cX5_goingFromHere 50 = .ok (.aload_n 0, 1) := by decide +kernel
theorem dX5_goingFromHere_51 : decode cX5_goingFromHere 51 = .ok (.invokevirtual 96, 3) := by decide +kernel
theorem dX5_goingFromHere_54 : decode cX5_goingFromHere 54 = .ok (.lmul, 1) := by decide +kernel
theorem dX5_goingFromHere_55 : decode cX5_goingFromHere 55 = .ok (.lreturn, 1) := by decide +kernel
theorem cv_X5_goingFromHere : wn_cV yX5_goingFromHere cX5_goingFromHere 5 (some .long) RX5 0 := ⟨wm_311, wm_319, wm_320, wm_265, by decide +kernel⟩
abbrev rm_X5_goingFromHere : Room := rmz 3 61
set_option maxHeartbeats 4000000 in
set_option maxRecDepth 100000 in
theorem c_X5_goingFromHere {ad : Nat → Nat} {o : Nat} {M : Mm} {q : Int64 × Mm} (ho : shp o = 5) (hF : f_X5_goingFromHere o M = some q) : KL ad yX5_goingFromHere cX5_goingFromHere 5 (some .long) rm_X5_goingFromHere [.ref (ad o)] M q.1 q.2 := by
  refine wn_enterL (own := RX5) (by decide) rfl (Nat.le_of_ble_eq_true rfl) (fun X ls Z hQ hl => ?_)
  have hl : lv_has ls 5 [(0, .ref (ad o))] := hl
  have L4 : ∀ (n4 : Nat) (v1 : Int64) (v3 : Int32) (M : Mm) (ls : Array Slot), lv_has ls 5 [(0, .ref (ad o)), (1, .long v1), (3, .int v3)] → f_X5_goingFromHere_b4 o n4 v1 v3 M = some q → G ad X M 4 ls [] := by
    intro n4
    induction n4 with
    | zero =>
      intro v1 v3 M ls hl hF
      cases hF
    | succ n4 ih4 =>
      have L12 : ∀ (n12 : Nat) (v1 : Int64) (v3 : Int32) (v4 : Int32) (M : Mm) (ls : Array Slot), lv_has ls 5 [(0, .ref (ad o)), (1, .long v1), (3, .int v3), (4, .int v4)] → f_X5_goingFromHere_b12 (f_X5_goingFromHere_b4 o n4) o n12 v1 v3 v4 M = some q → G ad X M 12 ls [] := by
        intro n12
        induction n12 with
        | zero =>
          intro v1 v3 v4 M ls hl hF
          cases hF
        | succ n12 ih12 =>
          intro v1 v3 v4 M ls hl hF
          replace hF : f_X5_goingFromHere_b12B (f_X5_goingFromHere_b4 o n4) (f_X5_goingFromHere_b12 (f_X5_goingFromHere_b4 o n4) o n12) o v1 v3 v4 M = some q := hF
          unfold f_X5_goingFromHere_b12B at hF
          refine r_iload Z dX5_goingFromHere_12 (lv_at hl 3 rfl) ?_
          refine r_iconst (v := 4) Z dX5_goingFromHere_14 (by decide) ?_
          refine r_icmp_ge Z 43 dX5_goingFromHere_15 (by decide) (fun hc1 => ?_) (fun hc1 => ?_)
          · replace hF := if_some hc1 hF
            obtain ⟨t2, et2, hF⟩ := nm_some hF
            refine r_iinc (j := 2) Z t2 [(3, .int t2), (0, .ref (ad o)), (1, .long v1), (4, .int v4)] dX5_goingFromHere_43 hl rfl (by rw [et2]; rfl) (by decide) rfl (fun ls hl => ?_)
            refine r_goto Z 4 dX5_goingFromHere_46 (by decide) ?_
            exact ih4 v1 t2 M ls (lv_sub hl [1, 2, 0] rfl) hF
          · replace hF := nif_some hc1 hF
            refine r_lload_n Z dX5_goingFromHere_18 rfl (lv_at hl 1 rfl) ?_
            refine r_aload_n Z dX5_goingFromHere_19 rfl (lv_at hl 0 rfl) ?_
            refine r_iload_n Z dX5_goingFromHere_20 rfl (lv_at hl 2 rfl) ?_
            obtain ⟨q3, hq3, hF⟩ := bd_some hF
            refine r_invVl [.long v1] Z (c_X5_served ho hq3) cv_X5_served rfl (shp_lt ho (by decide)) (fun _ _ => ⟨_, ce_5 ho⟩) wm_304 rfl rfl ⟨Nat.le_of_ble_eq_true rfl, Nat.le_of_ble_eq_true rfl⟩ rfl hl.1 rfl (Nat.le_of_ble_eq_true rfl) dX5_goingFromHere_21 ?_
            refine r_aload_n Z dX5_goingFromHere_24 rfl (lv_at hl 0 rfl) ?_
            refine g_5_5 Z ho wm_242 dX5_goingFromHere_25 ?_
            refine r_iload_n Z dX5_goingFromHere_28 rfl (lv_at hl 2 rfl) ?_
            obtain ⟨hi4, hF⟩ := ck_some hF
            refine r_aald17 Z (sh_5_5 ho) hi4 dX5_goingFromHere_29 ?_
            refine r_iload Z dX5_goingFromHere_30 (lv_at hl 3 rfl) ?_
            obtain ⟨hi5, hF⟩ := ck_some hF
            refine r_iaload Z (shp_lt (se_17 (sh_5_5 ho) hi4) (by decide)) (fun _ _ => ce_104 (se_17 (sh_5_5 ho) hi4)) hi5 dX5_goingFromHere_32 ?_
            refine r_i2l Z dX5_goingFromHere_33 ?_
            refine r_lmul Z dX5_goingFromHere_34 ?_
            refine r_ladd Z dX5_goingFromHere_35 ?_
            obtain ⟨t6, et6, hF⟩ := nm_some hF
            rw [← et6]
            refine r_lstore_n Z [(1, .long t6), (0, .ref (ad o)), (3, .int v3), (4, .int v4)] dX5_goingFromHere_36 rfl hl (by decide) rfl (fun ls hl => ?_)
            obtain ⟨t7, et7, hF⟩ := nm_some hF
            refine r_iinc (j := 3) Z t7 [(4, .int t7), (1, .long t6), (0, .ref (ad o)), (3, .int v3)] dX5_goingFromHere_37 hl rfl (by rw [et7]; rfl) (by decide) rfl (fun ls hl => ?_)
            refine r_goto Z 12 dX5_goingFromHere_40 (by decide) ?_
            exact ih12 t6 v3 t7 q3.2 ls (lv_sub hl [2, 1, 3, 0] rfl) hF
      intro v1 v3 M ls hl hF
      replace hF : f_X5_goingFromHere_b4B (f_X5_goingFromHere_b4 o n4) o v1 v3 M = some q := hF
      unfold f_X5_goingFromHere_b4B at hF
      refine r_iload_n Z dX5_goingFromHere_4 rfl (lv_at hl 2 rfl) ?_
      refine r_iconst (v := 4) Z dX5_goingFromHere_5 (by decide) ?_
      refine r_icmp_ge Z 49 dX5_goingFromHere_6 (by decide) (fun hc8 => ?_) (fun hc8 => ?_)
      · replace hF := if_some hc8 hF
        refine r_lload_n Z dX5_goingFromHere_49 rfl (lv_at hl 1 rfl) ?_
        refine r_aload_n Z dX5_goingFromHere_50 rfl (lv_at hl 0 rfl) ?_
        obtain ⟨q9, hq9, hF⟩ := bd_some hF
        refine r_invVl [.long v1] Z (c_X5_weight ho hq9) cv_X5_weight rfl (shp_lt ho (by decide)) (fun _ _ => ⟨_, ce_5 ho⟩) wm_269 rfl rfl ⟨Nat.le_of_ble_eq_true rfl, Nat.le_of_ble_eq_true rfl⟩ rfl hl.1 rfl (Nat.le_of_ble_eq_true rfl) dX5_goingFromHere_51 ?_
        refine r_lmul Z dX5_goingFromHere_54 ?_
        exact r_lret Z hQ hF dX5_goingFromHere_55
      · replace hF := nif_some hc8 hF
        refine r_iconst (v := 0) Z dX5_goingFromHere_9 (by decide) ?_
        refine r_istore Z [(4, .int 0), (0, .ref (ad o)), (1, .long v1), (3, .int v3)] dX5_goingFromHere_10 hl (by decide) rfl (fun ls hl => ?_)
        exact L12 _ v1 v3 0 M ls (lv_sub hl [1, 2, 3, 0] rfl) hF
  unfold f_X5_goingFromHere at hF
  refine r_lconst (v := 0) Z dX5_goingFromHere_0 (by decide) ?_
  refine r_lstore_n Z [(1, .long 0), (0, .ref (ad o))] dX5_goingFromHere_1 rfl hl (by decide) rfl (fun ls hl => ?_)
  refine r_iconst (v := 0) Z dX5_goingFromHere_2 (by decide) ?_
  refine r_istore_n Z [(3, .int 0), (1, .long 0), (0, .ref (ad o))] dX5_goingFromHere_3 rfl hl (by decide) rfl (fun ls hl => ?_)
  exact L4 _ 0 0 M ls (lv_sub hl [2, 1, 0] rfl) hF
theorem dX5_nextState_0 : decode cX5_nextState 0 = .ok (.iconst 3, 1) := by decide +kernel
theorem dX5_nextState_1 : decode cX5_nextState 1 = .ok (.istore_n 1, 1) := by decide +kernel
theorem dX5_nextState_2 : decode cX5_nextState 2 = .ok (.iload_n 1, 1) := by decide +kernel
theorem dX5_nextState_3 : decode cX5_nextState 3 = .ok (.iconst 1, 1) := by decide +kernel
theorem dX5_nextState_4 : decode cX5_nextState 4 = .ok (.isub, 1) := by decide +kernel
theorem dX5_nextState_5 : decode cX5_nextState 5 = .ok (.istore_n 2, 1) := by decide +kernel
theorem dX5_nextState_6 : decode cX5_nextState 6 = .ok (.iload_n 2, 1) := by decide +kernel
theorem dX5_nextState_7 : decode cX5_nextState 7 = .ok (.ifCond .lt 55, 3) := by decide +kernel
theorem dX5_nextState_10 : decode cX5_nextState 10 = .ok (.aload_n 0, 1) := by decide +kernel
theorem dX5_nextState_11 : decode cX5_nextState 11 = .ok (.getfield 33, 3) := by decide +kernel
theorem dX5_nextState_14 : decode cX5_nextState 14 = .ok (.iload_n 2, 1) := by decide +kernel
theorem dX5_nextState_15 : decode cX5_nextState 15 = .ok (.iaload, 1) := by decide +kernel
theorem dX5_nextState_16 : decode cX5_nextState 16 = .ok (.ifCond .le 40, 3) := by decide +kernel
theorem dX5_nextState_19 : decode cX5_nextState 19 = .ok (.aload_n 0, 1) := by decide +kernel
theorem dX5_nextState_20 : decode cX5_nextState 20 = .ok (.getfield 33, 3) := by decide +kernel
theorem dX5_nextState_23 : decode cX5_nextState 23 = .ok (.iload_n 1, 1) := by decide +kernel
theorem dX5_nextState_24 : decode cX5_nextState 24 = .ok (.iaload, 1) := by decide +kernel
theorem dX5_nextState_25 : decode cX5_nextState 25 = .ok (.iconst 1, 1) := by decide +kernel
theorem dX5_nextState_26 : decode cX5_nextState 26 = .ok (.iadd, 1) := by decide +kernel
theorem dX5_nextState_27 : decode cX5_nextState 27 = .ok (.istore_n 3, 1) := by decide +kernel
theorem dX5_nextState_28 : decode cX5_nextState 28 = .ok (.aload_n 0, 1) := by decide +kernel
theorem dX5_nextState_29 : decode cX5_nextState 29 = .ok (.getfield 33, 3) := by decide +kernel
theorem dX5_nextState_32 : decode cX5_nextState 32 = .ok (.iload_n 1, 1) := by decide +kernel
theorem dX5_nextState_33 : decode cX5_nextState 33 = .ok (.iconst 0, 1) := by decide +kernel
theorem dX5_nextState_34 : decode cX5_nextState 34 = .ok (.iastore, 1) := by decide +kernel
theorem dX5_nextState_35 : decode cX5_nextState 35 = .ok (.aload_n 0, 1) := by decide +kernel
theorem dX5_nextState_36 : decode cX5_nextState 36 = .ok (.getfield 33, 3) := by decide +kernel
theorem dX5_nextState_39 : decode cX5_nextState 39 = .ok (.iload_n 2, 1) := by decide +kernel
theorem dX5_nextState_40 : decode cX5_nextState 40 = .ok (.dup2, 1) := by decide +kernel
theorem dX5_nextState_41 : decode cX5_nextState 41 = .ok (.iaload, 1) := by decide +kernel
theorem dX5_nextState_42 : decode cX5_nextState 42 = .ok (.iconst 1, 1) := by decide +kernel
theorem dX5_nextState_43 : decode cX5_nextState 43 = .ok (.isub, 1) := by decide +kernel
theorem dX5_nextState_44 : decode cX5_nextState 44 = .ok (.iastore, 1) := by decide +kernel
theorem dX5_nextState_45 : decode cX5_nextState 45 = .ok (.aload_n 0, 1) := by decide +kernel
theorem dX5_nextState_46 : decode cX5_nextState 46 = .ok (.getfield 33, 3) := by decide +kernel
theorem dX5_nextState_49 : decode cX5_nextState 49 = .ok (.iload_n 2, 1) := by decide +kernel
theorem dX5_nextState_50 : decode cX5_nextState 50 = .ok (.iconst 1, 1) := by decide +kernel
theorem dX5_nextState_51 : decode cX5_nextState 51 = .ok (.iadd, 1) := by decide +kernel
theorem dX5_nextState_52 : decode cX5_nextState 52 = .ok (.iload_n 3, 1) := by decide +kernel
theorem dX5_nextState_53 : decode cX5_nextState 53 = .ok (.iastore, 1) := by decide +kernel
theorem dX5_nextState_54 : decode cX5_nextState 54 = .ok (.iconst 1, 1) := by decide +kernel
theorem dX5_nextState_55 : decode cX5_nextState 55 = .ok (.ireturn, 1) := by decide +kernel
theorem dX5_nextState_56 : decode cX5_nextState 56 = .ok (.iinc 2 (-1), 3) := by decide +kernel
theorem dX5_nextState_59 : decode cX5_nextState 59 = .ok (.goto (-53), 3) := by decide +kernel
theorem dX5_nextState_62 : decode cX5_nextState 62 = .ok (.iconst 0, 1) := by decide +kernel
theorem dX5_nextState_63 : decode cX5_nextState 63 = .ok (.ireturn, 1) := by decide +kernel
theorem cv_X5_nextState : wn_cV yX5_nextState cX5_nextState 4 (some .boolean) RX5 0 := ⟨wm_257, wm_273, wm_274, wm_265, by decide +kernel⟩
abbrev rm_X5_nextState : Room := rmz 0 0
set_option maxHeartbeats 4000000 in
set_option maxRecDepth 100000 in
theorem c_X5_nextState {ad : Nat → Nat} {o : Nat} {M : Mm} {q : Int32 × Mm} (ho : shp o = 5) (hF : f_X5_nextState o M = some q) : KI ad yX5_nextState cX5_nextState 4 (some .boolean) rm_X5_nextState [.ref (ad o)] M q.1 q.2 := by
  refine wn_enterI (own := RX5) (by decide) rfl (Nat.le_of_ble_eq_true rfl) (fun X ls Z hQ hl => ?_)
  have hl : lv_has ls 4 [(0, .ref (ad o))] := hl
  have L6 : ∀ (n6 : Nat) (v1 : Int32) (v2 : Int32) (M : Mm) (ls : Array Slot), lv_has ls 4 [(0, .ref (ad o)), (1, .int v1), (2, .int v2)] → f_X5_nextState_b6 o n6 v1 v2 M = some q → G ad X M 6 ls [] := by
    intro n6
    induction n6 with
    | zero =>
      intro v1 v2 M ls hl hF
      cases hF
    | succ n6 ih6 =>
      intro v1 v2 M ls hl hF
      replace hF : f_X5_nextState_b6B (f_X5_nextState_b6 o n6) o v1 v2 M = some q := hF
      unfold f_X5_nextState_b6B at hF
      refine r_iload_n Z dX5_nextState_6 rfl (lv_at hl 2 rfl) ?_
      refine r_if_lt Z 62 dX5_nextState_7 (by decide) (fun hc1 => ?_) (fun hc1 => ?_)
      · replace hF := if_some hc1 hF
        refine r_iconst (v := 0) Z dX5_nextState_62 (by decide) ?_
        exact r_zret Z hQ (by decide) hF dX5_nextState_63
      · replace hF := nif_some hc1 hF
        refine r_aload_n Z dX5_nextState_10 rfl (lv_at hl 0 rfl) ?_
        refine g_5_6 Z ho wm_243 dX5_nextState_11 ?_
        refine r_iload_n Z dX5_nextState_14 rfl (lv_at hl 2 rfl) ?_
        obtain ⟨hi2, hF⟩ := ck_some hF
        refine r_iaload Z (shp_lt (sh_5_6 ho) (by decide)) (fun _ _ => ce_104 (sh_5_6 ho)) hi2 dX5_nextState_15 ?_
        refine r_if_le Z 56 dX5_nextState_16 (by decide) (fun hc3 => ?_) (fun hc3 => ?_)
        · replace hF := if_some hc3 hF
          obtain ⟨t4, et4, hF⟩ := nm_some hF
          refine r_iinc (j := 2) Z t4 [(2, .int t4), (0, .ref (ad o)), (1, .int v1)] dX5_nextState_56 hl rfl (by rw [et4]; rfl) (by decide) rfl (fun ls hl => ?_)
          refine r_goto Z 6 dX5_nextState_59 (by decide) ?_
          exact ih6 v1 t4 M ls (lv_sub hl [1, 2, 0] rfl) hF
        · replace hF := nif_some hc3 hF
          refine r_aload_n Z dX5_nextState_19 rfl (lv_at hl 0 rfl) ?_
          refine g_5_6 Z ho wm_243 dX5_nextState_20 ?_
          refine r_iload_n Z dX5_nextState_23 rfl (lv_at hl 1 rfl) ?_
          obtain ⟨hi5, hF⟩ := ck_some hF
          refine r_iaload Z (shp_lt (sh_5_6 ho) (by decide)) (fun _ _ => ce_104 (sh_5_6 ho)) hi5 dX5_nextState_24 ?_
          refine r_iconst (v := 1) Z dX5_nextState_25 (by decide) ?_
          refine r_iadd Z dX5_nextState_26 ?_
          obtain ⟨t6, et6, hF⟩ := nm_some hF
          rw [← et6]
          refine r_istore_n Z [(3, .int t6), (0, .ref (ad o)), (1, .int v1), (2, .int v2)] dX5_nextState_27 rfl hl (by decide) rfl (fun ls hl => ?_)
          refine r_aload_n Z dX5_nextState_28 rfl (lv_at hl 1 rfl) ?_
          refine g_5_6 Z ho wm_243 dX5_nextState_29 ?_
          refine r_iload_n Z dX5_nextState_32 rfl (lv_at hl 2 rfl) ?_
          refine r_iconst (v := 0) Z dX5_nextState_33 (by decide) ?_
          obtain ⟨hi7, hF⟩ := ck_some hF
          obtain ⟨M8, eM8, hF⟩ := nm_some hF
          refine r_iastore Z (shp_lt (sh_5_6 ho) (by decide)) (fun _ _ => ce_104 (sh_5_6 ho)) hi7 dX5_nextState_34 ?_
          rw [← eM8]
          refine r_aload_n Z dX5_nextState_35 rfl (lv_at hl 1 rfl) ?_
          refine g_5_6 Z ho wm_243 dX5_nextState_36 ?_
          refine r_iload_n Z dX5_nextState_39 rfl (lv_at hl 3 rfl) ?_
          refine r_dup2 Z dX5_nextState_40 rfl rfl ?_
          obtain ⟨hi9, hF⟩ := ck_some hF
          refine r_iaload Z (shp_lt (sh_5_6 ho) (by decide)) (fun _ _ => ce_104 (sh_5_6 ho)) hi9 dX5_nextState_41 ?_
          refine r_iconst (v := 1) Z dX5_nextState_42 (by decide) ?_
          refine r_isub Z dX5_nextState_43 ?_
          obtain ⟨hi10, hF⟩ := ck_some hF
          obtain ⟨M11, eM11, hF⟩ := nm_some hF
          refine r_iastore Z (shp_lt (sh_5_6 ho) (by decide)) (fun _ _ => ce_104 (sh_5_6 ho)) hi10 dX5_nextState_44 ?_
          rw [← eM11]
          refine r_aload_n Z dX5_nextState_45 rfl (lv_at hl 1 rfl) ?_
          refine g_5_6 Z ho wm_243 dX5_nextState_46 ?_
          refine r_iload_n Z dX5_nextState_49 rfl (lv_at hl 3 rfl) ?_
          refine r_iconst (v := 1) Z dX5_nextState_50 (by decide) ?_
          refine r_iadd Z dX5_nextState_51 ?_
          refine r_iload_n Z dX5_nextState_52 rfl (lv_at hl 0 rfl) ?_
          obtain ⟨hi12, hF⟩ := ck_some hF
          obtain ⟨M13, eM13, hF⟩ := nm_some hF
          refine r_iastore Z (shp_lt (sh_5_6 ho) (by decide)) (fun _ _ => ce_104 (sh_5_6 ho)) hi12 dX5_nextState_53 ?_
          rw [← eM13]
          refine r_iconst (v := 1) Z dX5_nextState_54 (by decide) ?_
          exact r_zret Z hQ (by decide) hF dX5_nextState_55
  unfold f_X5_nextState at hF
  refine r_iconst (v := 3) Z dX5_nextState_0 (by decide) ?_
  refine r_istore_n Z [(1, .int 3), (0, .ref (ad o))] dX5_nextState_1 rfl hl (by decide) rfl (fun ls hl => ?_)
  refine r_iload_n Z dX5_nextState_2 rfl (lv_at hl 0 rfl) ?_
  refine r_iconst (v := 1) Z dX5_nextState_3 (by decide) ?_
  refine r_isub Z dX5_nextState_4 ?_
  obtain ⟨t14, et14, hF⟩ := nm_some hF
  rw [← et14]
  refine r_istore_n Z [(2, .int t14), (1, .int 3), (0, .ref (ad o))] dX5_nextState_5 rfl hl (by decide) rfl (fun ls hl => ?_)
  exact L6 _ 3 t14 M ls (lv_sub hl [2, 1, 0] rfl) hF
theorem dX5_balanced_0 : decode cX5_balanced 0 = .ok (.iconst 0, 1) := by decide +kernel
theorem dX5_balanced_1 : decode cX5_balanced 1 = .ok (.istore_n 2, 1) := by decide +kernel
theorem dX5_balanced_2 : decode cX5_balanced 2 = .ok (.aload_n 0, 1) := by decide +kernel
theorem dX5_balanced_3 : decode cX5_balanced 3 = .ok (.iload_n 1, 1) := by decide +kernel
theorem dX5_balanced_4 : decode cX5_balanced 4 = .ok (.invokevirtual 92, 3) := by decide +kernel
theorem dX5_balanced_7 : decode cX5_balanced 7 = .ok (.iconst 1, 1) := by decide +kernel
theorem dX5_balanced_8 : decode cX5_balanced 8 = .ok (.istore_n 3, 1) := by decide +kernel
theorem dX5_balanced_9 : decode cX5_balanced 9 = .ok (.iconst 0, 1) := by decide +kernel
theorem dX5_balanced_10 : decode cX5_balanced 10 = .ok (.istore 4, 2) := by decide +kernel
theorem dX5_balanced_12 : decode cX5_balanced 12 = .ok (.iload_n 3, 1) := by decide +kernel
theorem dX5_balanced_13 : decode cX5_balanced 13 = .ok (.ifCond .eq 43, 3) := by decide +kernel
theorem dX5_balanced_16 : decode cX5_balanced 16 = .ok (.iload 4, 2) := by decide +kernel
theorem dX5_balanced_18 : decode cX5_balanced 18 = .ok (.bipush 35, 2) := by decide +kernel
theorem dX5_balanced_20 : decode cX5_balanced 20 = .ok (.if_icmp .ge 36, 3) := by decide +kernel
theorem dX5_balanced_23 : decode cX5_balanced 23 = .ok (.aload_n 0, 1) := by decide +kernel
theorem dX5_balanced_24 : decode cX5_balanced 24 = .ok (.invokevirtual 133, 3) := by decide +kernel
theorem dX5_balanced_27 : decode cX5_balanced 27 = .ok (.ifCond .eq 18, 3) := by decide +kernel
theorem dX5_balanced_30 : decode cX5_balanced 30 = .ok (.aload_n 0, 1) := by decide +kernel
theorem dX5_balanced_31 : decode cX5_balanced 31 = .ok (.invokevirtual 136, 3) := by decide +kernel
theorem dX5_balanced_34 : decode cX5_balanced 34 = .ok (.aload_n 0, 1) := by decide +kernel
theorem dX5_balanced_35 : decode cX5_balanced 35 = .ok (.invokevirtual 139, 3) := by decide +kernel
theorem dX5_balanced_38 : decode cX5_balanced 38 = .ok (.lcmp, 1) := by decide +kernel
theorem dX5_balanced_39 : decode cX5_balanced 39 = .ok (.ifCond .ne 6, 3) := by decide +kernel
theorem dX5_balanced_42 : decode cX5_balanced 42 = .ok (.iinc 2 1, 3) := by decide +kernel
theorem dX5_balanced_45 : decode cX5_balanced 45 = .ok (.aload_n 0, 1) := by decide +kernel
theorem dX5_balanced_46 : decode cX5_balanced 46 = .ok (.invokevirtual 100, 3) := by decide +kernel
theorem dX5_balanced_49 : decode cX5_balanced 49 = .ok (.istore_n 3, 1) := by decide +kernel
theorem dX5_balanced_50 : decode cX5_balanced 50 = .ok (.iinc 4 1, 3) := by decide +kernel
theorem dX5_balanced_53 : decode cX5_balanced 53 = .ok (.goto (-41), 3) := by decide +kernel
theorem dX5_balanced_56 : decode cX5_balanced 56 = .ok (.iload_n 2, 1) := by decide +kernel
theorem dX5_balanced_57 : decode cX5_balanced 57 = .ok (.ireturn, 1) := by decide +kernel
theorem cv_X5_balanced : wn_cV yX5_balanced cX5_balanced 5 (some .int) RX5 1 := ⟨wm_321, wm_516, wm_517, wm_265, by decide +kernel⟩
abbrev rm_X5_balanced : Room := rmz 5 108
set_option maxHeartbeats 4000000 in
set_option maxRecDepth 100000 in
theorem c_X5_balanced {ad : Nat → Nat} {o : Nat} {x1 : Int32} {M : Mm} {q : Int32 × Mm} (ho : shp o = 5) (hF : f_X5_balanced o x1 M = some q) : KI ad yX5_balanced cX5_balanced 5 (some .int) rm_X5_balanced [.ref (ad o), .int x1] M q.1 q.2 := by
  refine wn_enterI (own := RX5) (by decide) rfl (Nat.le_of_ble_eq_true rfl) (fun X ls Z hQ hl => ?_)
  have hl : lv_has ls 5 [(0, .ref (ad o)), (1, .int x1)] := hl
  have L12 : ∀ (n12 : Nat) (v2 : Int32) (v3 : Int32) (v4 : Int32) (M : Mm) (ls : Array Slot), lv_has ls 5 [(0, .ref (ad o)), (2, .int v2), (3, .int v3), (4, .int v4)] → f_X5_balanced_b12 o n12 v2 v3 v4 M = some q → G ad X M 12 ls [] := by
    intro n12
    induction n12 with
    | zero =>
      intro v2 v3 v4 M ls hl hF
      cases hF
    | succ n12 ih12 =>
      have L45 : ∀ (v2 : Int32) (v4 : Int32) (M : Mm) (ls : Array Slot), lv_has ls 5 [(0, .ref (ad o)), (2, .int v2), (4, .int v4)] → f_X5_balanced_b45 (f_X5_balanced_b12 o n12) o v2 v4 M = some q → G ad X M 45 ls [] := by
        intro v2 v4 M ls hl hF
        unfold f_X5_balanced_b45 at hF
        refine r_aload_n Z dX5_balanced_45 rfl (lv_at hl 0 rfl) ?_
        obtain ⟨q1, hq1, hF⟩ := bd_some hF
        refine r_invVi [] Z (c_X5_nextState ho hq1) cv_X5_nextState rfl (shp_lt ho (by decide)) (fun _ _ => ⟨_, ce_5 ho⟩) wm_272 rfl rfl ⟨Nat.le_of_ble_eq_true rfl, Nat.le_of_ble_eq_true rfl⟩ rfl hl.1 rfl (Nat.le_of_ble_eq_true rfl) dX5_balanced_46 ?_
        refine r_istore_n Z [(3, .int q1.1), (0, .ref (ad o)), (2, .int v2), (4, .int v4)] dX5_balanced_49 rfl hl (by decide) rfl (fun ls hl => ?_)
        obtain ⟨t2, et2, hF⟩ := nm_some hF
        refine r_iinc (j := 3) Z t2 [(4, .int t2), (3, .int q1.1), (0, .ref (ad o)), (2, .int v2)] dX5_balanced_50 hl rfl (by rw [et2]; rfl) (by decide) rfl (fun ls hl => ?_)
        refine r_goto Z 12 dX5_balanced_53 (by decide) ?_
        exact ih12 v2 q1.1 t2 q1.2 ls (lv_sub hl [2, 3, 1, 0] rfl) hF
      intro v2 v3 v4 M ls hl hF
      replace hF : f_X5_balanced_b12B (f_X5_balanced_b12 o n12) o v2 v3 v4 M = some q := hF
      unfold f_X5_balanced_b12B at hF
      refine r_iload_n Z dX5_balanced_12 rfl (lv_at hl 2 rfl) ?_
      refine r_if_eq Z 56 dX5_balanced_13 (by decide) (fun hc3 => ?_) (fun hc3 => ?_)
      · replace hF := if_some hc3 hF
        refine r_iload_n Z dX5_balanced_56 rfl (lv_at hl 1 rfl) ?_
        exact r_iret Z hQ hF dX5_balanced_57
      · replace hF := nif_some hc3 hF
        refine r_iload Z dX5_balanced_16 (lv_at hl 3 rfl) ?_
        refine r_bipush (v := 35) Z dX5_balanced_18 (by decide) ?_
        refine r_icmp_ge Z 56 dX5_balanced_20 (by decide) (fun hc4 => ?_) (fun hc4 => ?_)
        · replace hF := if_some hc4 hF
          refine r_iload_n Z dX5_balanced_56 rfl (lv_at hl 1 rfl) ?_
          exact r_iret Z hQ hF dX5_balanced_57
        · replace hF := nif_some hc4 hF
          refine r_aload_n Z dX5_balanced_23 rfl (lv_at hl 0 rfl) ?_
          obtain ⟨q5, hq5, hF⟩ := bd_some hF
          refine r_invVi [] Z (c_X5_isState ho hq5) cv_X5_isState rfl (shp_lt ho (by decide)) (fun _ _ => ⟨_, ce_5 ho⟩) wm_312 rfl rfl ⟨Nat.le_of_ble_eq_true rfl, Nat.le_of_ble_eq_true rfl⟩ rfl hl.1 rfl (Nat.le_of_ble_eq_true rfl) dX5_balanced_24 ?_
          refine r_if_eq Z 45 dX5_balanced_27 (by decide) (fun hc6 => ?_) (fun hc6 => ?_)
          · replace hF := if_some hc6 hF
            exact L45 v2 v4 q5.2 ls (lv_sub hl [0, 1, 3] rfl) hF
          · replace hF := nif_some hc6 hF
            refine r_aload_n Z dX5_balanced_30 rfl (lv_at hl 0 rfl) ?_
            obtain ⟨q7, hq7, hF⟩ := bd_some hF
            refine r_invVl [] Z (c_X5_comingHere ho hq7) cv_X5_comingHere rfl (shp_lt ho (by decide)) (fun _ _ => ⟨_, ce_5 ho⟩) wm_315 rfl rfl ⟨Nat.le_of_ble_eq_true rfl, Nat.le_of_ble_eq_true rfl⟩ rfl hl.1 rfl (Nat.le_of_ble_eq_true rfl) dX5_balanced_31 ?_
            refine r_aload_n Z dX5_balanced_34 rfl (lv_at hl 0 rfl) ?_
            obtain ⟨q8, hq8, hF⟩ := bd_some hF
            refine r_invVl [.long q7.1] Z (c_X5_goingFromHere ho hq8) cv_X5_goingFromHere rfl (shp_lt ho (by decide)) (fun _ _ => ⟨_, ce_5 ho⟩) wm_318 rfl rfl ⟨Nat.le_of_ble_eq_true rfl, Nat.le_of_ble_eq_true rfl⟩ rfl hl.1 rfl (Nat.le_of_ble_eq_true rfl) dX5_balanced_35 ?_
            refine r_lcmp Z dX5_balanced_38 ?_
            refine r_if_ne Z 45 dX5_balanced_39 (by decide) (fun hc9 => ?_) (fun hc9 => ?_)
            · replace hF := nif_some hc9 hF
              exact L45 v2 v4 q8.2 ls (lv_sub hl [0, 1, 3] rfl) hF
            · replace hF := if_some hc9 hF
              obtain ⟨t10, et10, hF⟩ := nm_some hF
              refine r_iinc (j := 1) Z t10 [(2, .int t10), (0, .ref (ad o)), (3, .int v3), (4, .int v4)] dX5_balanced_42 hl rfl (by rw [et10]; rfl) (by decide) rfl (fun ls hl => ?_)
              exact L45 t10 v4 q8.2 ls (lv_sub hl [1, 0, 3] rfl) hF
  unfold f_X5_balanced at hF
  refine r_iconst (v := 0) Z dX5_balanced_0 (by decide) ?_
  refine r_istore_n Z [(2, .int 0), (0, .ref (ad o)), (1, .int x1)] dX5_balanced_1 rfl hl (by decide) rfl (fun ls hl => ?_)
  refine r_aload_n Z dX5_balanced_2 rfl (lv_at hl 1 rfl) ?_
  refine r_iload_n Z dX5_balanced_3 rfl (lv_at hl 2 rfl) ?_
  obtain ⟨M11, hM11, hF⟩ := bd_some hF
  refine r_invVv [] Z (c_X5_beginStates ho hM11) cv_X5_beginStates rfl (shp_lt ho (by decide)) (fun _ _ => ⟨_, ce_5 ho⟩) wm_266 rfl rfl ⟨Nat.le_of_ble_eq_true rfl, Nat.le_of_ble_eq_true rfl⟩ rfl hl.1 rfl (Nat.le_of_ble_eq_true rfl) dX5_balanced_4 ?_
  refine r_iconst (v := 1) Z dX5_balanced_7 (by decide) ?_
  refine r_istore_n Z [(3, .int 1), (2, .int 0), (0, .ref (ad o)), (1, .int x1)] dX5_balanced_8 rfl hl (by decide) rfl (fun ls hl => ?_)
  refine r_iconst (v := 0) Z dX5_balanced_9 (by decide) ?_
  refine r_istore Z [(4, .int 0), (3, .int 1), (2, .int 0), (0, .ref (ad o)), (1, .int x1)] dX5_balanced_10 hl (by decide) rfl (fun ls hl => ?_)
  exact L12 _ 0 1 0 M11 ls (lv_sub hl [3, 2, 1, 0] rfl) hF
theorem dX5_firstThere_0 : decode cX5_firstThere 0 = .ok (.iconst 0, 1) := by decide +kernel
theorem dX5_firstThere_1 : decode cX5_firstThere 1 = .ok (.istore_n 1, 1) := by decide +kernel
theorem dX5_firstThere_2 : decode cX5_firstThere 2 = .ok (.iload_n 1, 1) := by decide +kernel
theorem dX5_firstThere_3 : decode cX5_firstThere 3 = .ok (.iconst 4, 1) := by decide +kernel
theorem dX5_firstThere_4 : decode cX5_firstThere 4 = .ok (.if_icmp .ge 21, 3) := by decide +kernel
theorem dX5_firstThere_7 : decode cX5_firstThere 7 = .ok (.aload_n 0, 1) := by decide +kernel
theorem dX5_firstThere_8 : decode cX5_firstThere 8 = .ok (.getfield 15, 3) := by decide +kernel
theorem dX5_firstThere_11 : decode cX5_firstThere 11 = .ok (.iload_n 1, 1) := by decide +kernel
theorem dX5_firstThere_12 : decode cX5_firstThere 12 = .ok (.iaload, 1) := by decide +kernel
theorem dX5_firstThere_13 : decode cX5_firstThere 13 = .ok (.iconst (-1), 1) := by decide +kernel
theorem dX5_firstThere_14 : decode cX5_firstThere 14 = .ok (.if_icmp .eq 5, 3) := by decide +kernel
theorem dX5_firstThere_17 : decode cX5_firstThere 17 = .ok (.iload_n 1, 1) := by decide +kernel
theorem dX5_firstThere_18 : decode cX5_firstThere 18 = .ok (.ireturn, 1) := by decide +kernel
theorem dX5_firstThere_19 : decode cX5_firstThere 19 = .ok (.iinc 1 1, 3) := by decide +kernel
theorem dX5_firstThere_22 : decode cX5_firstThere 22 = .ok (.goto (-20), 3) := by decide +kernel
theorem dX5_firstThere_25 : decode cX5_firstThere 25 = .ok (.iconst 0, 1) := by decide +kernel
theorem dX5_firstThere_26 : decode cX5_firstThere 26 = .ok (.ireturn, 1) := by decide +kernel
theorem cv_X5_firstThere : wn_cV yX5_firstThere cX5_firstThere 2 (some .int) RX5 0 := ⟨wm_294, wm_298, wm_299, wm_265, by decide +kernel⟩
abbrev rm_X5_firstThere : Room := rmz 0 0
set_option maxHeartbeats 4000000 in
set_option maxRecDepth 100000 in
theorem c_X5_firstThere {ad : Nat → Nat} {o : Nat} {M : Mm} {q : Int32 × Mm} (ho : shp o = 5) (hF : f_X5_firstThere o M = some q) : KI ad yX5_firstThere cX5_firstThere 2 (some .int) rm_X5_firstThere [.ref (ad o)] M q.1 q.2 := by
  refine wn_enterI (own := RX5) (by decide) rfl (Nat.le_of_ble_eq_true rfl) (fun X ls Z hQ hl => ?_)
  have hl : lv_has ls 2 [(0, .ref (ad o))] := hl
  have L2 : ∀ (n2 : Nat) (v1 : Int32) (M : Mm) (ls : Array Slot), lv_has ls 2 [(0, .ref (ad o)), (1, .int v1)] → f_X5_firstThere_b2 o n2 v1 M = some q → G ad X M 2 ls [] := by
    intro n2
    induction n2 with
    | zero =>
      intro v1 M ls hl hF
      cases hF
    | succ n2 ih2 =>
      intro v1 M ls hl hF
      replace hF : f_X5_firstThere_b2B (f_X5_firstThere_b2 o n2) o v1 M = some q := hF
      unfold f_X5_firstThere_b2B at hF
      refine r_iload_n Z dX5_firstThere_2 rfl (lv_at hl 1 rfl) ?_
      refine r_iconst (v := 4) Z dX5_firstThere_3 (by decide) ?_
      refine r_icmp_ge Z 25 dX5_firstThere_4 (by decide) (fun hc1 => ?_) (fun hc1 => ?_)
      · replace hF := if_some hc1 hF
        refine r_iconst (v := 0) Z dX5_firstThere_25 (by decide) ?_
        exact r_iret Z hQ hF dX5_firstThere_26
      · replace hF := nif_some hc1 hF
        refine r_aload_n Z dX5_firstThere_7 rfl (lv_at hl 0 rfl) ?_
        refine g_5_1 Z ho wm_237 dX5_firstThere_8 ?_
        refine r_iload_n Z dX5_firstThere_11 rfl (lv_at hl 1 rfl) ?_
        obtain ⟨hi2, hF⟩ := ck_some hF
        refine r_iaload Z (shp_lt (sh_5_1 ho) (by decide)) (fun _ _ => ce_104 (sh_5_1 ho)) hi2 dX5_firstThere_12 ?_
        refine r_iconst (v := (-1)) Z dX5_firstThere_13 (by decide) ?_
        refine r_icmp_eq Z 19 dX5_firstThere_14 (by decide) (fun hc3 => ?_) (fun hc3 => ?_)
        · replace hF := if_some hc3 hF
          obtain ⟨t4, et4, hF⟩ := nm_some hF
          refine r_iinc (j := 1) Z t4 [(1, .int t4), (0, .ref (ad o))] dX5_firstThere_19 hl rfl (by rw [et4]; rfl) (by decide) rfl (fun ls hl => ?_)
          refine r_goto Z 2 dX5_firstThere_22 (by decide) ?_
          exact ih2 t4 M ls (lv_sub hl [1, 0] rfl) hF
        · replace hF := nif_some hc3 hF
          refine r_iload_n Z dX5_firstThere_17 rfl (lv_at hl 1 rfl) ?_
          exact r_iret Z hQ hF dX5_firstThere_18
  unfold f_X5_firstThere at hF
  refine r_iconst (v := 0) Z dX5_firstThere_0 (by decide) ?_
  refine r_istore_n Z [(1, .int 0), (0, .ref (ad o))] dX5_firstThere_1 rfl hl (by decide) rfl (fun ls hl => ?_)
  exact L2 _ 0 M ls (lv_sub hl [1, 0] rfl) hF
theorem dX5_load_0 : decode cX5_load 0 = .ok (.aload_n 1, 1) := by decide +kernel
theorem dX5_load_1 : decode cX5_load 1 = .ok (.invokevirtual 36, 3) := by decide +kernel
theorem dX5_load_4 : decode cX5_load 4 = .ok (.aload_n 1, 1) := by decide +kernel
theorem dX5_load_5 : decode cX5_load 5 = .ok (.invokevirtual 41, 3) := by decide +kernel
theorem dX5_load_8 : decode cX5_load 8 = .ok (.istore_n 2, 1) := by decide +kernel
theorem dX5_load_9 : decode cX5_load 9 = .ok (.lconst 0, 1) := by decide +kernel
theorem dX5_load_10 : decode cX5_load 10 = .ok (.lstore_n 3, 1) := by decide +kernel
theorem dX5_load_11 : decode cX5_load 11 = .ok (.iconst 0, 1) := by decide +kernel
theorem dX5_load_12 : decode cX5_load 12 = .ok (.istore 5, 2) := by decide +kernel
theorem dX5_load_14 : decode cX5_load 14 = .ok (.iload 5, 2) := by decide +kernel
theorem dX5_load_16 : decode cX5_load 16 = .ok (.iconst 4, 1) := by decide +kernel
theorem dX5_load_17 : decode cX5_load 17 = .ok (.if_icmp .ge 38, 3) := by decide +kernel
theorem dX5_load_20 : decode cX5_load 20 = .ok (.aload_n 0, 1) := by decide +kernel
theorem dX5_load_21 : decode cX5_load 21 = .ok (.getfield 9, 3) := by decide +kernel
theorem dX5_load_24 : decode cX5_load 24 = .ok (.iload 5, 2) := by decide +kernel
theorem dX5_load_26 : decode cX5_load 26 = .ok (.aload_n 1, 1) := by decide +kernel
theorem dX5_load_27 : decode cX5_load 27 = .ok (.getfield 45, 3) := by decide +kernel
theorem dX5_load_30 : decode cX5_load 30 = .ok (.iload 5, 2) := by decide +kernel
theorem dX5_load_32 : decode cX5_load 32 = .ok (.iload_n 2, 1) := by decide +kernel
theorem dX5_load_33 : decode cX5_load 33 = .ok (.invokevirtual 49, 3) := by decide +kernel
theorem dX5_load_36 : decode cX5_load 36 = .ok (.lastore, 1) := by decide +kernel
theorem dX5_load_37 : decode cX5_load 37 = .ok (.lload_n 3, 1) := by decide +kernel
theorem dX5_load_38 : decode cX5_load 38 = .ok (.aload_n 0, 1) := by decide +kernel
theorem dX5_load_39 : decode cX5_load 39 = .ok (.getfield 9, 3) := by decide +kernel
theorem dX5_load_42 : decode cX5_load 42 = .ok (.iload 5, 2) := by decide +kernel
theorem dX5_load_44 : decode cX5_load 44 = .ok (.laload, 1) := by decide +kernel
theorem dX5_load_45 : decode cX5_load 45 = .ok (.invokestatic 55, 3) := by decide +kernel
theorem dX5_load_48 : decode cX5_load 48 = .ok (.lstore_n 3, 1) := by decide +kernel
theorem dX5_load_49 : decode cX5_load 49 = .ok (.iinc 5 1, 3) := by decide +kernel
theorem dX5_load_52 : decode cX5_load 52 = .ok (.goto (-38), 3) := by decide +kernel
theorem dX5_load_55 : decode cX5_load 55 = .ok (.iconst 0, 1) := by decide +kernel
theorem dX5_load_56 : decode cX5_load 56 = .ok (.istore 5, 2) := by decide +kernel
theorem dX5_load_58 : decode cX5_load 58 = .ok (.iload 5, 2) := by decide +kernel
theorem dX5_load_60 : decode cX5_load 60 = .ok (.iconst 4, 1) := by decide +kernel
theorem dX5_load_61 : decode cX5_load 61 = .ok (.if_icmp .ge 134, 3) := by decide +kernel
theorem dX5_load_64 : decode cX5_load 64 = .ok (.aload_n 1, 1) := by decide +kernel
theorem dX5_load_65 : decode cX5_load 65 = .ok (.getfield 61, 3) := by decide +kernel
theorem dX5_load_68 : decode cX5_load 68 = .ok (.iload 5, 2) := by decide +kernel
theorem dX5_load_70 : decode cX5_load 70 = .ok (.aaload, 1) := by decide +kernel
theorem dX5_load_71 : decode cX5_load 71 = .ok (.astore 6, 2) := by decide +kernel
theorem dX5_load_73 : decode cX5_load 73 = .ok (.aload_n 0, 1) := by decide +kernel
theorem dX5_load_74 : decode cX5_load 74 = .ok (.getfield 9, 3) := by decide +kernel
theorem dX5_load_77 : decode cX5_load 77 = .ok (.iload 5, 2) := by decide +kernel
theorem dX5_load_79 : decode cX5_load 79 = .ok (.lload_n 3, 1) := by decide +kernel
theorem dX5_load_80 : decode cX5_load 80 = .ok (.lconst 0, 1) := by decide +kernel
theorem dX5_load_81 : decode cX5_load 81 = .ok (.lcmp, 1) := by decide +kernel
theorem dX5_load_82 : decode cX5_load 82 = .ok (.ifCond .le 15, 3) := by decide +kernel
theorem dX5_load_85 : decode cX5_load 85 = .ok (.aload_n 0, 1) := by decide +kernel
theorem dX5_load_86 : decode cX5_load 86 = .ok (.getfield 9, 3) := by decide +kernel
theorem dX5_load_89 : decode cX5_load 89 = .ok (.iload 5, 2) := by decide +kernel
theorem dX5_load_91 : decode cX5_load 91 = .ok (.laload, 1) := by decide +kernel
theorem dX5_load_92 : decode cX5_load 92 = .ok (.lload_n 3, 1) := by decide +kernel
theorem dX5_load_93 : decode cX5_load 93 = .ok (.ldiv, 1) := by decide +kernel
theorem dX5_load_94 : decode cX5_load 94 = .ok (.goto 4, 3) := by decide +kernel
theorem dX5_load_97 : decode cX5_load 97 = .ok (.lconst 0, 1) := by decide +kernel
theorem dX5_load_98 : decode cX5_load 98 = .ok (.lastore, 1) := by decide +kernel
theorem dX5_load_99 : decode cX5_load 99 = .ok (.aload_n 0, 1) := by decide +kernel
theorem dX5_load_100 : decode cX5_load 100 = .ok (.getfield 15, 3) := by decide +kernel
theorem dX5_load_103 : decode cX5_load 103 = .ok (.iload 5, 2) := by decide +kernel
theorem dX5_load_105 : decode cX5_load 105 = .ok (.aload 6, 2) := by decide +kernel
theorem dX5_load_107 : decode cX5_load 107 = .ok (.getfield 65, 3) := by decide +kernel
theorem dX5_load_110 : decode cX5_load 110 = .ok (.iastore, 1) := by decide +kernel
theorem dX5_load_111 : decode cX5_load 111 = .ok (.aload_n 0, 1) := by decide +kernel
theorem dX5_load_112 : decode cX5_load 112 = .ok (.getfield 19, 3) := by decide +kernel
theorem dX5_load_115 : decode cX5_load 115 = .ok (.iload 5, 2) := by decide +kernel
theorem dX5_load_117 : decode cX5_load 117 = .ok (.aload 6, 2) := by decide +kernel
theorem dX5_load_119 : decode cX5_load 119 = .ok (.getfield 71, 3) := by decide +kernel
theorem dX5_load_122 : decode cX5_load 122 = .ok (.iastore, 1) := by decide +kernel
theorem dX5_load_123 : decode cX5_load 123 = .ok (.aload_n 0, 1) := by decide +kernel
theorem dX5_load_124 : decode cX5_load 124 = .ok (.getfield 22, 3) := by decide +kernel
theorem dX5_load_127 : decode cX5_load 127 = .ok (.iload 5, 2) := by decide +kernel
theorem dX5_load_129 : decode cX5_load 129 = .ok (.aload 6, 2) := by decide +kernel
theorem dX5_load_131 : decode cX5_load 131 = .ok (.getfield 74, 3) := by decide +kernel
theorem dX5_load_134 : decode cX5_load 134 = .ok (.iastore, 1) := by decide +kernel
theorem dX5_load_135 : decode cX5_load 135 = .ok (.aload_n 0, 1) := by decide +kernel
theorem dX5_load_136 : decode cX5_load 136 = .ok (.getfield 25, 3) := by decide +kernel
theorem dX5_load_139 : decode cX5_load 139 = .ok (.iload 5, 2) := by decide +kernel
theorem dX5_load_141 : decode cX5_load 141 = .ok (.aload_n 0, 1) := by decide +kernel
theorem dX5_load_142 : decode cX5_load 142 = .ok (.getfield 9, 3) := by decide +kernel
theorem dX5_load_145 : decode cX5_load 145 = .ok (.iload 5, 2) := by decide +kernel
theorem dX5_load_147 : decode cX5_load 147 = .ok (.laload, 1) := by decide +kernel
theorem dX5_load_148 : decode cX5_load 148 = .ok (.aload 6, 2) := by decide +kernel
theorem dX5_load_150 : decode cX5_load 150 = .ok (.invokevirtual 76, 3) := by decide +kernel
theorem dX5_load_153 : decode cX5_load 153 = .ok (.i2l, 1) := by decide +kernel
theorem dX5_load_154 : decode cX5_load 154 = .ok (.lmul, 1) := by decide +kernel
theorem dX5_load_155 : decode cX5_load 155 = .ok (.lastore, 1) := by decide +kernel
theorem dX5_load_156 : decode cX5_load 156 = .ok (.iconst 0, 1) := by decide +kernel
theorem dX5_load_157 : decode cX5_load 157 = .ok (.istore 7, 2) := by decide +kernel
theorem dX5_load_159 : decode cX5_load 159 = .ok (.iload 7, 2) := by decide +kernel
theorem dX5_load_161 : decode cX5_load 161 = .ok (.iconst 4, 1) := by decide +kernel
theorem dX5_load_162 : decode cX5_load 162 = .ok (.if_icmp .ge 27, 3) := by decide +kernel
theorem dX5_load_165 : decode cX5_load 165 = .ok (.aload_n 0, 1) := by decide +kernel
theorem dX5_load_166 : decode cX5_load 166 = .ok (.getfield 30, 3) := by decide +kernel
theorem dX5_load_169 : decode cX5_load 169 = .ok (.iload 5, 2) := by decide +kernel
theorem dX5_load_171 : decode cX5_load 171 = .ok (.aaload, 1) := by decide +kernel
theorem dX5_load_172 : decode cX5_load 172 = .ok (.iload 7, 2) := by decide +kernel
theorem dX5_load_174 : decode cX5_load 174 = .ok (.aload 6, 2) := by decide +kernel
theorem dX5_load_176 : decode cX5_load 176 = .ok (.getfield 79, 3) := by decide +kernel
theorem dX5_load_179 : decode cX5_load 179 = .ok (.iload 7, 2) := by decide +kernel
theorem dX5_load_181 : decode cX5_load 181 = .ok (.iaload, 1) := by decide +kernel
theorem dX5_load_182 : decode cX5_load 182 = .ok (.iastore, 1) := by decide +kernel
theorem dX5_load_183 : decode cX5_load 183 = .ok (.iinc 7 1, 3) := by decide +kernel
theorem dX5_load_186 : decode cX5_load 186 = .ok (.goto (-27), 3) := by decide +kernel
theorem dX5_load_189 : decode cX5_load 189 = .ok (.iinc 5 1, 3) := by decide +kernel
theorem dX5_load_192 : decode cX5_load 192 = .ok (.goto (-134), 3) := by decide +kernel
theorem dX5_load_195 : decode cX5_load 195 = .ok (.return_, 1) := by decide +kernel
theorem cv_X5_load : wn_cV yX5_load cX5_load 8 none RX5 1 := ⟨wm_255, wm_486, wm_487, wm_265, by decide +kernel⟩
abbrev rm_X5_load : Room := rmz 3 79
set_option maxHeartbeats 4000000 in
set_option maxRecDepth 100000 in
theorem c_X5_load {ad : Nat → Nat} {o : Nat} {x1 : Nat} {M : Mm} {q : Mm} (ho : shp o = 5) (h1 : shp x1 = 4) (hF : f_X5_load o x1 M = some q) : KV ad yX5_load cX5_load 8 none rm_X5_load [.ref (ad o), .ref (ad x1)] M q := by
  refine wn_enterV (own := RX5) (by decide) rfl (Nat.le_of_ble_eq_true rfl) (fun X ls Z hQ hl => ?_)
  have hl : lv_has ls 8 [(0, .ref (ad o)), (1, .ref (ad x1))] := hl
  have L58 : ∀ (n58 : Nat) (v1 : Nat) (v3 : Int64) (v5 : Int32) (M : Mm) (ls : Array Slot), shp v1 = 4 → lv_has ls 8 [(0, .ref (ad o)), (1, .ref (ad v1)), (3, .long v3), (5, .int v5)] → f_X5_load_b58 o n58 v1 v3 v5 M = some q → G ad X M 58 ls [] := by
    intro n58
    induction n58 with
    | zero =>
      intro v1 v3 v5 M ls hv1 hl hF
      cases hF
    | succ n58 ih58 =>
      have L159 : ∀ (n159 : Nat) (v1 : Nat) (v3 : Int64) (v5 : Int32) (v6 : Nat) (v7 : Int32) (M : Mm) (ls : Array Slot), shp v1 = 4 → shp v6 = 1 → lv_has ls 8 [(0, .ref (ad o)), (1, .ref (ad v1)), (3, .long v3), (5, .int v5), (6, .ref (ad v6)), (7, .int v7)] → f_X5_load_b159 (f_X5_load_b58 o n58) o n159 v1 v3 v5 v6 v7 M = some q → G ad X M 159 ls [] := by
        intro n159
        induction n159 with
        | zero =>
          intro v1 v3 v5 v6 v7 M ls hv1 hv6 hl hF
          cases hF
        | succ n159 ih159 =>
          intro v1 v3 v5 v6 v7 M ls hv1 hv6 hl hF
          replace hF : f_X5_load_b159B (f_X5_load_b58 o n58) (f_X5_load_b159 (f_X5_load_b58 o n58) o n159) o v1 v3 v5 v6 v7 M = some q := hF
          unfold f_X5_load_b159B at hF
          refine r_iload Z dX5_load_159 (lv_at hl 5 rfl) ?_
          refine r_iconst (v := 4) Z dX5_load_161 (by decide) ?_
          refine r_icmp_ge Z 189 dX5_load_162 (by decide) (fun hc1 => ?_) (fun hc1 => ?_)
          · replace hF := if_some hc1 hF
            obtain ⟨t2, et2, hF⟩ := nm_some hF
            refine r_iinc (j := 3) Z t2 [(5, .int t2), (0, .ref (ad o)), (1, .ref (ad v1)), (3, .long v3), (6, .ref (ad v6)), (7, .int v7)] dX5_load_189 hl rfl (by rw [et2]; rfl) (by decide) rfl (fun ls hl => ?_)
            refine r_goto Z 58 dX5_load_192 (by decide) ?_
            exact ih58 v1 v3 t2 M ls hv1 (lv_sub hl [1, 2, 3, 0] rfl) hF
          · replace hF := nif_some hc1 hF
            refine r_aload_n Z dX5_load_165 rfl (lv_at hl 0 rfl) ?_
            refine g_5_5 Z ho wm_242 dX5_load_166 ?_
            refine r_iload Z dX5_load_169 (lv_at hl 3 rfl) ?_
            obtain ⟨hi3, hF⟩ := ck_some hF
            refine r_aald17 Z (sh_5_5 ho) hi3 dX5_load_171 ?_
            refine r_iload Z dX5_load_172 (lv_at hl 5 rfl) ?_
            refine r_aload Z dX5_load_174 (lv_at hl 4 rfl) ?_
            refine g_1_0 Z hv6 wm_249 dX5_load_176 ?_
            refine r_iload Z dX5_load_179 (lv_at hl 5 rfl) ?_
            obtain ⟨hi4, hF⟩ := ck_some hF
            refine r_iaload Z (shp_lt (sh_1_0 hv6) (by decide)) (fun _ _ => ce_104 (sh_1_0 hv6)) hi4 dX5_load_181 ?_
            obtain ⟨hi5, hF⟩ := ck_some hF
            obtain ⟨M6, eM6, hF⟩ := nm_some hF
            refine r_iastore Z (shp_lt (se_17 (sh_5_5 ho) hi3) (by decide)) (fun _ _ => ce_104 (se_17 (sh_5_5 ho) hi3)) hi5 dX5_load_182 ?_
            rw [← eM6]
            obtain ⟨t7, et7, hF⟩ := nm_some hF
            refine r_iinc (j := 5) Z t7 [(7, .int t7), (0, .ref (ad o)), (1, .ref (ad v1)), (3, .long v3), (5, .int v5), (6, .ref (ad v6))] dX5_load_183 hl rfl (by rw [et7]; rfl) (by decide) rfl (fun ls hl => ?_)
            refine r_goto Z 159 dX5_load_186 (by decide) ?_
            exact ih159 v1 v3 v5 v6 t7 M6 ls hv1 hv6 (lv_sub hl [1, 2, 3, 4, 5, 0] rfl) hF
      have L98 : ∀ (v1 : Nat) (v3 : Int64) (v5 : Int32) (v6 : Nat) (s0 : Nat) (s1 : Int32) (s2 : Int64) (M : Mm) (ls : Array Slot), shp v1 = 4 → shp v6 = 1 → shp s0 = 1004 → lv_has ls 8 [(0, .ref (ad o)), (1, .ref (ad v1)), (3, .long v3), (5, .int v5), (6, .ref (ad v6))] → f_X5_load_b98 (f_X5_load_b58 o n58) o v1 v3 v5 v6 s0 s1 s2 M = some q → G ad X M 98 ls [.long s2, .int s1, .ref (ad s0)] := by
        intro v1 v3 v5 v6 s0 s1 s2 M ls hv1 hv6 hs0 hl hF
        unfold f_X5_load_b98 at hF
        obtain ⟨hi8, hF⟩ := ck_some hF
        obtain ⟨M9, eM9, hF⟩ := nm_some hF
        refine r_lastore Z (shp_lt hs0 (by decide)) (fun _ _ => ce_1004 hs0) hi8 dX5_load_98 ?_
        rw [← eM9]
        refine r_aload_n Z dX5_load_99 rfl (lv_at hl 0 rfl) ?_
        refine g_5_1 Z ho wm_237 dX5_load_100 ?_
        refine r_iload Z dX5_load_103 (lv_at hl 3 rfl) ?_
        refine r_aload Z dX5_load_105 (lv_at hl 4 rfl) ?_
        refine g_1_1 Z hv6 wm_246 dX5_load_107 ?_
        obtain ⟨hi10, hF⟩ := ck_some hF
        obtain ⟨M11, eM11, hF⟩ := nm_some hF
        refine r_iastore Z (shp_lt (sh_5_1 ho) (by decide)) (fun _ _ => ce_104 (sh_5_1 ho)) hi10 dX5_load_110 ?_
        rw [← eM11]
        refine r_aload_n Z dX5_load_111 rfl (lv_at hl 0 rfl) ?_
        refine g_5_2 Z ho wm_238 dX5_load_112 ?_
        refine r_iload Z dX5_load_115 (lv_at hl 3 rfl) ?_
        refine r_aload Z dX5_load_117 (lv_at hl 4 rfl) ?_
        refine g_1_2 Z hv6 wm_247 dX5_load_119 ?_
        obtain ⟨hi12, hF⟩ := ck_some hF
        obtain ⟨M13, eM13, hF⟩ := nm_some hF
        refine r_iastore Z (shp_lt (sh_5_2 ho) (by decide)) (fun _ _ => ce_104 (sh_5_2 ho)) hi12 dX5_load_122 ?_
        rw [← eM13]
        refine r_aload_n Z dX5_load_123 rfl (lv_at hl 0 rfl) ?_
        refine g_5_3 Z ho wm_239 dX5_load_124 ?_
        refine r_iload Z dX5_load_127 (lv_at hl 3 rfl) ?_
        refine r_aload Z dX5_load_129 (lv_at hl 4 rfl) ?_
        refine g_1_3 Z hv6 wm_248 dX5_load_131 ?_
        obtain ⟨hi14, hF⟩ := ck_some hF
        obtain ⟨M15, eM15, hF⟩ := nm_some hF
        refine r_iastore Z (shp_lt (sh_5_3 ho) (by decide)) (fun _ _ => ce_104 (sh_5_3 ho)) hi14 dX5_load_134 ?_
        rw [← eM15]
        refine r_aload_n Z dX5_load_135 rfl (lv_at hl 0 rfl) ?_
        refine g_5_4 Z ho wm_240 dX5_load_136 ?_
        refine r_iload Z dX5_load_139 (lv_at hl 3 rfl) ?_
        refine r_aload_n Z dX5_load_141 rfl (lv_at hl 0 rfl) ?_
        refine g_5_0 Z ho wm_236 dX5_load_142 ?_
        refine r_iload Z dX5_load_145 (lv_at hl 3 rfl) ?_
        obtain ⟨hi16, hF⟩ := ck_some hF
        refine r_laload Z (shp_lt (sh_5_0 ho) (by decide)) (fun _ _ => ce_1004 (sh_5_0 ho)) hi16 dX5_load_147 ?_
        refine r_aload Z dX5_load_148 (lv_at hl 4 rfl) ?_
        obtain ⟨q17, hq17, hF⟩ := bd_some hF
        refine r_invVi [.long (mJ M15 (fld o 0) (Int32.toNatClampNeg v5)), .int v5, .ref (ad (fld o 4))] Z (c_X1_daysOf hv6 hq17) cv_X1_daysOf rfl (shp_lt hv6 (by decide)) (fun _ _ => ⟨_, ce_1 hv6⟩) wm_254 rfl rfl ⟨Nat.le_of_ble_eq_true rfl, Nat.le_of_ble_eq_true rfl⟩ rfl hl.1 rfl (Nat.le_of_ble_eq_true rfl) dX5_load_150 ?_
        refine r_i2l Z dX5_load_153 ?_
        refine r_lmul Z dX5_load_154 ?_
        obtain ⟨hi18, hF⟩ := ck_some hF
        obtain ⟨M19, eM19, hF⟩ := nm_some hF
        refine r_lastore Z (shp_lt (sh_5_4 ho) (by decide)) (fun _ _ => ce_1004 (sh_5_4 ho)) hi18 dX5_load_155 ?_
        rw [← eM19]
        refine r_iconst (v := 0) Z dX5_load_156 (by decide) ?_
        refine r_istore Z [(7, .int 0), (0, .ref (ad o)), (1, .ref (ad v1)), (3, .long v3), (5, .int v5), (6, .ref (ad v6))] dX5_load_157 hl (by decide) rfl (fun ls hl => ?_)
        exact L159 _ v1 v3 v5 v6 0 M19 ls hv1 hv6 (lv_sub hl [1, 2, 3, 4, 5, 0] rfl) hF
      intro v1 v3 v5 M ls hv1 hl hF
      replace hF : f_X5_load_b58B (f_X5_load_b58 o n58) o v1 v3 v5 M = some q := hF
      unfold f_X5_load_b58B at hF
      refine r_iload Z dX5_load_58 (lv_at hl 3 rfl) ?_
      refine r_iconst (v := 4) Z dX5_load_60 (by decide) ?_
      refine r_icmp_ge Z 195 dX5_load_61 (by decide) (fun hc20 => ?_) (fun hc20 => ?_)
      · replace hF := if_some hc20 hF
        exact r_vret Z hQ hF dX5_load_195
      · replace hF := nif_some hc20 hF
        refine r_aload_n Z dX5_load_64 rfl (lv_at hl 1 rfl) ?_
        refine g_4_0 Z hv1 wm_245 dX5_load_65 ?_
        refine r_iload Z dX5_load_68 (lv_at hl 3 rfl) ?_
        obtain ⟨hi21, hF⟩ := ck_some hF
        refine r_aald13 Z (sh_4_0 hv1) hi21 dX5_load_70 ?_
        refine r_astore Z [(6, .ref (ad (elm (fld v1 0) (Int32.toNatClampNeg v5)))), (0, .ref (ad o)), (1, .ref (ad v1)), (3, .long v3), (5, .int v5)] dX5_load_71 hl (by decide) rfl (fun ls hl => ?_)
        refine r_aload_n Z dX5_load_73 rfl (lv_at hl 1 rfl) ?_
        refine g_5_0 Z ho wm_236 dX5_load_74 ?_
        refine r_iload Z dX5_load_77 (lv_at hl 4 rfl) ?_
        refine r_lload_n Z dX5_load_79 rfl (lv_at hl 3 rfl) ?_
        refine r_lconst (v := 0) Z dX5_load_80 (by decide) ?_
        refine r_lcmp Z dX5_load_81 ?_
        refine r_if_le Z 97 dX5_load_82 (by decide) (fun hc22 => ?_) (fun hc22 => ?_)
        · replace hF := if_some hc22 hF
          refine r_lconst (v := 0) Z dX5_load_97 (by decide) ?_
          exact L98 v1 v3 v5 (elm (fld v1 0) (Int32.toNatClampNeg v5)) (fld o 0) v5 0 M ls hv1 (se_13 (sh_4_0 hv1) hi21) (sh_5_0 ho) (lv_sub hl [1, 2, 3, 4, 0] rfl) hF
        · replace hF := nif_some hc22 hF
          refine r_aload_n Z dX5_load_85 rfl (lv_at hl 1 rfl) ?_
          refine g_5_0 Z ho wm_236 dX5_load_86 ?_
          refine r_iload Z dX5_load_89 (lv_at hl 4 rfl) ?_
          obtain ⟨hi23, hF⟩ := ck_some hF
          refine r_laload Z (shp_lt (sh_5_0 ho) (by decide)) (fun _ _ => ce_1004 (sh_5_0 ho)) hi23 dX5_load_91 ?_
          refine r_lload_n Z dX5_load_92 rfl (lv_at hl 3 rfl) ?_
          obtain ⟨hd24, hF⟩ := dvJ_some hF
          refine r_ldiv Z dX5_load_93 hd24 ?_
          refine r_goto Z 98 dX5_load_94 (by decide) ?_
          exact L98 v1 v3 v5 (elm (fld v1 0) (Int32.toNatClampNeg v5)) (fld o 0) v5 ((mJ M (fld o 0) (Int32.toNatClampNeg v5)) / v3) M ls hv1 (se_13 (sh_4_0 hv1) hi21) (sh_5_0 ho) (lv_sub hl [1, 2, 3, 4, 0] rfl) hF
  have L14 : ∀ (n14 : Nat) (v1 : Nat) (v2 : Int32) (v3 : Int64) (v5 : Int32) (M : Mm) (ls : Array Slot), shp v1 = 4 → lv_has ls 8 [(0, .ref (ad o)), (1, .ref (ad v1)), (2, .int v2), (3, .long v3), (5, .int v5)] → f_X5_load_b14 o n14 v1 v2 v3 v5 M = some q → G ad X M 14 ls [] := by
    intro n14
    induction n14 with
    | zero =>
      intro v1 v2 v3 v5 M ls hv1 hl hF
      cases hF
    | succ n14 ih14 =>
      intro v1 v2 v3 v5 M ls hv1 hl hF
      replace hF : f_X5_load_b14B (f_X5_load_b14 o n14) o v1 v2 v3 v5 M = some q := hF
      unfold f_X5_load_b14B at hF
      refine r_iload Z dX5_load_14 (lv_at hl 4 rfl) ?_
      refine r_iconst (v := 4) Z dX5_load_16 (by decide) ?_
      refine r_icmp_ge Z 55 dX5_load_17 (by decide) (fun hc25 => ?_) (fun hc25 => ?_)
      · replace hF := if_some hc25 hF
        refine r_iconst (v := 0) Z dX5_load_55 (by decide) ?_
        refine r_istore Z [(5, .int 0), (0, .ref (ad o)), (1, .ref (ad v1)), (2, .int v2), (3, .long v3)] dX5_load_56 hl (by decide) rfl (fun ls hl => ?_)
        exact L58 _ v1 v3 0 M ls hv1 (lv_sub hl [1, 2, 4, 0] rfl) hF
      · replace hF := nif_some hc25 hF
        refine r_aload_n Z dX5_load_20 rfl (lv_at hl 0 rfl) ?_
        refine g_5_0 Z ho wm_236 dX5_load_21 ?_
        refine r_iload Z dX5_load_24 (lv_at hl 4 rfl) ?_
        refine r_aload_n Z dX5_load_26 rfl (lv_at hl 1 rfl) ?_
        refine g_4_1 Z hv1 wm_244 dX5_load_27 ?_
        refine r_iload Z dX5_load_30 (lv_at hl 4 rfl) ?_
        refine r_iload_n Z dX5_load_32 rfl (lv_at hl 2 rfl) ?_
        obtain ⟨q26, hq26, hF⟩ := bd_some hF
        refine r_invVl [.int v5, .ref (ad (fld o 0))] Z (c_X0_weightOf (sh_4_1 hv1) hq26) cv_X0_weightOf rfl (shp_lt (sh_4_1 hv1) (by decide)) (fun _ _ => ⟨_, ce_0 (sh_4_1 hv1)⟩) wm_252 rfl rfl ⟨Nat.le_of_ble_eq_true rfl, Nat.le_of_ble_eq_true rfl⟩ rfl hl.1 rfl (Nat.le_of_ble_eq_true rfl) dX5_load_33 ?_
        obtain ⟨hi27, hF⟩ := ck_some hF
        obtain ⟨M28, eM28, hF⟩ := nm_some hF
        refine r_lastore Z (shp_lt (sh_5_0 ho) (by decide)) (fun _ _ => ce_1004 (sh_5_0 ho)) hi27 dX5_load_36 ?_
        rw [← eM28]
        refine r_lload_n Z dX5_load_37 rfl (lv_at hl 3 rfl) ?_
        refine r_aload_n Z dX5_load_38 rfl (lv_at hl 0 rfl) ?_
        refine g_5_0 Z ho wm_236 dX5_load_39 ?_
        refine r_iload Z dX5_load_42 (lv_at hl 4 rfl) ?_
        obtain ⟨hi29, hF⟩ := ck_some hF
        refine r_laload Z (shp_lt (sh_5_0 ho) (by decide)) (fun _ _ => ce_1004 (sh_5_0 ho)) hi29 dX5_load_44 ?_
        obtain ⟨q30, hq30, hF⟩ := bd_some hF
        refine r_invSl [] Z (c_X2_commonPart hq30) cv_X2_commonPart wm_253 rfl rfl ⟨Nat.le_of_ble_eq_true rfl, Nat.le_of_ble_eq_true rfl⟩ rfl hl.1 rfl (Nat.le_of_ble_eq_true rfl) dX5_load_45 ?_
        refine r_lstore_n Z [(3, .long q30.1), (0, .ref (ad o)), (1, .ref (ad v1)), (2, .int v2), (5, .int v5)] dX5_load_48 rfl hl (by decide) rfl (fun ls hl => ?_)
        obtain ⟨t31, et31, hF⟩ := nm_some hF
        refine r_iinc (j := 4) Z t31 [(5, .int t31), (3, .long q30.1), (0, .ref (ad o)), (1, .ref (ad v1)), (2, .int v2)] dX5_load_49 hl rfl (by rw [et31]; rfl) (by decide) rfl (fun ls hl => ?_)
        refine r_goto Z 14 dX5_load_52 (by decide) ?_
        exact ih14 v1 v2 q30.1 t31 q30.2 ls hv1 (lv_sub hl [2, 3, 4, 1, 0] rfl) hF
  unfold f_X5_load at hF
  refine r_aload_n Z dX5_load_0 rfl (lv_at hl 1 rfl) ?_
  obtain ⟨M32, hM32, hF⟩ := bd_some hF
  refine r_invVv [] Z (c_X4_loadPaths h1 hM32) cv_X4_loadPaths rfl (shp_lt h1 (by decide)) (fun _ _ => ⟨_, ce_4 h1⟩) wm_250 rfl rfl ⟨Nat.le_of_ble_eq_true rfl, Nat.le_of_ble_eq_true rfl⟩ rfl hl.1 rfl (Nat.le_of_ble_eq_true rfl) dX5_load_1 ?_
  refine r_aload_n Z dX5_load_4 rfl (lv_at hl 1 rfl) ?_
  obtain ⟨q33, hq33, hF⟩ := bd_some hF
  refine r_invVi [] Z (c_X4_bitsThere h1 hq33) cv_X4_bitsThere rfl (shp_lt h1 (by decide)) (fun _ _ => ⟨_, ce_4 h1⟩) wm_251 rfl rfl ⟨Nat.le_of_ble_eq_true rfl, Nat.le_of_ble_eq_true rfl⟩ rfl hl.1 rfl (Nat.le_of_ble_eq_true rfl) dX5_load_5 ?_
  refine r_istore_n Z [(2, .int q33.1), (0, .ref (ad o)), (1, .ref (ad x1))] dX5_load_8 rfl hl (by decide) rfl (fun ls hl => ?_)
  refine r_lconst (v := 0) Z dX5_load_9 (by decide) ?_
  refine r_lstore_n Z [(3, .long 0), (2, .int q33.1), (0, .ref (ad o)), (1, .ref (ad x1))] dX5_load_10 rfl hl (by decide) rfl (fun ls hl => ?_)
  refine r_iconst (v := 0) Z dX5_load_11 (by decide) ?_
  refine r_istore Z [(5, .int 0), (3, .long 0), (2, .int q33.1), (0, .ref (ad o)), (1, .ref (ad x1))] dX5_load_12 hl (by decide) rfl (fun ls hl => ?_)
  exact L14 _ x1 q33.1 0 0 q33.2 ls h1 (lv_sub hl [3, 4, 2, 1, 0] rfl) hF
theorem dX5_strain_0 : decode cX5_strain 0 = .ok (.aload_n 0, 1) := by decide +kernel
theorem dX5_strain_1 : decode cX5_strain 1 = .ok (.getfield 25, 3) := by decide +kernel
theorem dX5_strain_4 : decode cX5_strain 4 = .ok (.iload_n 1, 1) := by decide +kernel
theorem dX5_strain_5 : decode cX5_strain 5 = .ok (.laload, 1) := by decide +kernel
theorem dX5_strain_6 : decode cX5_strain 6 = .ok (.aload_n 0, 1) := by decide +kernel
theorem dX5_strain_7 : decode cX5_strain 7 = .ok (.getfield 22, 3) := by decide +kernel
theorem dX5_strain_10 : decode cX5_strain 10 = .ok (.iload_n 2, 1) := by decide +kernel
theorem dX5_strain_11 : decode cX5_strain 11 = .ok (.iaload, 1) := by decide +kernel
theorem dX5_strain_12 : decode cX5_strain 12 = .ok (.i2l, 1) := by decide +kernel
theorem dX5_strain_13 : decode cX5_strain 13 = .ok (.lmul, 1) := by decide +kernel
theorem dX5_strain_14 : decode cX5_strain 14 = .ok (.lreturn, 1) := by decide +kernel
theorem cv_X5_strain : wn_cV yX5_strain cX5_strain 3 (some .long) RX5 2 := ⟨wm_285, wm_288, wm_289, wm_265, by decide +kernel⟩
abbrev rm_X5_strain : Room := rmz 0 0
set_option maxHeartbeats 4000000 in
set_option maxRecDepth 100000 in
theorem c_X5_strain {ad : Nat → Nat} {o : Nat} {x1 : Int32} {x2 : Int32} {M : Mm} {q : Int64 × Mm} (ho : shp o = 5) (hF : f_X5_strain o x1 x2 M = some q) : KL ad yX5_strain cX5_strain 3 (some .long) rm_X5_strain [.ref (ad o), .int x1, .int x2] M q.1 q.2 := by
  refine wn_enterL (own := RX5) (by decide) rfl (Nat.le_of_ble_eq_true rfl) (fun X ls Z hQ hl => ?_)
  have hl : lv_has ls 3 [(0, .ref (ad o)), (1, .int x1), (2, .int x2)] := hl
  unfold f_X5_strain at hF
  refine r_aload_n Z dX5_strain_0 rfl (lv_at hl 0 rfl) ?_
  refine g_5_4 Z ho wm_240 dX5_strain_1 ?_
  refine r_iload_n Z dX5_strain_4 rfl (lv_at hl 1 rfl) ?_
  obtain ⟨hi1, hF⟩ := ck_some hF
  refine r_laload Z (shp_lt (sh_5_4 ho) (by decide)) (fun _ _ => ce_1004 (sh_5_4 ho)) hi1 dX5_strain_5 ?_
  refine r_aload_n Z dX5_strain_6 rfl (lv_at hl 0 rfl) ?_
  refine g_5_3 Z ho wm_239 dX5_strain_7 ?_
  refine r_iload_n Z dX5_strain_10 rfl (lv_at hl 2 rfl) ?_
  obtain ⟨hi2, hF⟩ := ck_some hF
  refine r_iaload Z (shp_lt (sh_5_3 ho) (by decide)) (fun _ _ => ce_104 (sh_5_3 ho)) hi2 dX5_strain_11 ?_
  refine r_i2l Z dX5_strain_12 ?_
  refine r_lmul Z dX5_strain_13 ?_
  exact r_lret Z hQ hF dX5_strain_14

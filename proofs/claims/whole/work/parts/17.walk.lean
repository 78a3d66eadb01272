theorem dX8_tellWaitingTurn_0 : decode cX8_tellWaitingTurn 0 = .ok (.iload_n 3, 1) := by decide +kernel
theorem dX8_tellWaitingTurn_1 : decode cX8_tellWaitingTurn 1 = .ok (.iload_n 2, 1) := by decide +kernel
theorem dX8_tellWaitingTurn_2 : decode cX8_tellWaitingTurn 2 = .ok (.iadd, 1) := by decide +kernel
theorem dX8_tellWaitingTurn_3 : decode cX8_tellWaitingTurn 3 = .ok (.i2l, 1) := by decide +kernel
theorem dX8_tellWaitingTurn_4 : decode cX8_tellWaitingTurn 4 = .ok (.lstore 5, 2) := by decide +kernel
theorem dX8_tellWaitingTurn_6 : decode cX8_tellWaitingTurn 6 = .ok (.lload 5, 2) := by decide +kernel
theorem dX8_tellWaitingTurn_8 : decode cX8_tellWaitingTurn 8 = .ok (.iload_n 1, 1) := by decide +kernel
theorem dX8_tellWaitingTurn_9 : decode cX8_tellWaitingTurn 9 = .ok (.i2l, 1) := by decide +kernel
theorem dX8_tellWaitingTurn_10 : decode cX8_tellWaitingTurn 10 = .ok (.ladd, 1) := by decide +kernel
theorem dX8_tellWaitingTurn_11 : decode cX8_tellWaitingTurn 11 = .ok (.lstore 7, 2) := by decide +kernel
theorem dX8_tellWaitingTurn_13 : decode cX8_tellWaitingTurn 13 = .ok (.iload 4, 2) := by decide +kernel
theorem dX8_tellWaitingTurn_15 : decode cX8_tellWaitingTurn 15 = .ok (.ifCond .ne 28, 3) := by decide +kernel
theorem dX8_tellWaitingTurn_18 : decode cX8_tellWaitingTurn 18 = .ok (.aload_n 0, 1) := by decide +kernel
theorem dX8_tellWaitingTurn_19 : decode cX8_tellWaitingTurn 19 = .ok (.getfield 46, 3) := by decide +kernel
theorem dX8_tellWaitingTurn_22 : decode cX8_tellWaitingTurn 22 = .ok (.iload_n 1, 1) := by decide +kernel
theorem dX8_tellWaitingTurn_23 : decode cX8_tellWaitingTurn 23 = .ok (.i2l, 1) := by decide +kernel
theorem dX8_tellWaitingTurn_24 : decode cX8_tellWaitingTurn 24 = .ok (.iload_n 1, 1) := by decide +kernel
theorem dX8_tellWaitingTurn_25 : decode cX8_tellWaitingTurn 25 = .ok (.iload_n 2, 1) := by decide +kernel
theorem dX8_tellWaitingTurn_26 : decode cX8_tellWaitingTurn 26 = .ok (.iadd, 1) := by decide +kernel
theorem dX8_tellWaitingTurn_27 : decode cX8_tellWaitingTurn 27 = .ok (.i2l, 1) := by decide +kernel
theorem dX8_tellWaitingTurn_28 : decode cX8_tellWaitingTurn 28 = .ok (.lload 5, 2) := by decide +kernel
theorem dX8_tellWaitingTurn_30 : decode cX8_tellWaitingTurn 30 = .ok (.ladd, 1) := by decide +kernel
theorem dX8_tellWaitingTurn_31 : decode cX8_tellWaitingTurn 31 = .ok (.lmul, 1) := by decide +kernel
theorem dX8_tellWaitingTurn_32 : decode cX8_tellWaitingTurn 32 = .ok (.lload 7, 2) := by decide +kernel
theorem dX8_tellWaitingTurn_34 : decode cX8_tellWaitingTurn 34 = .ok (.lload 5, 2) := by decide +kernel
theorem dX8_tellWaitingTurn_36 : decode cX8_tellWaitingTurn 36 = .ok (.lmul, 1) := by decide +kernel
theorem dX8_tellWaitingTurn_37 : decode cX8_tellWaitingTurn 37 = .ok (.invokevirtual 191, 3) := by decide +kernel
theorem dX8_tellWaitingTurn_40 : decode cX8_tellWaitingTurn 40 = .ok (.goto 34, 3) := by decide +kernel
theorem dX8_tellWaitingTurn_43 : decode cX8_tellWaitingTurn 43 = .ok (.aload_n 0, 1) := by decide +kernel
theorem dX8_tellWaitingTurn_44 : decode cX8_tellWaitingTurn 44 = .ok (.getfield 46, 3) := by decide +kernel
theorem dX8_tellWaitingTurn_47 : decode cX8_tellWaitingTurn 47 = .ok (.iload_n 2, 1) := by decide +kernel
theorem dX8_tellWaitingTurn_48 : decode cX8_tellWaitingTurn 48 = .ok (.i2l, 1) := by decide +kernel
theorem dX8_tellWaitingTurn_49 : decode cX8_tellWaitingTurn 49 = .ok (.iload_n 1, 1) := by decide +kernel
theorem dX8_tellWaitingTurn_50 : decode cX8_tellWaitingTurn 50 = .ok (.iload_n 2, 1) := by decide +kernel
theorem dX8_tellWaitingTurn_51 : decode cX8_tellWaitingTurn 51 = .ok (.iadd, 1) := by decide +kernel
theorem dX8_tellWaitingTurn_52 : decode cX8_tellWaitingTurn 52 = .ok (.i2l, 1) := by decide +kernel
theorem dX8_tellWaitingTurn_53 : decode cX8_tellWaitingTurn 53 = .ok (.lload 7, 2) := by decide +kernel
theorem dX8_tellWaitingTurn_55 : decode cX8_tellWaitingTurn 55 = .ok (.lmul, 1) := by decide +kernel
theorem dX8_tellWaitingTurn_56 : decode cX8_tellWaitingTurn 56 = .ok (.lload 5, 2) := by decide +kernel
theorem dX8_tellWaitingTurn_58 : decode cX8_tellWaitingTurn 58 = .ok (.iload_n 3, 1) := by decide +kernel
theorem dX8_tellWaitingTurn_59 : decode cX8_tellWaitingTurn 59 = .ok (.i2l, 1) := by decide +kernel
theorem dX8_tellWaitingTurn_60 : decode cX8_tellWaitingTurn 60 = .ok (.lmul, 1) := by decide +kernel
theorem dX8_tellWaitingTurn_61 : decode cX8_tellWaitingTurn 61 = .ok (.ladd, 1) := by decide +kernel
theorem dX8_tellWaitingTurn_62 : decode cX8_tellWaitingTurn 62 = .ok (.lmul, 1) := by decide +kernel
theorem dX8_tellWaitingTurn_63 : decode cX8_tellWaitingTurn 63 = .ok (.lload 5, 2) := by decide +kernel
theorem dX8_tellWaitingTurn_65 : decode cX8_tellWaitingTurn 65 = .ok (.iload_n 3, 1) := by decide +kernel
theorem dX8_tellWaitingTurn_66 : decode cX8_tellWaitingTurn 66 = .ok (.i2l, 1) := by decide +kernel
theorem dX8_tellWaitingTurn_67 : decode cX8_tellWaitingTurn 67 = .ok (.lmul, 1) := by decide +kernel
theorem dX8_tellWaitingTurn_68 : decode cX8_tellWaitingTurn 68 = .ok (.lload 7, 2) := by decide +kernel
theorem dX8_tellWaitingTurn_70 : decode cX8_tellWaitingTurn 70 = .ok (.lmul, 1) := by decide +kernel
theorem dX8_tellWaitingTurn_71 : decode cX8_tellWaitingTurn 71 = .ok (.invokevirtual 191, 3) := by decide +kernel
theorem dX8_tellWaitingTurn_74 : decode cX8_tellWaitingTurn 74 = .ok (.return_, 1) := by decide +kernel
theorem cv_X8_tellWaitingTurn : wn_cV yX8_tellWaitingTurn cX8_tellWaitingTurn 9 none RX8 4 := ⟨wm_521, wm_528, wm_529, wm_377, by decide +kernel⟩
abbrev rm_X8_tellWaitingTurn : Room := rmz 3 71
set_option maxHeartbeats 4000000 in
set_option maxRecDepth 100000 in
theorem c_X8_tellWaitingTurn {ad : Nat → Nat} {o : Nat} {x1 : Int32} {x2 : Int32} {x3 : Int32} {x4 : Int32} {M : Mm} {q : Mm} (ho : shp o = 8) (hF : f_X8_tellWaitingTurn o x1 x2 x3 x4 M = some q) : KV ad yX8_tellWaitingTurn cX8_tellWaitingTurn 9 none rm_X8_tellWaitingTurn [.ref (ad o), .int x1, .int x2, .int x3, .int x4] M q := by
  refine wn_enterV (own := RX8) (by decide) rfl (Nat.le_of_ble_eq_true rfl) (fun X ls Z hQ hl => ?_)
  have hl : lv_has ls 9 [(0, .ref (ad o)), (1, .int x1), (2, .int x2), (3, .int x3), (4, .int x4)] := hl
  unfold f_X8_tellWaitingTurn at hF
  refine r_iload_n Z dX8_tellWaitingTurn_0 rfl (lv_at hl 3 rfl) ?_
  refine r_iload_n Z dX8_tellWaitingTurn_1 rfl (lv_at hl 2 rfl) ?_
  refine r_iadd Z dX8_tellWaitingTurn_2 ?_
  refine r_i2l Z dX8_tellWaitingTurn_3 ?_
  obtain ⟨t1, et1, hF⟩ := nm_some hF
  rw [← et1]
  refine r_lstore Z [(5, .long t1), (0, .ref (ad o)), (1, .int x1), (2, .int x2), (3, .int x3), (4, .int x4)] dX8_tellWaitingTurn_4 hl (by decide) rfl (fun ls hl => ?_)
  refine r_lload Z dX8_tellWaitingTurn_6 (lv_at hl 0 rfl) ?_
  refine r_iload_n Z dX8_tellWaitingTurn_8 rfl (lv_at hl 2 rfl) ?_
  refine r_i2l Z dX8_tellWaitingTurn_9 ?_
  refine r_ladd Z dX8_tellWaitingTurn_10 ?_
  obtain ⟨t2, et2, hF⟩ := nm_some hF
  rw [← et2]
  refine r_lstore Z [(7, .long t2), (5, .long t1), (0, .ref (ad o)), (1, .int x1), (2, .int x2), (3, .int x3), (4, .int x4)] dX8_tellWaitingTurn_11 hl (by decide) rfl (fun ls hl => ?_)
  refine r_iload Z dX8_tellWaitingTurn_13 (lv_at hl 6 rfl) ?_
  refine r_if_ne Z 43 dX8_tellWaitingTurn_15 (by decide) (fun hc3 => ?_) (fun hc3 => ?_)
  · replace hF := nif_some hc3 hF
    refine r_aload_n Z dX8_tellWaitingTurn_43 rfl (lv_at hl 2 rfl) ?_
    refine g_8_5 Z ho wm_362 dX8_tellWaitingTurn_44 ?_
    refine r_iload_n Z dX8_tellWaitingTurn_47 rfl (lv_at hl 4 rfl) ?_
    refine r_i2l Z dX8_tellWaitingTurn_48 ?_
    refine r_iload_n Z dX8_tellWaitingTurn_49 rfl (lv_at hl 3 rfl) ?_
    refine r_iload_n Z dX8_tellWaitingTurn_50 rfl (lv_at hl 4 rfl) ?_
    refine r_iadd Z dX8_tellWaitingTurn_51 ?_
    refine r_i2l Z dX8_tellWaitingTurn_52 ?_
    refine r_lload Z dX8_tellWaitingTurn_53 (lv_at hl 0 rfl) ?_
    refine r_lmul Z dX8_tellWaitingTurn_55 ?_
    refine r_lload Z dX8_tellWaitingTurn_56 (lv_at hl 1 rfl) ?_
    refine r_iload_n Z dX8_tellWaitingTurn_58 rfl (lv_at hl 5 rfl) ?_
    refine r_i2l Z dX8_tellWaitingTurn_59 ?_
    refine r_lmul Z dX8_tellWaitingTurn_60 ?_
    refine r_ladd Z dX8_tellWaitingTurn_61 ?_
    refine r_lmul Z dX8_tellWaitingTurn_62 ?_
    refine r_lload Z dX8_tellWaitingTurn_63 (lv_at hl 1 rfl) ?_
    refine r_iload_n Z dX8_tellWaitingTurn_65 rfl (lv_at hl 5 rfl) ?_
    refine r_i2l Z dX8_tellWaitingTurn_66 ?_
    refine r_lmul Z dX8_tellWaitingTurn_67 ?_
    refine r_lload Z dX8_tellWaitingTurn_68 (lv_at hl 0 rfl) ?_
    refine r_lmul Z dX8_tellWaitingTurn_70 ?_
    obtain ⟨M4, hM4, hF⟩ := bd_some hF
    refine r_invVv [] Z (c_X2_set (sh_8_5 ho) hM4) cv_X2_set rfl (shp_lt (sh_8_5 ho) (by decide)) (fun _ _ => ⟨_, ce_2 (sh_8_5 ho)⟩) wm_471 rfl rfl ⟨Nat.le_of_ble_eq_true rfl, Nat.le_of_ble_eq_true rfl⟩ rfl hl.1 rfl (Nat.le_of_ble_eq_true rfl) dX8_tellWaitingTurn_71 ?_
    exact r_vret Z hQ hF dX8_tellWaitingTurn_74
  · replace hF := if_some hc3 hF
    refine r_aload_n Z dX8_tellWaitingTurn_18 rfl (lv_at hl 2 rfl) ?_
    refine g_8_5 Z ho wm_362 dX8_tellWaitingTurn_19 ?_
    refine r_iload_n Z dX8_tellWaitingTurn_22 rfl (lv_at hl 3 rfl) ?_
    refine r_i2l Z dX8_tellWaitingTurn_23 ?_
    refine r_iload_n Z dX8_tellWaitingTurn_24 rfl (lv_at hl 3 rfl) ?_
    refine r_iload_n Z dX8_tellWaitingTurn_25 rfl (lv_at hl 4 rfl) ?_
    refine r_iadd Z dX8_tellWaitingTurn_26 ?_
    refine r_i2l Z dX8_tellWaitingTurn_27 ?_
    refine r_lload Z dX8_tellWaitingTurn_28 (lv_at hl 1 rfl) ?_
    refine r_ladd Z dX8_tellWaitingTurn_30 ?_
    refine r_lmul Z dX8_tellWaitingTurn_31 ?_
    refine r_lload Z dX8_tellWaitingTurn_32 (lv_at hl 0 rfl) ?_
    refine r_lload Z dX8_tellWaitingTurn_34 (lv_at hl 1 rfl) ?_
    refine r_lmul Z dX8_tellWaitingTurn_36 ?_
    obtain ⟨M5, hM5, hF⟩ := bd_some hF
    refine r_invVv [] Z (c_X2_set (sh_8_5 ho) hM5) cv_X2_set rfl (shp_lt (sh_8_5 ho) (by decide)) (fun _ _ => ⟨_, ce_2 (sh_8_5 ho)⟩) wm_471 rfl rfl ⟨Nat.le_of_ble_eq_true rfl, Nat.le_of_ble_eq_true rfl⟩ rfl hl.1 rfl (Nat.le_of_ble_eq_true rfl) dX8_tellWaitingTurn_37 ?_
    refine r_goto Z 74 dX8_tellWaitingTurn_40 (by decide) ?_
    exact r_vret Z hQ hF dX8_tellWaitingTurn_74
theorem dX8_ranked_0 : decode cX8_ranked 0 = .ok (.iload_n 1, 1) := by decide +kernel
theorem dX8_ranked_1 : decode cX8_ranked 1 = .ok (.invokestatic 106, 3) := by decide +kernel
theorem dX8_ranked_4 : decode cX8_ranked 4 = .ok (.ifCond .eq 28, 3) := by decide +kernel
theorem dX8_ranked_7 : decode cX8_ranked 7 = .ok (.iload_n 2, 1) := by decide +kernel
theorem dX8_ranked_8 : decode cX8_ranked 8 = .ok (.invokestatic 241, 3) := by decide +kernel
theorem dX8_ranked_11 : decode cX8_ranked 11 = .ok (.ifCond .eq 21, 3) := by decide +kernel
theorem dX8_ranked_14 : decode cX8_ranked 14 = .ok (.iload_n 3, 1) := by decide +kernel
theorem dX8_ranked_15 : decode cX8_ranked 15 = .ok (.invokestatic 241, 3) := by decide +kernel
theorem dX8_ranked_18 : decode cX8_ranked 18 = .ok (.ifCond .eq 14, 3) := by decide +kernel
theorem dX8_ranked_21 : decode cX8_ranked 21 = .ok (.iload 5, 2) := by decide +kernel
theorem dX8_ranked_23 : decode cX8_ranked 23 = .ok (.ifCond .lt 9, 3) := by decide +kernel
theorem dX8_ranked_26 : decode cX8_ranked 26 = .ok (.iload 5, 2) := by decide +kernel
theorem dX8_ranked_28 : decode cX8_ranked 28 = .ok (.iconst 1, 1) := by decide +kernel
theorem dX8_ranked_29 : decode cX8_ranked 29 = .ok (.if_icmp .le 5, 3) := by decide +kernel
theorem dX8_ranked_32 : decode cX8_ranked 32 = .ok (.iconst (-1), 1) := by decide +kernel
theorem dX8_ranked_33 : decode cX8_ranked 33 = .ok (.ireturn, 1) := by decide +kernel
theorem dX8_ranked_34 : decode cX8_ranked 34 = .ok (.aload_n 0, 1) := by decide +kernel
theorem dX8_ranked_35 : decode cX8_ranked 35 = .ok (.getfield 18, 3) := by decide +kernel
theorem dX8_ranked_38 : decode cX8_ranked 38 = .ok (.iload_n 1, 1) := by decide +kernel
theorem dX8_ranked_39 : decode cX8_ranked 39 = .ok (.invokevirtual 109, 3) := by decide +kernel
theorem dX8_ranked_42 : decode cX8_ranked 42 = .ok (.ifCond .ne 9, 3) := by decide +kernel
theorem dX8_ranked_45 : decode cX8_ranked 45 = .ok (.aload_n 0, 1) := by decide +kernel
theorem dX8_ranked_46 : decode cX8_ranked 46 = .ok (.iconst 1, 1) := by decide +kernel
theorem dX8_ranked_47 : decode cX8_ranked 47 = .ok (.invokevirtual 66, 3) := by decide +kernel
theorem dX8_ranked_50 : decode cX8_ranked 50 = .ok (.ireturn, 1) := by decide +kernel
theorem dX8_ranked_51 : decode cX8_ranked 51 = .ok (.aload_n 0, 1) := by decide +kernel
theorem dX8_ranked_52 : decode cX8_ranked 52 = .ok (.getfield 18, 3) := by decide +kernel
theorem dX8_ranked_55 : decode cX8_ranked 55 = .ok (.getfield 116, 3) := by decide +kernel
theorem dX8_ranked_58 : decode cX8_ranked 58 = .ok (.iload_n 1, 1) := by decide +kernel
theorem dX8_ranked_59 : decode cX8_ranked 59 = .ok (.aaload, 1) := by decide +kernel
theorem dX8_ranked_60 : decode cX8_ranked 60 = .ok (.getfield 125, 3) := by decide +kernel
theorem dX8_ranked_63 : decode cX8_ranked 63 = .ok (.iconst 4, 1) := by decide +kernel
theorem dX8_ranked_64 : decode cX8_ranked 64 = .ok (.if_icmp .eq 9, 3) := by decide +kernel
theorem dX8_ranked_67 : decode cX8_ranked 67 = .ok (.aload_n 0, 1) := by decide +kernel
theorem dX8_ranked_68 : decode cX8_ranked 68 = .ok (.iconst 3, 1) := by decide +kernel
theorem dX8_ranked_69 : decode cX8_ranked 69 = .ok (.invokevirtual 66, 3) := by decide +kernel
theorem dX8_ranked_72 : decode cX8_ranked 72 = .ok (.ireturn, 1) := by decide +kernel
theorem dX8_ranked_73 : decode cX8_ranked 73 = .ok (.aload_n 0, 1) := by decide +kernel
theorem dX8_ranked_74 : decode cX8_ranked 74 = .ok (.getfield 18, 3) := by decide +kernel
theorem dX8_ranked_77 : decode cX8_ranked 77 = .ok (.getfield 116, 3) := by decide +kernel
theorem dX8_ranked_80 : decode cX8_ranked 80 = .ok (.iload_n 1, 1) := by decide +kernel
theorem dX8_ranked_81 : decode cX8_ranked 81 = .ok (.aaload, 1) := by decide +kernel
theorem dX8_ranked_82 : decode cX8_ranked 82 = .ok (.getfield 120, 3) := by decide +kernel
theorem dX8_ranked_85 : decode cX8_ranked 85 = .ok (.iload_n 2, 1) := by decide +kernel
theorem dX8_ranked_86 : decode cX8_ranked 86 = .ok (.isub, 1) := by decide +kernel
theorem dX8_ranked_87 : decode cX8_ranked 87 = .ok (.iload_n 3, 1) := by decide +kernel
theorem dX8_ranked_88 : decode cX8_ranked 88 = .ok (.isub, 1) := by decide +kernel
theorem dX8_ranked_89 : decode cX8_ranked 89 = .ok (.istore 6, 2) := by decide +kernel
theorem dX8_ranked_91 : decode cX8_ranked 91 = .ok (.iload 6, 2) := by decide +kernel
theorem dX8_ranked_93 : decode cX8_ranked 93 = .ok (.ifCond .gt 6, 3) := by decide +kernel
theorem dX8_ranked_96 : decode cX8_ranked 96 = .ok (.bipush (-4), 2) := by decide +kernel
theorem dX8_ranked_98 : decode cX8_ranked 98 = .ok (.ireturn, 1) := by decide +kernel
theorem dX8_ranked_99 : decode cX8_ranked 99 = .ok (.iload 4, 2) := by decide +kernel
theorem dX8_ranked_101 : decode cX8_ranked 101 = .ok (.ifCond .eq 16, 3) := by decide +kernel
theorem dX8_ranked_104 : decode cX8_ranked 104 = .ok (.aload_n 0, 1) := by decide +kernel
theorem dX8_ranked_105 : decode cX8_ranked 105 = .ok (.iload_n 2, 1) := by decide +kernel
theorem dX8_ranked_106 : decode cX8_ranked 106 = .ok (.iload_n 3, 1) := by decide +kernel
theorem dX8_ranked_107 : decode cX8_ranked 107 = .ok (.iload 6, 2) := by decide +kernel
theorem dX8_ranked_109 : decode cX8_ranked 109 = .ok (.iload 5, 2) := by decide +kernel
theorem dX8_ranked_111 : decode cX8_ranked 111 = .ok (.invokevirtual 244, 3) := by decide +kernel
theorem dX8_ranked_114 : decode cX8_ranked 114 = .ok (.goto 13, 3) := by decide +kernel
theorem dX8_ranked_117 : decode cX8_ranked 117 = .ok (.aload_n 0, 1) := by decide +kernel
theorem dX8_ranked_118 : decode cX8_ranked 118 = .ok (.iload_n 2, 1) := by decide +kernel
theorem dX8_ranked_119 : decode cX8_ranked 119 = .ok (.iload_n 3, 1) := by decide +kernel
theorem dX8_ranked_120 : decode cX8_ranked 120 = .ok (.iload 6, 2) := by decide +kernel
theorem dX8_ranked_122 : decode cX8_ranked 122 = .ok (.iload 5, 2) := by decide +kernel
theorem dX8_ranked_124 : decode cX8_ranked 124 = .ok (.invokevirtual 248, 3) := by decide +kernel
theorem dX8_ranked_127 : decode cX8_ranked 127 = .ok (.iconst 1, 1) := by decide +kernel
theorem dX8_ranked_128 : decode cX8_ranked 128 = .ok (.ireturn, 1) := by decide +kernel
theorem cv_X8_ranked : wn_cV yX8_ranked cX8_ranked 7 (some .int) RX8 5 := ⟨wm_530, wm_1033, wm_1034, wm_377, by decide +kernel⟩
abbrev rm_X8_ranked : Room := rmz 4 99
set_option maxHeartbeats 4000000 in
set_option maxRecDepth 100000 in
theorem c_X8_ranked {ad : Nat → Nat} {o : Nat} {x1 : Int32} {x2 : Int32} {x3 : Int32} {x4 : Int32} {x5 : Int32} {M : Mm} {q : Int32 × Mm} (ho : shp o = 8) (hF : f_X8_ranked o x1 x2 x3 x4 x5 M = some q) : KI ad yX8_ranked cX8_ranked 7 (some .int) rm_X8_ranked [.ref (ad o), .int x1, .int x2, .int x3, .int x4, .int x5] M q.1 q.2 := by
  refine wn_enterI (own := RX8) (by decide) rfl (Nat.le_of_ble_eq_true rfl) (fun X ls Z hQ hl => ?_)
  have hl : lv_has ls 7 [(0, .ref (ad o)), (1, .int x1), (2, .int x2), (3, .int x3), (4, .int x4), (5, .int x5)] := hl
  unfold f_X8_ranked at hF
  refine r_iload_n Z dX8_ranked_0 rfl (lv_at hl 1 rfl) ?_
  obtain ⟨q1, hq1, hF⟩ := bd_some hF
  refine r_invSi [] Z (c_X8_isCounterNumber hq1) cv_X8_isCounterNumber wm_409 rfl rfl ⟨Nat.le_of_ble_eq_true rfl, Nat.le_of_ble_eq_true rfl⟩ rfl hl.1 rfl (Nat.le_of_ble_eq_true rfl) dX8_ranked_1 ?_
  refine r_if_eq Z 32 dX8_ranked_4 (by decide) (fun hc2 => ?_) (fun hc2 => ?_)
  · replace hF := if_some hc2 hF
    refine r_iconst (v := (-1)) Z dX8_ranked_32 (by decide) ?_
    exact r_iret Z hQ hF dX8_ranked_33
  · replace hF := nif_some hc2 hF
    refine r_iload_n Z dX8_ranked_7 rfl (lv_at hl 2 rfl) ?_
    obtain ⟨q3, hq3, hF⟩ := bd_some hF
    refine r_invSi [] Z (c_X8_isComing hq3) cv_X8_isComing wm_522 rfl rfl ⟨Nat.le_of_ble_eq_true rfl, Nat.le_of_ble_eq_true rfl⟩ rfl hl.1 rfl (Nat.le_of_ble_eq_true rfl) dX8_ranked_8 ?_
    refine r_if_eq Z 32 dX8_ranked_11 (by decide) (fun hc4 => ?_) (fun hc4 => ?_)
    · replace hF := if_some hc4 hF
      refine r_iconst (v := (-1)) Z dX8_ranked_32 (by decide) ?_
      exact r_iret Z hQ hF dX8_ranked_33
    · replace hF := nif_some hc4 hF
      refine r_iload_n Z dX8_ranked_14 rfl (lv_at hl 3 rfl) ?_
      obtain ⟨q5, hq5, hF⟩ := bd_some hF
      refine r_invSi [] Z (c_X8_isComing hq5) cv_X8_isComing wm_522 rfl rfl ⟨Nat.le_of_ble_eq_true rfl, Nat.le_of_ble_eq_true rfl⟩ rfl hl.1 rfl (Nat.le_of_ble_eq_true rfl) dX8_ranked_15 ?_
      refine r_if_eq Z 32 dX8_ranked_18 (by decide) (fun hc6 => ?_) (fun hc6 => ?_)
      · replace hF := if_some hc6 hF
        refine r_iconst (v := (-1)) Z dX8_ranked_32 (by decide) ?_
        exact r_iret Z hQ hF dX8_ranked_33
      · replace hF := nif_some hc6 hF
        refine r_iload Z dX8_ranked_21 (lv_at hl 5 rfl) ?_
        refine r_if_lt Z 32 dX8_ranked_23 (by decide) (fun hc7 => ?_) (fun hc7 => ?_)
        · replace hF := if_some hc7 hF
          refine r_iconst (v := (-1)) Z dX8_ranked_32 (by decide) ?_
          exact r_iret Z hQ hF dX8_ranked_33
        · replace hF := nif_some hc7 hF
          refine r_iload Z dX8_ranked_26 (lv_at hl 5 rfl) ?_
          refine r_iconst (v := 1) Z dX8_ranked_28 (by decide) ?_
          refine r_icmp_le Z 34 dX8_ranked_29 (by decide) (fun hc8 => ?_) (fun hc8 => ?_)
          · replace hF := if_some hc8 hF
            refine r_aload_n Z dX8_ranked_34 rfl (lv_at hl 0 rfl) ?_
            refine g_8_1 Z ho wm_351 dX8_ranked_35 ?_
            refine r_iload_n Z dX8_ranked_38 rfl (lv_at hl 1 rfl) ?_
            obtain ⟨q9, hq9, hF⟩ := bd_some hF
            refine r_invVi [] Z (c_X4_has (sh_8_1 ho) hq9) cv_X4_has rfl (shp_lt (sh_8_1 ho) (by decide)) (fun _ _ => ⟨_, ce_4 (sh_8_1 ho)⟩) wm_411 rfl rfl ⟨Nat.le_of_ble_eq_true rfl, Nat.le_of_ble_eq_true rfl⟩ rfl hl.1 rfl (Nat.le_of_ble_eq_true rfl) dX8_ranked_39 ?_
            refine r_if_ne Z 51 dX8_ranked_42 (by decide) (fun hc10 => ?_) (fun hc10 => ?_)
            · replace hF := nif_some hc10 hF
              refine r_aload_n Z dX8_ranked_51 rfl (lv_at hl 0 rfl) ?_
              refine g_8_1 Z ho wm_351 dX8_ranked_52 ?_
              refine g_4_0 Z (sh_8_1 ho) wm_418 dX8_ranked_55 ?_
              refine r_iload_n Z dX8_ranked_58 rfl (lv_at hl 1 rfl) ?_
              obtain ⟨hi11, hF⟩ := ck_some hF
              refine r_aald13 Z (sh_4_0 (sh_8_1 ho)) hi11 dX8_ranked_59 ?_
              refine g_1_1 Z (se_13 (sh_4_0 (sh_8_1 ho)) hi11) wm_423 dX8_ranked_60 ?_
              refine r_iconst (v := 4) Z dX8_ranked_63 (by decide) ?_
              refine r_icmp_eq Z 73 dX8_ranked_64 (by decide) (fun hc12 => ?_) (fun hc12 => ?_)
              · replace hF := if_some hc12 hF
                refine r_aload_n Z dX8_ranked_73 rfl (lv_at hl 0 rfl) ?_
                refine g_8_1 Z ho wm_351 dX8_ranked_74 ?_
                refine g_4_0 Z (sh_8_1 ho) wm_418 dX8_ranked_77 ?_
                refine r_iload_n Z dX8_ranked_80 rfl (lv_at hl 1 rfl) ?_
                obtain ⟨hi13, hF⟩ := ck_some hF
                refine r_aald13 Z (sh_4_0 (sh_8_1 ho)) hi13 dX8_ranked_81 ?_
                refine g_1_2 Z (se_13 (sh_4_0 (sh_8_1 ho)) hi13) wm_419 dX8_ranked_82 ?_
                refine r_iload_n Z dX8_ranked_85 rfl (lv_at hl 2 rfl) ?_
                refine r_isub Z dX8_ranked_86 ?_
                refine r_iload_n Z dX8_ranked_87 rfl (lv_at hl 3 rfl) ?_
                refine r_isub Z dX8_ranked_88 ?_
                obtain ⟨t14, et14, hF⟩ := nm_some hF
                rw [← et14]
                refine r_istore Z [(6, .int t14), (0, .ref (ad o)), (1, .int x1), (2, .int x2), (3, .int x3), (4, .int x4), (5, .int x5)] dX8_ranked_89 hl (by decide) rfl (fun ls hl => ?_)
                refine r_iload Z dX8_ranked_91 (lv_at hl 0 rfl) ?_
                refine r_if_gt Z 99 dX8_ranked_93 (by decide) (fun hc15 => ?_) (fun hc15 => ?_)
                · replace hF := if_some hc15 hF
                  refine r_iload Z dX8_ranked_99 (lv_at hl 5 rfl) ?_
                  refine r_if_eq Z 117 dX8_ranked_101 (by decide) (fun hc16 => ?_) (fun hc16 => ?_)
                  · replace hF := if_some hc16 hF
                    refine r_aload_n Z dX8_ranked_117 rfl (lv_at hl 1 rfl) ?_
                    refine r_iload_n Z dX8_ranked_118 rfl (lv_at hl 3 rfl) ?_
                    refine r_iload_n Z dX8_ranked_119 rfl (lv_at hl 4 rfl) ?_
                    refine r_iload Z dX8_ranked_120 (lv_at hl 0 rfl) ?_
                    refine r_iload Z dX8_ranked_122 (lv_at hl 6 rfl) ?_
                    obtain ⟨M17, hM17, hF⟩ := bd_some hF
                    refine r_invVv [] Z (c_X8_tellWaitingTurn ho hM17) cv_X8_tellWaitingTurn rfl (shp_lt ho (by decide)) (fun _ _ => ⟨_, ce_8 ho⟩) wm_527 rfl rfl ⟨Nat.le_of_ble_eq_true rfl, Nat.le_of_ble_eq_true rfl⟩ rfl hl.1 rfl (Nat.le_of_ble_eq_true rfl) dX8_ranked_124 ?_
                    refine r_iconst (v := 1) Z dX8_ranked_127 (by decide) ?_
                    exact r_iret Z hQ hF dX8_ranked_128
                  · replace hF := nif_some hc16 hF
                    refine r_aload_n Z dX8_ranked_104 rfl (lv_at hl 1 rfl) ?_
                    refine r_iload_n Z dX8_ranked_105 rfl (lv_at hl 3 rfl) ?_
                    refine r_iload_n Z dX8_ranked_106 rfl (lv_at hl 4 rfl) ?_
                    refine r_iload Z dX8_ranked_107 (lv_at hl 0 rfl) ?_
                    refine r_iload Z dX8_ranked_109 (lv_at hl 6 rfl) ?_
                    obtain ⟨M18, hM18, hF⟩ := bd_some hF
                    refine r_invVv [] Z (c_X8_tellBreakingIn ho hM18) cv_X8_tellBreakingIn rfl (shp_lt ho (by decide)) (fun _ _ => ⟨_, ce_8 ho⟩) wm_524 rfl rfl ⟨Nat.le_of_ble_eq_true rfl, Nat.le_of_ble_eq_true rfl⟩ rfl hl.1 rfl (Nat.le_of_ble_eq_true rfl) dX8_ranked_111 ?_
                    refine r_goto Z 127 dX8_ranked_114 (by decide) ?_
                    refine r_iconst (v := 1) Z dX8_ranked_127 (by decide) ?_
                    exact r_iret Z hQ hF dX8_ranked_128
                · replace hF := nif_some hc15 hF
                  refine r_bipush (v := (-4)) Z dX8_ranked_96 (by decide) ?_
                  exact r_iret Z hQ hF dX8_ranked_98
              · replace hF := nif_some hc12 hF
                refine r_aload_n Z dX8_ranked_67 rfl (lv_at hl 0 rfl) ?_
                refine r_iconst (v := 3) Z dX8_ranked_68 (by decide) ?_
                obtain ⟨q19, hq19, hF⟩ := bd_some hF
                refine r_invVi [] Z (c_X8_refuse ho hq19) cv_X8_refuse rfl (shp_lt ho (by decide)) (fun _ _ => ⟨_, ce_8 ho⟩) wm_378 rfl rfl ⟨Nat.le_of_ble_eq_true rfl, Nat.le_of_ble_eq_true rfl⟩ rfl hl.1 rfl (Nat.le_of_ble_eq_true rfl) dX8_ranked_69 ?_
                exact r_iret Z hQ hF dX8_ranked_72
            · replace hF := if_some hc10 hF
              refine r_aload_n Z dX8_ranked_45 rfl (lv_at hl 0 rfl) ?_
              refine r_iconst (v := 1) Z dX8_ranked_46 (by decide) ?_
              obtain ⟨q20, hq20, hF⟩ := bd_some hF
              refine r_invVi [] Z (c_X8_refuse ho hq20) cv_X8_refuse rfl (shp_lt ho (by decide)) (fun _ _ => ⟨_, ce_8 ho⟩) wm_378 rfl rfl ⟨Nat.le_of_ble_eq_true rfl, Nat.le_of_ble_eq_true rfl⟩ rfl hl.1 rfl (Nat.le_of_ble_eq_true rfl) dX8_ranked_47 ?_
              exact r_iret Z hQ hF dX8_ranked_50
          · replace hF := nif_some hc8 hF
            refine r_iconst (v := (-1)) Z dX8_ranked_32 (by decide) ?_
            exact r_iret Z hQ hF dX8_ranked_33
theorem dX8_rate_0 : decode cX8_rate 0 = .ok (.iload_n 1, 1) := by decide +kernel
theorem dX8_rate_1 : decode cX8_rate 1 = .ok (.invokestatic 106, 3) := by decide +kernel
theorem dX8_rate_4 : decode cX8_rate 4 = .ok (.ifCond .eq 10, 3) := by decide +kernel
theorem dX8_rate_7 : decode cX8_rate 7 = .ok (.iload_n 2, 1) := by decide +kernel
theorem dX8_rate_8 : decode cX8_rate 8 = .ok (.invokestatic 113, 3) := by decide +kernel
theorem dX8_rate_11 : decode cX8_rate 11 = .ok (.ifCond .ne 5, 3) := by decide +kernel
theorem dX8_rate_14 : decode cX8_rate 14 = .ok (.iconst (-1), 1) := by decide +kernel
theorem dX8_rate_15 : decode cX8_rate 15 = .ok (.ireturn, 1) := by decide +kernel
theorem dX8_rate_16 : decode cX8_rate 16 = .ok (.aload_n 0, 1) := by decide +kernel
theorem dX8_rate_17 : decode cX8_rate 17 = .ok (.getfield 18, 3) := by decide +kernel
theorem dX8_rate_20 : decode cX8_rate 20 = .ok (.iload_n 1, 1) := by decide +kernel
theorem dX8_rate_21 : decode cX8_rate 21 = .ok (.invokevirtual 109, 3) := by decide +kernel
theorem dX8_rate_24 : decode cX8_rate 24 = .ok (.ifCond .ne 9, 3) := by decide +kernel
theorem dX8_rate_27 : decode cX8_rate 27 = .ok (.aload_n 0, 1) := by decide +kernel
theorem dX8_rate_28 : decode cX8_rate 28 = .ok (.iconst 1, 1) := by decide +kernel
theorem dX8_rate_29 : decode cX8_rate 29 = .ok (.invokevirtual 66, 3) := by decide +kernel
theorem dX8_rate_32 : decode cX8_rate 32 = .ok (.ireturn, 1) := by decide +kernel
theorem dX8_rate_33 : decode cX8_rate 33 = .ok (.aload_n 0, 1) := by decide +kernel
theorem dX8_rate_34 : decode cX8_rate 34 = .ok (.getfield 18, 3) := by decide +kernel
theorem dX8_rate_37 : decode cX8_rate 37 = .ok (.getfield 116, 3) := by decide +kernel
theorem dX8_rate_40 : decode cX8_rate 40 = .ok (.iload_n 1, 1) := by decide +kernel
theorem dX8_rate_41 : decode cX8_rate 41 = .ok (.aaload, 1) := by decide +kernel
theorem dX8_rate_42 : decode cX8_rate 42 = .ok (.getfield 120, 3) := by decide +kernel
theorem dX8_rate_45 : decode cX8_rate 45 = .ok (.istore_n 3, 1) := by decide +kernel
theorem dX8_rate_46 : decode cX8_rate 46 = .ok (.aload_n 0, 1) := by decide +kernel
theorem dX8_rate_47 : decode cX8_rate 47 = .ok (.getfield 18, 3) := by decide +kernel
theorem dX8_rate_50 : decode cX8_rate 50 = .ok (.getfield 116, 3) := by decide +kernel
theorem dX8_rate_53 : decode cX8_rate 53 = .ok (.iload_n 1, 1) := by decide +kernel
theorem dX8_rate_54 : decode cX8_rate 54 = .ok (.aaload, 1) := by decide +kernel
theorem dX8_rate_55 : decode cX8_rate 55 = .ok (.iload_n 2, 1) := by decide +kernel
theorem dX8_rate_56 : decode cX8_rate 56 = .ok (.putfield 120, 3) := by decide +kernel
theorem dX8_rate_59 : decode cX8_rate 59 = .ok (.iload_n 3, 1) := by decide +kernel
theorem dX8_rate_60 : decode cX8_rate 60 = .ok (.ireturn, 1) := by decide +kernel
theorem cv_X8_rate : wn_cV yX8_rate cX8_rate 4 (some .int) RX8 2 := ⟨wm_422, wm_901, wm_902, wm_377, by decide +kernel⟩
abbrev rm_X8_rate : Room := rmz 2 41
set_option maxHeartbeats 4000000 in
set_option maxRecDepth 100000 in
theorem c_X8_rate {ad : Nat → Nat} {o : Nat} {x1 : Int32} {x2 : Int32} {M : Mm} {q : Int32 × Mm} (ho : shp o = 8) (hF : f_X8_rate o x1 x2 M = some q) : KI ad yX8_rate cX8_rate 4 (some .int) rm_X8_rate [.ref (ad o), .int x1, .int x2] M q.1 q.2 := by
  refine wn_enterI (own := RX8) (by decide) rfl (Nat.le_of_ble_eq_true rfl) (fun X ls Z hQ hl => ?_)
  have hl : lv_has ls 4 [(0, .ref (ad o)), (1, .int x1), (2, .int x2)] := hl
  unfold f_X8_rate at hF
  refine r_iload_n Z dX8_rate_0 rfl (lv_at hl 1 rfl) ?_
  obtain ⟨q1, hq1, hF⟩ := bd_some hF
  refine r_invSi [] Z (c_X8_isCounterNumber hq1) cv_X8_isCounterNumber wm_409 rfl rfl ⟨Nat.le_of_ble_eq_true rfl, Nat.le_of_ble_eq_true rfl⟩ rfl hl.1 rfl (Nat.le_of_ble_eq_true rfl) dX8_rate_1 ?_
  refine r_if_eq Z 14 dX8_rate_4 (by decide) (fun hc2 => ?_) (fun hc2 => ?_)
  · replace hF := if_some hc2 hF
    refine r_iconst (v := (-1)) Z dX8_rate_14 (by decide) ?_
    exact r_iret Z hQ hF dX8_rate_15
  · replace hF := nif_some hc2 hF
    refine r_iload_n Z dX8_rate_7 rfl (lv_at hl 2 rfl) ?_
    obtain ⟨q3, hq3, hF⟩ := bd_some hF
    refine r_invSi [] Z (c_X8_isRate hq3) cv_X8_isRate wm_420 rfl rfl ⟨Nat.le_of_ble_eq_true rfl, Nat.le_of_ble_eq_true rfl⟩ rfl hl.1 rfl (Nat.le_of_ble_eq_true rfl) dX8_rate_8 ?_
    refine r_if_ne Z 16 dX8_rate_11 (by decide) (fun hc4 => ?_) (fun hc4 => ?_)
    · replace hF := nif_some hc4 hF
      refine r_aload_n Z dX8_rate_16 rfl (lv_at hl 0 rfl) ?_
      refine g_8_1 Z ho wm_351 dX8_rate_17 ?_
      refine r_iload_n Z dX8_rate_20 rfl (lv_at hl 1 rfl) ?_
      obtain ⟨q5, hq5, hF⟩ := bd_some hF
      refine r_invVi [] Z (c_X4_has (sh_8_1 ho) hq5) cv_X4_has rfl (shp_lt (sh_8_1 ho) (by decide)) (fun _ _ => ⟨_, ce_4 (sh_8_1 ho)⟩) wm_411 rfl rfl ⟨Nat.le_of_ble_eq_true rfl, Nat.le_of_ble_eq_true rfl⟩ rfl hl.1 rfl (Nat.le_of_ble_eq_true rfl) dX8_rate_21 ?_
      refine r_if_ne Z 33 dX8_rate_24 (by decide) (fun hc6 => ?_) (fun hc6 => ?_)
      · replace hF := nif_some hc6 hF
        refine r_aload_n Z dX8_rate_33 rfl (lv_at hl 0 rfl) ?_
        refine g_8_1 Z ho wm_351 dX8_rate_34 ?_
        refine g_4_0 Z (sh_8_1 ho) wm_418 dX8_rate_37 ?_
        refine r_iload_n Z dX8_rate_40 rfl (lv_at hl 1 rfl) ?_
        obtain ⟨hi7, hF⟩ := ck_some hF
        refine r_aald13 Z (sh_4_0 (sh_8_1 ho)) hi7 dX8_rate_41 ?_
        refine g_1_2 Z (se_13 (sh_4_0 (sh_8_1 ho)) hi7) wm_419 dX8_rate_42 ?_
        obtain ⟨t8, et8, hF⟩ := nm_some hF
        rw [← et8]
        refine r_istore_n Z [(3, .int t8), (0, .ref (ad o)), (1, .int x1), (2, .int x2)] dX8_rate_45 rfl hl (by decide) rfl (fun ls hl => ?_)
        refine r_aload_n Z dX8_rate_46 rfl (lv_at hl 1 rfl) ?_
        refine g_8_1 Z ho wm_351 dX8_rate_47 ?_
        refine g_4_0 Z (sh_8_1 ho) wm_418 dX8_rate_50 ?_
        refine r_iload_n Z dX8_rate_53 rfl (lv_at hl 2 rfl) ?_
        obtain ⟨hi9, hF⟩ := ck_some hF
        refine r_aald13 Z (sh_4_0 (sh_8_1 ho)) hi9 dX8_rate_54 ?_
        refine r_iload_n Z dX8_rate_55 rfl (lv_at hl 3 rfl) ?_
        obtain ⟨M10, eM10, hF⟩ := nm_some hF
        refine p_1_2 Z (se_13 (sh_4_0 (sh_8_1 ho)) hi9) wm_419 dX8_rate_56 ?_
        rw [← eM10]
        refine r_iload_n Z dX8_rate_59 rfl (lv_at hl 0 rfl) ?_
        exact r_iret Z hQ hF dX8_rate_60
      · replace hF := if_some hc6 hF
        refine r_aload_n Z dX8_rate_27 rfl (lv_at hl 0 rfl) ?_
        refine r_iconst (v := 1) Z dX8_rate_28 (by decide) ?_
        obtain ⟨q11, hq11, hF⟩ := bd_some hF
        refine r_invVi [] Z (c_X8_refuse ho hq11) cv_X8_refuse rfl (shp_lt ho (by decide)) (fun _ _ => ⟨_, ce_8 ho⟩) wm_378 rfl rfl ⟨Nat.le_of_ble_eq_true rfl, Nat.le_of_ble_eq_true rfl⟩ rfl hl.1 rfl (Nat.le_of_ble_eq_true rfl) dX8_rate_29 ?_
        exact r_iret Z hQ hF dX8_rate_32
    · replace hF := if_some hc4 hF
      refine r_iconst (v := (-1)) Z dX8_rate_14 (by decide) ?_
      exact r_iret Z hQ hF dX8_rate_15
theorem dX8_room_0 : decode cX8_room 0 = .ok (.iload_n 1, 1) := by decide +kernel
theorem dX8_room_1 : decode cX8_room 1 = .ok (.invokestatic 106, 3) := by decide +kernel
theorem dX8_room_4 : decode cX8_room 4 = .ok (.ifCond .eq 14, 3) := by decide +kernel
theorem dX8_room_7 : decode cX8_room 7 = .ok (.iload_n 2, 1) := by decide +kernel
theorem dX8_room_8 : decode cX8_room 8 = .ok (.iconst 1, 1) := by decide +kernel
theorem dX8_room_9 : decode cX8_room 9 = .ok (.if_icmp .lt 9, 3) := by decide +kernel
theorem dX8_room_12 : decode cX8_room 12 = .ok (.iload_n 2, 1) := by decide +kernel
theorem dX8_room_13 : decode cX8_room 13 = .ok (.bipush 6, 2) := by decide +kernel
theorem dX8_room_15 : decode cX8_room 15 = .ok (.if_icmp .le 5, 3) := by decide +kernel
theorem dX8_room_18 : decode cX8_room 18 = .ok (.iconst (-1), 1) := by decide +kernel
theorem dX8_room_19 : decode cX8_room 19 = .ok (.ireturn, 1) := by decide +kernel
theorem dX8_room_20 : decode cX8_room 20 = .ok (.aload_n 0, 1) := by decide +kernel
theorem dX8_room_21 : decode cX8_room 21 = .ok (.getfield 18, 3) := by decide +kernel
theorem dX8_room_24 : decode cX8_room 24 = .ok (.iload_n 1, 1) := by decide +kernel
theorem dX8_room_25 : decode cX8_room 25 = .ok (.invokevirtual 109, 3) := by decide +kernel
theorem dX8_room_28 : decode cX8_room 28 = .ok (.ifCond .ne 9, 3) := by decide +kernel
theorem dX8_room_31 : decode cX8_room 31 = .ok (.aload_n 0, 1) := by decide +kernel
theorem dX8_room_32 : decode cX8_room 32 = .ok (.iconst 1, 1) := by decide +kernel
theorem dX8_room_33 : decode cX8_room 33 = .ok (.invokevirtual 66, 3) := by decide +kernel
theorem dX8_room_36 : decode cX8_room 36 = .ok (.ireturn, 1) := by decide +kernel
theorem dX8_room_37 : decode cX8_room 37 = .ok (.aload_n 0, 1) := by decide +kernel
theorem dX8_room_38 : decode cX8_room 38 = .ok (.getfield 18, 3) := by decide +kernel
theorem dX8_room_41 : decode cX8_room 41 = .ok (.getfield 116, 3) := by decide +kernel
theorem dX8_room_44 : decode cX8_room 44 = .ok (.iload_n 1, 1) := by decide +kernel
theorem dX8_room_45 : decode cX8_room 45 = .ok (.aaload, 1) := by decide +kernel
theorem dX8_room_46 : decode cX8_room 46 = .ok (.getfield 125, 3) := by decide +kernel
theorem dX8_room_49 : decode cX8_room 49 = .ok (.iconst 5, 1) := by decide +kernel
theorem dX8_room_50 : decode cX8_room 50 = .ok (.if_icmp .eq 9, 3) := by decide +kernel
theorem dX8_room_53 : decode cX8_room 53 = .ok (.aload_n 0, 1) := by decide +kernel
theorem dX8_room_54 : decode cX8_room 54 = .ok (.iconst 3, 1) := by decide +kernel
theorem dX8_room_55 : decode cX8_room 55 = .ok (.invokevirtual 66, 3) := by decide +kernel
theorem dX8_room_58 : decode cX8_room 58 = .ok (.ireturn, 1) := by decide +kernel
theorem dX8_room_59 : decode cX8_room 59 = .ok (.aload_n 0, 1) := by decide +kernel
theorem dX8_room_60 : decode cX8_room 60 = .ok (.getfield 18, 3) := by decide +kernel
theorem dX8_room_63 : decode cX8_room 63 = .ok (.getfield 116, 3) := by decide +kernel
theorem dX8_room_66 : decode cX8_room 66 = .ok (.iload_n 1, 1) := by decide +kernel
theorem dX8_room_67 : decode cX8_room 67 = .ok (.aaload, 1) := by decide +kernel
theorem dX8_room_68 : decode cX8_room 68 = .ok (.getfield 131, 3) := by decide +kernel
theorem dX8_room_71 : decode cX8_room 71 = .ok (.istore_n 3, 1) := by decide +kernel
theorem dX8_room_72 : decode cX8_room 72 = .ok (.aload_n 0, 1) := by decide +kernel
theorem dX8_room_73 : decode cX8_room 73 = .ok (.getfield 18, 3) := by decide +kernel
theorem dX8_room_76 : decode cX8_room 76 = .ok (.getfield 116, 3) := by decide +kernel
theorem dX8_room_79 : decode cX8_room 79 = .ok (.iload_n 1, 1) := by decide +kernel
theorem dX8_room_80 : decode cX8_room 80 = .ok (.aaload, 1) := by decide +kernel
theorem dX8_room_81 : decode cX8_room 81 = .ok (.iload_n 2, 1) := by decide +kernel
theorem dX8_room_82 : decode cX8_room 82 = .ok (.putfield 131, 3) := by decide +kernel
theorem dX8_room_85 : decode cX8_room 85 = .ok (.iload_n 3, 1) := by decide +kernel
theorem dX8_room_86 : decode cX8_room 86 = .ok (.ireturn, 1) := by decide +kernel
theorem cv_X8_room : wn_cV yX8_room cX8_room 4 (some .int) RX8 2 := ⟨wm_427, wm_913, wm_914, wm_377, by decide +kernel⟩
abbrev rm_X8_room : Room := rmz 2 41
set_option maxHeartbeats 4000000 in
set_option maxRecDepth 100000 in
theorem c_X8_room {ad : Nat → Nat} {o : Nat} {x1 : Int32} {x2 : Int32} {M : Mm} {q : Int32 × Mm} (ho : shp o = 8) (hF : f_X8_room o x1 x2 M = some q) : KI ad yX8_room cX8_room 4 (some .int) rm_X8_room [.ref (ad o), .int x1, .int x2] M q.1 q.2 := by
  refine wn_enterI (own := RX8) (by decide) rfl (Nat.le_of_ble_eq_true rfl) (fun X ls Z hQ hl => ?_)
  have hl : lv_has ls 4 [(0, .ref (ad o)), (1, .int x1), (2, .int x2)] := hl
  unfold f_X8_room at hF
  refine r_iload_n Z dX8_room_0 rfl (lv_at hl 1 rfl) ?_
  obtain ⟨q1, hq1, hF⟩ := bd_some hF
  refine r_invSi [] Z (c_X8_isCounterNumber hq1) cv_X8_isCounterNumber wm_409 rfl rfl ⟨Nat.le_of_ble_eq_true rfl, Nat.le_of_ble_eq_true rfl⟩ rfl hl.1 rfl (Nat.le_of_ble_eq_true rfl) dX8_room_1 ?_
  refine r_if_eq Z 18 dX8_room_4 (by decide) (fun hc2 => ?_) (fun hc2 => ?_)
  · replace hF := if_some hc2 hF
    refine r_iconst (v := (-1)) Z dX8_room_18 (by decide) ?_
    exact r_iret Z hQ hF dX8_room_19
  · replace hF := nif_some hc2 hF
    refine r_iload_n Z dX8_room_7 rfl (lv_at hl 2 rfl) ?_
    refine r_iconst (v := 1) Z dX8_room_8 (by decide) ?_
    refine r_icmp_lt Z 18 dX8_room_9 (by decide) (fun hc3 => ?_) (fun hc3 => ?_)
    · replace hF := if_some hc3 hF
      refine r_iconst (v := (-1)) Z dX8_room_18 (by decide) ?_
      exact r_iret Z hQ hF dX8_room_19
    · replace hF := nif_some hc3 hF
      refine r_iload_n Z dX8_room_12 rfl (lv_at hl 2 rfl) ?_
      refine r_bipush (v := 6) Z dX8_room_13 (by decide) ?_
      refine r_icmp_le Z 20 dX8_room_15 (by decide) (fun hc4 => ?_) (fun hc4 => ?_)
      · replace hF := if_some hc4 hF
        refine r_aload_n Z dX8_room_20 rfl (lv_at hl 0 rfl) ?_
        refine g_8_1 Z ho wm_351 dX8_room_21 ?_
        refine r_iload_n Z dX8_room_24 rfl (lv_at hl 1 rfl) ?_
        obtain ⟨q5, hq5, hF⟩ := bd_some hF
        refine r_invVi [] Z (c_X4_has (sh_8_1 ho) hq5) cv_X4_has rfl (shp_lt (sh_8_1 ho) (by decide)) (fun _ _ => ⟨_, ce_4 (sh_8_1 ho)⟩) wm_411 rfl rfl ⟨Nat.le_of_ble_eq_true rfl, Nat.le_of_ble_eq_true rfl⟩ rfl hl.1 rfl (Nat.le_of_ble_eq_true rfl) dX8_room_25 ?_
        refine r_if_ne Z 37 dX8_room_28 (by decide) (fun hc6 => ?_) (fun hc6 => ?_)
        · replace hF := nif_some hc6 hF
          refine r_aload_n Z dX8_room_37 rfl (lv_at hl 0 rfl) ?_
          refine g_8_1 Z ho wm_351 dX8_room_38 ?_
          refine g_4_0 Z (sh_8_1 ho) wm_418 dX8_room_41 ?_
          refine r_iload_n Z dX8_room_44 rfl (lv_at hl 1 rfl) ?_
          obtain ⟨hi7, hF⟩ := ck_some hF
          refine r_aald13 Z (sh_4_0 (sh_8_1 ho)) hi7 dX8_room_45 ?_
          refine g_1_1 Z (se_13 (sh_4_0 (sh_8_1 ho)) hi7) wm_423 dX8_room_46 ?_
          refine r_iconst (v := 5) Z dX8_room_49 (by decide) ?_
          refine r_icmp_eq Z 59 dX8_room_50 (by decide) (fun hc8 => ?_) (fun hc8 => ?_)
          · replace hF := if_some hc8 hF
            refine r_aload_n Z dX8_room_59 rfl (lv_at hl 0 rfl) ?_
            refine g_8_1 Z ho wm_351 dX8_room_60 ?_
            refine g_4_0 Z (sh_8_1 ho) wm_418 dX8_room_63 ?_
            refine r_iload_n Z dX8_room_66 rfl (lv_at hl 1 rfl) ?_
            obtain ⟨hi9, hF⟩ := ck_some hF
            refine r_aald13 Z (sh_4_0 (sh_8_1 ho)) hi9 dX8_room_67 ?_
            refine g_1_4 Z (se_13 (sh_4_0 (sh_8_1 ho)) hi9) wm_426 dX8_room_68 ?_
            obtain ⟨t10, et10, hF⟩ := nm_some hF
            rw [← et10]
            refine r_istore_n Z [(3, .int t10), (0, .ref (ad o)), (1, .int x1), (2, .int x2)] dX8_room_71 rfl hl (by decide) rfl (fun ls hl => ?_)
            refine r_aload_n Z dX8_room_72 rfl (lv_at hl 1 rfl) ?_
            refine g_8_1 Z ho wm_351 dX8_room_73 ?_
            refine g_4_0 Z (sh_8_1 ho) wm_418 dX8_room_76 ?_
            refine r_iload_n Z dX8_room_79 rfl (lv_at hl 2 rfl) ?_
            obtain ⟨hi11, hF⟩ := ck_some hF
            refine r_aald13 Z (sh_4_0 (sh_8_1 ho)) hi11 dX8_room_80 ?_
            refine r_iload_n Z dX8_room_81 rfl (lv_at hl 3 rfl) ?_
            obtain ⟨M12, eM12, hF⟩ := nm_some hF
            refine p_1_4 Z (se_13 (sh_4_0 (sh_8_1 ho)) hi11) wm_426 dX8_room_82 ?_
            rw [← eM12]
            refine r_iload_n Z dX8_room_85 rfl (lv_at hl 0 rfl) ?_
            exact r_iret Z hQ hF dX8_room_86
          · replace hF := nif_some hc8 hF
            refine r_aload_n Z dX8_room_53 rfl (lv_at hl 0 rfl) ?_
            refine r_iconst (v := 3) Z dX8_room_54 (by decide) ?_
            obtain ⟨q13, hq13, hF⟩ := bd_some hF
            refine r_invVi [] Z (c_X8_refuse ho hq13) cv_X8_refuse rfl (shp_lt ho (by decide)) (fun _ _ => ⟨_, ce_8 ho⟩) wm_378 rfl rfl ⟨Nat.le_of_ble_eq_true rfl, Nat.le_of_ble_eq_true rfl⟩ rfl hl.1 rfl (Nat.le_of_ble_eq_true rfl) dX8_room_55 ?_
            exact r_iret Z hQ hF dX8_room_58
        · replace hF := if_some hc6 hF
          refine r_aload_n Z dX8_room_31 rfl (lv_at hl 0 rfl) ?_
          refine r_iconst (v := 1) Z dX8_room_32 (by decide) ?_
          obtain ⟨q14, hq14, hF⟩ := bd_some hF
          refine r_invVi [] Z (c_X8_refuse ho hq14) cv_X8_refuse rfl (shp_lt ho (by decide)) (fun _ _ => ⟨_, ce_8 ho⟩) wm_378 rfl rfl ⟨Nat.le_of_ble_eq_true rfl, Nat.le_of_ble_eq_true rfl⟩ rfl hl.1 rfl (Nat.le_of_ble_eq_true rfl) dX8_room_33 ?_
          exact r_iret Z hQ hF dX8_room_36
      · replace hF := nif_some hc4 hF
        refine r_iconst (v := (-1)) Z dX8_room_18 (by decide) ?_
        exact r_iret Z hQ hF dX8_room_19
theorem dX8_roomed_0 : decode cX8_roomed 0 = .ok (.iload_n 1, 1) := by decide +kernel
theorem dX8_roomed_1 : decode cX8_roomed 1 = .ok (.invokestatic 106, 3) := by decide +kernel
theorem dX8_roomed_4 : decode cX8_roomed 4 = .ok (.ifCond .eq 19, 3) := by decide +kernel
theorem dX8_roomed_7 : decode cX8_roomed 7 = .ok (.iload_n 2, 1) := by decide +kernel
theorem dX8_roomed_8 : decode cX8_roomed 8 = .ok (.iconst 1, 1) := by decide +kernel
theorem dX8_roomed_9 : decode cX8_roomed 9 = .ok (.if_icmp .lt 14, 3) := by decide +kernel
theorem dX8_roomed_12 : decode cX8_roomed 12 = .ok (.iload_n 2, 1) := by decide +kernel
theorem dX8_roomed_13 : decode cX8_roomed 13 = .ok (.bipush 9, 2) := by decide +kernel
theorem dX8_roomed_15 : decode cX8_roomed 15 = .ok (.if_icmp .gt 8, 3) := by decide +kernel
theorem dX8_roomed_18 : decode cX8_roomed 18 = .ok (.iload_n 3, 1) := by decide +kernel
theorem dX8_roomed_19 : decode cX8_roomed 19 = .ok (.iconst (-1), 1) := by decide +kernel
theorem dX8_roomed_20 : decode cX8_roomed 20 = .ok (.if_icmp .ge 5, 3) := by decide +kernel
theorem dX8_roomed_23 : decode cX8_roomed 23 = .ok (.iconst (-1), 1) := by decide +kernel
theorem dX8_roomed_24 : decode cX8_roomed 24 = .ok (.ireturn, 1) := by decide +kernel
theorem dX8_roomed_25 : decode cX8_roomed 25 = .ok (.aload_n 0, 1) := by decide +kernel
theorem dX8_roomed_26 : decode cX8_roomed 26 = .ok (.getfield 18, 3) := by decide +kernel
theorem dX8_roomed_29 : decode cX8_roomed 29 = .ok (.iload_n 1, 1) := by decide +kernel
theorem dX8_roomed_30 : decode cX8_roomed 30 = .ok (.invokevirtual 109, 3) := by decide +kernel
theorem dX8_roomed_33 : decode cX8_roomed 33 = .ok (.ifCond .ne 9, 3) := by decide +kernel
theorem dX8_roomed_36 : decode cX8_roomed 36 = .ok (.aload_n 0, 1) := by decide +kernel
theorem dX8_roomed_37 : decode cX8_roomed 37 = .ok (.iconst 1, 1) := by decide +kernel
theorem dX8_roomed_38 : decode cX8_roomed 38 = .ok (.invokevirtual 66, 3) := by decide +kernel
theorem dX8_roomed_41 : decode cX8_roomed 41 = .ok (.ireturn, 1) := by decide +kernel
theorem dX8_roomed_42 : decode cX8_roomed 42 = .ok (.aload_n 0, 1) := by decide +kernel
theorem dX8_roomed_43 : decode cX8_roomed 43 = .ok (.getfield 18, 3) := by decide +kernel
theorem dX8_roomed_46 : decode cX8_roomed 46 = .ok (.getfield 116, 3) := by decide +kernel
theorem dX8_roomed_49 : decode cX8_roomed 49 = .ok (.iload_n 1, 1) := by decide +kernel
theorem dX8_roomed_50 : decode cX8_roomed 50 = .ok (.aaload, 1) := by decide +kernel
theorem dX8_roomed_51 : decode cX8_roomed 51 = .ok (.astore 4, 2) := by decide +kernel
theorem dX8_roomed_53 : decode cX8_roomed 53 = .ok (.aload 4, 2) := by decide +kernel
theorem dX8_roomed_55 : decode cX8_roomed 55 = .ok (.getfield 125, 3) := by decide +kernel
theorem dX8_roomed_58 : decode cX8_roomed 58 = .ok (.iconst 5, 1) := by decide +kernel
theorem dX8_roomed_59 : decode cX8_roomed 59 = .ok (.if_icmp .eq 9, 3) := by decide +kernel
theorem dX8_roomed_62 : decode cX8_roomed 62 = .ok (.aload_n 0, 1) := by decide +kernel
theorem dX8_roomed_63 : decode cX8_roomed 63 = .ok (.iconst 3, 1) := by decide +kernel
theorem dX8_roomed_64 : decode cX8_roomed 64 = .ok (.invokevirtual 66, 3) := by decide +kernel
theorem dX8_roomed_67 : decode cX8_roomed 67 = .ok (.ireturn, 1) := by decide +kernel
theorem dX8_roomed_68 : decode cX8_roomed 68 = .ok (.iload_n 3, 1) := by decide +kernel
theorem dX8_roomed_69 : decode cX8_roomed 69 = .ok (.aload 4, 2) := by decide +kernel
theorem dX8_roomed_71 : decode cX8_roomed 71 = .ok (.getfield 131, 3) := by decide +kernel
theorem dX8_roomed_74 : decode cX8_roomed 74 = .ok (.if_icmp .le 5, 3) := by decide +kernel
theorem dX8_roomed_77 : decode cX8_roomed 77 = .ok (.iconst (-1), 1) := by decide +kernel
theorem dX8_roomed_78 : decode cX8_roomed 78 = .ok (.ireturn, 1) := by decide +kernel
theorem dX8_roomed_79 : decode cX8_roomed 79 = .ok (.lconst 0, 1) := by decide +kernel
theorem dX8_roomed_80 : decode cX8_roomed 80 = .ok (.lstore 5, 2) := by decide +kernel
theorem dX8_roomed_82 : decode cX8_roomed 82 = .ok (.iconst 0, 1) := by decide +kernel
theorem dX8_roomed_83 : decode cX8_roomed 83 = .ok (.istore 7, 2) := by decide +kernel
theorem dX8_roomed_85 : decode cX8_roomed 85 = .ok (.iload 7, 2) := by decide +kernel
theorem dX8_roomed_87 : decode cX8_roomed 87 = .ok (.aload 4, 2) := by decide +kernel
theorem dX8_roomed_89 : decode cX8_roomed 89 = .ok (.getfield 131, 3) := by decide +kernel
theorem dX8_roomed_92 : decode cX8_roomed 92 = .ok (.if_icmp .gt 22, 3) := by decide +kernel
theorem dX8_roomed_95 : decode cX8_roomed 95 = .ok (.lload 5, 2) := by decide +kernel
theorem dX8_roomed_97 : decode cX8_roomed 97 = .ok (.aload 4, 2) := by decide +kernel
theorem dX8_roomed_99 : decode cX8_roomed 99 = .ok (.iload_n 2, 1) := by decide +kernel
theorem dX8_roomed_100 : decode cX8_roomed 100 = .ok (.iload 7, 2) := by decide +kernel
theorem dX8_roomed_102 : decode cX8_roomed 102 = .ok (.invokevirtual 251, 3) := by decide +kernel
theorem dX8_roomed_105 : decode cX8_roomed 105 = .ok (.ladd, 1) := by decide +kernel
theorem dX8_roomed_106 : decode cX8_roomed 106 = .ok (.lstore 5, 2) := by decide +kernel
theorem dX8_roomed_108 : decode cX8_roomed 108 = .ok (.iinc 7 1, 3) := by decide +kernel
theorem dX8_roomed_111 : decode cX8_roomed 111 = .ok (.goto (-26), 3) := by decide +kernel
theorem dX8_roomed_114 : decode cX8_roomed 114 = .ok (.iload_n 3, 1) := by decide +kernel
theorem dX8_roomed_115 : decode cX8_roomed 115 = .ok (.ifCond .ge 29, 3) := by decide +kernel
theorem dX8_roomed_118 : decode cX8_roomed 118 = .ok (.aload_n 0, 1) := by decide +kernel
theorem dX8_roomed_119 : decode cX8_roomed 119 = .ok (.getfield 46, 3) := by decide +kernel
theorem dX8_roomed_122 : decode cX8_roomed 122 = .ok (.iload_n 2, 1) := by decide +kernel
theorem dX8_roomed_123 : decode cX8_roomed 123 = .ok (.i2l, 1) := by decide +kernel
theorem dX8_roomed_124 : decode cX8_roomed 124 = .ok (.aload 4, 2) := by decide +kernel
theorem dX8_roomed_126 : decode cX8_roomed 126 = .ok (.iload_n 2, 1) := by decide +kernel
theorem dX8_roomed_127 : decode cX8_roomed 127 = .ok (.aload 4, 2) := by decide +kernel
theorem dX8_roomed_129 : decode cX8_roomed 129 = .ok (.getfield 131, 3) := by decide +kernel
theorem dX8_roomed_132 : decode cX8_roomed 132 = .ok (.invokevirtual 251, 3) := by decide +kernel
theorem dX8_roomed_135 : decode cX8_roomed 135 = .ok (.lmul, 1) := by decide +kernel
theorem dX8_roomed_136 : decode cX8_roomed 136 = .ok (.lload 5, 2) := by decide +kernel
theorem dX8_roomed_138 : decode cX8_roomed 138 = .ok (.invokevirtual 191, 3) := by decide +kernel
theorem dX8_roomed_141 : decode cX8_roomed 141 = .ok (.goto 19, 3) := by decide +kernel
theorem dX8_roomed_144 : decode cX8_roomed 144 = .ok (.aload_n 0, 1) := by decide +kernel
theorem dX8_roomed_145 : decode cX8_roomed 145 = .ok (.getfield 46, 3) := by decide +kernel
theorem dX8_roomed_148 : decode cX8_roomed 148 = .ok (.aload 4, 2) := by decide +kernel
theorem dX8_roomed_150 : decode cX8_roomed 150 = .ok (.iload_n 2, 1) := by decide +kernel
theorem dX8_roomed_151 : decode cX8_roomed 151 = .ok (.iload_n 3, 1) := by decide +kernel
theorem dX8_roomed_152 : decode cX8_roomed 152 = .ok (.invokevirtual 251, 3) := by decide +kernel
theorem dX8_roomed_155 : decode cX8_roomed 155 = .ok (.lload 5, 2) := by decide +kernel
theorem dX8_roomed_157 : decode cX8_roomed 157 = .ok (.invokevirtual 191, 3) := by decide +kernel
theorem dX8_roomed_160 : decode cX8_roomed 160 = .ok (.iconst 1, 1) := by decide +kernel
theorem dX8_roomed_161 : decode cX8_roomed 161 = .ok (.ireturn, 1) := by decide +kernel
theorem cv_X8_roomed : wn_cV yX8_roomed cX8_roomed 8 (some .int) RX8 3 := ⟨wm_534, wm_1039, wm_1040, wm_377, by decide +kernel⟩
abbrev rm_X8_roomed : Room := rmz 3 71
set_option maxHeartbeats 4000000 in
set_option maxRecDepth 100000 in
theorem c_X8_roomed {ad : Nat → Nat} {o : Nat} {x1 : Int32} {x2 : Int32} {x3 : Int32} {M : Mm} {q : Int32 × Mm} (ho : shp o = 8) (hF : f_X8_roomed o x1 x2 x3 M = some q) : KI ad yX8_roomed cX8_roomed 8 (some .int) rm_X8_roomed [.ref (ad o), .int x1, .int x2, .int x3] M q.1 q.2 := by
  refine wn_enterI (own := RX8) (by decide) rfl (Nat.le_of_ble_eq_true rfl) (fun X ls Z hQ hl => ?_)
  have hl : lv_has ls 8 [(0, .ref (ad o)), (1, .int x1), (2, .int x2), (3, .int x3)] := hl
  have L85 : ∀ (n85 : Nat) (v2 : Int32) (v3 : Int32) (v4 : Nat) (v5 : Int64) (v7 : Int32) (M : Mm) (ls : Array Slot), shp v4 = 1 → lv_has ls 8 [(0, .ref (ad o)), (2, .int v2), (3, .int v3), (4, .ref (ad v4)), (5, .long v5), (7, .int v7)] → f_X8_roomed_b85 o n85 v2 v3 v4 v5 v7 M = some q → G ad X M 85 ls [] := by
    intro n85
    induction n85 with
    | zero =>
      intro v2 v3 v4 v5 v7 M ls hv4 hl hF
      cases hF
    | succ n85 ih85 =>
      intro v2 v3 v4 v5 v7 M ls hv4 hl hF
      replace hF : f_X8_roomed_b85B (f_X8_roomed_b85 o n85) o v2 v3 v4 v5 v7 M = some q := hF
      unfold f_X8_roomed_b85B at hF
      refine r_iload Z dX8_roomed_85 (lv_at hl 5 rfl) ?_
      refine r_aload Z dX8_roomed_87 (lv_at hl 3 rfl) ?_
      refine g_1_4 Z hv4 wm_426 dX8_roomed_89 ?_
      refine r_icmp_gt Z 114 dX8_roomed_92 (by decide) (fun hc1 => ?_) (fun hc1 => ?_)
      · replace hF := if_some hc1 hF
        refine r_iload_n Z dX8_roomed_114 rfl (lv_at hl 2 rfl) ?_
        refine r_if_ge Z 144 dX8_roomed_115 (by decide) (fun hc2 => ?_) (fun hc2 => ?_)
        · replace hF := if_some hc2 hF
          refine r_aload_n Z dX8_roomed_144 rfl (lv_at hl 0 rfl) ?_
          refine g_8_5 Z ho wm_362 dX8_roomed_145 ?_
          refine r_aload Z dX8_roomed_148 (lv_at hl 3 rfl) ?_
          refine r_iload_n Z dX8_roomed_150 rfl (lv_at hl 1 rfl) ?_
          refine r_iload_n Z dX8_roomed_151 rfl (lv_at hl 2 rfl) ?_
          obtain ⟨q3, hq3, hF⟩ := bd_some hF
          refine r_invVl [.ref (ad (fld o 5))] Z (c_X1_roomWeight hv4 hq3) cv_X1_roomWeight rfl (shp_lt hv4 (by decide)) (fun _ _ => ⟨_, ce_1 hv4⟩) wm_531 rfl rfl ⟨Nat.le_of_ble_eq_true rfl, Nat.le_of_ble_eq_true rfl⟩ rfl hl.1 rfl (Nat.le_of_ble_eq_true rfl) dX8_roomed_152 ?_
          refine r_lload Z dX8_roomed_155 (lv_at hl 4 rfl) ?_
          obtain ⟨M4, hM4, hF⟩ := bd_some hF
          refine r_invVv [] Z (c_X2_set (sh_8_5 ho) hM4) cv_X2_set rfl (shp_lt (sh_8_5 ho) (by decide)) (fun _ _ => ⟨_, ce_2 (sh_8_5 ho)⟩) wm_471 rfl rfl ⟨Nat.le_of_ble_eq_true rfl, Nat.le_of_ble_eq_true rfl⟩ rfl hl.1 rfl (Nat.le_of_ble_eq_true rfl) dX8_roomed_157 ?_
          refine r_iconst (v := 1) Z dX8_roomed_160 (by decide) ?_
          exact r_iret Z hQ hF dX8_roomed_161
        · replace hF := nif_some hc2 hF
          refine r_aload_n Z dX8_roomed_118 rfl (lv_at hl 0 rfl) ?_
          refine g_8_5 Z ho wm_362 dX8_roomed_119 ?_
          refine r_iload_n Z dX8_roomed_122 rfl (lv_at hl 1 rfl) ?_
          refine r_i2l Z dX8_roomed_123 ?_
          refine r_aload Z dX8_roomed_124 (lv_at hl 3 rfl) ?_
          refine r_iload_n Z dX8_roomed_126 rfl (lv_at hl 1 rfl) ?_
          refine r_aload Z dX8_roomed_127 (lv_at hl 3 rfl) ?_
          refine g_1_4 Z hv4 wm_426 dX8_roomed_129 ?_
          obtain ⟨q5, hq5, hF⟩ := bd_some hF
          refine r_invVl [.long (Int32.toInt64 v2), .ref (ad (fld o 5))] Z (c_X1_roomWeight hv4 hq5) cv_X1_roomWeight rfl (shp_lt hv4 (by decide)) (fun _ _ => ⟨_, ce_1 hv4⟩) wm_531 rfl rfl ⟨Nat.le_of_ble_eq_true rfl, Nat.le_of_ble_eq_true rfl⟩ rfl hl.1 rfl (Nat.le_of_ble_eq_true rfl) dX8_roomed_132 ?_
          refine r_lmul Z dX8_roomed_135 ?_
          refine r_lload Z dX8_roomed_136 (lv_at hl 4 rfl) ?_
          obtain ⟨M6, hM6, hF⟩ := bd_some hF
          refine r_invVv [] Z (c_X2_set (sh_8_5 ho) hM6) cv_X2_set rfl (shp_lt (sh_8_5 ho) (by decide)) (fun _ _ => ⟨_, ce_2 (sh_8_5 ho)⟩) wm_471 rfl rfl ⟨Nat.le_of_ble_eq_true rfl, Nat.le_of_ble_eq_true rfl⟩ rfl hl.1 rfl (Nat.le_of_ble_eq_true rfl) dX8_roomed_138 ?_
          refine r_goto Z 160 dX8_roomed_141 (by decide) ?_
          refine r_iconst (v := 1) Z dX8_roomed_160 (by decide) ?_
          exact r_iret Z hQ hF dX8_roomed_161
      · replace hF := nif_some hc1 hF
        refine r_lload Z dX8_roomed_95 (lv_at hl 4 rfl) ?_
        refine r_aload Z dX8_roomed_97 (lv_at hl 3 rfl) ?_
        refine r_iload_n Z dX8_roomed_99 rfl (lv_at hl 1 rfl) ?_
        refine r_iload Z dX8_roomed_100 (lv_at hl 5 rfl) ?_
        obtain ⟨q7, hq7, hF⟩ := bd_some hF
        refine r_invVl [.long v5] Z (c_X1_roomWeight hv4 hq7) cv_X1_roomWeight rfl (shp_lt hv4 (by decide)) (fun _ _ => ⟨_, ce_1 hv4⟩) wm_531 rfl rfl ⟨Nat.le_of_ble_eq_true rfl, Nat.le_of_ble_eq_true rfl⟩ rfl hl.1 rfl (Nat.le_of_ble_eq_true rfl) dX8_roomed_102 ?_
        refine r_ladd Z dX8_roomed_105 ?_
        obtain ⟨t8, et8, hF⟩ := nm_some hF
        rw [← et8]
        refine r_lstore Z [(5, .long t8), (0, .ref (ad o)), (2, .int v2), (3, .int v3), (4, .ref (ad v4)), (7, .int v7)] dX8_roomed_106 hl (by decide) rfl (fun ls hl => ?_)
        obtain ⟨t9, et9, hF⟩ := nm_some hF
        refine r_iinc (j := 5) Z t9 [(7, .int t9), (5, .long t8), (0, .ref (ad o)), (2, .int v2), (3, .int v3), (4, .ref (ad v4))] dX8_roomed_108 hl rfl (by rw [et9]; rfl) (by decide) rfl (fun ls hl => ?_)
        refine r_goto Z 85 dX8_roomed_111 (by decide) ?_
        exact ih85 v2 v3 v4 t8 t9 q7.2 ls hv4 (lv_sub hl [2, 3, 4, 5, 1, 0] rfl) hF
  unfold f_X8_roomed at hF
  refine r_iload_n Z dX8_roomed_0 rfl (lv_at hl 1 rfl) ?_
  obtain ⟨q10, hq10, hF⟩ := bd_some hF
  refine r_invSi [] Z (c_X8_isCounterNumber hq10) cv_X8_isCounterNumber wm_409 rfl rfl ⟨Nat.le_of_ble_eq_true rfl, Nat.le_of_ble_eq_true rfl⟩ rfl hl.1 rfl (Nat.le_of_ble_eq_true rfl) dX8_roomed_1 ?_
  refine r_if_eq Z 23 dX8_roomed_4 (by decide) (fun hc11 => ?_) (fun hc11 => ?_)
  · replace hF := if_some hc11 hF
    refine r_iconst (v := (-1)) Z dX8_roomed_23 (by decide) ?_
    exact r_iret Z hQ hF dX8_roomed_24
  · replace hF := nif_some hc11 hF
    refine r_iload_n Z dX8_roomed_7 rfl (lv_at hl 2 rfl) ?_
    refine r_iconst (v := 1) Z dX8_roomed_8 (by decide) ?_
    refine r_icmp_lt Z 23 dX8_roomed_9 (by decide) (fun hc12 => ?_) (fun hc12 => ?_)
    · replace hF := if_some hc12 hF
      refine r_iconst (v := (-1)) Z dX8_roomed_23 (by decide) ?_
      exact r_iret Z hQ hF dX8_roomed_24
    · replace hF := nif_some hc12 hF
      refine r_iload_n Z dX8_roomed_12 rfl (lv_at hl 2 rfl) ?_
      refine r_bipush (v := 9) Z dX8_roomed_13 (by decide) ?_
      refine r_icmp_gt Z 23 dX8_roomed_15 (by decide) (fun hc13 => ?_) (fun hc13 => ?_)
      · replace hF := if_some hc13 hF
        refine r_iconst (v := (-1)) Z dX8_roomed_23 (by decide) ?_
        exact r_iret Z hQ hF dX8_roomed_24
      · replace hF := nif_some hc13 hF
        refine r_iload_n Z dX8_roomed_18 rfl (lv_at hl 3 rfl) ?_
        refine r_iconst (v := (-1)) Z dX8_roomed_19 (by decide) ?_
        refine r_icmp_ge Z 25 dX8_roomed_20 (by decide) (fun hc14 => ?_) (fun hc14 => ?_)
        · replace hF := if_some hc14 hF
          refine r_aload_n Z dX8_roomed_25 rfl (lv_at hl 0 rfl) ?_
          refine g_8_1 Z ho wm_351 dX8_roomed_26 ?_
          refine r_iload_n Z dX8_roomed_29 rfl (lv_at hl 1 rfl) ?_
          obtain ⟨q15, hq15, hF⟩ := bd_some hF
          refine r_invVi [] Z (c_X4_has (sh_8_1 ho) hq15) cv_X4_has rfl (shp_lt (sh_8_1 ho) (by decide)) (fun _ _ => ⟨_, ce_4 (sh_8_1 ho)⟩) wm_411 rfl rfl ⟨Nat.le_of_ble_eq_true rfl, Nat.le_of_ble_eq_true rfl⟩ rfl hl.1 rfl (Nat.le_of_ble_eq_true rfl) dX8_roomed_30 ?_
          refine r_if_ne Z 42 dX8_roomed_33 (by decide) (fun hc16 => ?_) (fun hc16 => ?_)
          · replace hF := nif_some hc16 hF
            refine r_aload_n Z dX8_roomed_42 rfl (lv_at hl 0 rfl) ?_
            refine g_8_1 Z ho wm_351 dX8_roomed_43 ?_
            refine g_4_0 Z (sh_8_1 ho) wm_418 dX8_roomed_46 ?_
            refine r_iload_n Z dX8_roomed_49 rfl (lv_at hl 1 rfl) ?_
            obtain ⟨hi17, hF⟩ := ck_some hF
            refine r_aald13 Z (sh_4_0 (sh_8_1 ho)) hi17 dX8_roomed_50 ?_
            refine r_astore Z [(4, .ref (ad (elm (fld (fld o 1) 0) (Int32.toNatClampNeg x1)))), (0, .ref (ad o)), (1, .int x1), (2, .int x2), (3, .int x3)] dX8_roomed_51 hl (by decide) rfl (fun ls hl => ?_)
            refine r_aload Z dX8_roomed_53 (lv_at hl 0 rfl) ?_
            refine g_1_1 Z (se_13 (sh_4_0 (sh_8_1 ho)) hi17) wm_423 dX8_roomed_55 ?_
            refine r_iconst (v := 5) Z dX8_roomed_58 (by decide) ?_
            refine r_icmp_eq Z 68 dX8_roomed_59 (by decide) (fun hc18 => ?_) (fun hc18 => ?_)
            · replace hF := if_some hc18 hF
              refine r_iload_n Z dX8_roomed_68 rfl (lv_at hl 4 rfl) ?_
              refine r_aload Z dX8_roomed_69 (lv_at hl 0 rfl) ?_
              refine g_1_4 Z (se_13 (sh_4_0 (sh_8_1 ho)) hi17) wm_426 dX8_roomed_71 ?_
              refine r_icmp_le Z 79 dX8_roomed_74 (by decide) (fun hc19 => ?_) (fun hc19 => ?_)
              · replace hF := if_some hc19 hF
                refine r_lconst (v := 0) Z dX8_roomed_79 (by decide) ?_
                refine r_lstore Z [(5, .long 0), (4, .ref (ad (elm (fld (fld o 1) 0) (Int32.toNatClampNeg x1)))), (0, .ref (ad o)), (1, .int x1), (2, .int x2), (3, .int x3)] dX8_roomed_80 hl (by decide) rfl (fun ls hl => ?_)
                refine r_iconst (v := 0) Z dX8_roomed_82 (by decide) ?_
                refine r_istore Z [(7, .int 0), (5, .long 0), (4, .ref (ad (elm (fld (fld o 1) 0) (Int32.toNatClampNeg x1)))), (0, .ref (ad o)), (1, .int x1), (2, .int x2), (3, .int x3)] dX8_roomed_83 hl (by decide) rfl (fun ls hl => ?_)
                exact L85 _ x2 x3 (elm (fld (fld o 1) 0) (Int32.toNatClampNeg x1)) 0 0 q15.2 ls (se_13 (sh_4_0 (sh_8_1 ho)) hi17) (lv_sub hl [3, 5, 6, 2, 1, 0] rfl) hF
              · replace hF := nif_some hc19 hF
                refine r_iconst (v := (-1)) Z dX8_roomed_77 (by decide) ?_
                exact r_iret Z hQ hF dX8_roomed_78
            · replace hF := nif_some hc18 hF
              refine r_aload_n Z dX8_roomed_62 rfl (lv_at hl 1 rfl) ?_
              refine r_iconst (v := 3) Z dX8_roomed_63 (by decide) ?_
              obtain ⟨q20, hq20, hF⟩ := bd_some hF
              refine r_invVi [] Z (c_X8_refuse ho hq20) cv_X8_refuse rfl (shp_lt ho (by decide)) (fun _ _ => ⟨_, ce_8 ho⟩) wm_378 rfl rfl ⟨Nat.le_of_ble_eq_true rfl, Nat.le_of_ble_eq_true rfl⟩ rfl hl.1 rfl (Nat.le_of_ble_eq_true rfl) dX8_roomed_64 ?_
              exact r_iret Z hQ hF dX8_roomed_67
          · replace hF := if_some hc16 hF
            refine r_aload_n Z dX8_roomed_36 rfl (lv_at hl 0 rfl) ?_
            refine r_iconst (v := 1) Z dX8_roomed_37 (by decide) ?_
            obtain ⟨q21, hq21, hF⟩ := bd_some hF
            refine r_invVi [] Z (c_X8_refuse ho hq21) cv_X8_refuse rfl (shp_lt ho (by decide)) (fun _ _ => ⟨_, ce_8 ho⟩) wm_378 rfl rfl ⟨Nat.le_of_ble_eq_true rfl, Nat.le_of_ble_eq_true rfl⟩ rfl hl.1 rfl (Nat.le_of_ble_eq_true rfl) dX8_roomed_38 ?_
            exact r_iret Z hQ hF dX8_roomed_41
        · replace hF := nif_some hc14 hF
          refine r_iconst (v := (-1)) Z dX8_roomed_23 (by decide) ?_
          exact r_iret Z hQ hF dX8_roomed_24
theorem dX8_round_0 : decode cX8_round 0 = .ok (.aload_n 0, 1) := by decide +kernel
theorem dX8_round_1 : decode cX8_round 1 = .ok (.iload_n 1, 1) := by decide +kernel
theorem dX8_round_2 : decode cX8_round 2 = .ok (.iload_n 2, 1) := by decide +kernel
theorem dX8_round_3 : decode cX8_round 3 = .ok (.invokevirtual 198, 3) := by decide +kernel
theorem dX8_round_6 : decode cX8_round 6 = .ok (.istore_n 3, 1) := by decide +kernel
theorem dX8_round_7 : decode cX8_round 7 = .ok (.iload_n 3, 1) := by decide +kernel
theorem dX8_round_8 : decode cX8_round 8 = .ok (.ifCond .eq 5, 3) := by decide +kernel
theorem dX8_round_11 : decode cX8_round 11 = .ok (.iload_n 3, 1) := by decide +kernel
theorem dX8_round_12 : decode cX8_round 12 = .ok (.ireturn, 1) := by decide +kernel
theorem dX8_round_13 : decode cX8_round 13 = .ok (.aload_n 0, 1) := by decide +kernel
theorem dX8_round_14 : decode cX8_round 14 = .ok (.getfield 25, 3) := by decide +kernel
theorem dX8_round_17 : decode cX8_round 17 = .ok (.aload_n 0, 1) := by decide +kernel
theorem dX8_round_18 : decode cX8_round 18 = .ok (.getfield 18, 3) := by decide +kernel
theorem dX8_round_21 : decode cX8_round 21 = .ok (.invokevirtual 202, 3) := by decide +kernel
theorem dX8_round_24 : decode cX8_round 24 = .ok (.aload_n 0, 1) := by decide +kernel
theorem dX8_round_25 : decode cX8_round 25 = .ok (.getfield 25, 3) := by decide +kernel
theorem dX8_round_28 : decode cX8_round 28 = .ok (.iload_n 1, 1) := by decide +kernel
theorem dX8_round_29 : decode cX8_round 29 = .ok (.iload_n 2, 1) := by decide +kernel
theorem dX8_round_30 : decode cX8_round 30 = .ok (.aload_n 0, 1) := by decide +kernel
theorem dX8_round_31 : decode cX8_round 31 = .ok (.getfield 46, 3) := by decide +kernel
theorem dX8_round_34 : decode cX8_round 34 = .ok (.invokevirtual 218, 3) := by decide +kernel
theorem dX8_round_37 : decode cX8_round 37 = .ok (.aload_n 0, 1) := by decide +kernel
theorem dX8_round_38 : decode cX8_round 38 = .ok (.getfield 46, 3) := by decide +kernel
theorem dX8_round_41 : decode cX8_round 41 = .ok (.iload_n 2, 1) := by decide +kernel
theorem dX8_round_42 : decode cX8_round 42 = .ok (.i2l, 1) := by decide +kernel
theorem dX8_round_43 : decode cX8_round 43 = .ok (.aload_n 0, 1) := by decide +kernel
theorem dX8_round_44 : decode cX8_round 44 = .ok (.getfield 46, 3) := by decide +kernel
theorem dX8_round_47 : decode cX8_round 47 = .ok (.getfield 188, 3) := by decide +kernel
theorem dX8_round_50 : decode cX8_round 50 = .ok (.lmul, 1) := by decide +kernel
theorem dX8_round_51 : decode cX8_round 51 = .ok (.aload_n 0, 1) := by decide +kernel
theorem dX8_round_52 : decode cX8_round 52 = .ok (.getfield 46, 3) := by decide +kernel
theorem dX8_round_55 : decode cX8_round 55 = .ok (.getfield 180, 3) := by decide +kernel
theorem dX8_round_58 : decode cX8_round 58 = .ok (.invokevirtual 191, 3) := by decide +kernel
theorem dX8_round_61 : decode cX8_round 61 = .ok (.iconst 1, 1) := by decide +kernel
theorem dX8_round_62 : decode cX8_round 62 = .ok (.ireturn, 1) := by decide +kernel
theorem cv_X8_round : wn_cV yX8_round cX8_round 4 (some .int) RX8 2 := ⟨wm_504, wm_1003, wm_1004, wm_377, by decide +kernel⟩
abbrev rm_X8_round : Room := rmz 5 109
set_option maxHeartbeats 4000000 in
set_option maxRecDepth 100000 in
theorem c_X8_round {ad : Nat → Nat} {o : Nat} {x1 : Int32} {x2 : Int32} {M : Mm} {q : Int32 × Mm} (ho : shp o = 8) (hF : f_X8_round o x1 x2 M = some q) : KI ad yX8_round cX8_round 4 (some .int) rm_X8_round [.ref (ad o), .int x1, .int x2] M q.1 q.2 := by
  refine wn_enterI (own := RX8) (by decide) rfl (Nat.le_of_ble_eq_true rfl) (fun X ls Z hQ hl => ?_)
  have hl : lv_has ls 4 [(0, .ref (ad o)), (1, .int x1), (2, .int x2)] := hl
  unfold f_X8_round at hF
  refine r_aload_n Z dX8_round_0 rfl (lv_at hl 0 rfl) ?_
  refine r_iload_n Z dX8_round_1 rfl (lv_at hl 1 rfl) ?_
  refine r_iload_n Z dX8_round_2 rfl (lv_at hl 2 rfl) ?_
  obtain ⟨q1, hq1, hF⟩ := bd_some hF
  refine r_invVi [] Z (c_X8_judgeRound ho hq1) cv_X8_judgeRound rfl (shp_lt ho (by decide)) (fun _ _ => ⟨_, ce_8 ho⟩) wm_482 rfl rfl ⟨Nat.le_of_ble_eq_true rfl, Nat.le_of_ble_eq_true rfl⟩ rfl hl.1 rfl (Nat.le_of_ble_eq_true rfl) dX8_round_3 ?_
  refine r_istore_n Z [(3, .int q1.1), (0, .ref (ad o)), (1, .int x1), (2, .int x2)] dX8_round_6 rfl hl (by decide) rfl (fun ls hl => ?_)
  refine r_iload_n Z dX8_round_7 rfl (lv_at hl 0 rfl) ?_
  refine r_if_eq Z 13 dX8_round_8 (by decide) (fun hc2 => ?_) (fun hc2 => ?_)
  · replace hF := if_some hc2 hF
    refine r_aload_n Z dX8_round_13 rfl (lv_at hl 1 rfl) ?_
    refine g_8_2 Z ho wm_354 dX8_round_14 ?_
    refine r_aload_n Z dX8_round_17 rfl (lv_at hl 1 rfl) ?_
    refine g_8_1 Z ho wm_351 dX8_round_18 ?_
    obtain ⟨M3, hM3, hF⟩ := bd_some hF
    refine r_invVv [] Z (c_X5_load (sh_8_2 ho) (sh_8_1 ho) hM3) cv_X5_load rfl (shp_lt (sh_8_2 ho) (by decide)) (fun _ _ => ⟨_, ce_5 (sh_8_2 ho)⟩) wm_485 rfl rfl ⟨Nat.le_of_ble_eq_true rfl, Nat.le_of_ble_eq_true rfl⟩ rfl hl.1 rfl (Nat.le_of_ble_eq_true rfl) dX8_round_21 ?_
    refine r_aload_n Z dX8_round_24 rfl (lv_at hl 1 rfl) ?_
    refine g_8_2 Z ho wm_354 dX8_round_25 ?_
    refine r_iload_n Z dX8_round_28 rfl (lv_at hl 2 rfl) ?_
    refine r_iload_n Z dX8_round_29 rfl (lv_at hl 3 rfl) ?_
    refine r_aload_n Z dX8_round_30 rfl (lv_at hl 1 rfl) ?_
    refine g_8_5 Z ho wm_362 dX8_round_31 ?_
    obtain ⟨M4, hM4, hF⟩ := bd_some hF
    refine r_invVv [] Z (c_X5_tellThrough (sh_8_2 ho) (sh_8_5 ho) hM4) cv_X5_tellThrough rfl (shp_lt (sh_8_2 ho) (by decide)) (fun _ _ => ⟨_, ce_5 (sh_8_2 ho)⟩) wm_496 rfl rfl ⟨Nat.le_of_ble_eq_true rfl, Nat.le_of_ble_eq_true rfl⟩ rfl hl.1 rfl (Nat.le_of_ble_eq_true rfl) dX8_round_34 ?_
    refine r_aload_n Z dX8_round_37 rfl (lv_at hl 1 rfl) ?_
    refine g_8_5 Z ho wm_362 dX8_round_38 ?_
    refine r_iload_n Z dX8_round_41 rfl (lv_at hl 3 rfl) ?_
    refine r_i2l Z dX8_round_42 ?_
    refine r_aload_n Z dX8_round_43 rfl (lv_at hl 1 rfl) ?_
    refine g_8_5 Z ho wm_362 dX8_round_44 ?_
    refine g_2_1 Z (sh_8_5 ho) wm_467 dX8_round_47 ?_
    refine r_lmul Z dX8_round_50 ?_
    refine r_aload_n Z dX8_round_51 rfl (lv_at hl 1 rfl) ?_
    refine g_8_5 Z ho wm_362 dX8_round_52 ?_
    refine g_2_0 Z (sh_8_5 ho) wm_466 dX8_round_55 ?_
    obtain ⟨M5, hM5, hF⟩ := bd_some hF
    refine r_invVv [] Z (c_X2_set (sh_8_5 ho) hM5) cv_X2_set rfl (shp_lt (sh_8_5 ho) (by decide)) (fun _ _ => ⟨_, ce_2 (sh_8_5 ho)⟩) wm_471 rfl rfl ⟨Nat.le_of_ble_eq_true rfl, Nat.le_of_ble_eq_true rfl⟩ rfl hl.1 rfl (Nat.le_of_ble_eq_true rfl) dX8_round_58 ?_
    refine r_iconst (v := 1) Z dX8_round_61 (by decide) ?_
    exact r_iret Z hQ hF dX8_round_62
  · replace hF := nif_some hc2 hF
    refine r_iload_n Z dX8_round_11 rfl (lv_at hl 0 rfl) ?_
    exact r_iret Z hQ hF dX8_round_12
theorem dX8_row_0 : decode cX8_row 0 = .ok (.iload_n 1, 1) := by decide +kernel
theorem dX8_row_1 : decode cX8_row 1 = .ok (.invokestatic 62, 3) := by decide +kernel
theorem dX8_row_4 : decode cX8_row 4 = .ok (.ifCond .eq 9, 3) := by decide +kernel
theorem dX8_row_7 : decode cX8_row 7 = .ok (.iload_n 2, 1) := by decide +kernel
theorem dX8_row_8 : decode cX8_row 8 = .ok (.bipush 40, 2) := by decide +kernel
theorem dX8_row_10 : decode cX8_row 10 = .ok (.if_icmp .le 5, 3) := by decide +kernel
theorem dX8_row_13 : decode cX8_row 13 = .ok (.iconst (-1), 1) := by decide +kernel
theorem dX8_row_14 : decode cX8_row 14 = .ok (.ireturn, 1) := by decide +kernel
theorem dX8_row_15 : decode cX8_row 15 = .ok (.iload_n 2, 1) := by decide +kernel
theorem dX8_row_16 : decode cX8_row 16 = .ok (.ifCond .ge 9, 3) := by decide +kernel
theorem dX8_row_19 : decode cX8_row 19 = .ok (.aload_n 0, 1) := by decide +kernel
theorem dX8_row_20 : decode cX8_row 20 = .ok (.iconst 5, 1) := by decide +kernel
theorem dX8_row_21 : decode cX8_row 21 = .ok (.invokevirtual 66, 3) := by decide +kernel
theorem dX8_row_24 : decode cX8_row 24 = .ok (.ireturn, 1) := by decide +kernel
theorem dX8_row_25 : decode cX8_row 25 = .ok (.aload_n 0, 1) := by decide +kernel
theorem dX8_row_26 : decode cX8_row 26 = .ok (.getfield 11, 3) := by decide +kernel
theorem dX8_row_29 : decode cX8_row 29 = .ok (.iload_n 1, 1) := by decide +kernel
theorem dX8_row_30 : decode cX8_row 30 = .ok (.aaload, 1) := by decide +kernel
theorem dX8_row_31 : decode cX8_row 31 = .ok (.iload_n 2, 1) := by decide +kernel
theorem dX8_row_32 : decode cX8_row 32 = .ok (.invokevirtual 70, 3) := by decide +kernel
theorem dX8_row_35 : decode cX8_row 35 = .ok (.iload_n 2, 1) := by decide +kernel
theorem dX8_row_36 : decode cX8_row 36 = .ok (.ireturn, 1) := by decide +kernel
theorem cv_X8_row : wn_cV yX8_row cX8_row 3 (some .int) RX8 2 := ⟨wm_384, wm_859, wm_860, wm_377, by decide +kernel⟩
abbrev rm_X8_row : Room := rmz 2 37
set_option maxHeartbeats 4000000 in
set_option maxRecDepth 100000 in
theorem c_X8_row {ad : Nat → Nat} {o : Nat} {x1 : Int32} {x2 : Int32} {M : Mm} {q : Int32 × Mm} (ho : shp o = 8) (hF : f_X8_row o x1 x2 M = some q) : KI ad yX8_row cX8_row 3 (some .int) rm_X8_row [.ref (ad o), .int x1, .int x2] M q.1 q.2 := by
  refine wn_enterI (own := RX8) (by decide) rfl (Nat.le_of_ble_eq_true rfl) (fun X ls Z hQ hl => ?_)
  have hl : lv_has ls 3 [(0, .ref (ad o)), (1, .int x1), (2, .int x2)] := hl
  unfold f_X8_row at hF
  refine r_iload_n Z dX8_row_0 rfl (lv_at hl 1 rfl) ?_
  obtain ⟨q1, hq1, hF⟩ := bd_some hF
  refine r_invSi [] Z (c_X8_isRowNumber hq1) cv_X8_isRowNumber wm_375 rfl rfl ⟨Nat.le_of_ble_eq_true rfl, Nat.le_of_ble_eq_true rfl⟩ rfl hl.1 rfl (Nat.le_of_ble_eq_true rfl) dX8_row_1 ?_
  refine r_if_eq Z 13 dX8_row_4 (by decide) (fun hc2 => ?_) (fun hc2 => ?_)
  · replace hF := if_some hc2 hF
    refine r_iconst (v := (-1)) Z dX8_row_13 (by decide) ?_
    exact r_iret Z hQ hF dX8_row_14
  · replace hF := nif_some hc2 hF
    refine r_iload_n Z dX8_row_7 rfl (lv_at hl 2 rfl) ?_
    refine r_bipush (v := 40) Z dX8_row_8 (by decide) ?_
    refine r_icmp_le Z 15 dX8_row_10 (by decide) (fun hc3 => ?_) (fun hc3 => ?_)
    · replace hF := if_some hc3 hF
      refine r_iload_n Z dX8_row_15 rfl (lv_at hl 2 rfl) ?_
      refine r_if_ge Z 25 dX8_row_16 (by decide) (fun hc4 => ?_) (fun hc4 => ?_)
      · replace hF := if_some hc4 hF
        refine r_aload_n Z dX8_row_25 rfl (lv_at hl 0 rfl) ?_
        refine g_8_0 Z ho wm_348 dX8_row_26 ?_
        refine r_iload_n Z dX8_row_29 rfl (lv_at hl 1 rfl) ?_
        obtain ⟨hi5, hF⟩ := ck_some hF
        refine r_aald14 Z (sh_8_0 ho) hi5 dX8_row_30 ?_
        refine r_iload_n Z dX8_row_31 rfl (lv_at hl 2 rfl) ?_
        obtain ⟨M6, hM6, hF⟩ := bd_some hF
        refine r_invVv [] Z (c_X6_begin (se_14 (sh_8_0 ho) hi5) hM6) cv_X6_begin rfl (shp_lt (se_14 (sh_8_0 ho) hi5) (by decide)) (fun _ _ => ⟨_, ce_6 (se_14 (sh_8_0 ho) hi5)⟩) wm_381 rfl rfl ⟨Nat.le_of_ble_eq_true rfl, Nat.le_of_ble_eq_true rfl⟩ rfl hl.1 rfl (Nat.le_of_ble_eq_true rfl) dX8_row_32 ?_
        refine r_iload_n Z dX8_row_35 rfl (lv_at hl 2 rfl) ?_
        exact r_iret Z hQ hF dX8_row_36
      · replace hF := nif_some hc4 hF
        refine r_aload_n Z dX8_row_19 rfl (lv_at hl 0 rfl) ?_
        refine r_iconst (v := 5) Z dX8_row_20 (by decide) ?_
        obtain ⟨q7, hq7, hF⟩ := bd_some hF
        refine r_invVi [] Z (c_X8_refuse ho hq7) cv_X8_refuse rfl (shp_lt ho (by decide)) (fun _ _ => ⟨_, ce_8 ho⟩) wm_378 rfl rfl ⟨Nat.le_of_ble_eq_true rfl, Nat.le_of_ble_eq_true rfl⟩ rfl hl.1 rfl (Nat.le_of_ble_eq_true rfl) dX8_row_21 ?_
        exact r_iret Z hQ hF dX8_row_24
    · replace hF := nif_some hc3 hF
      refine r_iconst (v := (-1)) Z dX8_row_13 (by decide) ?_
      exact r_iret Z hQ hF dX8_row_14
theorem dX8_seen_0 : decode cX8_seen 0 = .ok (.aload_n 0, 1) := by decide +kernel
theorem dX8_seen_1 : decode cX8_seen 1 = .ok (.iload_n 1, 1) := by decide +kernel
theorem dX8_seen_2 : decode cX8_seen 2 = .ok (.iload_n 2, 1) := by decide +kernel
theorem dX8_seen_3 : decode cX8_seen 3 = .ok (.iload_n 3, 1) := by decide +kernel
theorem dX8_seen_4 : decode cX8_seen 4 = .ok (.invokevirtual 284, 3) := by decide +kernel
theorem dX8_seen_7 : decode cX8_seen 7 = .ok (.istore 4, 2) := by decide +kernel
theorem dX8_seen_9 : decode cX8_seen 9 = .ok (.iload 4, 2) := by decide +kernel
theorem dX8_seen_11 : decode cX8_seen 11 = .ok (.ifCond .eq 6, 3) := by decide +kernel
theorem dX8_seen_14 : decode cX8_seen 14 = .ok (.iload 4, 2) := by decide +kernel
theorem dX8_seen_16 : decode cX8_seen 16 = .ok (.ireturn, 1) := by decide +kernel
theorem dX8_seen_17 : decode cX8_seen 17 = .ok (.aload_n 0, 1) := by decide +kernel
theorem dX8_seen_18 : decode cX8_seen 18 = .ok (.getfield 11, 3) := by decide +kernel
theorem dX8_seen_21 : decode cX8_seen 21 = .ok (.iload_n 2, 1) := by decide +kernel
theorem dX8_seen_22 : decode cX8_seen 22 = .ok (.aaload, 1) := by decide +kernel
theorem dX8_seen_23 : decode cX8_seen 23 = .ok (.getfield 99, 3) := by decide +kernel
theorem dX8_seen_26 : decode cX8_seen 26 = .ok (.istore 5, 2) := by decide +kernel
theorem dX8_seen_28 : decode cX8_seen 28 = .ok (.iload 5, 2) := by decide +kernel
theorem dX8_seen_30 : decode cX8_seen 30 = .ok (.ifCond .gt 9, 3) := by decide +kernel
theorem dX8_seen_33 : decode cX8_seen 33 = .ok (.aload_n 0, 1) := by decide +kernel
theorem dX8_seen_34 : decode cX8_seen 34 = .ok (.iconst 4, 1) := by decide +kernel
theorem dX8_seen_35 : decode cX8_seen 35 = .ok (.invokevirtual 66, 3) := by decide +kernel
theorem dX8_seen_38 : decode cX8_seen 38 = .ok (.ireturn, 1) := by decide +kernel
theorem dX8_seen_39 : decode cX8_seen 39 = .ok (.aload_n 0, 1) := by decide +kernel
theorem dX8_seen_40 : decode cX8_seen 40 = .ok (.getfield 39, 3) := by decide +kernel
theorem dX8_seen_43 : decode cX8_seen 43 = .ok (.aload_n 0, 1) := by decide +kernel
theorem dX8_seen_44 : decode cX8_seen 44 = .ok (.getfield 18, 3) := by decide +kernel
theorem dX8_seen_47 : decode cX8_seen 47 = .ok (.getfield 116, 3) := by decide +kernel
theorem dX8_seen_50 : decode cX8_seen 50 = .ok (.iload_n 1, 1) := by decide +kernel
theorem dX8_seen_51 : decode cX8_seen 51 = .ok (.aaload, 1) := by decide +kernel
theorem dX8_seen_52 : decode cX8_seen 52 = .ok (.getfield 128, 3) := by decide +kernel
theorem dX8_seen_55 : decode cX8_seen 55 = .ok (.invokevirtual 288, 3) := by decide +kernel
theorem dX8_seen_58 : decode cX8_seen 58 = .ok (.lconst 0, 1) := by decide +kernel
theorem dX8_seen_59 : decode cX8_seen 59 = .ok (.lstore 6, 2) := by decide +kernel
theorem dX8_seen_61 : decode cX8_seen 61 = .ok (.iconst 0, 1) := by decide +kernel
theorem dX8_seen_62 : decode cX8_seen 62 = .ok (.istore 8, 2) := by decide +kernel
theorem dX8_seen_64 : decode cX8_seen 64 = .ok (.iload 8, 2) := by decide +kernel
theorem dX8_seen_66 : decode cX8_seen 66 = .ok (.iload 5, 2) := by decide +kernel
theorem dX8_seen_68 : decode cX8_seen 68 = .ok (.if_icmp .ge 44, 3) := by decide +kernel
theorem dX8_seen_71 : decode cX8_seen 71 = .ok (.lload 6, 2) := by decide +kernel
theorem dX8_seen_73 : decode cX8_seen 73 = .ok (.aload_n 0, 1) := by decide +kernel
theorem dX8_seen_74 : decode cX8_seen 74 = .ok (.getfield 39, 3) := by decide +kernel
theorem dX8_seen_77 : decode cX8_seen 77 = .ok (.aload_n 0, 1) := by decide +kernel
theorem dX8_seen_78 : decode cX8_seen 78 = .ok (.getfield 11, 3) := by decide +kernel
theorem dX8_seen_81 : decode cX8_seen 81 = .ok (.iload_n 2, 1) := by decide +kernel
theorem dX8_seen_82 : decode cX8_seen 82 = .ok (.aaload, 1) := by decide +kernel
theorem dX8_seen_83 : decode cX8_seen 83 = .ok (.iload 8, 2) := by decide +kernel
theorem dX8_seen_85 : decode cX8_seen 85 = .ok (.invokevirtual 81, 3) := by decide +kernel
theorem dX8_seen_88 : decode cX8_seen 88 = .ok (.aload_n 0, 1) := by decide +kernel
theorem dX8_seen_89 : decode cX8_seen 89 = .ok (.getfield 11, 3) := by decide +kernel
theorem dX8_seen_92 : decode cX8_seen 92 = .ok (.iload_n 3, 1) := by decide +kernel
theorem dX8_seen_93 : decode cX8_seen 93 = .ok (.aaload, 1) := by decide +kernel
theorem dX8_seen_94 : decode cX8_seen 94 = .ok (.iload 8, 2) := by decide +kernel
theorem dX8_seen_96 : decode cX8_seen 96 = .ok (.invokevirtual 81, 3) := by decide +kernel
theorem dX8_seen_99 : decode cX8_seen 99 = .ok (.invokevirtual 289, 3) := by decide +kernel
theorem dX8_seen_102 : decode cX8_seen 102 = .ok (.i2l, 1) := by decide +kernel
theorem dX8_seen_103 : decode cX8_seen 103 = .ok (.ladd, 1) := by decide +kernel
theorem dX8_seen_104 : decode cX8_seen 104 = .ok (.lstore 6, 2) := by decide +kernel
theorem dX8_seen_106 : decode cX8_seen 106 = .ok (.iinc 8 1, 3) := by decide +kernel
theorem dX8_seen_109 : decode cX8_seen 109 = .ok (.goto (-45), 3) := by decide +kernel
theorem dX8_seen_112 : decode cX8_seen 112 = .ok (.aload_n 0, 1) := by decide +kernel
theorem dX8_seen_113 : decode cX8_seen 113 = .ok (.getfield 46, 3) := by decide +kernel
theorem dX8_seen_116 : decode cX8_seen 116 = .ok (.lload 6, 2) := by decide +kernel
theorem dX8_seen_118 : decode cX8_seen 118 = .ok (.iload 5, 2) := by decide +kernel
theorem dX8_seen_120 : decode cX8_seen 120 = .ok (.i2l, 1) := by decide +kernel
theorem dX8_seen_121 : decode cX8_seen 121 = .ok (.invokevirtual 191, 3) := by decide +kernel
theorem dX8_seen_124 : decode cX8_seen 124 = .ok (.iload 5, 2) := by decide +kernel
theorem dX8_seen_126 : decode cX8_seen 126 = .ok (.ireturn, 1) := by decide +kernel
theorem cv_X8_seen : wn_cV yX8_seen cX8_seen 9 (some .int) RX8 3 := ⟨wm_579, wm_1069, wm_1070, wm_377, by decide +kernel⟩
abbrev rm_X8_seen : Room := rmz 4 89
set_option maxHeartbeats 4000000 in
set_option maxRecDepth 100000 in
theorem c_X8_seen {ad : Nat → Nat} {o : Nat} {x1 : Int32} {x2 : Int32} {x3 : Int32} {M : Mm} {q : Int32 × Mm} (ho : shp o = 8) (hF : f_X8_seen o x1 x2 x3 M = some q) : KI ad yX8_seen cX8_seen 9 (some .int) rm_X8_seen [.ref (ad o), .int x1, .int x2, .int x3] M q.1 q.2 := by
  refine wn_enterI (own := RX8) (by decide) rfl (Nat.le_of_ble_eq_true rfl) (fun X ls Z hQ hl => ?_)
  have hl : lv_has ls 9 [(0, .ref (ad o)), (1, .int x1), (2, .int x2), (3, .int x3)] := hl
  have L64 : ∀ (n64 : Nat) (v2 : Int32) (v3 : Int32) (v5 : Int32) (v6 : Int64) (v8 : Int32) (M : Mm) (ls : Array Slot), lv_has ls 9 [(0, .ref (ad o)), (2, .int v2), (3, .int v3), (5, .int v5), (6, .long v6), (8, .int v8)] → f_X8_seen_b64 o n64 v2 v3 v5 v6 v8 M = some q → G ad X M 64 ls [] := by
    intro n64
    induction n64 with
    | zero =>
      intro v2 v3 v5 v6 v8 M ls hl hF
      cases hF
    | succ n64 ih64 =>
      intro v2 v3 v5 v6 v8 M ls hl hF
      replace hF : f_X8_seen_b64B (f_X8_seen_b64 o n64) o v2 v3 v5 v6 v8 M = some q := hF
      unfold f_X8_seen_b64B at hF
      refine r_iload Z dX8_seen_64 (lv_at hl 5 rfl) ?_
      refine r_iload Z dX8_seen_66 (lv_at hl 3 rfl) ?_
      refine r_icmp_ge Z 112 dX8_seen_68 (by decide) (fun hc1 => ?_) (fun hc1 => ?_)
      · replace hF := if_some hc1 hF
        refine r_aload_n Z dX8_seen_112 rfl (lv_at hl 0 rfl) ?_
        refine g_8_5 Z ho wm_362 dX8_seen_113 ?_
        refine r_lload Z dX8_seen_116 (lv_at hl 4 rfl) ?_
        refine r_iload Z dX8_seen_118 (lv_at hl 3 rfl) ?_
        refine r_i2l Z dX8_seen_120 ?_
        obtain ⟨M2, hM2, hF⟩ := bd_some hF
        refine r_invVv [] Z (c_X2_set (sh_8_5 ho) hM2) cv_X2_set rfl (shp_lt (sh_8_5 ho) (by decide)) (fun _ _ => ⟨_, ce_2 (sh_8_5 ho)⟩) wm_471 rfl rfl ⟨Nat.le_of_ble_eq_true rfl, Nat.le_of_ble_eq_true rfl⟩ rfl hl.1 rfl (Nat.le_of_ble_eq_true rfl) dX8_seen_121 ?_
        refine r_iload Z dX8_seen_124 (lv_at hl 3 rfl) ?_
        exact r_iret Z hQ hF dX8_seen_126
      · replace hF := nif_some hc1 hF
        refine r_lload Z dX8_seen_71 (lv_at hl 4 rfl) ?_
        refine r_aload_n Z dX8_seen_73 rfl (lv_at hl 0 rfl) ?_
        refine g_8_4 Z ho wm_360 dX8_seen_74 ?_
        refine r_aload_n Z dX8_seen_77 rfl (lv_at hl 0 rfl) ?_
        refine g_8_0 Z ho wm_348 dX8_seen_78 ?_
        refine r_iload_n Z dX8_seen_81 rfl (lv_at hl 1 rfl) ?_
        obtain ⟨hi3, hF⟩ := ck_some hF
        refine r_aald14 Z (sh_8_0 ho) hi3 dX8_seen_82 ?_
        refine r_iload Z dX8_seen_83 (lv_at hl 5 rfl) ?_
        obtain ⟨q4, hq4, hF⟩ := bd_some hF
        refine r_invVi [.ref (ad (fld o 4)), .long v6] Z (c_X6_at (se_14 (sh_8_0 ho) hi3) hq4) cv_X6_at rfl (shp_lt (se_14 (sh_8_0 ho) hi3) (by decide)) (fun _ _ => ⟨_, ce_6 (se_14 (sh_8_0 ho) hi3)⟩) wm_389 rfl rfl ⟨Nat.le_of_ble_eq_true rfl, Nat.le_of_ble_eq_true rfl⟩ rfl hl.1 rfl (Nat.le_of_ble_eq_true rfl) dX8_seen_85 ?_
        refine r_aload_n Z dX8_seen_88 rfl (lv_at hl 0 rfl) ?_
        refine g_8_0 Z ho wm_348 dX8_seen_89 ?_
        refine r_iload_n Z dX8_seen_92 rfl (lv_at hl 2 rfl) ?_
        obtain ⟨hi5, hF⟩ := ck_some hF
        refine r_aald14 Z (sh_8_0 ho) hi5 dX8_seen_93 ?_
        refine r_iload Z dX8_seen_94 (lv_at hl 5 rfl) ?_
        obtain ⟨q6, hq6, hF⟩ := bd_some hF
        refine r_invVi [.int q4.1, .ref (ad (fld o 4)), .long v6] Z (c_X6_at (se_14 (sh_8_0 ho) hi5) hq6) cv_X6_at rfl (shp_lt (se_14 (sh_8_0 ho) hi5) (by decide)) (fun _ _ => ⟨_, ce_6 (se_14 (sh_8_0 ho) hi5)⟩) wm_389 rfl rfl ⟨Nat.le_of_ble_eq_true rfl, Nat.le_of_ble_eq_true rfl⟩ rfl hl.1 rfl (Nat.le_of_ble_eq_true rfl) dX8_seen_96 ?_
        obtain ⟨q7, hq7, hF⟩ := bd_some hF
        refine r_invVi [.long v6] Z (c_X3_serve (sh_8_4 ho) hq7) cv_X3_serve rfl (shp_lt (sh_8_4 ho) (by decide)) (fun _ _ => ⟨_, ce_3 (sh_8_4 ho)⟩) wm_575 rfl rfl ⟨Nat.le_of_ble_eq_true rfl, Nat.le_of_ble_eq_true rfl⟩ rfl hl.1 rfl (Nat.le_of_ble_eq_true rfl) dX8_seen_99 ?_
        refine r_i2l Z dX8_seen_102 ?_
        refine r_ladd Z dX8_seen_103 ?_
        obtain ⟨t8, et8, hF⟩ := nm_some hF
        rw [← et8]
        refine r_lstore Z [(6, .long t8), (0, .ref (ad o)), (2, .int v2), (3, .int v3), (5, .int v5), (8, .int v8)] dX8_seen_104 hl (by decide) rfl (fun ls hl => ?_)
        obtain ⟨t9, et9, hF⟩ := nm_some hF
        refine r_iinc (j := 5) Z t9 [(8, .int t9), (6, .long t8), (0, .ref (ad o)), (2, .int v2), (3, .int v3), (5, .int v5)] dX8_seen_106 hl rfl (by rw [et9]; rfl) (by decide) rfl (fun ls hl => ?_)
        refine r_goto Z 64 dX8_seen_109 (by decide) ?_
        exact ih64 v2 v3 v5 t8 t9 q7.2 ls (lv_sub hl [2, 3, 4, 5, 1, 0] rfl) hF
  unfold f_X8_seen at hF
  refine r_aload_n Z dX8_seen_0 rfl (lv_at hl 0 rfl) ?_
  refine r_iload_n Z dX8_seen_1 rfl (lv_at hl 1 rfl) ?_
  refine r_iload_n Z dX8_seen_2 rfl (lv_at hl 2 rfl) ?_
  refine r_iload_n Z dX8_seen_3 rfl (lv_at hl 3 rfl) ?_
  obtain ⟨q10, hq10, hF⟩ := bd_some hF
  refine r_invVi [] Z (c_X8_judgeRun ho hq10) cv_X8_judgeRun rfl (shp_lt ho (by decide)) (fun _ _ => ⟨_, ce_8 ho⟩) wm_569 rfl rfl ⟨Nat.le_of_ble_eq_true rfl, Nat.le_of_ble_eq_true rfl⟩ rfl hl.1 rfl (Nat.le_of_ble_eq_true rfl) dX8_seen_4 ?_
  refine r_istore Z [(4, .int q10.1), (0, .ref (ad o)), (1, .int x1), (2, .int x2), (3, .int x3)] dX8_seen_7 hl (by decide) rfl (fun ls hl => ?_)
  refine r_iload Z dX8_seen_9 (lv_at hl 0 rfl) ?_
  refine r_if_eq Z 17 dX8_seen_11 (by decide) (fun hc11 => ?_) (fun hc11 => ?_)
  · replace hF := if_some hc11 hF
    refine r_aload_n Z dX8_seen_17 rfl (lv_at hl 1 rfl) ?_
    refine g_8_0 Z ho wm_348 dX8_seen_18 ?_
    refine r_iload_n Z dX8_seen_21 rfl (lv_at hl 3 rfl) ?_
    obtain ⟨hi12, hF⟩ := ck_some hF
    refine r_aald14 Z (sh_8_0 ho) hi12 dX8_seen_22 ?_
    refine g_6_1 Z (se_14 (sh_8_0 ho) hi12) wm_403 dX8_seen_23 ?_
    obtain ⟨t13, et13, hF⟩ := nm_some hF
    rw [← et13]
    refine r_istore Z [(5, .int t13), (4, .int q10.1), (0, .ref (ad o)), (1, .int x1), (2, .int x2), (3, .int x3)] dX8_seen_26 hl (by decide) rfl (fun ls hl => ?_)
    refine r_iload Z dX8_seen_28 (lv_at hl 0 rfl) ?_
    refine r_if_gt Z 39 dX8_seen_30 (by decide) (fun hc14 => ?_) (fun hc14 => ?_)
    · replace hF := if_some hc14 hF
      refine r_aload_n Z dX8_seen_39 rfl (lv_at hl 2 rfl) ?_
      refine g_8_4 Z ho wm_360 dX8_seen_40 ?_
      refine r_aload_n Z dX8_seen_43 rfl (lv_at hl 2 rfl) ?_
      refine g_8_1 Z ho wm_351 dX8_seen_44 ?_
      refine g_4_0 Z (sh_8_1 ho) wm_418 dX8_seen_47 ?_
      refine r_iload_n Z dX8_seen_50 rfl (lv_at hl 3 rfl) ?_
      obtain ⟨hi15, hF⟩ := ck_some hF
      refine r_aald13 Z (sh_4_0 (sh_8_1 ho)) hi15 dX8_seen_51 ?_
      refine g_1_3 Z (se_13 (sh_4_0 (sh_8_1 ho)) hi15) wm_424 dX8_seen_52 ?_
      obtain ⟨M16, hM16, hF⟩ := bd_some hF
      refine r_invVv [] Z (c_X3_begin (sh_8_4 ho) hM16) cv_X3_begin rfl (shp_lt (sh_8_4 ho) (by decide)) (fun _ _ => ⟨_, ce_3 (sh_8_4 ho)⟩) wm_572 rfl rfl ⟨Nat.le_of_ble_eq_true rfl, Nat.le_of_ble_eq_true rfl⟩ rfl hl.1 rfl (Nat.le_of_ble_eq_true rfl) dX8_seen_55 ?_
      refine r_lconst (v := 0) Z dX8_seen_58 (by decide) ?_
      refine r_lstore Z [(6, .long 0), (5, .int t13), (4, .int q10.1), (0, .ref (ad o)), (1, .int x1), (2, .int x2), (3, .int x3)] dX8_seen_59 hl (by decide) rfl (fun ls hl => ?_)
      refine r_iconst (v := 0) Z dX8_seen_61 (by decide) ?_
      refine r_istore Z [(8, .int 0), (6, .long 0), (5, .int t13), (4, .int q10.1), (0, .ref (ad o)), (1, .int x1), (2, .int x2), (3, .int x3)] dX8_seen_62 hl (by decide) rfl (fun ls hl => ?_)
      exact L64 _ x2 x3 t13 0 0 M16 ls (lv_sub hl [4, 6, 7, 2, 1, 0] rfl) hF
    · replace hF := nif_some hc14 hF
      refine r_aload_n Z dX8_seen_33 rfl (lv_at hl 2 rfl) ?_
      refine r_iconst (v := 4) Z dX8_seen_34 (by decide) ?_
      obtain ⟨q17, hq17, hF⟩ := bd_some hF
      refine r_invVi [] Z (c_X8_refuse ho hq17) cv_X8_refuse rfl (shp_lt ho (by decide)) (fun _ _ => ⟨_, ce_8 ho⟩) wm_378 rfl rfl ⟨Nat.le_of_ble_eq_true rfl, Nat.le_of_ble_eq_true rfl⟩ rfl hl.1 rfl (Nat.le_of_ble_eq_true rfl) dX8_seen_35 ?_
      exact r_iret Z hQ hF dX8_seen_38
  · replace hF := nif_some hc11 hF
    refine r_iload Z dX8_seen_14 (lv_at hl 0 rfl) ?_
    exact r_iret Z hQ hF dX8_seen_16
theorem dX8_tear_0 : decode cX8_tear 0 = .ok (.iload_n 1, 1) := by decide +kernel
theorem dX8_tear_1 : decode cX8_tear 1 = .ok (.invokestatic 62, 3) := by decide +kernel
theorem dX8_tear_4 : decode cX8_tear 4 = .ok (.ifCond .ne 5, 3) := by decide +kernel
theorem dX8_tear_7 : decode cX8_tear 7 = .ok (.iconst (-1), 1) := by decide +kernel
theorem dX8_tear_8 : decode cX8_tear 8 = .ok (.ireturn, 1) := by decide +kernel
theorem dX8_tear_9 : decode cX8_tear 9 = .ok (.aload_n 0, 1) := by decide +kernel
theorem dX8_tear_10 : decode cX8_tear 10 = .ok (.getfield 11, 3) := by decide +kernel
theorem dX8_tear_13 : decode cX8_tear 13 = .ok (.iload_n 1, 1) := by decide +kernel
theorem dX8_tear_14 : decode cX8_tear 14 = .ok (.aaload, 1) := by decide +kernel
theorem dX8_tear_15 : decode cX8_tear 15 = .ok (.invokevirtual 74, 3) := by decide +kernel
theorem dX8_tear_18 : decode cX8_tear 18 = .ok (.ifCond .ne 9, 3) := by decide +kernel
theorem dX8_tear_21 : decode cX8_tear 21 = .ok (.aload_n 0, 1) := by decide +kernel
theorem dX8_tear_22 : decode cX8_tear 22 = .ok (.iconst 1, 1) := by decide +kernel
theorem dX8_tear_23 : decode cX8_tear 23 = .ok (.invokevirtual 66, 3) := by decide +kernel
theorem dX8_tear_26 : decode cX8_tear 26 = .ok (.ireturn, 1) := by decide +kernel
theorem dX8_tear_27 : decode cX8_tear 27 = .ok (.aload_n 0, 1) := by decide +kernel
theorem dX8_tear_28 : decode cX8_tear 28 = .ok (.getfield 11, 3) := by decide +kernel
theorem dX8_tear_31 : decode cX8_tear 31 = .ok (.iload_n 1, 1) := by decide +kernel
theorem dX8_tear_32 : decode cX8_tear 32 = .ok (.aaload, 1) := by decide +kernel
theorem dX8_tear_33 : decode cX8_tear 33 = .ok (.invokevirtual 88, 3) := by decide +kernel
theorem dX8_tear_36 : decode cX8_tear 36 = .ok (.iconst 1, 1) := by decide +kernel
theorem dX8_tear_37 : decode cX8_tear 37 = .ok (.ireturn, 1) := by decide +kernel
theorem cv_X8_tear : wn_cV yX8_tear cX8_tear 2 (some .int) RX8 1 := ⟨wm_394, wm_871, wm_872, wm_377, by decide +kernel⟩
abbrev rm_X8_tear : Room := rmz 1 21
set_option maxHeartbeats 4000000 in
set_option maxRecDepth 100000 in
theorem c_X8_tear {ad : Nat → Nat} {o : Nat} {x1 : Int32} {M : Mm} {q : Int32 × Mm} (ho : shp o = 8) (hF : f_X8_tear o x1 M = some q) : KI ad yX8_tear cX8_tear 2 (some .int) rm_X8_tear [.ref (ad o), .int x1] M q.1 q.2 := by
  refine wn_enterI (own := RX8) (by decide) rfl (Nat.le_of_ble_eq_true rfl) (fun X ls Z hQ hl => ?_)
  have hl : lv_has ls 2 [(0, .ref (ad o)), (1, .int x1)] := hl
  unfold f_X8_tear at hF
  refine r_iload_n Z dX8_tear_0 rfl (lv_at hl 1 rfl) ?_
  obtain ⟨q1, hq1, hF⟩ := bd_some hF
  refine r_invSi [] Z (c_X8_isRowNumber hq1) cv_X8_isRowNumber wm_375 rfl rfl ⟨Nat.le_of_ble_eq_true rfl, Nat.le_of_ble_eq_true rfl⟩ rfl hl.1 rfl (Nat.le_of_ble_eq_true rfl) dX8_tear_1 ?_
  refine r_if_ne Z 9 dX8_tear_4 (by decide) (fun hc2 => ?_) (fun hc2 => ?_)
  · replace hF := nif_some hc2 hF
    refine r_aload_n Z dX8_tear_9 rfl (lv_at hl 0 rfl) ?_
    refine g_8_0 Z ho wm_348 dX8_tear_10 ?_
    refine r_iload_n Z dX8_tear_13 rfl (lv_at hl 1 rfl) ?_
    obtain ⟨hi3, hF⟩ := ck_some hF
    refine r_aald14 Z (sh_8_0 ho) hi3 dX8_tear_14 ?_
    obtain ⟨q4, hq4, hF⟩ := bd_some hF
    refine r_invVi [] Z (c_X6_isThere (se_14 (sh_8_0 ho) hi3) hq4) cv_X6_isThere rfl (shp_lt (se_14 (sh_8_0 ho) hi3) (by decide)) (fun _ _ => ⟨_, ce_6 (se_14 (sh_8_0 ho) hi3)⟩) wm_385 rfl rfl ⟨Nat.le_of_ble_eq_true rfl, Nat.le_of_ble_eq_true rfl⟩ rfl hl.1 rfl (Nat.le_of_ble_eq_true rfl) dX8_tear_15 ?_
    refine r_if_ne Z 27 dX8_tear_18 (by decide) (fun hc5 => ?_) (fun hc5 => ?_)
    · replace hF := nif_some hc5 hF
      refine r_aload_n Z dX8_tear_27 rfl (lv_at hl 0 rfl) ?_
      refine g_8_0 Z ho wm_348 dX8_tear_28 ?_
      refine r_iload_n Z dX8_tear_31 rfl (lv_at hl 1 rfl) ?_
      obtain ⟨hi6, hF⟩ := ck_some hF
      refine r_aald14 Z (sh_8_0 ho) hi6 dX8_tear_32 ?_
      obtain ⟨M7, hM7, hF⟩ := bd_some hF
      refine r_invVv [] Z (c_X6_end (se_14 (sh_8_0 ho) hi6) hM7) cv_X6_end rfl (shp_lt (se_14 (sh_8_0 ho) hi6) (by decide)) (fun _ _ => ⟨_, ce_6 (se_14 (sh_8_0 ho) hi6)⟩) wm_395 rfl rfl ⟨Nat.le_of_ble_eq_true rfl, Nat.le_of_ble_eq_true rfl⟩ rfl hl.1 rfl (Nat.le_of_ble_eq_true rfl) dX8_tear_33 ?_
      refine r_iconst (v := 1) Z dX8_tear_36 (by decide) ?_
      exact r_iret Z hQ hF dX8_tear_37
    · replace hF := if_some hc5 hF
      refine r_aload_n Z dX8_tear_21 rfl (lv_at hl 0 rfl) ?_
      refine r_iconst (v := 1) Z dX8_tear_22 (by decide) ?_
      obtain ⟨q8, hq8, hF⟩ := bd_some hF
      refine r_invVi [] Z (c_X8_refuse ho hq8) cv_X8_refuse rfl (shp_lt ho (by decide)) (fun _ _ => ⟨_, ce_8 ho⟩) wm_378 rfl rfl ⟨Nat.le_of_ble_eq_true rfl, Nat.le_of_ble_eq_true rfl⟩ rfl hl.1 rfl (Nat.le_of_ble_eq_true rfl) dX8_tear_23 ?_
      exact r_iret Z hQ hF dX8_tear_26
  · replace hF := if_some hc2 hF
    refine r_iconst (v := (-1)) Z dX8_tear_7 (by decide) ?_
    exact r_iret Z hQ hF dX8_tear_8
theorem dX8_through_0 : decode cX8_through 0 = .ok (.aload_n 0, 1) := by decide +kernel
theorem dX8_through_1 : decode cX8_through 1 = .ok (.iload_n 1, 1) := by decide +kernel
theorem dX8_through_2 : decode cX8_through 2 = .ok (.iload_n 2, 1) := by decide +kernel
theorem dX8_through_3 : decode cX8_through 3 = .ok (.invokevirtual 198, 3) := by decide +kernel
theorem dX8_through_6 : decode cX8_through 6 = .ok (.istore_n 3, 1) := by decide +kernel
theorem dX8_through_7 : decode cX8_through 7 = .ok (.iload_n 3, 1) := by decide +kernel
theorem dX8_through_8 : decode cX8_through 8 = .ok (.ifCond .eq 5, 3) := by decide +kernel
theorem dX8_through_11 : decode cX8_through 11 = .ok (.iload_n 3, 1) := by decide +kernel
theorem dX8_through_12 : decode cX8_through 12 = .ok (.ireturn, 1) := by decide +kernel
theorem dX8_through_13 : decode cX8_through 13 = .ok (.aload_n 0, 1) := by decide +kernel
theorem dX8_through_14 : decode cX8_through 14 = .ok (.getfield 25, 3) := by decide +kernel
theorem dX8_through_17 : decode cX8_through 17 = .ok (.aload_n 0, 1) := by decide +kernel
theorem dX8_through_18 : decode cX8_through 18 = .ok (.getfield 18, 3) := by decide +kernel
theorem dX8_through_21 : decode cX8_through 21 = .ok (.invokevirtual 202, 3) := by decide +kernel
theorem dX8_through_24 : decode cX8_through 24 = .ok (.aload_n 0, 1) := by decide +kernel
theorem dX8_through_25 : decode cX8_through 25 = .ok (.getfield 25, 3) := by decide +kernel
theorem dX8_through_28 : decode cX8_through 28 = .ok (.iload_n 1, 1) := by decide +kernel
theorem dX8_through_29 : decode cX8_through 29 = .ok (.iload_n 2, 1) := by decide +kernel
theorem dX8_through_30 : decode cX8_through 30 = .ok (.aload_n 0, 1) := by decide +kernel
theorem dX8_through_31 : decode cX8_through 31 = .ok (.getfield 46, 3) := by decide +kernel
theorem dX8_through_34 : decode cX8_through 34 = .ok (.invokevirtual 218, 3) := by decide +kernel
theorem dX8_through_37 : decode cX8_through 37 = .ok (.iconst 1, 1) := by decide +kernel
theorem dX8_through_38 : decode cX8_through 38 = .ok (.ireturn, 1) := by decide +kernel
theorem cv_X8_through : wn_cV yX8_through cX8_through 4 (some .int) RX8 2 := ⟨wm_499, wm_991, wm_992, wm_377, by decide +kernel⟩
abbrev rm_X8_through : Room := rmz 5 109
set_option maxHeartbeats 4000000 in
set_option maxRecDepth 100000 in
theorem c_X8_through {ad : Nat → Nat} {o : Nat} {x1 : Int32} {x2 : Int32} {M : Mm} {q : Int32 × Mm} (ho : shp o = 8) (hF : f_X8_through o x1 x2 M = some q) : KI ad yX8_through cX8_through 4 (some .int) rm_X8_through [.ref (ad o), .int x1, .int x2] M q.1 q.2 := by
  refine wn_enterI (own := RX8) (by decide) rfl (Nat.le_of_ble_eq_true rfl) (fun X ls Z hQ hl => ?_)
  have hl : lv_has ls 4 [(0, .ref (ad o)), (1, .int x1), (2, .int x2)] := hl
  unfold f_X8_through at hF
  refine r_aload_n Z dX8_through_0 rfl (lv_at hl 0 rfl) ?_
  refine r_iload_n Z dX8_through_1 rfl (lv_at hl 1 rfl) ?_
  refine r_iload_n Z dX8_through_2 rfl (lv_at hl 2 rfl) ?_
  obtain ⟨q1, hq1, hF⟩ := bd_some hF
  refine r_invVi [] Z (c_X8_judgeRound ho hq1) cv_X8_judgeRound rfl (shp_lt ho (by decide)) (fun _ _ => ⟨_, ce_8 ho⟩) wm_482 rfl rfl ⟨Nat.le_of_ble_eq_true rfl, Nat.le_of_ble_eq_true rfl⟩ rfl hl.1 rfl (Nat.le_of_ble_eq_true rfl) dX8_through_3 ?_
  refine r_istore_n Z [(3, .int q1.1), (0, .ref (ad o)), (1, .int x1), (2, .int x2)] dX8_through_6 rfl hl (by decide) rfl (fun ls hl => ?_)
  refine r_iload_n Z dX8_through_7 rfl (lv_at hl 0 rfl) ?_
  refine r_if_eq Z 13 dX8_through_8 (by decide) (fun hc2 => ?_) (fun hc2 => ?_)
  · replace hF := if_some hc2 hF
    refine r_aload_n Z dX8_through_13 rfl (lv_at hl 1 rfl) ?_
    refine g_8_2 Z ho wm_354 dX8_through_14 ?_
    refine r_aload_n Z dX8_through_17 rfl (lv_at hl 1 rfl) ?_
    refine g_8_1 Z ho wm_351 dX8_through_18 ?_
    obtain ⟨M3, hM3, hF⟩ := bd_some hF
    refine r_invVv [] Z (c_X5_load (sh_8_2 ho) (sh_8_1 ho) hM3) cv_X5_load rfl (shp_lt (sh_8_2 ho) (by decide)) (fun _ _ => ⟨_, ce_5 (sh_8_2 ho)⟩) wm_485 rfl rfl ⟨Nat.le_of_ble_eq_true rfl, Nat.le_of_ble_eq_true rfl⟩ rfl hl.1 rfl (Nat.le_of_ble_eq_true rfl) dX8_through_21 ?_
    refine r_aload_n Z dX8_through_24 rfl (lv_at hl 1 rfl) ?_
    refine g_8_2 Z ho wm_354 dX8_through_25 ?_
    refine r_iload_n Z dX8_through_28 rfl (lv_at hl 2 rfl) ?_
    refine r_iload_n Z dX8_through_29 rfl (lv_at hl 3 rfl) ?_
    refine r_aload_n Z dX8_through_30 rfl (lv_at hl 1 rfl) ?_
    refine g_8_5 Z ho wm_362 dX8_through_31 ?_
    obtain ⟨M4, hM4, hF⟩ := bd_some hF
    refine r_invVv [] Z (c_X5_tellThrough (sh_8_2 ho) (sh_8_5 ho) hM4) cv_X5_tellThrough rfl (shp_lt (sh_8_2 ho) (by decide)) (fun _ _ => ⟨_, ce_5 (sh_8_2 ho)⟩) wm_496 rfl rfl ⟨Nat.le_of_ble_eq_true rfl, Nat.le_of_ble_eq_true rfl⟩ rfl hl.1 rfl (Nat.le_of_ble_eq_true rfl) dX8_through_34 ?_
    refine r_iconst (v := 1) Z dX8_through_37 (by decide) ?_
    exact r_iret Z hQ hF dX8_through_38
  · replace hF := nif_some hc2 hF
    refine r_iload_n Z dX8_through_11 rfl (lv_at hl 0 rfl) ?_
    exact r_iret Z hQ hF dX8_through_12
theorem dX8_told_0 : decode cX8_told 0 = .ok (.iload_n 1, 1) := by decide +kernel
theorem dX8_told_1 : decode cX8_told 1 = .ok (.invokestatic 106, 3) := by decide +kernel
theorem dX8_told_4 : decode cX8_told 4 = .ok (.ifCond .eq 12, 3) := by decide +kernel
theorem dX8_told_7 : decode cX8_told 7 = .ok (.iload_n 2, 1) := by decide +kernel
theorem dX8_told_8 : decode cX8_told 8 = .ok (.ifCond .lt 8, 3) := by decide +kernel
theorem dX8_told_11 : decode cX8_told 11 = .ok (.iload_n 2, 1) := by decide +kernel
theorem dX8_told_12 : decode cX8_told 12 = .ok (.iconst 4, 1) := by decide +kernel
theorem dX8_told_13 : decode cX8_told 13 = .ok (.if_icmp .le 5, 3) := by decide +kernel
theorem dX8_told_16 : decode cX8_told 16 = .ok (.iconst (-1), 1) := by decide +kernel
theorem dX8_told_17 : decode cX8_told 17 = .ok (.ireturn, 1) := by decide +kernel
theorem dX8_told_18 : decode cX8_told 18 = .ok (.aload_n 0, 1) := by decide +kernel
theorem dX8_told_19 : decode cX8_told 19 = .ok (.getfield 18, 3) := by decide +kernel
theorem dX8_told_22 : decode cX8_told 22 = .ok (.iload_n 1, 1) := by decide +kernel
theorem dX8_told_23 : decode cX8_told 23 = .ok (.invokevirtual 109, 3) := by decide +kernel
theorem dX8_told_26 : decode cX8_told 26 = .ok (.ifCond .ne 9, 3) := by decide +kernel
theorem dX8_told_29 : decode cX8_told 29 = .ok (.aload_n 0, 1) := by decide +kernel
theorem dX8_told_30 : decode cX8_told 30 = .ok (.iconst 1, 1) := by decide +kernel
theorem dX8_told_31 : decode cX8_told 31 = .ok (.invokevirtual 66, 3) := by decide +kernel
theorem dX8_told_34 : decode cX8_told 34 = .ok (.ireturn, 1) := by decide +kernel
theorem dX8_told_35 : decode cX8_told 35 = .ok (.aload_n 0, 1) := by decide +kernel
theorem dX8_told_36 : decode cX8_told 36 = .ok (.aload_n 0, 1) := by decide +kernel
theorem dX8_told_37 : decode cX8_told 37 = .ok (.getfield 18, 3) := by decide +kernel
theorem dX8_told_40 : decode cX8_told 40 = .ok (.getfield 116, 3) := by decide +kernel
theorem dX8_told_43 : decode cX8_told 43 = .ok (.iload_n 1, 1) := by decide +kernel
theorem dX8_told_44 : decode cX8_told 44 = .ok (.aaload, 1) := by decide +kernel
theorem dX8_told_45 : decode cX8_told 45 = .ok (.iload_n 2, 1) := by decide +kernel
theorem dX8_told_46 : decode cX8_told 46 = .ok (.invokevirtual 144, 3) := by decide +kernel
theorem dX8_told_49 : decode cX8_told 49 = .ok (.putfield 58, 3) := by decide +kernel
theorem dX8_told_52 : decode cX8_told 52 = .ok (.iconst 1, 1) := by decide +kernel
theorem dX8_told_53 : decode cX8_told 53 = .ok (.ireturn, 1) := by decide +kernel
theorem cv_X8_told : wn_cV yX8_told cX8_told 3 (some .int) RX8 2 := ⟨wm_434, wm_931, wm_932, wm_377, by decide +kernel⟩
abbrev rm_X8_told : Room := rmz 2 43
set_option maxHeartbeats 4000000 in
set_option maxRecDepth 100000 in
theorem c_X8_told {ad : Nat → Nat} {o : Nat} {x1 : Int32} {x2 : Int32} {M : Mm} {q : Int32 × Mm} (ho : shp o = 8) (hF : f_X8_told o x1 x2 M = some q) : KI ad yX8_told cX8_told 3 (some .int) rm_X8_told [.ref (ad o), .int x1, .int x2] M q.1 q.2 := by
  refine wn_enterI (own := RX8) (by decide) rfl (Nat.le_of_ble_eq_true rfl) (fun X ls Z hQ hl => ?_)
  have hl : lv_has ls 3 [(0, .ref (ad o)), (1, .int x1), (2, .int x2)] := hl
  unfold f_X8_told at hF
  refine r_iload_n Z dX8_told_0 rfl (lv_at hl 1 rfl) ?_
  obtain ⟨q1, hq1, hF⟩ := bd_some hF
  refine r_invSi [] Z (c_X8_isCounterNumber hq1) cv_X8_isCounterNumber wm_409 rfl rfl ⟨Nat.le_of_ble_eq_true rfl, Nat.le_of_ble_eq_true rfl⟩ rfl hl.1 rfl (Nat.le_of_ble_eq_true rfl) dX8_told_1 ?_
  refine r_if_eq Z 16 dX8_told_4 (by decide) (fun hc2 => ?_) (fun hc2 => ?_)
  · replace hF := if_some hc2 hF
    refine r_iconst (v := (-1)) Z dX8_told_16 (by decide) ?_
    exact r_iret Z hQ hF dX8_told_17
  · replace hF := nif_some hc2 hF
    refine r_iload_n Z dX8_told_7 rfl (lv_at hl 2 rfl) ?_
    refine r_if_lt Z 16 dX8_told_8 (by decide) (fun hc3 => ?_) (fun hc3 => ?_)
    · replace hF := if_some hc3 hF
      refine r_iconst (v := (-1)) Z dX8_told_16 (by decide) ?_
      exact r_iret Z hQ hF dX8_told_17
    · replace hF := nif_some hc3 hF
      refine r_iload_n Z dX8_told_11 rfl (lv_at hl 2 rfl) ?_
      refine r_iconst (v := 4) Z dX8_told_12 (by decide) ?_
      refine r_icmp_le Z 18 dX8_told_13 (by decide) (fun hc4 => ?_) (fun hc4 => ?_)
      · replace hF := if_some hc4 hF
        refine r_aload_n Z dX8_told_18 rfl (lv_at hl 0 rfl) ?_
        refine g_8_1 Z ho wm_351 dX8_told_19 ?_
        refine r_iload_n Z dX8_told_22 rfl (lv_at hl 1 rfl) ?_
        obtain ⟨q5, hq5, hF⟩ := bd_some hF
        refine r_invVi [] Z (c_X4_has (sh_8_1 ho) hq5) cv_X4_has rfl (shp_lt (sh_8_1 ho) (by decide)) (fun _ _ => ⟨_, ce_4 (sh_8_1 ho)⟩) wm_411 rfl rfl ⟨Nat.le_of_ble_eq_true rfl, Nat.le_of_ble_eq_true rfl⟩ rfl hl.1 rfl (Nat.le_of_ble_eq_true rfl) dX8_told_23 ?_
        refine r_if_ne Z 35 dX8_told_26 (by decide) (fun hc6 => ?_) (fun hc6 => ?_)
        · replace hF := nif_some hc6 hF
          refine r_aload_n Z dX8_told_35 rfl (lv_at hl 0 rfl) ?_
          refine r_aload_n Z dX8_told_36 rfl (lv_at hl 0 rfl) ?_
          refine g_8_1 Z ho wm_351 dX8_told_37 ?_
          refine g_4_0 Z (sh_8_1 ho) wm_418 dX8_told_40 ?_
          refine r_iload_n Z dX8_told_43 rfl (lv_at hl 1 rfl) ?_
          obtain ⟨hi7, hF⟩ := ck_some hF
          refine r_aald13 Z (sh_4_0 (sh_8_1 ho)) hi7 dX8_told_44 ?_
          refine r_iload_n Z dX8_told_45 rfl (lv_at hl 2 rfl) ?_
          obtain ⟨q8, hq8, hF⟩ := bd_some hF
          refine r_invVi [.ref (ad o)] Z (c_X1_fact (se_13 (sh_4_0 (sh_8_1 ho)) hi7) hq8) cv_X1_fact rfl (shp_lt (se_13 (sh_4_0 (sh_8_1 ho)) hi7) (by decide)) (fun _ _ => ⟨_, ce_1 (se_13 (sh_4_0 (sh_8_1 ho)) hi7)⟩) wm_433 rfl rfl ⟨Nat.le_of_ble_eq_true rfl, Nat.le_of_ble_eq_true rfl⟩ rfl hl.1 rfl (Nat.le_of_ble_eq_true rfl) dX8_told_46 ?_
          obtain ⟨M9, eM9, hF⟩ := nm_some hF
          refine p_8_8 Z ho wm_365 dX8_told_49 ?_
          rw [← eM9]
          refine r_iconst (v := 1) Z dX8_told_52 (by decide) ?_
          exact r_iret Z hQ hF dX8_told_53
        · replace hF := if_some hc6 hF
          refine r_aload_n Z dX8_told_29 rfl (lv_at hl 0 rfl) ?_
          refine r_iconst (v := 1) Z dX8_told_30 (by decide) ?_
          obtain ⟨q10, hq10, hF⟩ := bd_some hF
          refine r_invVi [] Z (c_X8_refuse ho hq10) cv_X8_refuse rfl (shp_lt ho (by decide)) (fun _ _ => ⟨_, ce_8 ho⟩) wm_378 rfl rfl ⟨Nat.le_of_ble_eq_true rfl, Nat.le_of_ble_eq_true rfl⟩ rfl hl.1 rfl (Nat.le_of_ble_eq_true rfl) dX8_told_31 ?_
          exact r_iret Z hQ hF dX8_told_34
      · replace hF := nif_some hc4 hF
        refine r_iconst (v := (-1)) Z dX8_told_16 (by decide) ?_
        exact r_iret Z hQ hF dX8_told_17
theorem dX8_upper_0 : decode cX8_upper 0 = .ok (.aload_n 0, 1) := by decide +kernel
theorem dX8_upper_1 : decode cX8_upper 1 = .ok (.getfield 46, 3) := by decide +kernel
theorem dX8_upper_4 : decode cX8_upper 4 = .ok (.getfield 180, 3) := by decide +kernel
theorem dX8_upper_7 : decode cX8_upper 7 = .ok (.lreturn, 1) := by decide +kernel
theorem cv_X8_upper : wn_cV yX8_upper cX8_upper 1 (some .long) RX8 0 := ⟨wm_581, wm_1081, wm_1082, wm_377, by decide +kernel⟩
abbrev rm_X8_upper : Room := rmz 0 0
set_option maxHeartbeats 4000000 in
set_option maxRecDepth 100000 in
theorem c_X8_upper {ad : Nat → Nat} {o : Nat} {M : Mm} {q : Int64 × Mm} (ho : shp o = 8) (hF : f_X8_upper o M = some q) : KL ad yX8_upper cX8_upper 1 (some .long) rm_X8_upper [.ref (ad o)] M q.1 q.2 := by
  refine wn_enterL (own := RX8) (by decide) rfl (Nat.le_of_ble_eq_true rfl) (fun X ls Z hQ hl => ?_)
  have hl : lv_has ls 1 [(0, .ref (ad o))] := hl
  unfold f_X8_upper at hF
  refine r_aload_n Z dX8_upper_0 rfl (lv_at hl 0 rfl) ?_
  refine g_8_5 Z ho wm_362 dX8_upper_1 ?_
  refine g_2_0 Z (sh_8_5 ho) wm_466 dX8_upper_4 ?_
  exact r_lret Z hQ hF dX8_upper_7
theorem dX8_use_0 : decode cX8_use 0 = .ok (.aload_n 0, 1) := by decide +kernel
theorem dX8_use_1 : decode cX8_use 1 = .ok (.iload_n 1, 1) := by decide +kernel
theorem dX8_use_2 : decode cX8_use 2 = .ok (.invokevirtual 162, 3) := by decide +kernel
theorem dX8_use_5 : decode cX8_use 5 = .ok (.istore_n 2, 1) := by decide +kernel
theorem dX8_use_6 : decode cX8_use 6 = .ok (.iload_n 2, 1) := by decide +kernel
theorem dX8_use_7 : decode cX8_use 7 = .ok (.ifCond .eq 5, 3) := by decide +kernel
theorem dX8_use_10 : decode cX8_use 10 = .ok (.iload_n 2, 1) := by decide +kernel
theorem dX8_use_11 : decode cX8_use 11 = .ok (.ireturn, 1) := by decide +kernel
theorem dX8_use_12 : decode cX8_use 12 = .ok (.aload_n 0, 1) := by decide +kernel
theorem dX8_use_13 : decode cX8_use 13 = .ok (.getfield 18, 3) := by decide +kernel
theorem dX8_use_16 : decode cX8_use 16 = .ok (.iload_n 1, 1) := by decide +kernel
theorem dX8_use_17 : decode cX8_use 17 = .ok (.invokevirtual 165, 3) := by decide +kernel
theorem dX8_use_20 : decode cX8_use 20 = .ok (.aload_n 0, 1) := by decide +kernel
theorem dX8_use_21 : decode cX8_use 21 = .ok (.getfield 46, 3) := by decide +kernel
theorem dX8_use_24 : decode cX8_use 24 = .ok (.aload_n 0, 1) := by decide +kernel
theorem dX8_use_25 : decode cX8_use 25 = .ok (.getfield 18, 3) := by decide +kernel
theorem dX8_use_28 : decode cX8_use 28 = .ok (.getfield 174, 3) := by decide +kernel
theorem dX8_use_31 : decode cX8_use 31 = .ok (.invokevirtual 171, 3) := by decide +kernel
theorem dX8_use_34 : decode cX8_use 34 = .ok (.aload_n 0, 1) := by decide +kernel
theorem dX8_use_35 : decode cX8_use 35 = .ok (.getfield 18, 3) := by decide +kernel
theorem dX8_use_38 : decode cX8_use 38 = .ok (.iload_n 1, 1) := by decide +kernel
theorem dX8_use_39 : decode cX8_use 39 = .ok (.invokevirtual 177, 3) := by decide +kernel
theorem dX8_use_42 : decode cX8_use 42 = .ok (.ifCond .eq 7, 3) := by decide +kernel
theorem dX8_use_45 : decode cX8_use 45 = .ok (.iconst 1, 1) := by decide +kernel
theorem dX8_use_46 : decode cX8_use 46 = .ok (.goto 4, 3) := by decide +kernel
theorem dX8_use_49 : decode cX8_use 49 = .ok (.iconst 0, 1) := by decide +kernel
theorem dX8_use_50 : decode cX8_use 50 = .ok (.ireturn, 1) := by decide +kernel
theorem cv_X8_use : wn_cV yX8_use cX8_use 3 (some .int) RX8 1 := ⟨wm_465, wm_961, wm_962, wm_377, by decide +kernel⟩
abbrev rm_X8_use : Room := rmz 5 108
set_option maxHeartbeats 4000000 in
set_option maxRecDepth 100000 in
theorem c_X8_use {ad : Nat → Nat} {o : Nat} {x1 : Int32} {M : Mm} {q : Int32 × Mm} (ho : shp o = 8) (hF : f_X8_use o x1 M = some q) : KI ad yX8_use cX8_use 3 (some .int) rm_X8_use [.ref (ad o), .int x1] M q.1 q.2 := by
  refine wn_enterI (own := RX8) (by decide) rfl (Nat.le_of_ble_eq_true rfl) (fun X ls Z hQ hl => ?_)
  have hl : lv_has ls 3 [(0, .ref (ad o)), (1, .int x1)] := hl
  unfold f_X8_use at hF
  refine r_aload_n Z dX8_use_0 rfl (lv_at hl 0 rfl) ?_
  refine r_iload_n Z dX8_use_1 rfl (lv_at hl 1 rfl) ?_
  obtain ⟨q1, hq1, hF⟩ := bd_some hF
  refine r_invVi [] Z (c_X8_judgeFlow ho hq1) cv_X8_judgeFlow rfl (shp_lt ho (by decide)) (fun _ _ => ⟨_, ce_8 ho⟩) wm_451 rfl rfl ⟨Nat.le_of_ble_eq_true rfl, Nat.le_of_ble_eq_true rfl⟩ rfl hl.1 rfl (Nat.le_of_ble_eq_true rfl) dX8_use_2 ?_
  refine r_istore_n Z [(2, .int q1.1), (0, .ref (ad o)), (1, .int x1)] dX8_use_5 rfl hl (by decide) rfl (fun ls hl => ?_)
  refine r_iload_n Z dX8_use_6 rfl (lv_at hl 0 rfl) ?_
  refine r_if_eq Z 12 dX8_use_7 (by decide) (fun hc2 => ?_) (fun hc2 => ?_)
  · replace hF := if_some hc2 hF
    refine r_aload_n Z dX8_use_12 rfl (lv_at hl 1 rfl) ?_
    refine g_8_1 Z ho wm_351 dX8_use_13 ?_
    refine r_iload_n Z dX8_use_16 rfl (lv_at hl 2 rfl) ?_
    obtain ⟨M3, hM3, hF⟩ := bd_some hF
    refine r_invVv [] Z (c_X4_workOutFlow (sh_8_1 ho) hM3) cv_X4_workOutFlow rfl (shp_lt (sh_8_1 ho) (by decide)) (fun _ _ => ⟨_, ce_4 (sh_8_1 ho)⟩) wm_454 rfl rfl ⟨Nat.le_of_ble_eq_true rfl, Nat.le_of_ble_eq_true rfl⟩ rfl hl.1 rfl (Nat.le_of_ble_eq_true rfl) dX8_use_17 ?_
    refine r_aload_n Z dX8_use_20 rfl (lv_at hl 1 rfl) ?_
    refine g_8_5 Z ho wm_362 dX8_use_21 ?_
    refine r_aload_n Z dX8_use_24 rfl (lv_at hl 1 rfl) ?_
    refine g_8_1 Z ho wm_351 dX8_use_25 ?_
    refine g_4_4 Z (sh_8_1 ho) wm_461 dX8_use_28 ?_
    obtain ⟨M4, hM4, hF⟩ := bd_some hF
    refine r_invVv [] Z (c_X2_take (sh_8_5 ho) (sh_4_4 (sh_8_1 ho)) hM4) cv_X2_take rfl (shp_lt (sh_8_5 ho) (by decide)) (fun _ _ => ⟨_, ce_2 (sh_8_5 ho)⟩) wm_457 rfl rfl ⟨Nat.le_of_ble_eq_true rfl, Nat.le_of_ble_eq_true rfl⟩ rfl hl.1 rfl (Nat.le_of_ble_eq_true rfl) dX8_use_31 ?_
    refine r_aload_n Z dX8_use_34 rfl (lv_at hl 1 rfl) ?_
    refine g_8_1 Z ho wm_351 dX8_use_35 ?_
    refine r_iload_n Z dX8_use_38 rfl (lv_at hl 2 rfl) ?_
    obtain ⟨q5, hq5, hF⟩ := bd_some hF
    refine r_invVi [] Z (c_X4_isOverfull (sh_8_1 ho) hq5) cv_X4_isOverfull rfl (shp_lt (sh_8_1 ho) (by decide)) (fun _ _ => ⟨_, ce_4 (sh_8_1 ho)⟩) wm_462 rfl rfl ⟨Nat.le_of_ble_eq_true rfl, Nat.le_of_ble_eq_true rfl⟩ rfl hl.1 rfl (Nat.le_of_ble_eq_true rfl) dX8_use_39 ?_
    refine r_if_eq Z 49 dX8_use_42 (by decide) (fun hc6 => ?_) (fun hc6 => ?_)
    · replace hF := if_some hc6 hF
      refine r_iconst (v := 0) Z dX8_use_49 (by decide) ?_
      exact r_iret Z hQ hF dX8_use_50
    · replace hF := nif_some hc6 hF
      refine r_iconst (v := 1) Z dX8_use_45 (by decide) ?_
      refine r_goto Z 50 dX8_use_46 (by decide) ?_
      exact r_iret Z hQ hF dX8_use_50
  · replace hF := nif_some hc2 hF
    refine r_iload_n Z dX8_use_10 rfl (lv_at hl 0 rfl) ?_
    exact r_iret Z hQ hF dX8_use_11
theorem dX8_visits_0 : decode cX8_visits 0 = .ok (.aload_n 0, 1) := by decide +kernel
theorem dX8_visits_1 : decode cX8_visits 1 = .ok (.iload_n 1, 1) := by decide +kernel
theorem dX8_visits_2 : decode cX8_visits 2 = .ok (.iconst 1, 1) := by decide +kernel
theorem dX8_visits_3 : decode cX8_visits 3 = .ok (.invokevirtual 198, 3) := by decide +kernel
theorem dX8_visits_6 : decode cX8_visits 6 = .ok (.istore_n 2, 1) := by decide +kernel
theorem dX8_visits_7 : decode cX8_visits 7 = .ok (.iload_n 2, 1) := by decide +kernel
theorem dX8_visits_8 : decode cX8_visits 8 = .ok (.ifCond .eq 5, 3) := by decide +kernel
theorem dX8_visits_11 : decode cX8_visits 11 = .ok (.iload_n 2, 1) := by decide +kernel
theorem dX8_visits_12 : decode cX8_visits 12 = .ok (.ireturn, 1) := by decide +kernel
theorem dX8_visits_13 : decode cX8_visits 13 = .ok (.aload_n 0, 1) := by decide +kernel
theorem dX8_visits_14 : decode cX8_visits 14 = .ok (.getfield 25, 3) := by decide +kernel
theorem dX8_visits_17 : decode cX8_visits 17 = .ok (.aload_n 0, 1) := by decide +kernel
theorem dX8_visits_18 : decode cX8_visits 18 = .ok (.getfield 18, 3) := by decide +kernel
theorem dX8_visits_21 : decode cX8_visits 21 = .ok (.invokevirtual 202, 3) := by decide +kernel
theorem dX8_visits_24 : decode cX8_visits 24 = .ok (.aload_n 0, 1) := by decide +kernel
theorem dX8_visits_25 : decode cX8_visits 25 = .ok (.getfield 25, 3) := by decide +kernel
theorem dX8_visits_28 : decode cX8_visits 28 = .ok (.getfield 206, 3) := by decide +kernel
theorem dX8_visits_31 : decode cX8_visits 31 = .ok (.iload_n 1, 1) := by decide +kernel
theorem dX8_visits_32 : decode cX8_visits 32 = .ok (.laload, 1) := by decide +kernel
theorem dX8_visits_33 : decode cX8_visits 33 = .ok (.l2i, 1) := by decide +kernel
theorem dX8_visits_34 : decode cX8_visits 34 = .ok (.ireturn, 1) := by decide +kernel
theorem cv_X8_visits : wn_cV yX8_visits cX8_visits 3 (some .int) RX8 1 := ⟨wm_488, wm_979, wm_980, wm_377, by decide +kernel⟩
abbrev rm_X8_visits : Room := rmz 5 107
set_option maxHeartbeats 4000000 in
set_option maxRecDepth 100000 in
theorem c_X8_visits {ad : Nat → Nat} {o : Nat} {x1 : Int32} {M : Mm} {q : Int32 × Mm} (ho : shp o = 8) (hF : f_X8_visits o x1 M = some q) : KI ad yX8_visits cX8_visits 3 (some .int) rm_X8_visits [.ref (ad o), .int x1] M q.1 q.2 := by
  refine wn_enterI (own := RX8) (by decide) rfl (Nat.le_of_ble_eq_true rfl) (fun X ls Z hQ hl => ?_)
  have hl : lv_has ls 3 [(0, .ref (ad o)), (1, .int x1)] := hl
  unfold f_X8_visits at hF
  refine r_aload_n Z dX8_visits_0 rfl (lv_at hl 0 rfl) ?_
  refine r_iload_n Z dX8_visits_1 rfl (lv_at hl 1 rfl) ?_
  refine r_iconst (v := 1) Z dX8_visits_2 (by decide) ?_
  obtain ⟨q1, hq1, hF⟩ := bd_some hF
  refine r_invVi [] Z (c_X8_judgeRound ho hq1) cv_X8_judgeRound rfl (shp_lt ho (by decide)) (fun _ _ => ⟨_, ce_8 ho⟩) wm_482 rfl rfl ⟨Nat.le_of_ble_eq_true rfl, Nat.le_of_ble_eq_true rfl⟩ rfl hl.1 rfl (Nat.le_of_ble_eq_true rfl) dX8_visits_3 ?_
  refine r_istore_n Z [(2, .int q1.1), (0, .ref (ad o)), (1, .int x1)] dX8_visits_6 rfl hl (by decide) rfl (fun ls hl => ?_)
  refine r_iload_n Z dX8_visits_7 rfl (lv_at hl 0 rfl) ?_
  refine r_if_eq Z 13 dX8_visits_8 (by decide) (fun hc2 => ?_) (fun hc2 => ?_)
  · replace hF := if_some hc2 hF
    refine r_aload_n Z dX8_visits_13 rfl (lv_at hl 1 rfl) ?_
    refine g_8_2 Z ho wm_354 dX8_visits_14 ?_
    refine r_aload_n Z dX8_visits_17 rfl (lv_at hl 1 rfl) ?_
    refine g_8_1 Z ho wm_351 dX8_visits_18 ?_
    obtain ⟨M3, hM3, hF⟩ := bd_some hF
    refine r_invVv [] Z (c_X5_load (sh_8_2 ho) (sh_8_1 ho) hM3) cv_X5_load rfl (shp_lt (sh_8_2 ho) (by decide)) (fun _ _ => ⟨_, ce_5 (sh_8_2 ho)⟩) wm_485 rfl rfl ⟨Nat.le_of_ble_eq_true rfl, Nat.le_of_ble_eq_true rfl⟩ rfl hl.1 rfl (Nat.le_of_ble_eq_true rfl) dX8_visits_21 ?_
    refine r_aload_n Z dX8_visits_24 rfl (lv_at hl 1 rfl) ?_
    refine g_8_2 Z ho wm_354 dX8_visits_25 ?_
    refine g_5_0 Z (sh_8_2 ho) wm_481 dX8_visits_28 ?_
    refine r_iload_n Z dX8_visits_31 rfl (lv_at hl 2 rfl) ?_
    obtain ⟨hi4, hF⟩ := ck_some hF
    refine r_laload Z (shp_lt (sh_5_0 (sh_8_2 ho)) (by decide)) (fun _ _ => ce_1004 (sh_5_0 (sh_8_2 ho))) hi4 dX8_visits_32 ?_
    refine r_l2i Z dX8_visits_33 ?_
    exact r_iret Z hQ hF dX8_visits_34
  · replace hF := nif_some hc2 hF
    refine r_iload_n Z dX8_visits_11 rfl (lv_at hl 0 rfl) ?_
    exact r_iret Z hQ hF dX8_visits_12

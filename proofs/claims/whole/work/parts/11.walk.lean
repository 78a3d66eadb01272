theorem dX7_determinant_0 : decode cX7_determinant 0 = .ok (.aload_n 0, 1) := by decide +kernel
theorem dX7_determinant_1 : decode cX7_determinant 1 = .ok (.getfield 16, 3) := by decide +kernel
theorem dX7_determinant_4 : decode cX7_determinant 4 = .ok (.bipush 6, 2) := by decide +kernel
theorem dX7_determinant_6 : decode cX7_determinant 6 = .ok (.invokestatic 20, 3) := by decide +kernel
theorem dX7_determinant_9 : decode cX7_determinant 9 = .ok (.istore_n 1, 1) := by decide +kernel
theorem dX7_determinant_10 : decode cX7_determinant 10 = .ok (.lconst 1, 1) := by decide +kernel
theorem dX7_determinant_11 : decode cX7_determinant 11 = .ok (.lstore_n 2, 1) := by decide +kernel
theorem dX7_determinant_12 : decode cX7_determinant 12 = .ok (.lconst 1, 1) := by decide +kernel
theorem dX7_determinant_13 : decode cX7_determinant 13 = .ok (.lstore 4, 2) := by decide +kernel
theorem dX7_determinant_15 : decode cX7_determinant 15 = .ok (.iconst 0, 1) := by decide +kernel
theorem dX7_determinant_16 : decode cX7_determinant 16 = .ok (.istore 6, 2) := by decide +kernel
theorem dX7_determinant_18 : decode cX7_determinant 18 = .ok (.iload 6, 2) := by decide +kernel
theorem dX7_determinant_20 : decode cX7_determinant 20 = .ok (.iload_n 1, 1) := by decide +kernel
theorem dX7_determinant_21 : decode cX7_determinant 21 = .ok (.iconst 1, 1) := by decide +kernel
theorem dX7_determinant_22 : decode cX7_determinant 22 = .ok (.isub, 1) := by decide +kernel
theorem dX7_determinant_23 : decode cX7_determinant 23 = .ok (.if_icmp .ge 69, 3) := by decide +kernel
theorem dX7_determinant_26 : decode cX7_determinant 26 = .ok (.aload_n 0, 1) := by decide +kernel
theorem dX7_determinant_27 : decode cX7_determinant 27 = .ok (.getfield 11, 3) := by decide +kernel
theorem dX7_determinant_30 : decode cX7_determinant 30 = .ok (.iload 6, 2) := by decide +kernel
theorem dX7_determinant_32 : decode cX7_determinant 32 = .ok (.aaload, 1) := by decide +kernel
theorem dX7_determinant_33 : decode cX7_determinant 33 = .ok (.iload 6, 2) := by decide +kernel
theorem dX7_determinant_35 : decode cX7_determinant 35 = .ok (.laload, 1) := by decide +kernel
theorem dX7_determinant_36 : decode cX7_determinant 36 = .ok (.lconst 0, 1) := by decide +kernel
theorem dX7_determinant_37 : decode cX7_determinant 37 = .ok (.lcmp, 1) := by decide +kernel
theorem dX7_determinant_38 : decode cX7_determinant 38 = .ok (.ifCond .ne 18, 3) := by decide +kernel
theorem dX7_determinant_41 : decode cX7_determinant 41 = .ok (.aload_n 0, 1) := by decide +kernel
theorem dX7_determinant_42 : decode cX7_determinant 42 = .ok (.iload 6, 2) := by decide +kernel
theorem dX7_determinant_44 : decode cX7_determinant 44 = .ok (.iload_n 1, 1) := by decide +kernel
theorem dX7_determinant_45 : decode cX7_determinant 45 = .ok (.invokevirtual 26, 3) := by decide +kernel
theorem dX7_determinant_48 : decode cX7_determinant 48 = .ok (.ifCond .ne 5, 3) := by decide +kernel
theorem dX7_determinant_51 : decode cX7_determinant 51 = .ok (.lconst 0, 1) := by decide +kernel
theorem dX7_determinant_52 : decode cX7_determinant 52 = .ok (.lreturn, 1) := by decide +kernel
theorem dX7_determinant_53 : decode cX7_determinant 53 = .ok (.lload_n 2, 1) := by decide +kernel
theorem dX7_determinant_54 : decode cX7_determinant 54 = .ok (.lneg, 1) := by decide +kernel
theorem dX7_determinant_55 : decode cX7_determinant 55 = .ok (.lstore_n 2, 1) := by decide +kernel
theorem dX7_determinant_56 : decode cX7_determinant 56 = .ok (.lload 4, 2) := by decide +kernel
theorem dX7_determinant_58 : decode cX7_determinant 58 = .ok (.lconst 0, 1) := by decide +kernel
theorem dX7_determinant_59 : decode cX7_determinant 59 = .ok (.lcmp, 1) := by decide +kernel
theorem dX7_determinant_60 : decode cX7_determinant 60 = .ok (.ifCond .ne 5, 3) := by decide +kernel
theorem dX7_determinant_63 : decode cX7_determinant 63 = .ok (.lconst 0, 1) := by decide +kernel
theorem dX7_determinant_64 : decode cX7_determinant 64 = .ok (.lreturn, 1) := by decide +kernel
theorem dX7_determinant_65 : decode cX7_determinant 65 = .ok (.aload_n 0, 1) := by decide +kernel
theorem dX7_determinant_66 : decode cX7_determinant 66 = .ok (.iload 6, 2) := by decide +kernel
theorem dX7_determinant_68 : decode cX7_determinant 68 = .ok (.iload_n 1, 1) := by decide +kernel
theorem dX7_determinant_69 : decode cX7_determinant 69 = .ok (.lload 4, 2) := by decide +kernel
theorem dX7_determinant_71 : decode cX7_determinant 71 = .ok (.invokevirtual 30, 3) := by decide +kernel
theorem dX7_determinant_74 : decode cX7_determinant 74 = .ok (.aload_n 0, 1) := by decide +kernel
theorem dX7_determinant_75 : decode cX7_determinant 75 = .ok (.getfield 11, 3) := by decide +kernel
theorem dX7_determinant_78 : decode cX7_determinant 78 = .ok (.iload 6, 2) := by decide +kernel
theorem dX7_determinant_80 : decode cX7_determinant 80 = .ok (.aaload, 1) := by decide +kernel
theorem dX7_determinant_81 : decode cX7_determinant 81 = .ok (.iload 6, 2) := by decide +kernel
theorem dX7_determinant_83 : decode cX7_determinant 83 = .ok (.laload, 1) := by decide +kernel
theorem dX7_determinant_84 : decode cX7_determinant 84 = .ok (.lstore 4, 2) := by decide +kernel
theorem dX7_determinant_86 : decode cX7_determinant 86 = .ok (.iinc 6 1, 3) := by decide +kernel
theorem dX7_determinant_89 : decode cX7_determinant 89 = .ok (.goto (-71), 3) := by decide +kernel
theorem dX7_determinant_92 : decode cX7_determinant 92 = .ok (.iload_n 1, 1) := by decide +kernel
theorem dX7_determinant_93 : decode cX7_determinant 93 = .ok (.ifCond .le 20, 3) := by decide +kernel
theorem dX7_determinant_96 : decode cX7_determinant 96 = .ok (.lload_n 2, 1) := by decide +kernel
theorem dX7_determinant_97 : decode cX7_determinant 97 = .ok (.aload_n 0, 1) := by decide +kernel
theorem dX7_determinant_98 : decode cX7_determinant 98 = .ok (.getfield 11, 3) := by decide +kernel
theorem dX7_determinant_101 : decode cX7_determinant 101 = .ok (.iload_n 1, 1) := by decide +kernel
theorem dX7_determinant_102 : decode cX7_determinant 102 = .ok (.iconst 1, 1) := by decide +kernel
theorem dX7_determinant_103 : decode cX7_determinant 103 = .ok (.isub, 1) := by decide +kernel
theorem dX7_determinant_104 : decode cX7_determinant 104 = .ok (.aaload, 1) := by decide +kernel
theorem dX7_determinant_105 : decode cX7_determinant 105 = .ok (.iload_n 1, 1) := by decide +kernel
theorem dX7_determinant_106 : decode cX7_determinant 106 = .ok (.iconst 1, 1) := by decide +kernel
theorem dX7_determinant_107 : decode cX7_determinant 107 = .ok (.isub, 1) := by decide +kernel
theorem dX7_determinant_108 : decode cX7_determinant 108 = .ok (.laload, 1) := by decide +kernel
theorem dX7_determinant_109 : decode cX7_determinant 109 = .ok (.lmul, 1) := by decide +kernel
theorem dX7_determinant_110 : decode cX7_determinant 110 = .ok (.goto 4, 3) := by decide +kernel
theorem dX7_determinant_113 : decode cX7_determinant 113 = .ok (.lconst 1, 1) := by decide +kernel
theorem dX7_determinant_114 : decode cX7_determinant 114 = .ok (.lreturn, 1) := by decide +kernel
theorem cv_X7_determinant : wn_cV yX7_determinant cX7_determinant 7 (some .long) RX7 0 := ⟨wm_63, wm_82, wm_83, wm_16, by decide +kernel⟩
abbrev rm_X7_determinant : Room := rmz 1 28
set_option maxHeartbeats 4000000 in
set_option maxRecDepth 100000 in
theorem c_X7_determinant {ad : Nat → Nat} {o : Nat} {M : Mm} {q : Int64 × Mm} (ho : shp o = 7) (hF : f_X7_determinant o M = some q) : KL ad yX7_determinant cX7_determinant 7 (some .long) rm_X7_determinant [.ref (ad o)] M q.1 q.2 := by
  refine wn_enterL (own := RX7) (by decide) rfl (Nat.le_of_ble_eq_true rfl) (fun X ls Z hQ hl => ?_)
  have hl : lv_has ls 7 [(0, .ref (ad o))] := hl
  have L18 : ∀ (n18 : Nat) (v1 : Int32) (v2 : Int64) (v4 : Int64) (v6 : Int32) (M : Mm) (ls : Array Slot), lv_has ls 7 [(0, .ref (ad o)), (1, .int v1), (2, .long v2), (4, .long v4), (6, .int v6)] → f_X7_determinant_b18 o n18 v1 v2 v4 v6 M = some q → G ad X M 18 ls [] := by
    intro n18
    induction n18 with
    | zero =>
      intro v1 v2 v4 v6 M ls hl hF
      cases hF
    | succ n18 ih18 =>
      have L56 : ∀ (v1 : Int32) (v2 : Int64) (v4 : Int64) (v6 : Int32) (M : Mm) (ls : Array Slot), lv_has ls 7 [(0, .ref (ad o)), (1, .int v1), (2, .long v2), (4, .long v4), (6, .int v6)] → f_X7_determinant_b56 (f_X7_determinant_b18 o n18) o v1 v2 v4 v6 M = some q → G ad X M 56 ls [] := by
        intro v1 v2 v4 v6 M ls hl hF
        unfold f_X7_determinant_b56 at hF
        refine r_lload Z dX7_determinant_56 (lv_at hl 3 rfl) ?_
        refine r_lconst (v := 0) Z dX7_determinant_58 (by decide) ?_
        refine r_lcmp Z dX7_determinant_59 ?_
        refine r_if_ne Z 65 dX7_determinant_60 (by decide) (fun hc1 => ?_) (fun hc1 => ?_)
        · replace hF := nif_some hc1 hF
          refine r_aload_n Z dX7_determinant_65 rfl (lv_at hl 0 rfl) ?_
          refine r_iload Z dX7_determinant_66 (lv_at hl 4 rfl) ?_
          refine r_iload_n Z dX7_determinant_68 rfl (lv_at hl 1 rfl) ?_
          refine r_lload Z dX7_determinant_69 (lv_at hl 3 rfl) ?_
          obtain ⟨M2, hM2, hF⟩ := bd_some hF
          refine r_invVv [] Z (c_X7_clearBelow ho hM2) cv_X7_clearBelow rfl (shp_lt ho (by decide)) (fun _ _ => ⟨_, ce_7 ho⟩) wm_71 rfl rfl ⟨Nat.le_of_ble_eq_true rfl, Nat.le_of_ble_eq_true rfl⟩ rfl hl.1 rfl (Nat.le_of_ble_eq_true rfl) dX7_determinant_71 ?_
          refine r_aload_n Z dX7_determinant_74 rfl (lv_at hl 0 rfl) ?_
          refine g_7_0 Z ho wm_6 dX7_determinant_75 ?_
          refine r_iload Z dX7_determinant_78 (lv_at hl 4 rfl) ?_
          obtain ⟨hi3, hF⟩ := ck_some hF
          refine r_aald16 Z (sh_7_0 ho) hi3 dX7_determinant_80 ?_
          refine r_iload Z dX7_determinant_81 (lv_at hl 4 rfl) ?_
          obtain ⟨hi4, hF⟩ := ck_some hF
          refine r_laload Z (shp_lt (se_16 (sh_7_0 ho) hi3) (by decide)) (fun _ _ => ce_1006 (se_16 (sh_7_0 ho) hi3)) hi4 dX7_determinant_83 ?_
          obtain ⟨t5, et5, hF⟩ := nm_some hF
          rw [← et5]
          refine r_lstore Z [(4, .long t5), (0, .ref (ad o)), (1, .int v1), (2, .long v2), (6, .int v6)] dX7_determinant_84 hl (by decide) rfl (fun ls hl => ?_)
          obtain ⟨t6, et6, hF⟩ := nm_some hF
          refine r_iinc (j := 4) Z t6 [(6, .int t6), (4, .long t5), (0, .ref (ad o)), (1, .int v1), (2, .long v2)] dX7_determinant_86 hl rfl (by rw [et6]; rfl) (by decide) rfl (fun ls hl => ?_)
          refine r_goto Z 18 dX7_determinant_89 (by decide) ?_
          exact ih18 v1 v2 t5 t6 M2 ls (lv_sub hl [2, 3, 4, 1, 0] rfl) hF
        · replace hF := if_some hc1 hF
          refine r_lconst (v := 0) Z dX7_determinant_63 (by decide) ?_
          exact r_lret Z hQ hF dX7_determinant_64
      intro v1 v2 v4 v6 M ls hl hF
      replace hF : f_X7_determinant_b18B (f_X7_determinant_b18 o n18) o v1 v2 v4 v6 M = some q := hF
      unfold f_X7_determinant_b18B at hF
      refine r_iload Z dX7_determinant_18 (lv_at hl 4 rfl) ?_
      refine r_iload_n Z dX7_determinant_20 rfl (lv_at hl 1 rfl) ?_
      refine r_iconst (v := 1) Z dX7_determinant_21 (by decide) ?_
      refine r_isub Z dX7_determinant_22 ?_
      refine r_icmp_ge Z 92 dX7_determinant_23 (by decide) (fun hc7 => ?_) (fun hc7 => ?_)
      · replace hF := if_some hc7 hF
        refine r_iload_n Z dX7_determinant_92 rfl (lv_at hl 1 rfl) ?_
        refine r_if_le Z 113 dX7_determinant_93 (by decide) (fun hc8 => ?_) (fun hc8 => ?_)
        · replace hF := if_some hc8 hF
          refine r_lconst (v := 1) Z dX7_determinant_113 (by decide) ?_
          exact r_lret Z hQ hF dX7_determinant_114
        · replace hF := nif_some hc8 hF
          refine r_lload_n Z dX7_determinant_96 rfl (lv_at hl 2 rfl) ?_
          refine r_aload_n Z dX7_determinant_97 rfl (lv_at hl 0 rfl) ?_
          refine g_7_0 Z ho wm_6 dX7_determinant_98 ?_
          refine r_iload_n Z dX7_determinant_101 rfl (lv_at hl 1 rfl) ?_
          refine r_iconst (v := 1) Z dX7_determinant_102 (by decide) ?_
          refine r_isub Z dX7_determinant_103 ?_
          obtain ⟨hi9, hF⟩ := ck_some hF
          refine r_aald16 Z (sh_7_0 ho) hi9 dX7_determinant_104 ?_
          refine r_iload_n Z dX7_determinant_105 rfl (lv_at hl 1 rfl) ?_
          refine r_iconst (v := 1) Z dX7_determinant_106 (by decide) ?_
          refine r_isub Z dX7_determinant_107 ?_
          obtain ⟨hi10, hF⟩ := ck_some hF
          refine r_laload Z (shp_lt (se_16 (sh_7_0 ho) hi9) (by decide)) (fun _ _ => ce_1006 (se_16 (sh_7_0 ho) hi9)) hi10 dX7_determinant_108 ?_
          refine r_lmul Z dX7_determinant_109 ?_
          refine r_goto Z 114 dX7_determinant_110 (by decide) ?_
          exact r_lret Z hQ hF dX7_determinant_114
      · replace hF := nif_some hc7 hF
        refine r_aload_n Z dX7_determinant_26 rfl (lv_at hl 0 rfl) ?_
        refine g_7_0 Z ho wm_6 dX7_determinant_27 ?_
        refine r_iload Z dX7_determinant_30 (lv_at hl 4 rfl) ?_
        obtain ⟨hi11, hF⟩ := ck_some hF
        refine r_aald16 Z (sh_7_0 ho) hi11 dX7_determinant_32 ?_
        refine r_iload Z dX7_determinant_33 (lv_at hl 4 rfl) ?_
        obtain ⟨hi12, hF⟩ := ck_some hF
        refine r_laload Z (shp_lt (se_16 (sh_7_0 ho) hi11) (by decide)) (fun _ _ => ce_1006 (se_16 (sh_7_0 ho) hi11)) hi12 dX7_determinant_35 ?_
        refine r_lconst (v := 0) Z dX7_determinant_36 (by decide) ?_
        refine r_lcmp Z dX7_determinant_37 ?_
        refine r_if_ne Z 56 dX7_determinant_38 (by decide) (fun hc13 => ?_) (fun hc13 => ?_)
        · replace hF := nif_some hc13 hF
          exact L56 v1 v2 v4 v6 M ls (lv_sub hl [0, 1, 2, 3, 4] rfl) hF
        · replace hF := if_some hc13 hF
          refine r_aload_n Z dX7_determinant_41 rfl (lv_at hl 0 rfl) ?_
          refine r_iload Z dX7_determinant_42 (lv_at hl 4 rfl) ?_
          refine r_iload_n Z dX7_determinant_44 rfl (lv_at hl 1 rfl) ?_
          obtain ⟨q14, hq14, hF⟩ := bd_some hF
          refine r_invVi [] Z (c_X7_bringUp ho hq14) cv_X7_bringUp rfl (shp_lt ho (by decide)) (fun _ _ => ⟨_, ce_7 ho⟩) wm_68 rfl rfl ⟨Nat.le_of_ble_eq_true rfl, Nat.le_of_ble_eq_true rfl⟩ rfl hl.1 rfl (Nat.le_of_ble_eq_true rfl) dX7_determinant_45 ?_
          refine r_if_ne Z 53 dX7_determinant_48 (by decide) (fun hc15 => ?_) (fun hc15 => ?_)
          · replace hF := nif_some hc15 hF
            refine r_lload_n Z dX7_determinant_53 rfl (lv_at hl 2 rfl) ?_
            refine r_lneg Z dX7_determinant_54 ?_
            obtain ⟨t16, et16, hF⟩ := nm_some hF
            rw [← et16]
            refine r_lstore_n Z [(2, .long t16), (0, .ref (ad o)), (1, .int v1), (4, .long v4), (6, .int v6)] dX7_determinant_55 rfl hl (by decide) rfl (fun ls hl => ?_)
            exact L56 v1 t16 v4 v6 q14.2 ls (lv_sub hl [1, 2, 0, 3, 4] rfl) hF
          · replace hF := if_some hc15 hF
            refine r_lconst (v := 0) Z dX7_determinant_51 (by decide) ?_
            exact r_lret Z hQ hF dX7_determinant_52
  unfold f_X7_determinant at hF
  refine r_aload_n Z dX7_determinant_0 rfl (lv_at hl 0 rfl) ?_
  refine g_7_1 Z ho wm_7 dX7_determinant_1 ?_
  refine r_bipush (v := 6) Z dX7_determinant_4 (by decide) ?_
  refine r_mmin Z wm_64 wm_65 wm_66 wm_67 (Nat.le_of_ble_eq_true rfl) (Nat.le_of_ble_eq_true rfl) hl.1 dX7_determinant_6 ?_
  obtain ⟨t17, et17, hF⟩ := nm_some hF
  rw [← et17]
  refine r_istore_n Z [(1, .int t17), (0, .ref (ad o))] dX7_determinant_9 rfl hl (by decide) rfl (fun ls hl => ?_)
  refine r_lconst (v := 1) Z dX7_determinant_10 (by decide) ?_
  refine r_lstore_n Z [(2, .long 1), (1, .int t17), (0, .ref (ad o))] dX7_determinant_11 rfl hl (by decide) rfl (fun ls hl => ?_)
  refine r_lconst (v := 1) Z dX7_determinant_12 (by decide) ?_
  refine r_lstore Z [(4, .long 1), (2, .long 1), (1, .int t17), (0, .ref (ad o))] dX7_determinant_13 hl (by decide) rfl (fun ls hl => ?_)
  refine r_iconst (v := 0) Z dX7_determinant_15 (by decide) ?_
  refine r_istore Z [(6, .int 0), (4, .long 1), (2, .long 1), (1, .int t17), (0, .ref (ad o))] dX7_determinant_16 hl (by decide) rfl (fun ls hl => ?_)
  exact L18 _ t17 1 1 0 M ls (lv_sub hl [4, 3, 2, 1, 0] rfl) hF
theorem dX0_weightOf_0 : decode cX0_weightOf 0 = .ok (.iload_n 2, 1) := by decide +kernel
theorem dX0_weightOf_1 : decode cX0_weightOf 1 = .ok (.iload_n 1, 1) := by decide +kernel
theorem dX0_weightOf_2 : decode cX0_weightOf 2 = .ok (.ishr, 1) := by decide +kernel
theorem dX0_weightOf_3 : decode cX0_weightOf 3 = .ok (.iconst 1, 1) := by decide +kernel
theorem dX0_weightOf_4 : decode cX0_weightOf 4 = .ok (.iand, 1) := by decide +kernel
theorem dX0_weightOf_5 : decode cX0_weightOf 5 = .ok (.ifCond .ne 5, 3) := by decide +kernel
theorem dX0_weightOf_8 : decode cX0_weightOf 8 = .ok (.lconst 0, 1) := by decide +kernel
theorem dX0_weightOf_9 : decode cX0_weightOf 9 = .ok (.lreturn, 1) := by decide +kernel
theorem dX0_weightOf_10 : decode cX0_weightOf 10 = .ok (.iload_n 2, 1) := by decide +kernel
theorem dX0_weightOf_11 : decode cX0_weightOf 11 = .ok (.iconst 1, 1) := by decide +kernel
theorem dX0_weightOf_12 : decode cX0_weightOf 12 = .ok (.iload_n 1, 1) := by decide +kernel
theorem dX0_weightOf_13 : decode cX0_weightOf 13 = .ok (.ishl, 1) := by decide +kernel
theorem dX0_weightOf_14 : decode cX0_weightOf 14 = .ok (.iconst (-1), 1) := by decide +kernel
theorem dX0_weightOf_15 : decode cX0_weightOf 15 = .ok (.ixor, 1) := by decide +kernel
theorem dX0_weightOf_16 : decode cX0_weightOf 16 = .ok (.iand, 1) := by decide +kernel
theorem dX0_weightOf_17 : decode cX0_weightOf 17 = .ok (.istore_n 3, 1) := by decide +kernel
theorem dX0_weightOf_18 : decode cX0_weightOf 18 = .ok (.aload_n 0, 1) := by decide +kernel
theorem dX0_weightOf_19 : decode cX0_weightOf 19 = .ok (.getfield 23, 3) := by decide +kernel
theorem dX0_weightOf_22 : decode cX0_weightOf 22 = .ok (.iload_n 3, 1) := by decide +kernel
theorem dX0_weightOf_23 : decode cX0_weightOf 23 = .ok (.invokestatic 63, 3) := by decide +kernel
theorem dX0_weightOf_26 : decode cX0_weightOf 26 = .ok (.putfield 68, 3) := by decide +kernel
theorem dX0_weightOf_29 : decode cX0_weightOf 29 = .ok (.iconst 0, 1) := by decide +kernel
theorem dX0_weightOf_30 : decode cX0_weightOf 30 = .ok (.istore 4, 2) := by decide +kernel
theorem dX0_weightOf_32 : decode cX0_weightOf 32 = .ok (.iconst 0, 1) := by decide +kernel
theorem dX0_weightOf_33 : decode cX0_weightOf 33 = .ok (.istore 5, 2) := by decide +kernel
theorem dX0_weightOf_35 : decode cX0_weightOf 35 = .ok (.iload 5, 2) := by decide +kernel
theorem dX0_weightOf_37 : decode cX0_weightOf 37 = .ok (.aload_n 0, 1) := by decide +kernel
theorem dX0_weightOf_38 : decode cX0_weightOf 38 = .ok (.getfield 27, 3) := by decide +kernel
theorem dX0_weightOf_41 : decode cX0_weightOf 41 = .ok (.if_icmp .ge 30, 3) := by decide +kernel
theorem dX0_weightOf_44 : decode cX0_weightOf 44 = .ok (.iload_n 3, 1) := by decide +kernel
theorem dX0_weightOf_45 : decode cX0_weightOf 45 = .ok (.iload 5, 2) := by decide +kernel
theorem dX0_weightOf_47 : decode cX0_weightOf 47 = .ok (.ishr, 1) := by decide +kernel
theorem dX0_weightOf_48 : decode cX0_weightOf 48 = .ok (.iconst 1, 1) := by decide +kernel
theorem dX0_weightOf_49 : decode cX0_weightOf 49 = .ok (.iand, 1) := by decide +kernel
theorem dX0_weightOf_50 : decode cX0_weightOf 50 = .ok (.ifCond .eq 15, 3) := by decide +kernel
theorem dX0_weightOf_53 : decode cX0_weightOf 53 = .ok (.aload_n 0, 1) := by decide +kernel
theorem dX0_weightOf_54 : decode cX0_weightOf 54 = .ok (.iload 4, 2) := by decide +kernel
theorem dX0_weightOf_56 : decode cX0_weightOf 56 = .ok (.iload 5, 2) := by decide +kernel
theorem dX0_weightOf_58 : decode cX0_weightOf 58 = .ok (.iload_n 3, 1) := by decide +kernel
theorem dX0_weightOf_59 : decode cX0_weightOf 59 = .ok (.invokevirtual 69, 3) := by decide +kernel
theorem dX0_weightOf_62 : decode cX0_weightOf 62 = .ok (.iinc 4 1, 3) := by decide +kernel
theorem dX0_weightOf_65 : decode cX0_weightOf 65 = .ok (.iinc 5 1, 3) := by decide +kernel
theorem dX0_weightOf_68 : decode cX0_weightOf 68 = .ok (.goto (-33), 3) := by decide +kernel
theorem dX0_weightOf_71 : decode cX0_weightOf 71 = .ok (.aload_n 0, 1) := by decide +kernel
theorem dX0_weightOf_72 : decode cX0_weightOf 72 = .ok (.getfield 23, 3) := by decide +kernel
theorem dX0_weightOf_75 : decode cX0_weightOf 75 = .ok (.invokevirtual 73, 3) := by decide +kernel
theorem dX0_weightOf_78 : decode cX0_weightOf 78 = .ok (.lreturn, 1) := by decide +kernel
theorem cv_X0_weightOf : wn_cV yX0_weightOf cX0_weightOf 6 (some .long) RX0 2 := ⟨wm_84, wm_99, wm_100, wm_40, by decide +kernel⟩
abbrev rm_X0_weightOf : Room := rmz 2 54
set_option maxHeartbeats 4000000 in
set_option maxRecDepth 100000 in
theorem c_X0_weightOf {ad : Nat → Nat} {o : Nat} {x1 : Int32} {x2 : Int32} {M : Mm} {q : Int64 × Mm} (ho : shp o = 0) (hF : f_X0_weightOf o x1 x2 M = some q) : KL ad yX0_weightOf cX0_weightOf 6 (some .long) rm_X0_weightOf [.ref (ad o), .int x1, .int x2] M q.1 q.2 := by
  refine wn_enterL (own := RX0) (by decide) rfl (Nat.le_of_ble_eq_true rfl) (fun X ls Z hQ hl => ?_)
  have hl : lv_has ls 6 [(0, .ref (ad o)), (1, .int x1), (2, .int x2)] := hl
  have L35 : ∀ (n35 : Nat) (v3 : Int32) (v4 : Int32) (v5 : Int32) (M : Mm) (ls : Array Slot), lv_has ls 6 [(0, .ref (ad o)), (3, .int v3), (4, .int v4), (5, .int v5)] → f_X0_weightOf_b35 o n35 v3 v4 v5 M = some q → G ad X M 35 ls [] := by
    intro n35
    induction n35 with
    | zero =>
      intro v3 v4 v5 M ls hl hF
      cases hF
    | succ n35 ih35 =>
      intro v3 v4 v5 M ls hl hF
      replace hF : f_X0_weightOf_b35B (f_X0_weightOf_b35 o n35) o v3 v4 v5 M = some q := hF
      unfold f_X0_weightOf_b35B at hF
      refine r_iload Z dX0_weightOf_35 (lv_at hl 3 rfl) ?_
      refine r_aload_n Z dX0_weightOf_37 rfl (lv_at hl 0 rfl) ?_
      refine g_0_3 Z ho wm_18 dX0_weightOf_38 ?_
      refine r_icmp_ge Z 71 dX0_weightOf_41 (by decide) (fun hc1 => ?_) (fun hc1 => ?_)
      · replace hF := if_some hc1 hF
        refine r_aload_n Z dX0_weightOf_71 rfl (lv_at hl 0 rfl) ?_
        refine g_0_2 Z ho wm_17 dX0_weightOf_72 ?_
        obtain ⟨q2, hq2, hF⟩ := bd_some hF
        refine r_invVl [] Z (c_X7_determinant (sh_0_2 ho) hq2) cv_X7_determinant rfl (shp_lt (sh_0_2 ho) (by decide)) (fun _ _ => ⟨_, ce_7 (sh_0_2 ho)⟩) wm_81 rfl rfl ⟨Nat.le_of_ble_eq_true rfl, Nat.le_of_ble_eq_true rfl⟩ rfl hl.1 rfl (Nat.le_of_ble_eq_true rfl) dX0_weightOf_75 ?_
        exact r_lret Z hQ hF dX0_weightOf_78
      · replace hF := nif_some hc1 hF
        refine r_iload_n Z dX0_weightOf_44 rfl (lv_at hl 1 rfl) ?_
        refine r_iload Z dX0_weightOf_45 (lv_at hl 3 rfl) ?_
        refine r_ishr Z dX0_weightOf_47 ?_
        refine r_iconst (v := 1) Z dX0_weightOf_48 (by decide) ?_
        refine r_iand Z dX0_weightOf_49 ?_
        refine r_if_eq Z 65 dX0_weightOf_50 (by decide) (fun hc3 => ?_) (fun hc3 => ?_)
        · replace hF := if_some hc3 hF
          obtain ⟨t4, et4, hF⟩ := nm_some hF
          refine r_iinc (j := 3) Z t4 [(5, .int t4), (0, .ref (ad o)), (3, .int v3), (4, .int v4)] dX0_weightOf_65 hl rfl (by rw [et4]; rfl) (by decide) rfl (fun ls hl => ?_)
          refine r_goto Z 35 dX0_weightOf_68 (by decide) ?_
          exact ih35 v3 v4 t4 M ls (lv_sub hl [1, 2, 3, 0] rfl) hF
        · replace hF := nif_some hc3 hF
          refine r_aload_n Z dX0_weightOf_53 rfl (lv_at hl 0 rfl) ?_
          refine r_iload Z dX0_weightOf_54 (lv_at hl 2 rfl) ?_
          refine r_iload Z dX0_weightOf_56 (lv_at hl 3 rfl) ?_
          refine r_iload_n Z dX0_weightOf_58 rfl (lv_at hl 1 rfl) ?_
          obtain ⟨M5, hM5, hF⟩ := bd_some hF
          refine r_invVv [] Z (c_X0_layLine ho hM5) cv_X0_layLine rfl (shp_lt ho (by decide)) (fun _ _ => ⟨_, ce_0 ho⟩) wm_78 rfl rfl ⟨Nat.le_of_ble_eq_true rfl, Nat.le_of_ble_eq_true rfl⟩ rfl hl.1 rfl (Nat.le_of_ble_eq_true rfl) dX0_weightOf_59 ?_
          obtain ⟨t6, et6, hF⟩ := nm_some hF
          refine r_iinc (j := 2) Z t6 [(4, .int t6), (0, .ref (ad o)), (3, .int v3), (5, .int v5)] dX0_weightOf_62 hl rfl (by rw [et6]; rfl) (by decide) rfl (fun ls hl => ?_)
          obtain ⟨t7, et7, hF⟩ := nm_some hF
          refine r_iinc (j := 3) Z t7 [(5, .int t7), (4, .int t6), (0, .ref (ad o)), (3, .int v3)] dX0_weightOf_65 hl rfl (by rw [et7]; rfl) (by decide) rfl (fun ls hl => ?_)
          refine r_goto Z 35 dX0_weightOf_68 (by decide) ?_
          exact ih35 v3 t6 t7 M5 ls (lv_sub hl [2, 3, 1, 0] rfl) hF
  unfold f_X0_weightOf at hF
  refine r_iload_n Z dX0_weightOf_0 rfl (lv_at hl 2 rfl) ?_
  refine r_iload_n Z dX0_weightOf_1 rfl (lv_at hl 1 rfl) ?_
  refine r_ishr Z dX0_weightOf_2 ?_
  refine r_iconst (v := 1) Z dX0_weightOf_3 (by decide) ?_
  refine r_iand Z dX0_weightOf_4 ?_
  refine r_if_ne Z 10 dX0_weightOf_5 (by decide) (fun hc8 => ?_) (fun hc8 => ?_)
  · replace hF := nif_some hc8 hF
    refine r_iload_n Z dX0_weightOf_10 rfl (lv_at hl 2 rfl) ?_
    refine r_iconst (v := 1) Z dX0_weightOf_11 (by decide) ?_
    refine r_iload_n Z dX0_weightOf_12 rfl (lv_at hl 1 rfl) ?_
    refine r_ishl Z dX0_weightOf_13 ?_
    refine r_iconst (v := (-1)) Z dX0_weightOf_14 (by decide) ?_
    refine r_ixor Z dX0_weightOf_15 ?_
    refine r_iand Z dX0_weightOf_16 ?_
    obtain ⟨t9, et9, hF⟩ := nm_some hF
    rw [← et9]
    refine r_istore_n Z [(3, .int t9), (0, .ref (ad o)), (1, .int x1), (2, .int x2)] dX0_weightOf_17 rfl hl (by decide) rfl (fun ls hl => ?_)
    refine r_aload_n Z dX0_weightOf_18 rfl (lv_at hl 1 rfl) ?_
    refine g_0_2 Z ho wm_17 dX0_weightOf_19 ?_
    refine r_iload_n Z dX0_weightOf_22 rfl (lv_at hl 0 rfl) ?_
    obtain ⟨q10, hq10, hF⟩ := bd_some hF
    refine r_invSi [.ref (ad (fld o 2))] Z (c_J6_bitCount_0f7a4 hq10) cv_J6_bitCount_0f7a4 wm_75 rfl rfl ⟨Nat.le_of_ble_eq_true rfl, Nat.le_of_ble_eq_true rfl⟩ rfl hl.1 rfl (Nat.le_of_ble_eq_true rfl) dX0_weightOf_23 ?_
    obtain ⟨M11, eM11, hF⟩ := nm_some hF
    refine p_7_1 Z (sh_0_2 ho) wm_74 dX0_weightOf_26 ?_
    rw [← eM11]
    refine r_iconst (v := 0) Z dX0_weightOf_29 (by decide) ?_
    refine r_istore Z [(4, .int 0), (3, .int t9), (0, .ref (ad o)), (1, .int x1), (2, .int x2)] dX0_weightOf_30 hl (by decide) rfl (fun ls hl => ?_)
    refine r_iconst (v := 0) Z dX0_weightOf_32 (by decide) ?_
    refine r_istore Z [(5, .int 0), (4, .int 0), (3, .int t9), (0, .ref (ad o)), (1, .int x1), (2, .int x2)] dX0_weightOf_33 hl (by decide) rfl (fun ls hl => ?_)
    exact L35 _ t9 0 0 M11 ls (lv_sub hl [3, 2, 1, 0] rfl) hF
  · replace hF := if_some hc8 hF
    refine r_lconst (v := 0) Z dX0_weightOf_8 (by decide) ?_
    exact r_lret Z hQ hF dX0_weightOf_9
theorem dX2_commonPart_0 : decode cX2_commonPart 0 = .ok (.lload_n 0, 1) := by decide +kernel
theorem dX2_commonPart_1 : decode cX2_commonPart 1 = .ok (.invokestatic 22, 3) := by decide +kernel
theorem dX2_commonPart_4 : decode cX2_commonPart 4 = .ok (.lstore 4, 2) := by decide +kernel
theorem dX2_commonPart_6 : decode cX2_commonPart 6 = .ok (.lload_n 2, 1) := by decide +kernel
theorem dX2_commonPart_7 : decode cX2_commonPart 7 = .ok (.invokestatic 22, 3) := by decide +kernel
theorem dX2_commonPart_10 : decode cX2_commonPart 10 = .ok (.lstore 6, 2) := by decide +kernel
theorem dX2_commonPart_12 : decode cX2_commonPart 12 = .ok (.iconst 0, 1) := by decide +kernel
theorem dX2_commonPart_13 : decode cX2_commonPart 13 = .ok (.istore 8, 2) := by decide +kernel
theorem dX2_commonPart_15 : decode cX2_commonPart 15 = .ok (.iload 8, 2) := by decide +kernel
theorem dX2_commonPart_17 : decode cX2_commonPart 17 = .ok (.sipush 200, 3) := by decide +kernel
theorem dX2_commonPart_20 : decode cX2_commonPart 20 = .ok (.if_icmp .ge 31, 3) := by decide +kernel
theorem dX2_commonPart_23 : decode cX2_commonPart 23 = .ok (.lload 6, 2) := by decide +kernel
theorem dX2_commonPart_25 : decode cX2_commonPart 25 = .ok (.lconst 0, 1) := by decide +kernel
theorem dX2_commonPart_26 : decode cX2_commonPart 26 = .ok (.lcmp, 1) := by decide +kernel
theorem dX2_commonPart_27 : decode cX2_commonPart 27 = .ok (.ifCond .eq 24, 3) := by decide +kernel
theorem dX2_commonPart_30 : decode cX2_commonPart 30 = .ok (.lload 4, 2) := by decide +kernel
theorem dX2_commonPart_32 : decode cX2_commonPart 32 = .ok (.lload 6, 2) := by decide +kernel
theorem dX2_commonPart_34 : decode cX2_commonPart 34 = .ok (.lrem, 1) := by decide +kernel
theorem dX2_commonPart_35 : decode cX2_commonPart 35 = .ok (.lstore 9, 2) := by decide +kernel
theorem dX2_commonPart_37 : decode cX2_commonPart 37 = .ok (.lload 6, 2) := by decide +kernel
theorem dX2_commonPart_39 : decode cX2_commonPart 39 = .ok (.lstore 4, 2) := by decide +kernel
theorem dX2_commonPart_41 : decode cX2_commonPart 41 = .ok (.lload 9, 2) := by decide +kernel
theorem dX2_commonPart_43 : decode cX2_commonPart 43 = .ok (.lstore 6, 2) := by decide +kernel
theorem dX2_commonPart_45 : decode cX2_commonPart 45 = .ok (.iinc 8 1, 3) := by decide +kernel
theorem dX2_commonPart_48 : decode cX2_commonPart 48 = .ok (.goto (-33), 3) := by decide +kernel
theorem dX2_commonPart_51 : decode cX2_commonPart 51 = .ok (.lload 4, 2) := by decide +kernel
theorem dX2_commonPart_53 : decode cX2_commonPart 53 = .ok (.lreturn, 1) := by decide +kernel
theorem cv_X2_commonPart : wn_cS yX2_commonPart cX2_commonPart 11 (some .long) 2 := ⟨wm_85, wm_93, wm_94, by decide +kernel⟩
abbrev rm_X2_commonPart : Room := rmz 1 13
set_option maxHeartbeats 4000000 in
set_option maxRecDepth 100000 in
theorem c_X2_commonPart {ad : Nat → Nat} {x1 : Int64} {x2 : Int64} {M : Mm} {q : Int64 × Mm} (hF : f_X2_commonPart x1 x2 M = some q) : KL ad yX2_commonPart cX2_commonPart 11 (some .long) rm_X2_commonPart [.long x1, .long x2] M q.1 q.2 := by
  refine wn_enterL (own := RX2) (by decide) rfl (Nat.le_of_ble_eq_true rfl) (fun X ls Z hQ hl => ?_)
  have hl : lv_has ls 11 [(0, .long x1), (2, .long x2)] := hl
  have L15 : ∀ (n15 : Nat) (v4 : Int64) (v6 : Int64) (v8 : Int32) (M : Mm) (ls : Array Slot), lv_has ls 11 [(4, .long v4), (6, .long v6), (8, .int v8)] → f_X2_commonPart_b15 n15 v4 v6 v8 M = some q → G ad X M 15 ls [] := by
    intro n15
    induction n15 with
    | zero =>
      intro v4 v6 v8 M ls hl hF
      cases hF
    | succ n15 ih15 =>
      intro v4 v6 v8 M ls hl hF
      replace hF : f_X2_commonPart_b15B (f_X2_commonPart_b15 n15) v4 v6 v8 M = some q := hF
      unfold f_X2_commonPart_b15B at hF
      refine r_iload Z dX2_commonPart_15 (lv_at hl 2 rfl) ?_
      refine r_sipush (v := 200) Z dX2_commonPart_17 (by decide) ?_
      refine r_icmp_ge Z 51 dX2_commonPart_20 (by decide) (fun hc1 => ?_) (fun hc1 => ?_)
      · replace hF := if_some hc1 hF
        refine r_lload Z dX2_commonPart_51 (lv_at hl 0 rfl) ?_
        exact r_lret Z hQ hF dX2_commonPart_53
      · replace hF := nif_some hc1 hF
        refine r_lload Z dX2_commonPart_23 (lv_at hl 1 rfl) ?_
        refine r_lconst (v := 0) Z dX2_commonPart_25 (by decide) ?_
        refine r_lcmp Z dX2_commonPart_26 ?_
        refine r_if_eq Z 51 dX2_commonPart_27 (by decide) (fun hc2 => ?_) (fun hc2 => ?_)
        · replace hF := if_some hc2 hF
          refine r_lload Z dX2_commonPart_51 (lv_at hl 0 rfl) ?_
          exact r_lret Z hQ hF dX2_commonPart_53
        · replace hF := nif_some hc2 hF
          refine r_lload Z dX2_commonPart_30 (lv_at hl 0 rfl) ?_
          refine r_lload Z dX2_commonPart_32 (lv_at hl 1 rfl) ?_
          obtain ⟨hd3, hF⟩ := dvJ_some hF
          refine r_lrem Z dX2_commonPart_34 hd3 ?_
          obtain ⟨t4, et4, hF⟩ := nm_some hF
          rw [← et4]
          refine r_lstore Z [(9, .long t4), (4, .long v4), (6, .long v6), (8, .int v8)] dX2_commonPart_35 hl (by decide) rfl (fun ls hl => ?_)
          refine r_lload Z dX2_commonPart_37 (lv_at hl 2 rfl) ?_
          refine r_lstore Z [(4, .long v6), (9, .long t4), (6, .long v6), (8, .int v8)] dX2_commonPart_39 hl (by decide) rfl (fun ls hl => ?_)
          refine r_lload Z dX2_commonPart_41 (lv_at hl 1 rfl) ?_
          refine r_lstore Z [(6, .long t4), (4, .long v6), (9, .long t4), (8, .int v8)] dX2_commonPart_43 hl (by decide) rfl (fun ls hl => ?_)
          obtain ⟨t5, et5, hF⟩ := nm_some hF
          refine r_iinc (j := 3) Z t5 [(8, .int t5), (6, .long t4), (4, .long v6), (9, .long t4)] dX2_commonPart_45 hl rfl (by rw [et5]; rfl) (by decide) rfl (fun ls hl => ?_)
          refine r_goto Z 15 dX2_commonPart_48 (by decide) ?_
          exact ih15 v6 t4 t5 M ls (lv_sub hl [2, 1, 0] rfl) hF
  unfold f_X2_commonPart at hF
  refine r_lload_n Z dX2_commonPart_0 rfl (lv_at hl 0 rfl) ?_
  refine r_labs Z wm_86 wm_87 wm_66 wm_88 (Nat.le_of_ble_eq_true rfl) (Nat.le_of_ble_eq_true rfl) hl.1 dX2_commonPart_1 ?_
  obtain ⟨t6, et6, hF⟩ := nm_some hF
  rw [← et6]
  refine r_lstore Z [(4, .long t6), (0, .long x1), (2, .long x2)] dX2_commonPart_4 hl (by decide) rfl (fun ls hl => ?_)
  refine r_lload_n Z dX2_commonPart_6 rfl (lv_at hl 2 rfl) ?_
  refine r_labs Z wm_86 wm_87 wm_66 wm_88 (Nat.le_of_ble_eq_true rfl) (Nat.le_of_ble_eq_true rfl) hl.1 dX2_commonPart_7 ?_
  obtain ⟨t7, et7, hF⟩ := nm_some hF
  rw [← et7]
  refine r_lstore Z [(6, .long t7), (4, .long t6), (0, .long x1), (2, .long x2)] dX2_commonPart_10 hl (by decide) rfl (fun ls hl => ?_)
  refine r_iconst (v := 0) Z dX2_commonPart_12 (by decide) ?_
  refine r_istore Z [(8, .int 0), (6, .long t7), (4, .long t6), (0, .long x1), (2, .long x2)] dX2_commonPart_13 hl (by decide) rfl (fun ls hl => ?_)
  exact L15 _ t6 t7 0 M ls (lv_sub hl [2, 1, 0] rfl) hF
theorem dX2_set_0 : decode cX2_set 0 = .ok (.lload_n 1, 1) := by decide +kernel
theorem dX2_set_1 : decode cX2_set 1 = .ok (.lload_n 3, 1) := by decide +kernel
theorem dX2_set_2 : decode cX2_set 2 = .ok (.invokestatic 18, 3) := by decide +kernel
theorem dX2_set_5 : decode cX2_set 5 = .ok (.lstore 5, 2) := by decide +kernel
theorem dX2_set_7 : decode cX2_set 7 = .ok (.lload_n 3, 1) := by decide +kernel
theorem dX2_set_8 : decode cX2_set 8 = .ok (.lconst 0, 1) := by decide +kernel
theorem dX2_set_9 : decode cX2_set 9 = .ok (.lcmp, 1) := by decide +kernel
theorem dX2_set_10 : decode cX2_set 10 = .ok (.ifCond .eq 10, 3) := by decide +kernel
theorem dX2_set_13 : decode cX2_set 13 = .ok (.lload 5, 2) := by decide +kernel
theorem dX2_set_15 : decode cX2_set 15 = .ok (.lconst 0, 1) := by decide +kernel
theorem dX2_set_16 : decode cX2_set 16 = .ok (.lcmp, 1) := by decide +kernel
theorem dX2_set_17 : decode cX2_set 17 = .ok (.ifCond .ne 4, 3) := by decide +kernel
theorem dX2_set_20 : decode cX2_set 20 = .ok (.return_, 1) := by decide +kernel
theorem dX2_set_21 : decode cX2_set 21 = .ok (.lload_n 3, 1) := by decide +kernel
theorem dX2_set_22 : decode cX2_set 22 = .ok (.lconst 0, 1) := by decide +kernel
theorem dX2_set_23 : decode cX2_set 23 = .ok (.lcmp, 1) := by decide +kernel
theorem dX2_set_24 : decode cX2_set 24 = .ok (.ifCond .ge 9, 3) := by decide +kernel
theorem dX2_set_27 : decode cX2_set 27 = .ok (.lload 5, 2) := by decide +kernel
theorem dX2_set_29 : decode cX2_set 29 = .ok (.lneg, 1) := by decide +kernel
theorem dX2_set_30 : decode cX2_set 30 = .ok (.goto 5, 3) := by decide +kernel
theorem dX2_set_33 : decode cX2_set 33 = .ok (.lload 5, 2) := by decide +kernel
theorem dX2_set_35 : decode cX2_set 35 = .ok (.lstore 7, 2) := by decide +kernel
theorem dX2_set_37 : decode cX2_set 37 = .ok (.aload_n 0, 1) := by decide +kernel
theorem dX2_set_38 : decode cX2_set 38 = .ok (.lload_n 1, 1) := by decide +kernel
theorem dX2_set_39 : decode cX2_set 39 = .ok (.lload 7, 2) := by decide +kernel
theorem dX2_set_41 : decode cX2_set 41 = .ok (.ldiv, 1) := by decide +kernel
theorem dX2_set_42 : decode cX2_set 42 = .ok (.putfield 9, 3) := by decide +kernel
theorem dX2_set_45 : decode cX2_set 45 = .ok (.aload_n 0, 1) := by decide +kernel
theorem dX2_set_46 : decode cX2_set 46 = .ok (.lload_n 3, 1) := by decide +kernel
theorem dX2_set_47 : decode cX2_set 47 = .ok (.lload 7, 2) := by decide +kernel
theorem dX2_set_49 : decode cX2_set 49 = .ok (.ldiv, 1) := by decide +kernel
theorem dX2_set_50 : decode cX2_set 50 = .ok (.putfield 15, 3) := by decide +kernel
theorem dX2_set_53 : decode cX2_set 53 = .ok (.return_, 1) := by decide +kernel
theorem cv_X2_set : wn_cV yX2_set cX2_set 9 none RX2 2 := ⟨wm_89, wm_102, wm_103, wm_94, by decide +kernel⟩
abbrev rm_X2_set : Room := rmz 2 43
set_option maxHeartbeats 4000000 in
set_option maxRecDepth 100000 in
theorem c_X2_set {ad : Nat → Nat} {o : Nat} {x1 : Int64} {x2 : Int64} {M : Mm} {q : Mm} (ho : shp o = 2) (hF : f_X2_set o x1 x2 M = some q) : KV ad yX2_set cX2_set 9 none rm_X2_set [.ref (ad o), .long x1, .long x2] M q := by
  refine wn_enterV (own := RX2) (by decide) rfl (Nat.le_of_ble_eq_true rfl) (fun X ls Z hQ hl => ?_)
  have hl : lv_has ls 9 [(0, .ref (ad o)), (1, .long x1), (3, .long x2)] := hl
  have L35 : ∀ (v1 : Int64) (v3 : Int64) (s0 : Int64) (M : Mm) (ls : Array Slot), lv_has ls 9 [(0, .ref (ad o)), (1, .long v1), (3, .long v3)] → f_X2_set_b35 o v1 v3 s0 M = some q → G ad X M 35 ls [.long s0] := by
    intro v1 v3 s0 M ls hl hF
    unfold f_X2_set_b35 at hF
    refine r_lstore Z [(7, .long s0), (0, .ref (ad o)), (1, .long v1), (3, .long v3)] dX2_set_35 hl (by decide) rfl (fun ls hl => ?_)
    refine r_aload_n Z dX2_set_37 rfl (lv_at hl 1 rfl) ?_
    refine r_lload_n Z dX2_set_38 rfl (lv_at hl 2 rfl) ?_
    refine r_lload Z dX2_set_39 (lv_at hl 0 rfl) ?_
    obtain ⟨hd1, hF⟩ := dvJ_some hF
    refine r_ldiv Z dX2_set_41 hd1 ?_
    obtain ⟨M2, eM2, hF⟩ := nm_some hF
    refine p_2_0 Z ho wm_90 dX2_set_42 ?_
    rw [← eM2]
    refine r_aload_n Z dX2_set_45 rfl (lv_at hl 1 rfl) ?_
    refine r_lload_n Z dX2_set_46 rfl (lv_at hl 3 rfl) ?_
    refine r_lload Z dX2_set_47 (lv_at hl 0 rfl) ?_
    obtain ⟨hd3, hF⟩ := dvJ_some hF
    refine r_ldiv Z dX2_set_49 hd3 ?_
    obtain ⟨M4, eM4, hF⟩ := nm_some hF
    refine p_2_1 Z ho wm_91 dX2_set_50 ?_
    rw [← eM4]
    exact r_vret Z hQ hF dX2_set_53
  unfold f_X2_set at hF
  refine r_lload_n Z dX2_set_0 rfl (lv_at hl 1 rfl) ?_
  refine r_lload_n Z dX2_set_1 rfl (lv_at hl 2 rfl) ?_
  obtain ⟨q5, hq5, hF⟩ := bd_some hF
  refine r_invSl [] Z (c_X2_commonPart hq5) cv_X2_commonPart wm_92 rfl rfl ⟨Nat.le_of_ble_eq_true rfl, Nat.le_of_ble_eq_true rfl⟩ rfl hl.1 rfl (Nat.le_of_ble_eq_true rfl) dX2_set_2 ?_
  refine r_lstore Z [(5, .long q5.1), (0, .ref (ad o)), (1, .long x1), (3, .long x2)] dX2_set_5 hl (by decide) rfl (fun ls hl => ?_)
  refine r_lload_n Z dX2_set_7 rfl (lv_at hl 3 rfl) ?_
  refine r_lconst (v := 0) Z dX2_set_8 (by decide) ?_
  refine r_lcmp Z dX2_set_9 ?_
  refine r_if_eq Z 20 dX2_set_10 (by decide) (fun hc6 => ?_) (fun hc6 => ?_)
  · replace hF := if_some hc6 hF
    exact r_vret Z hQ hF dX2_set_20
  · replace hF := nif_some hc6 hF
    refine r_lload Z dX2_set_13 (lv_at hl 0 rfl) ?_
    refine r_lconst (v := 0) Z dX2_set_15 (by decide) ?_
    refine r_lcmp Z dX2_set_16 ?_
    refine r_if_ne Z 21 dX2_set_17 (by decide) (fun hc7 => ?_) (fun hc7 => ?_)
    · replace hF := nif_some hc7 hF
      refine r_lload_n Z dX2_set_21 rfl (lv_at hl 3 rfl) ?_
      refine r_lconst (v := 0) Z dX2_set_22 (by decide) ?_
      refine r_lcmp Z dX2_set_23 ?_
      refine r_if_ge Z 33 dX2_set_24 (by decide) (fun hc8 => ?_) (fun hc8 => ?_)
      · replace hF := if_some hc8 hF
        refine r_lload Z dX2_set_33 (lv_at hl 0 rfl) ?_
        exact L35 x1 x2 q5.1 q5.2 ls (lv_sub hl [1, 2, 3] rfl) hF
      · replace hF := nif_some hc8 hF
        refine r_lload Z dX2_set_27 (lv_at hl 0 rfl) ?_
        refine r_lneg Z dX2_set_29 ?_
        refine r_goto Z 35 dX2_set_30 (by decide) ?_
        exact L35 x1 x2 (-q5.1) q5.2 ls (lv_sub hl [1, 2, 3] rfl) hF
    · replace hF := if_some hc7 hF
      exact r_vret Z hQ hF dX2_set_20
theorem dX0_tellLasting_0 : decode cX0_tellLasting 0 = .ok (.aload_n 0, 1) := by decide +kernel
theorem dX0_tellLasting_1 : decode cX0_tellLasting 1 = .ok (.invokevirtual 50, 3) := by decide +kernel
theorem dX0_tellLasting_4 : decode cX0_tellLasting 4 = .ok (.istore_n 3, 1) := by decide +kernel
theorem dX0_tellLasting_5 : decode cX0_tellLasting 5 = .ok (.lconst 0, 1) := by decide +kernel
theorem dX0_tellLasting_6 : decode cX0_tellLasting 6 = .ok (.lstore 4, 2) := by decide +kernel
theorem dX0_tellLasting_8 : decode cX0_tellLasting 8 = .ok (.iconst 0, 1) := by decide +kernel
theorem dX0_tellLasting_9 : decode cX0_tellLasting 9 = .ok (.istore 6, 2) := by decide +kernel
theorem dX0_tellLasting_11 : decode cX0_tellLasting 11 = .ok (.iload 6, 2) := by decide +kernel
theorem dX0_tellLasting_13 : decode cX0_tellLasting 13 = .ok (.aload_n 0, 1) := by decide +kernel
theorem dX0_tellLasting_14 : decode cX0_tellLasting 14 = .ok (.getfield 27, 3) := by decide +kernel
theorem dX0_tellLasting_17 : decode cX0_tellLasting 17 = .ok (.if_icmp .ge 21, 3) := by decide +kernel
theorem dX0_tellLasting_20 : decode cX0_tellLasting 20 = .ok (.lload 4, 2) := by decide +kernel
theorem dX0_tellLasting_22 : decode cX0_tellLasting 22 = .ok (.aload_n 0, 1) := by decide +kernel
theorem dX0_tellLasting_23 : decode cX0_tellLasting 23 = .ok (.iload 6, 2) := by decide +kernel
theorem dX0_tellLasting_25 : decode cX0_tellLasting 25 = .ok (.iload_n 3, 1) := by decide +kernel
theorem dX0_tellLasting_26 : decode cX0_tellLasting 26 = .ok (.invokevirtual 53, 3) := by decide +kernel
theorem dX0_tellLasting_29 : decode cX0_tellLasting 29 = .ok (.ladd, 1) := by decide +kernel
theorem dX0_tellLasting_30 : decode cX0_tellLasting 30 = .ok (.lstore 4, 2) := by decide +kernel
theorem dX0_tellLasting_32 : decode cX0_tellLasting 32 = .ok (.iinc 6 1, 3) := by decide +kernel
theorem dX0_tellLasting_35 : decode cX0_tellLasting 35 = .ok (.goto (-24), 3) := by decide +kernel
theorem dX0_tellLasting_38 : decode cX0_tellLasting 38 = .ok (.aload_n 2, 1) := by decide +kernel
theorem dX0_tellLasting_39 : decode cX0_tellLasting 39 = .ok (.aload_n 0, 1) := by decide +kernel
theorem dX0_tellLasting_40 : decode cX0_tellLasting 40 = .ok (.iload_n 1, 1) := by decide +kernel
theorem dX0_tellLasting_41 : decode cX0_tellLasting 41 = .ok (.iload_n 3, 1) := by decide +kernel
theorem dX0_tellLasting_42 : decode cX0_tellLasting 42 = .ok (.invokevirtual 53, 3) := by decide +kernel
theorem dX0_tellLasting_45 : decode cX0_tellLasting 45 = .ok (.lload 4, 2) := by decide +kernel
theorem dX0_tellLasting_47 : decode cX0_tellLasting 47 = .ok (.invokevirtual 57, 3) := by decide +kernel
theorem dX0_tellLasting_50 : decode cX0_tellLasting 50 = .ok (.return_, 1) := by decide +kernel
theorem cv_X0_tellLasting : wn_cV yX0_tellLasting cX0_tellLasting 7 none RX0 2 := ⟨wm_104, wm_551, wm_552, wm_40, by decide +kernel⟩
abbrev rm_X0_tellLasting : Room := rmz 3 79
set_option maxHeartbeats 4000000 in
set_option maxRecDepth 100000 in
theorem c_X0_tellLasting {ad : Nat → Nat} {o : Nat} {x1 : Int32} {x2 : Nat} {M : Mm} {q : Mm} (ho : shp o = 0) (h2 : shp x2 = 2) (hF : f_X0_tellLasting o x1 x2 M = some q) : KV ad yX0_tellLasting cX0_tellLasting 7 none rm_X0_tellLasting [.ref (ad o), .int x1, .ref (ad x2)] M q := by
  refine wn_enterV (own := RX0) (by decide) rfl (Nat.le_of_ble_eq_true rfl) (fun X ls Z hQ hl => ?_)
  have hl : lv_has ls 7 [(0, .ref (ad o)), (1, .int x1), (2, .ref (ad x2))] := hl
  have L11 : ∀ (n11 : Nat) (v1 : Int32) (v2 : Nat) (v3 : Int32) (v4 : Int64) (v6 : Int32) (M : Mm) (ls : Array Slot), shp v2 = 2 → lv_has ls 7 [(0, .ref (ad o)), (1, .int v1), (2, .ref (ad v2)), (3, .int v3), (4, .long v4), (6, .int v6)] → f_X0_tellLasting_b11 o n11 v1 v2 v3 v4 v6 M = some q → G ad X M 11 ls [] := by
    intro n11
    induction n11 with
    | zero =>
      intro v1 v2 v3 v4 v6 M ls hv2 hl hF
      cases hF
    | succ n11 ih11 =>
      intro v1 v2 v3 v4 v6 M ls hv2 hl hF
      replace hF : f_X0_tellLasting_b11B (f_X0_tellLasting_b11 o n11) o v1 v2 v3 v4 v6 M = some q := hF
      unfold f_X0_tellLasting_b11B at hF
      refine r_iload Z dX0_tellLasting_11 (lv_at hl 5 rfl) ?_
      refine r_aload_n Z dX0_tellLasting_13 rfl (lv_at hl 0 rfl) ?_
      refine g_0_3 Z ho wm_18 dX0_tellLasting_14 ?_
      refine r_icmp_ge Z 38 dX0_tellLasting_17 (by decide) (fun hc1 => ?_) (fun hc1 => ?_)
      · replace hF := if_some hc1 hF
        refine r_aload_n Z dX0_tellLasting_38 rfl (lv_at hl 2 rfl) ?_
        refine r_aload_n Z dX0_tellLasting_39 rfl (lv_at hl 0 rfl) ?_
        refine r_iload_n Z dX0_tellLasting_40 rfl (lv_at hl 1 rfl) ?_
        refine r_iload_n Z dX0_tellLasting_41 rfl (lv_at hl 3 rfl) ?_
        obtain ⟨q2, hq2, hF⟩ := bd_some hF
        refine r_invVl [.ref (ad v2)] Z (c_X0_weightOf ho hq2) cv_X0_weightOf rfl (shp_lt ho (by decide)) (fun _ _ => ⟨_, ce_0 ho⟩) wm_98 rfl rfl ⟨Nat.le_of_ble_eq_true rfl, Nat.le_of_ble_eq_true rfl⟩ rfl hl.1 rfl (Nat.le_of_ble_eq_true rfl) dX0_tellLasting_42 ?_
        refine r_lload Z dX0_tellLasting_45 (lv_at hl 4 rfl) ?_
        obtain ⟨M3, hM3, hF⟩ := bd_some hF
        refine r_invVv [] Z (c_X2_set hv2 hM3) cv_X2_set rfl (shp_lt hv2 (by decide)) (fun _ _ => ⟨_, ce_2 hv2⟩) wm_101 rfl rfl ⟨Nat.le_of_ble_eq_true rfl, Nat.le_of_ble_eq_true rfl⟩ rfl hl.1 rfl (Nat.le_of_ble_eq_true rfl) dX0_tellLasting_47 ?_
        exact r_vret Z hQ hF dX0_tellLasting_50
      · replace hF := nif_some hc1 hF
        refine r_lload Z dX0_tellLasting_20 (lv_at hl 4 rfl) ?_
        refine r_aload_n Z dX0_tellLasting_22 rfl (lv_at hl 0 rfl) ?_
        refine r_iload Z dX0_tellLasting_23 (lv_at hl 5 rfl) ?_
        refine r_iload_n Z dX0_tellLasting_25 rfl (lv_at hl 3 rfl) ?_
        obtain ⟨q4, hq4, hF⟩ := bd_some hF
        refine r_invVl [.long v4] Z (c_X0_weightOf ho hq4) cv_X0_weightOf rfl (shp_lt ho (by decide)) (fun _ _ => ⟨_, ce_0 ho⟩) wm_98 rfl rfl ⟨Nat.le_of_ble_eq_true rfl, Nat.le_of_ble_eq_true rfl⟩ rfl hl.1 rfl (Nat.le_of_ble_eq_true rfl) dX0_tellLasting_26 ?_
        refine r_ladd Z dX0_tellLasting_29 ?_
        obtain ⟨t5, et5, hF⟩ := nm_some hF
        rw [← et5]
        refine r_lstore Z [(4, .long t5), (0, .ref (ad o)), (1, .int v1), (2, .ref (ad v2)), (3, .int v3), (6, .int v6)] dX0_tellLasting_30 hl (by decide) rfl (fun ls hl => ?_)
        obtain ⟨t6, et6, hF⟩ := nm_some hF
        refine r_iinc (j := 5) Z t6 [(6, .int t6), (4, .long t5), (0, .ref (ad o)), (1, .int v1), (2, .ref (ad v2)), (3, .int v3)] dX0_tellLasting_32 hl rfl (by rw [et6]; rfl) (by decide) rfl (fun ls hl => ?_)
        refine r_goto Z 11 dX0_tellLasting_35 (by decide) ?_
        exact ih11 v1 v2 v3 t5 t6 q4.2 ls hv2 (lv_sub hl [2, 3, 4, 5, 1, 0] rfl) hF
  unfold f_X0_tellLasting at hF
  refine r_aload_n Z dX0_tellLasting_0 rfl (lv_at hl 0 rfl) ?_
  obtain ⟨q7, hq7, hF⟩ := bd_some hF
  refine r_invVi [] Z (c_X0_firstPart ho hq7) cv_X0_firstPart rfl (shp_lt ho (by decide)) (fun _ _ => ⟨_, ce_0 ho⟩) wm_95 rfl rfl ⟨Nat.le_of_ble_eq_true rfl, Nat.le_of_ble_eq_true rfl⟩ rfl hl.1 rfl (Nat.le_of_ble_eq_true rfl) dX0_tellLasting_1 ?_
  refine r_istore_n Z [(3, .int q7.1), (0, .ref (ad o)), (1, .int x1), (2, .ref (ad x2))] dX0_tellLasting_4 rfl hl (by decide) rfl (fun ls hl => ?_)
  refine r_lconst (v := 0) Z dX0_tellLasting_5 (by decide) ?_
  refine r_lstore Z [(4, .long 0), (3, .int q7.1), (0, .ref (ad o)), (1, .int x1), (2, .ref (ad x2))] dX0_tellLasting_6 hl (by decide) rfl (fun ls hl => ?_)
  refine r_iconst (v := 0) Z dX0_tellLasting_8 (by decide) ?_
  refine r_istore Z [(6, .int 0), (4, .long 0), (3, .int q7.1), (0, .ref (ad o)), (1, .int x1), (2, .ref (ad x2))] dX0_tellLasting_9 hl (by decide) rfl (fun ls hl => ?_)
  exact L11 _ x1 x2 q7.1 0 0 q7.2 ls h2 (lv_sub hl [3, 4, 5, 2, 1, 0] rfl) hF
theorem dX1_begin_0 : decode cX1_begin 0 = .ok (.aload_n 0, 1) := by decide +kernel
theorem dX1_begin_1 : decode cX1_begin 1 = .ok (.iload_n 1, 1) := by decide +kernel
theorem dX1_begin_2 : decode cX1_begin 2 = .ok (.putfield 15, 3) := by decide +kernel
theorem dX1_begin_5 : decode cX1_begin 5 = .ok (.aload_n 0, 1) := by decide +kernel
theorem dX1_begin_6 : decode cX1_begin 6 = .ok (.iconst 1, 1) := by decide +kernel
theorem dX1_begin_7 : decode cX1_begin 7 = .ok (.putfield 19, 3) := by decide +kernel
theorem dX1_begin_10 : decode cX1_begin 10 = .ok (.aload_n 0, 1) := by decide +kernel
theorem dX1_begin_11 : decode cX1_begin 11 = .ok (.iconst 1, 1) := by decide +kernel
theorem dX1_begin_12 : decode cX1_begin 12 = .ok (.putfield 22, 3) := by decide +kernel
theorem dX1_begin_15 : decode cX1_begin 15 = .ok (.aload_n 0, 1) := by decide +kernel
theorem dX1_begin_16 : decode cX1_begin 16 = .ok (.iconst 1, 1) := by decide +kernel
theorem dX1_begin_17 : decode cX1_begin 17 = .ok (.putfield 25, 3) := by decide +kernel
theorem dX1_begin_20 : decode cX1_begin 20 = .ok (.aload_n 0, 1) := by decide +kernel
theorem dX1_begin_21 : decode cX1_begin 21 = .ok (.iconst 0, 1) := by decide +kernel
theorem dX1_begin_22 : decode cX1_begin 22 = .ok (.putfield 28, 3) := by decide +kernel
theorem dX1_begin_25 : decode cX1_begin 25 = .ok (.iconst 0, 1) := by decide +kernel
theorem dX1_begin_26 : decode cX1_begin 26 = .ok (.istore_n 2, 1) := by decide +kernel
theorem dX1_begin_27 : decode cX1_begin 27 = .ok (.iload_n 2, 1) := by decide +kernel
theorem dX1_begin_28 : decode cX1_begin 28 = .ok (.iconst 4, 1) := by decide +kernel
theorem dX1_begin_29 : decode cX1_begin 29 = .ok (.if_icmp .ge 16, 3) := by decide +kernel
theorem dX1_begin_32 : decode cX1_begin 32 = .ok (.aload_n 0, 1) := by decide +kernel
theorem dX1_begin_33 : decode cX1_begin 33 = .ok (.getfield 9, 3) := by decide +kernel
theorem dX1_begin_36 : decode cX1_begin 36 = .ok (.iload_n 2, 1) := by decide +kernel
theorem dX1_begin_37 : decode cX1_begin 37 = .ok (.iconst 0, 1) := by decide +kernel
theorem dX1_begin_38 : decode cX1_begin 38 = .ok (.iastore, 1) := by decide +kernel
theorem dX1_begin_39 : decode cX1_begin 39 = .ok (.iinc 2 1, 3) := by decide +kernel
theorem dX1_begin_42 : decode cX1_begin 42 = .ok (.goto (-15), 3) := by decide +kernel
theorem dX1_begin_45 : decode cX1_begin 45 = .ok (.return_, 1) := by decide +kernel
theorem cv_X1_begin : wn_cV yX1_begin cX1_begin 3 none RX1 1 := ⟨wm_114, wm_174, wm_175, wm_122, by decide +kernel⟩
abbrev rm_X1_begin : Room := rmz 0 0
set_option maxHeartbeats 4000000 in
set_option maxRecDepth 100000 in
theorem c_X1_begin {ad : Nat → Nat} {o : Nat} {x1 : Int32} {M : Mm} {q : Mm} (ho : shp o = 1) (hF : f_X1_begin o x1 M = some q) : KV ad yX1_begin cX1_begin 3 none rm_X1_begin [.ref (ad o), .int x1] M q := by
  refine wn_enterV (own := RX1) (by decide) rfl (Nat.le_of_ble_eq_true rfl) (fun X ls Z hQ hl => ?_)
  have hl : lv_has ls 3 [(0, .ref (ad o)), (1, .int x1)] := hl
  have L27 : ∀ (n27 : Nat) (v2 : Int32) (M : Mm) (ls : Array Slot), lv_has ls 3 [(0, .ref (ad o)), (2, .int v2)] → f_X1_begin_b27 o n27 v2 M = some q → G ad X M 27 ls [] := by
    intro n27
    induction n27 with
    | zero =>
      intro v2 M ls hl hF
      cases hF
    | succ n27 ih27 =>
      intro v2 M ls hl hF
      replace hF : f_X1_begin_b27B (f_X1_begin_b27 o n27) o v2 M = some q := hF
      unfold f_X1_begin_b27B at hF
      refine r_iload_n Z dX1_begin_27 rfl (lv_at hl 1 rfl) ?_
      refine r_iconst (v := 4) Z dX1_begin_28 (by decide) ?_
      refine r_icmp_ge Z 45 dX1_begin_29 (by decide) (fun hc1 => ?_) (fun hc1 => ?_)
      · replace hF := if_some hc1 hF
        exact r_vret Z hQ hF dX1_begin_45
      · replace hF := nif_some hc1 hF
        refine r_aload_n Z dX1_begin_32 rfl (lv_at hl 0 rfl) ?_
        refine g_1_0 Z ho wm_108 dX1_begin_33 ?_
        refine r_iload_n Z dX1_begin_36 rfl (lv_at hl 1 rfl) ?_
        refine r_iconst (v := 0) Z dX1_begin_37 (by decide) ?_
        obtain ⟨hi2, hF⟩ := ck_some hF
        obtain ⟨M3, eM3, hF⟩ := nm_some hF
        refine r_iastore Z (shp_lt (sh_1_0 ho) (by decide)) (fun _ _ => ce_104 (sh_1_0 ho)) hi2 dX1_begin_38 ?_
        rw [← eM3]
        obtain ⟨t4, et4, hF⟩ := nm_some hF
        refine r_iinc (j := 1) Z t4 [(2, .int t4), (0, .ref (ad o))] dX1_begin_39 hl rfl (by rw [et4]; rfl) (by decide) rfl (fun ls hl => ?_)
        refine r_goto Z 27 dX1_begin_42 (by decide) ?_
        exact ih27 t4 M3 ls (lv_sub hl [1, 0] rfl) hF
  unfold f_X1_begin at hF
  refine r_aload_n Z dX1_begin_0 rfl (lv_at hl 0 rfl) ?_
  refine r_iload_n Z dX1_begin_1 rfl (lv_at hl 1 rfl) ?_
  obtain ⟨M5, eM5, hF⟩ := nm_some hF
  refine p_1_1 Z ho wm_109 dX1_begin_2 ?_
  rw [← eM5]
  refine r_aload_n Z dX1_begin_5 rfl (lv_at hl 0 rfl) ?_
  refine r_iconst (v := 1) Z dX1_begin_6 (by decide) ?_
  obtain ⟨M6, eM6, hF⟩ := nm_some hF
  refine p_1_2 Z ho wm_110 dX1_begin_7 ?_
  rw [← eM6]
  refine r_aload_n Z dX1_begin_10 rfl (lv_at hl 0 rfl) ?_
  refine r_iconst (v := 1) Z dX1_begin_11 (by decide) ?_
  obtain ⟨M7, eM7, hF⟩ := nm_some hF
  refine p_1_3 Z ho wm_111 dX1_begin_12 ?_
  rw [← eM7]
  refine r_aload_n Z dX1_begin_15 rfl (lv_at hl 0 rfl) ?_
  refine r_iconst (v := 1) Z dX1_begin_16 (by decide) ?_
  obtain ⟨M8, eM8, hF⟩ := nm_some hF
  refine p_1_4 Z ho wm_112 dX1_begin_17 ?_
  rw [← eM8]
  refine r_aload_n Z dX1_begin_20 rfl (lv_at hl 0 rfl) ?_
  refine r_iconst (v := 0) Z dX1_begin_21 (by decide) ?_
  obtain ⟨M9, eM9, hF⟩ := nm_some hF
  refine p_1_5 Z ho wm_113 dX1_begin_22 ?_
  rw [← eM9]
  refine r_iconst (v := 0) Z dX1_begin_25 (by decide) ?_
  refine r_istore_n Z [(2, .int 0), (0, .ref (ad o)), (1, .int x1)] dX1_begin_26 rfl hl (by decide) rfl (fun ls hl => ?_)
  exact L27 _ 0 M9 ls (lv_sub hl [1, 0] rfl) hF
theorem dX1_daysOf_0 : decode cX1_daysOf 0 = .ok (.aload_n 0, 1) := by decide +kernel
theorem dX1_daysOf_1 : decode cX1_daysOf 1 = .ok (.getfield 19, 3) := by decide +kernel
theorem dX1_daysOf_4 : decode cX1_daysOf 4 = .ok (.ifCond .le 13, 3) := by decide +kernel
theorem dX1_daysOf_7 : decode cX1_daysOf 7 = .ok (.bipush 12, 2) := by decide +kernel
theorem dX1_daysOf_9 : decode cX1_daysOf 9 = .ok (.aload_n 0, 1) := by decide +kernel
theorem dX1_daysOf_10 : decode cX1_daysOf 10 = .ok (.getfield 19, 3) := by decide +kernel
theorem dX1_daysOf_13 : decode cX1_daysOf 13 = .ok (.idiv, 1) := by decide +kernel
theorem dX1_daysOf_14 : decode cX1_daysOf 14 = .ok (.goto 4, 3) := by decide +kernel
theorem dX1_daysOf_17 : decode cX1_daysOf 17 = .ok (.iconst 0, 1) := by decide +kernel
theorem dX1_daysOf_18 : decode cX1_daysOf 18 = .ok (.ireturn, 1) := by decide +kernel
theorem cv_X1_daysOf : wn_cV yX1_daysOf cX1_daysOf 1 (some .int) RX1 0 := ⟨wm_123, wm_126, wm_127, wm_122, by decide +kernel⟩
abbrev rm_X1_daysOf : Room := rmz 0 0
set_option maxHeartbeats 4000000 in
set_option maxRecDepth 100000 in
theorem c_X1_daysOf {ad : Nat → Nat} {o : Nat} {M : Mm} {q : Int32 × Mm} (ho : shp o = 1) (hF : f_X1_daysOf o M = some q) : KI ad yX1_daysOf cX1_daysOf 1 (some .int) rm_X1_daysOf [.ref (ad o)] M q.1 q.2 := by
  refine wn_enterI (own := RX1) (by decide) rfl (Nat.le_of_ble_eq_true rfl) (fun X ls Z hQ hl => ?_)
  have hl : lv_has ls 1 [(0, .ref (ad o))] := hl
  unfold f_X1_daysOf at hF
  refine r_aload_n Z dX1_daysOf_0 rfl (lv_at hl 0 rfl) ?_
  refine g_1_2 Z ho wm_110 dX1_daysOf_1 ?_
  refine r_if_le Z 17 dX1_daysOf_4 (by decide) (fun hc1 => ?_) (fun hc1 => ?_)
  · replace hF := if_some hc1 hF
    refine r_iconst (v := 0) Z dX1_daysOf_17 (by decide) ?_
    exact r_iret Z hQ hF dX1_daysOf_18
  · replace hF := nif_some hc1 hF
    refine r_bipush (v := 12) Z dX1_daysOf_7 (by decide) ?_
    refine r_aload_n Z dX1_daysOf_9 rfl (lv_at hl 0 rfl) ?_
    refine g_1_2 Z ho wm_110 dX1_daysOf_10 ?_
    obtain ⟨hd2, hF⟩ := dvI_some hF
    refine r_idiv Z dX1_daysOf_13 hd2 ?_
    refine r_goto Z 18 dX1_daysOf_14 (by decide) ?_
    exact r_iret Z hQ hF dX1_daysOf_18
theorem dX1_leaving_0 : decode cX1_leaving 0 = .ok (.iconst 4, 1) := by decide +kernel
theorem dX1_leaving_1 : decode cX1_leaving 1 = .ok (.istore_n 1, 1) := by decide +kernel
theorem dX1_leaving_2 : decode cX1_leaving 2 = .ok (.iconst 0, 1) := by decide +kernel
theorem dX1_leaving_3 : decode cX1_leaving 3 = .ok (.istore_n 2, 1) := by decide +kernel
theorem dX1_leaving_4 : decode cX1_leaving 4 = .ok (.iload_n 2, 1) := by decide +kernel
theorem dX1_leaving_5 : decode cX1_leaving 5 = .ok (.iconst 4, 1) := by decide +kernel
theorem dX1_leaving_6 : decode cX1_leaving 6 = .ok (.if_icmp .ge 18, 3) := by decide +kernel
theorem dX1_leaving_9 : decode cX1_leaving 9 = .ok (.iload_n 1, 1) := by decide +kernel
theorem dX1_leaving_10 : decode cX1_leaving 10 = .ok (.aload_n 0, 1) := by decide +kernel
theorem dX1_leaving_11 : decode cX1_leaving 11 = .ok (.getfield 9, 3) := by decide +kernel
theorem dX1_leaving_14 : decode cX1_leaving 14 = .ok (.iload_n 2, 1) := by decide +kernel
theorem dX1_leaving_15 : decode cX1_leaving 15 = .ok (.iaload, 1) := by decide +kernel
theorem dX1_leaving_16 : decode cX1_leaving 16 = .ok (.isub, 1) := by decide +kernel
theorem dX1_leaving_17 : decode cX1_leaving 17 = .ok (.istore_n 1, 1) := by decide +kernel
theorem dX1_leaving_18 : decode cX1_leaving 18 = .ok (.iinc 2 1, 3) := by decide +kernel
theorem dX1_leaving_21 : decode cX1_leaving 21 = .ok (.goto (-17), 3) := by decide +kernel
theorem dX1_leaving_24 : decode cX1_leaving 24 = .ok (.iload_n 1, 1) := by decide +kernel
theorem dX1_leaving_25 : decode cX1_leaving 25 = .ok (.ireturn, 1) := by decide +kernel
theorem cv_X1_leaving : wn_cV yX1_leaving cX1_leaving 3 (some .int) RX1 0 := ⟨wm_117, wm_120, wm_121, wm_122, by decide +kernel⟩
abbrev rm_X1_leaving : Room := rmz 0 0
set_option maxHeartbeats 4000000 in
set_option maxRecDepth 100000 in
theorem c_X1_leaving {ad : Nat → Nat} {o : Nat} {M : Mm} {q : Int32 × Mm} (ho : shp o = 1) (hF : f_X1_leaving o M = some q) : KI ad yX1_leaving cX1_leaving 3 (some .int) rm_X1_leaving [.ref (ad o)] M q.1 q.2 := by
  refine wn_enterI (own := RX1) (by decide) rfl (Nat.le_of_ble_eq_true rfl) (fun X ls Z hQ hl => ?_)
  have hl : lv_has ls 3 [(0, .ref (ad o))] := hl
  have L4 : ∀ (n4 : Nat) (v1 : Int32) (v2 : Int32) (M : Mm) (ls : Array Slot), lv_has ls 3 [(0, .ref (ad o)), (1, .int v1), (2, .int v2)] → f_X1_leaving_b4 o n4 v1 v2 M = some q → G ad X M 4 ls [] := by
    intro n4
    induction n4 with
    | zero =>
      intro v1 v2 M ls hl hF
      cases hF
    | succ n4 ih4 =>
      intro v1 v2 M ls hl hF
      replace hF : f_X1_leaving_b4B (f_X1_leaving_b4 o n4) o v1 v2 M = some q := hF
      unfold f_X1_leaving_b4B at hF
      refine r_iload_n Z dX1_leaving_4 rfl (lv_at hl 2 rfl) ?_
      refine r_iconst (v := 4) Z dX1_leaving_5 (by decide) ?_
      refine r_icmp_ge Z 24 dX1_leaving_6 (by decide) (fun hc1 => ?_) (fun hc1 => ?_)
      · replace hF := if_some hc1 hF
        refine r_iload_n Z dX1_leaving_24 rfl (lv_at hl 1 rfl) ?_
        exact r_iret Z hQ hF dX1_leaving_25
      · replace hF := nif_some hc1 hF
        refine r_iload_n Z dX1_leaving_9 rfl (lv_at hl 1 rfl) ?_
        refine r_aload_n Z dX1_leaving_10 rfl (lv_at hl 0 rfl) ?_
        refine g_1_0 Z ho wm_108 dX1_leaving_11 ?_
        refine r_iload_n Z dX1_leaving_14 rfl (lv_at hl 2 rfl) ?_
        obtain ⟨hi2, hF⟩ := ck_some hF
        refine r_iaload Z (shp_lt (sh_1_0 ho) (by decide)) (fun _ _ => ce_104 (sh_1_0 ho)) hi2 dX1_leaving_15 ?_
        refine r_isub Z dX1_leaving_16 ?_
        obtain ⟨t3, et3, hF⟩ := nm_some hF
        rw [← et3]
        refine r_istore_n Z [(1, .int t3), (0, .ref (ad o)), (2, .int v2)] dX1_leaving_17 rfl hl (by decide) rfl (fun ls hl => ?_)
        obtain ⟨t4, et4, hF⟩ := nm_some hF
        refine r_iinc (j := 2) Z t4 [(2, .int t4), (1, .int t3), (0, .ref (ad o))] dX1_leaving_18 hl rfl (by rw [et4]; rfl) (by decide) rfl (fun ls hl => ?_)
        refine r_goto Z 4 dX1_leaving_21 (by decide) ?_
        exact ih4 t3 t4 M ls (lv_sub hl [2, 1, 0] rfl) hF
  unfold f_X1_leaving at hF
  refine r_iconst (v := 4) Z dX1_leaving_0 (by decide) ?_
  refine r_istore_n Z [(1, .int 4), (0, .ref (ad o))] dX1_leaving_1 rfl hl (by decide) rfl (fun ls hl => ?_)
  refine r_iconst (v := 0) Z dX1_leaving_2 (by decide) ?_
  refine r_istore_n Z [(2, .int 0), (1, .int 4), (0, .ref (ad o))] dX1_leaving_3 rfl hl (by decide) rfl (fun ls hl => ?_)
  exact L4 _ 4 0 M ls (lv_sub hl [2, 1, 0] rfl) hF
theorem dX1_fact_0 : decode cX1_fact 0 = .ok (.iload_n 1, 1) := by decide +kernel
theorem dX1_fact_1 : decode cX1_fact 1 = .ok (.tableswitch 51 0 3 #[31, 36, 41, 46], 31) := by decide +kernel
theorem dX1_fact_32 : decode cX1_fact 32 = .ok (.aload_n 0, 1) := by decide +kernel
theorem dX1_fact_33 : decode cX1_fact 33 = .ok (.getfield 15, 3) := by decide +kernel
theorem dX1_fact_36 : decode cX1_fact 36 = .ok (.ireturn, 1) := by decide +kernel
theorem dX1_fact_37 : decode cX1_fact 37 = .ok (.aload_n 0, 1) := by decide +kernel
theorem dX1_fact_38 : decode cX1_fact 38 = .ok (.getfield 19, 3) := by decide +kernel
theorem dX1_fact_41 : decode cX1_fact 41 = .ok (.ireturn, 1) := by decide +kernel
theorem dX1_fact_42 : decode cX1_fact 42 = .ok (.aload_n 0, 1) := by decide +kernel
theorem dX1_fact_43 : decode cX1_fact 43 = .ok (.getfield 22, 3) := by decide +kernel
theorem dX1_fact_46 : decode cX1_fact 46 = .ok (.ireturn, 1) := by decide +kernel
theorem dX1_fact_47 : decode cX1_fact 47 = .ok (.aload_n 0, 1) := by decide +kernel
theorem dX1_fact_48 : decode cX1_fact 48 = .ok (.getfield 28, 3) := by decide +kernel
theorem dX1_fact_51 : decode cX1_fact 51 = .ok (.ireturn, 1) := by decide +kernel
theorem dX1_fact_52 : decode cX1_fact 52 = .ok (.aload_n 0, 1) := by decide +kernel
theorem dX1_fact_53 : decode cX1_fact 53 = .ok (.invokevirtual 31, 3) := by decide +kernel
theorem dX1_fact_56 : decode cX1_fact 56 = .ok (.ireturn, 1) := by decide +kernel
theorem cv_X1_fact : wn_cV yX1_fact cX1_fact 2 (some .int) RX1 1 := ⟨wm_118, wm_136, wm_137, wm_122, by decide +kernel⟩
abbrev rm_X1_fact : Room := rmz 1 22
set_option maxHeartbeats 4000000 in
set_option maxRecDepth 100000 in
theorem c_X1_fact {ad : Nat → Nat} {o : Nat} {x1 : Int32} {M : Mm} {q : Int32 × Mm} (ho : shp o = 1) (hF : f_X1_fact o x1 M = some q) : KI ad yX1_fact cX1_fact 2 (some .int) rm_X1_fact [.ref (ad o), .int x1] M q.1 q.2 := by
  refine wn_enterI (own := RX1) (by decide) rfl (Nat.le_of_ble_eq_true rfl) (fun X ls Z hQ hl => ?_)
  have hl : lv_has ls 2 [(0, .ref (ad o)), (1, .int x1)] := hl
  unfold f_X1_fact at hF
  refine r_iload_n Z dX1_fact_0 rfl (lv_at hl 1 rfl) ?_
  by_cases hs1 : x1 = 0
  · replace hF := if_some hs1 hF
    subst hs1
    refine r_tabIn Z 32 dX1_fact_1 (by decide) (by decide) rfl (by decide) ?_
    refine r_aload_n Z dX1_fact_32 rfl (lv_at hl 0 rfl) ?_
    refine g_1_1 Z ho wm_109 dX1_fact_33 ?_
    exact r_iret Z hQ hF dX1_fact_36
  replace hF := nif_some hs1 hF
  by_cases hs2 : x1 = 1
  · replace hF := if_some hs2 hF
    subst hs2
    refine r_tabIn Z 37 dX1_fact_1 (by decide) (by decide) rfl (by decide) ?_
    refine r_aload_n Z dX1_fact_37 rfl (lv_at hl 0 rfl) ?_
    refine g_1_2 Z ho wm_110 dX1_fact_38 ?_
    exact r_iret Z hQ hF dX1_fact_41
  replace hF := nif_some hs2 hF
  by_cases hs3 : x1 = 2
  · replace hF := if_some hs3 hF
    subst hs3
    refine r_tabIn Z 42 dX1_fact_1 (by decide) (by decide) rfl (by decide) ?_
    refine r_aload_n Z dX1_fact_42 rfl (lv_at hl 0 rfl) ?_
    refine g_1_3 Z ho wm_111 dX1_fact_43 ?_
    exact r_iret Z hQ hF dX1_fact_46
  replace hF := nif_some hs3 hF
  by_cases hs4 : x1 = 3
  · replace hF := if_some hs4 hF
    subst hs4
    refine r_tabIn Z 47 dX1_fact_1 (by decide) (by decide) rfl (by decide) ?_
    refine r_aload_n Z dX1_fact_47 rfl (lv_at hl 0 rfl) ?_
    refine g_1_5 Z ho wm_113 dX1_fact_48 ?_
    exact r_iret Z hQ hF dX1_fact_51
  replace hF := nif_some hs4 hF
  refine r_tabOut Z 52 dX1_fact_1 (wn_out0_3 hs1 hs2 hs3 hs4) (by decide) ?_
  refine r_aload_n Z dX1_fact_52 rfl (lv_at hl 0 rfl) ?_
  obtain ⟨q5, hq5, hF⟩ := bd_some hF
  refine r_invVi [] Z (c_X1_leaving ho hq5) cv_X1_leaving rfl (shp_lt ho (by decide)) (fun _ _ => ⟨_, ce_1 ho⟩) wm_119 rfl rfl ⟨Nat.le_of_ble_eq_true rfl, Nat.le_of_ble_eq_true rfl⟩ rfl hl.1 rfl (Nat.le_of_ble_eq_true rfl) dX1_fact_53 ?_
  exact r_iret Z hQ hF dX1_fact_56
theorem dX1_isOf_0 : decode cX1_isOf 0 = .ok (.aload_n 0, 1) := by decide +kernel
theorem dX1_isOf_1 : decode cX1_isOf 1 = .ok (.getfield 15, 3) := by decide +kernel
theorem dX1_isOf_4 : decode cX1_isOf 4 = .ok (.iload_n 1, 1) := by decide +kernel
theorem dX1_isOf_5 : decode cX1_isOf 5 = .ok (.if_icmp .eq 24, 3) := by decide +kernel
theorem dX1_isOf_8 : decode cX1_isOf 8 = .ok (.iload_n 1, 1) := by decide +kernel
theorem dX1_isOf_9 : decode cX1_isOf 9 = .ok (.iconst 1, 1) := by decide +kernel
theorem dX1_isOf_10 : decode cX1_isOf 10 = .ok (.if_icmp .ne 23, 3) := by decide +kernel
theorem dX1_isOf_13 : decode cX1_isOf 13 = .ok (.aload_n 0, 1) := by decide +kernel
theorem dX1_isOf_14 : decode cX1_isOf 14 = .ok (.getfield 15, 3) := by decide +kernel
theorem dX1_isOf_17 : decode cX1_isOf 17 = .ok (.iconst 2, 1) := by decide +kernel
theorem dX1_isOf_18 : decode cX1_isOf 18 = .ok (.if_icmp .eq 11, 3) := by decide +kernel
theorem dX1_isOf_21 : decode cX1_isOf 21 = .ok (.aload_n 0, 1) := by decide +kernel
theorem dX1_isOf_22 : decode cX1_isOf 22 = .ok (.getfield 15, 3) := by decide +kernel
theorem dX1_isOf_25 : decode cX1_isOf 25 = .ok (.iconst 3, 1) := by decide +kernel
theorem dX1_isOf_26 : decode cX1_isOf 26 = .ok (.if_icmp .ne 7, 3) := by decide +kernel
theorem dX1_isOf_29 : decode cX1_isOf 29 = .ok (.iconst 1, 1) := by decide +kernel
theorem dX1_isOf_30 : decode cX1_isOf 30 = .ok (.goto 4, 3) := by decide +kernel
theorem dX1_isOf_33 : decode cX1_isOf 33 = .ok (.iconst 0, 1) := by decide +kernel
theorem dX1_isOf_34 : decode cX1_isOf 34 = .ok (.ireturn, 1) := by decide +kernel
theorem cv_X1_isOf : wn_cV yX1_isOf cX1_isOf 2 (some .boolean) RX1 1 := ⟨wm_116, wm_436, wm_437, wm_122, by decide +kernel⟩
abbrev rm_X1_isOf : Room := rmz 0 0
set_option maxHeartbeats 4000000 in
set_option maxRecDepth 100000 in
theorem c_X1_isOf {ad : Nat → Nat} {o : Nat} {x1 : Int32} {M : Mm} {q : Int32 × Mm} (ho : shp o = 1) (hF : f_X1_isOf o x1 M = some q) : KI ad yX1_isOf cX1_isOf 2 (some .boolean) rm_X1_isOf [.ref (ad o), .int x1] M q.1 q.2 := by
  refine wn_enterI (own := RX1) (by decide) rfl (Nat.le_of_ble_eq_true rfl) (fun X ls Z hQ hl => ?_)
  have hl : lv_has ls 2 [(0, .ref (ad o)), (1, .int x1)] := hl
  have L29 : ∀ (M : Mm) (ls : Array Slot), lv_has ls 2 [] → f_X1_isOf_b29 o M = some q → G ad X M 29 ls [] := by
    intro M ls hl hF
    unfold f_X1_isOf_b29 at hF
    refine r_iconst (v := 1) Z dX1_isOf_29 (by decide) ?_
    refine r_goto Z 34 dX1_isOf_30 (by decide) ?_
    exact r_zret Z hQ (by decide) hF dX1_isOf_34
  unfold f_X1_isOf at hF
  refine r_aload_n Z dX1_isOf_0 rfl (lv_at hl 0 rfl) ?_
  refine g_1_1 Z ho wm_109 dX1_isOf_1 ?_
  refine r_iload_n Z dX1_isOf_4 rfl (lv_at hl 1 rfl) ?_
  refine r_icmp_eq Z 29 dX1_isOf_5 (by decide) (fun hc1 => ?_) (fun hc1 => ?_)
  · replace hF := if_some hc1 hF
    exact L29 M ls (lv_sub hl [] rfl) hF
  · replace hF := nif_some hc1 hF
    refine r_iload_n Z dX1_isOf_8 rfl (lv_at hl 1 rfl) ?_
    refine r_iconst (v := 1) Z dX1_isOf_9 (by decide) ?_
    refine r_icmp_ne Z 33 dX1_isOf_10 (by decide) (fun hc2 => ?_) (fun hc2 => ?_)
    · replace hF := nif_some hc2 hF
      refine r_iconst (v := 0) Z dX1_isOf_33 (by decide) ?_
      exact r_zret Z hQ (by decide) hF dX1_isOf_34
    · replace hF := if_some hc2 hF
      refine r_aload_n Z dX1_isOf_13 rfl (lv_at hl 0 rfl) ?_
      refine g_1_1 Z ho wm_109 dX1_isOf_14 ?_
      refine r_iconst (v := 2) Z dX1_isOf_17 (by decide) ?_
      refine r_icmp_eq Z 29 dX1_isOf_18 (by decide) (fun hc3 => ?_) (fun hc3 => ?_)
      · replace hF := if_some hc3 hF
        exact L29 M ls (lv_sub hl [] rfl) hF
      · replace hF := nif_some hc3 hF
        refine r_aload_n Z dX1_isOf_21 rfl (lv_at hl 0 rfl) ?_
        refine g_1_1 Z ho wm_109 dX1_isOf_22 ?_
        refine r_iconst (v := 3) Z dX1_isOf_25 (by decide) ?_
        refine r_icmp_ne Z 33 dX1_isOf_26 (by decide) (fun hc4 => ?_) (fun hc4 => ?_)
        · replace hF := nif_some hc4 hF
          refine r_iconst (v := 0) Z dX1_isOf_33 (by decide) ?_
          exact r_zret Z hQ (by decide) hF dX1_isOf_34
        · replace hF := if_some hc4 hF
          exact L29 M ls (lv_sub hl [] rfl) hF
theorem dX1_isThere_0 : decode cX1_isThere 0 = .ok (.aload_n 0, 1) := by decide +kernel
theorem dX1_isThere_1 : decode cX1_isThere 1 = .ok (.getfield 15, 3) := by decide +kernel
theorem dX1_isThere_4 : decode cX1_isThere 4 = .ok (.iconst (-1), 1) := by decide +kernel
theorem dX1_isThere_5 : decode cX1_isThere 5 = .ok (.if_icmp .eq 7, 3) := by decide +kernel
theorem dX1_isThere_8 : decode cX1_isThere 8 = .ok (.iconst 1, 1) := by decide +kernel
theorem dX1_isThere_9 : decode cX1_isThere 9 = .ok (.goto 4, 3) := by decide +kernel
theorem dX1_isThere_12 : decode cX1_isThere 12 = .ok (.iconst 0, 1) := by decide +kernel
theorem dX1_isThere_13 : decode cX1_isThere 13 = .ok (.ireturn, 1) := by decide +kernel
theorem cv_X1_isThere : wn_cV yX1_isThere cX1_isThere 1 (some .boolean) RX1 0 := ⟨wm_115, wm_133, wm_134, wm_122, by decide +kernel⟩
abbrev rm_X1_isThere : Room := rmz 0 0
set_option maxHeartbeats 4000000 in
set_option maxRecDepth 100000 in
theorem c_X1_isThere {ad : Nat → Nat} {o : Nat} {M : Mm} {q : Int32 × Mm} (ho : shp o = 1) (hF : f_X1_isThere o M = some q) : KI ad yX1_isThere cX1_isThere 1 (some .boolean) rm_X1_isThere [.ref (ad o)] M q.1 q.2 := by
  refine wn_enterI (own := RX1) (by decide) rfl (Nat.le_of_ble_eq_true rfl) (fun X ls Z hQ hl => ?_)
  have hl : lv_has ls 1 [(0, .ref (ad o))] := hl
  unfold f_X1_isThere at hF
  refine r_aload_n Z dX1_isThere_0 rfl (lv_at hl 0 rfl) ?_
  refine g_1_1 Z ho wm_109 dX1_isThere_1 ?_
  refine r_iconst (v := (-1)) Z dX1_isThere_4 (by decide) ?_
  refine r_icmp_eq Z 12 dX1_isThere_5 (by decide) (fun hc1 => ?_) (fun hc1 => ?_)
  · replace hF := if_some hc1 hF
    refine r_iconst (v := 0) Z dX1_isThere_12 (by decide) ?_
    exact r_zret Z hQ (by decide) hF dX1_isThere_13
  · replace hF := nif_some hc1 hF
    refine r_iconst (v := 1) Z dX1_isThere_8 (by decide) ?_
    refine r_goto Z 13 dX1_isThere_9 (by decide) ?_
    exact r_zret Z hQ (by decide) hF dX1_isThere_13
theorem dX1_markOf_0 : decode cX1_markOf 0 = .ok (.iload_n 1, 1) := by decide +kernel
theorem dX1_markOf_1 : decode cX1_markOf 1 = .ok (.tableswitch 44 3 5 #[27, 32, 39], 27) := by decide +kernel
theorem dX1_markOf_28 : decode cX1_markOf 28 = .ok (.aload_n 0, 1) := by decide +kernel
theorem dX1_markOf_29 : decode cX1_markOf 29 = .ok (.invokevirtual 35, 3) := by decide +kernel
theorem dX1_markOf_32 : decode cX1_markOf 32 = .ok (.ireturn, 1) := by decide +kernel
theorem dX1_markOf_33 : decode cX1_markOf 33 = .ok (.aload_n 0, 1) := by decide +kernel
theorem dX1_markOf_34 : decode cX1_markOf 34 = .ok (.getfield 19, 3) := by decide +kernel
theorem dX1_markOf_37 : decode cX1_markOf 37 = .ok (.iconst 1, 1) := by decide +kernel
theorem dX1_markOf_38 : decode cX1_markOf 38 = .ok (.isub, 1) := by decide +kernel
theorem dX1_markOf_39 : decode cX1_markOf 39 = .ok (.ireturn, 1) := by decide +kernel
theorem dX1_markOf_40 : decode cX1_markOf 40 = .ok (.aload_n 0, 1) := by decide +kernel
theorem dX1_markOf_41 : decode cX1_markOf 41 = .ok (.getfield 25, 3) := by decide +kernel
theorem dX1_markOf_44 : decode cX1_markOf 44 = .ok (.ireturn, 1) := by decide +kernel
theorem dX1_markOf_45 : decode cX1_markOf 45 = .ok (.aload_n 0, 1) := by decide +kernel
theorem dX1_markOf_46 : decode cX1_markOf 46 = .ok (.getfield 19, 3) := by decide +kernel
theorem dX1_markOf_49 : decode cX1_markOf 49 = .ok (.ireturn, 1) := by decide +kernel
theorem cv_X1_markOf : wn_cV yX1_markOf cX1_markOf 2 (some .int) RX1 1 := ⟨wm_124, wm_440, wm_441, wm_122, by decide +kernel⟩
abbrev rm_X1_markOf : Room := rmz 1 20
set_option maxHeartbeats 4000000 in
set_option maxRecDepth 100000 in
theorem c_X1_markOf {ad : Nat → Nat} {o : Nat} {x1 : Int32} {M : Mm} {q : Int32 × Mm} (ho : shp o = 1) (hF : f_X1_markOf o x1 M = some q) : KI ad yX1_markOf cX1_markOf 2 (some .int) rm_X1_markOf [.ref (ad o), .int x1] M q.1 q.2 := by
  refine wn_enterI (own := RX1) (by decide) rfl (Nat.le_of_ble_eq_true rfl) (fun X ls Z hQ hl => ?_)
  have hl : lv_has ls 2 [(0, .ref (ad o)), (1, .int x1)] := hl
  unfold f_X1_markOf at hF
  refine r_iload_n Z dX1_markOf_0 rfl (lv_at hl 1 rfl) ?_
  by_cases hs1 : x1 = 3
  · replace hF := if_some hs1 hF
    subst hs1
    refine r_tabIn Z 28 dX1_markOf_1 (by decide) (by decide) rfl (by decide) ?_
    refine r_aload_n Z dX1_markOf_28 rfl (lv_at hl 0 rfl) ?_
    obtain ⟨q2, hq2, hF⟩ := bd_some hF
    refine r_invVi [] Z (c_X1_daysOf ho hq2) cv_X1_daysOf rfl (shp_lt ho (by decide)) (fun _ _ => ⟨_, ce_1 ho⟩) wm_125 rfl rfl ⟨Nat.le_of_ble_eq_true rfl, Nat.le_of_ble_eq_true rfl⟩ rfl hl.1 rfl (Nat.le_of_ble_eq_true rfl) dX1_markOf_29 ?_
    exact r_iret Z hQ hF dX1_markOf_32
  replace hF := nif_some hs1 hF
  by_cases hs3 : x1 = 4
  · replace hF := if_some hs3 hF
    subst hs3
    refine r_tabIn Z 33 dX1_markOf_1 (by decide) (by decide) rfl (by decide) ?_
    refine r_aload_n Z dX1_markOf_33 rfl (lv_at hl 0 rfl) ?_
    refine g_1_2 Z ho wm_110 dX1_markOf_34 ?_
    refine r_iconst (v := 1) Z dX1_markOf_37 (by decide) ?_
    refine r_isub Z dX1_markOf_38 ?_
    exact r_iret Z hQ hF dX1_markOf_39
  replace hF := nif_some hs3 hF
  by_cases hs4 : x1 = 5
  · replace hF := if_some hs4 hF
    subst hs4
    refine r_tabIn Z 40 dX1_markOf_1 (by decide) (by decide) rfl (by decide) ?_
    refine r_aload_n Z dX1_markOf_40 rfl (lv_at hl 0 rfl) ?_
    refine g_1_4 Z ho wm_112 dX1_markOf_41 ?_
    exact r_iret Z hQ hF dX1_markOf_44
  replace hF := nif_some hs4 hF
  refine r_tabOut Z 45 dX1_markOf_1 (wn_out3_5 hs1 hs3 hs4) (by decide) ?_
  refine r_aload_n Z dX1_markOf_45 rfl (lv_at hl 0 rfl) ?_
  refine g_1_2 Z ho wm_110 dX1_markOf_46 ?_
  exact r_iret Z hQ hF dX1_markOf_49
theorem dX1_mixInto_0 : decode cX1_mixInto 0 = .ok (.aload_n 0, 1) := by decide +kernel
theorem dX1_mixInto_1 : decode cX1_mixInto 1 = .ok (.invokevirtual 38, 3) := by decide +kernel
theorem dX1_mixInto_4 : decode cX1_mixInto 4 = .ok (.ifCond .ne 13, 3) := by decide +kernel
theorem dX1_mixInto_7 : decode cX1_mixInto 7 = .ok (.ldc2_w 42, 3) := by decide +kernel
theorem dX1_mixInto_10 : decode cX1_mixInto 10 = .ok (.lload_n 1, 1) := by decide +kernel
theorem dX1_mixInto_11 : decode cX1_mixInto 11 = .ok (.lmul, 1) := by decide +kernel
theorem dX1_mixInto_12 : decode cX1_mixInto 12 = .ok (.ldc2_w 44, 3) := by decide +kernel
theorem dX1_mixInto_15 : decode cX1_mixInto 15 = .ok (.ladd, 1) := by decide +kernel
theorem dX1_mixInto_16 : decode cX1_mixInto 16 = .ok (.lreturn, 1) := by decide +kernel
theorem dX1_mixInto_17 : decode cX1_mixInto 17 = .ok (.lload_n 1, 1) := by decide +kernel
theorem dX1_mixInto_18 : decode cX1_mixInto 18 = .ok (.lstore_n 3, 1) := by decide +kernel
theorem dX1_mixInto_19 : decode cX1_mixInto 19 = .ok (.iconst 0, 1) := by decide +kernel
theorem dX1_mixInto_20 : decode cX1_mixInto 20 = .ok (.istore 5, 2) := by decide +kernel
theorem dX1_mixInto_22 : decode cX1_mixInto 22 = .ok (.iload 5, 2) := by decide +kernel
theorem dX1_mixInto_24 : decode cX1_mixInto 24 = .ok (.iconst 4, 1) := by decide +kernel
theorem dX1_mixInto_25 : decode cX1_mixInto 25 = .ok (.if_icmp .gt 23, 3) := by decide +kernel
theorem dX1_mixInto_28 : decode cX1_mixInto 28 = .ok (.ldc2_w 42, 3) := by decide +kernel
theorem dX1_mixInto_31 : decode cX1_mixInto 31 = .ok (.lload_n 3, 1) := by decide +kernel
theorem dX1_mixInto_32 : decode cX1_mixInto 32 = .ok (.lmul, 1) := by decide +kernel
theorem dX1_mixInto_33 : decode cX1_mixInto 33 = .ok (.aload_n 0, 1) := by decide +kernel
theorem dX1_mixInto_34 : decode cX1_mixInto 34 = .ok (.iload 5, 2) := by decide +kernel
theorem dX1_mixInto_36 : decode cX1_mixInto 36 = .ok (.invokevirtual 46, 3) := by decide +kernel
theorem dX1_mixInto_39 : decode cX1_mixInto 39 = .ok (.i2l, 1) := by decide +kernel
theorem dX1_mixInto_40 : decode cX1_mixInto 40 = .ok (.ladd, 1) := by decide +kernel
theorem dX1_mixInto_41 : decode cX1_mixInto 41 = .ok (.lstore_n 3, 1) := by decide +kernel
theorem dX1_mixInto_42 : decode cX1_mixInto 42 = .ok (.iinc 5 1, 3) := by decide +kernel
theorem dX1_mixInto_45 : decode cX1_mixInto 45 = .ok (.goto (-23), 3) := by decide +kernel
theorem dX1_mixInto_48 : decode cX1_mixInto 48 = .ok (.aload_n 0, 1) := by decide +kernel
theorem dX1_mixInto_49 : decode cX1_mixInto 49 = .ok (.getfield 15, 3) := by decide +kernel
theorem dX1_mixInto_52 : decode cX1_mixInto 52 = .ok (.iconst 5, 1) := by decide +kernel
theorem dX1_mixInto_53 : decode cX1_mixInto 53 = .ok (.if_icmp .ne 15, 3) := by decide +kernel
theorem dX1_mixInto_56 : decode cX1_mixInto 56 = .ok (.ldc2_w 42, 3) := by decide +kernel
theorem dX1_mixInto_59 : decode cX1_mixInto 59 = .ok (.lload_n 3, 1) := by decide +kernel
theorem dX1_mixInto_60 : decode cX1_mixInto 60 = .ok (.lmul, 1) := by decide +kernel
theorem dX1_mixInto_61 : decode cX1_mixInto 61 = .ok (.aload_n 0, 1) := by decide +kernel
theorem dX1_mixInto_62 : decode cX1_mixInto 62 = .ok (.getfield 25, 3) := by decide +kernel
theorem dX1_mixInto_65 : decode cX1_mixInto 65 = .ok (.i2l, 1) := by decide +kernel
theorem dX1_mixInto_66 : decode cX1_mixInto 66 = .ok (.ladd, 1) := by decide +kernel
theorem dX1_mixInto_67 : decode cX1_mixInto 67 = .ok (.lstore_n 3, 1) := by decide +kernel
theorem dX1_mixInto_68 : decode cX1_mixInto 68 = .ok (.iconst 0, 1) := by decide +kernel
theorem dX1_mixInto_69 : decode cX1_mixInto 69 = .ok (.istore 5, 2) := by decide +kernel
theorem dX1_mixInto_71 : decode cX1_mixInto 71 = .ok (.iload 5, 2) := by decide +kernel
theorem dX1_mixInto_73 : decode cX1_mixInto 73 = .ok (.iconst 4, 1) := by decide +kernel
theorem dX1_mixInto_74 : decode cX1_mixInto 74 = .ok (.if_icmp .ge 24, 3) := by decide +kernel
theorem dX1_mixInto_77 : decode cX1_mixInto 77 = .ok (.ldc2_w 42, 3) := by decide +kernel
theorem dX1_mixInto_80 : decode cX1_mixInto 80 = .ok (.lload_n 3, 1) := by decide +kernel
theorem dX1_mixInto_81 : decode cX1_mixInto 81 = .ok (.lmul, 1) := by decide +kernel
theorem dX1_mixInto_82 : decode cX1_mixInto 82 = .ok (.aload_n 0, 1) := by decide +kernel
theorem dX1_mixInto_83 : decode cX1_mixInto 83 = .ok (.getfield 9, 3) := by decide +kernel
theorem dX1_mixInto_86 : decode cX1_mixInto 86 = .ok (.iload 5, 2) := by decide +kernel
theorem dX1_mixInto_88 : decode cX1_mixInto 88 = .ok (.iaload, 1) := by decide +kernel
theorem dX1_mixInto_89 : decode cX1_mixInto 89 = .ok (.i2l, 1) := by decide +kernel
theorem dX1_mixInto_90 : decode cX1_mixInto 90 = .ok (.ladd, 1) := by decide +kernel
theorem dX1_mixInto_91 : decode cX1_mixInto 91 = .ok (.lstore_n 3, 1) := by decide +kernel
theorem dX1_mixInto_92 : decode cX1_mixInto 92 = .ok (.iinc 5 1, 3) := by decide +kernel
theorem dX1_mixInto_95 : decode cX1_mixInto 95 = .ok (.goto (-24), 3) := by decide +kernel
theorem dX1_mixInto_98 : decode cX1_mixInto 98 = .ok (.lload_n 3, 1) := by decide +kernel
theorem dX1_mixInto_99 : decode cX1_mixInto 99 = .ok (.lreturn, 1) := by decide +kernel
theorem cv_X1_mixInto : wn_cV yX1_mixInto cX1_mixInto 6 (some .long) RX1 1 := ⟨wm_129, wm_600, wm_601, wm_122, by decide +kernel⟩
abbrev rm_X1_mixInto : Room := rmz 2 43
set_option maxHeartbeats 4000000 in
set_option maxRecDepth 100000 in
theorem c_X1_mixInto {ad : Nat → Nat} {o : Nat} {x1 : Int64} {M : Mm} {q : Int64 × Mm} (ho : shp o = 1) (hF : f_X1_mixInto o x1 M = some q) : KL ad yX1_mixInto cX1_mixInto 6 (some .long) rm_X1_mixInto [.ref (ad o), .long x1] M q.1 q.2 := by
  refine wn_enterL (own := RX1) (by decide) rfl (Nat.le_of_ble_eq_true rfl) (fun X ls Z hQ hl => ?_)
  have hl : lv_has ls 6 [(0, .ref (ad o)), (1, .long x1)] := hl
  have L71 : ∀ (n71 : Nat) (v3 : Int64) (v5 : Int32) (M : Mm) (ls : Array Slot), lv_has ls 6 [(0, .ref (ad o)), (3, .long v3), (5, .int v5)] → f_X1_mixInto_b71 o n71 v3 v5 M = some q → G ad X M 71 ls [] := by
    intro n71
    induction n71 with
    | zero =>
      intro v3 v5 M ls hl hF
      cases hF
    | succ n71 ih71 =>
      intro v3 v5 M ls hl hF
      replace hF : f_X1_mixInto_b71B (f_X1_mixInto_b71 o n71) o v3 v5 M = some q := hF
      unfold f_X1_mixInto_b71B at hF
      refine r_iload Z dX1_mixInto_71 (lv_at hl 2 rfl) ?_
      refine r_iconst (v := 4) Z dX1_mixInto_73 (by decide) ?_
      refine r_icmp_ge Z 98 dX1_mixInto_74 (by decide) (fun hc1 => ?_) (fun hc1 => ?_)
      · replace hF := if_some hc1 hF
        refine r_lload_n Z dX1_mixInto_98 rfl (lv_at hl 1 rfl) ?_
        exact r_lret Z hQ hF dX1_mixInto_99
      · replace hF := nif_some hc1 hF
        refine r_ldc2 Z wm_130 dX1_mixInto_77 ?_
        refine r_lload_n Z dX1_mixInto_80 rfl (lv_at hl 1 rfl) ?_
        refine r_lmul Z dX1_mixInto_81 ?_
        refine r_aload_n Z dX1_mixInto_82 rfl (lv_at hl 0 rfl) ?_
        refine g_1_0 Z ho wm_108 dX1_mixInto_83 ?_
        refine r_iload Z dX1_mixInto_86 (lv_at hl 2 rfl) ?_
        obtain ⟨hi2, hF⟩ := ck_some hF
        refine r_iaload Z (shp_lt (sh_1_0 ho) (by decide)) (fun _ _ => ce_104 (sh_1_0 ho)) hi2 dX1_mixInto_88 ?_
        refine r_i2l Z dX1_mixInto_89 ?_
        refine r_ladd Z dX1_mixInto_90 ?_
        obtain ⟨t3, et3, hF⟩ := nm_some hF
        rw [← et3]
        refine r_lstore_n Z [(3, .long t3), (0, .ref (ad o)), (5, .int v5)] dX1_mixInto_91 rfl hl (by decide) rfl (fun ls hl => ?_)
        obtain ⟨t4, et4, hF⟩ := nm_some hF
        refine r_iinc (j := 2) Z t4 [(5, .int t4), (3, .long t3), (0, .ref (ad o))] dX1_mixInto_92 hl rfl (by rw [et4]; rfl) (by decide) rfl (fun ls hl => ?_)
        refine r_goto Z 71 dX1_mixInto_95 (by decide) ?_
        exact ih71 t3 t4 M ls (lv_sub hl [2, 1, 0] rfl) hF
  have L22 : ∀ (n22 : Nat) (v3 : Int64) (v5 : Int32) (M : Mm) (ls : Array Slot), lv_has ls 6 [(0, .ref (ad o)), (3, .long v3), (5, .int v5)] → f_X1_mixInto_b22 o n22 v3 v5 M = some q → G ad X M 22 ls [] := by
    intro n22
    induction n22 with
    | zero =>
      intro v3 v5 M ls hl hF
      cases hF
    | succ n22 ih22 =>
      intro v3 v5 M ls hl hF
      replace hF : f_X1_mixInto_b22B (f_X1_mixInto_b22 o n22) o v3 v5 M = some q := hF
      unfold f_X1_mixInto_b22B at hF
      refine r_iload Z dX1_mixInto_22 (lv_at hl 2 rfl) ?_
      refine r_iconst (v := 4) Z dX1_mixInto_24 (by decide) ?_
      refine r_icmp_gt Z 48 dX1_mixInto_25 (by decide) (fun hc5 => ?_) (fun hc5 => ?_)
      · replace hF := if_some hc5 hF
        refine r_aload_n Z dX1_mixInto_48 rfl (lv_at hl 0 rfl) ?_
        refine g_1_1 Z ho wm_109 dX1_mixInto_49 ?_
        refine r_iconst (v := 5) Z dX1_mixInto_52 (by decide) ?_
        refine r_icmp_ne Z 68 dX1_mixInto_53 (by decide) (fun hc6 => ?_) (fun hc6 => ?_)
        · replace hF := nif_some hc6 hF
          refine r_iconst (v := 0) Z dX1_mixInto_68 (by decide) ?_
          refine r_istore Z [(5, .int 0), (0, .ref (ad o)), (3, .long v3)] dX1_mixInto_69 hl (by decide) rfl (fun ls hl => ?_)
          exact L71 _ v3 0 M ls (lv_sub hl [1, 2, 0] rfl) hF
        · replace hF := if_some hc6 hF
          refine r_ldc2 Z wm_130 dX1_mixInto_56 ?_
          refine r_lload_n Z dX1_mixInto_59 rfl (lv_at hl 1 rfl) ?_
          refine r_lmul Z dX1_mixInto_60 ?_
          refine r_aload_n Z dX1_mixInto_61 rfl (lv_at hl 0 rfl) ?_
          refine g_1_4 Z ho wm_112 dX1_mixInto_62 ?_
          refine r_i2l Z dX1_mixInto_65 ?_
          refine r_ladd Z dX1_mixInto_66 ?_
          obtain ⟨t7, et7, hF⟩ := nm_some hF
          rw [← et7]
          refine r_lstore_n Z [(3, .long t7), (0, .ref (ad o)), (5, .int v5)] dX1_mixInto_67 rfl hl (by decide) rfl (fun ls hl => ?_)
          refine r_iconst (v := 0) Z dX1_mixInto_68 (by decide) ?_
          refine r_istore Z [(5, .int 0), (3, .long t7), (0, .ref (ad o))] dX1_mixInto_69 hl (by decide) rfl (fun ls hl => ?_)
          exact L71 _ t7 0 M ls (lv_sub hl [2, 1, 0] rfl) hF
      · replace hF := nif_some hc5 hF
        refine r_ldc2 Z wm_130 dX1_mixInto_28 ?_
        refine r_lload_n Z dX1_mixInto_31 rfl (lv_at hl 1 rfl) ?_
        refine r_lmul Z dX1_mixInto_32 ?_
        refine r_aload_n Z dX1_mixInto_33 rfl (lv_at hl 0 rfl) ?_
        refine r_iload Z dX1_mixInto_34 (lv_at hl 2 rfl) ?_
        obtain ⟨q8, hq8, hF⟩ := bd_some hF
        refine r_invVi [.long (31 * v3)] Z (c_X1_fact ho hq8) cv_X1_fact rfl (shp_lt ho (by decide)) (fun _ _ => ⟨_, ce_1 ho⟩) wm_135 rfl rfl ⟨Nat.le_of_ble_eq_true rfl, Nat.le_of_ble_eq_true rfl⟩ rfl hl.1 rfl (Nat.le_of_ble_eq_true rfl) dX1_mixInto_36 ?_
        refine r_i2l Z dX1_mixInto_39 ?_
        refine r_ladd Z dX1_mixInto_40 ?_
        obtain ⟨t9, et9, hF⟩ := nm_some hF
        rw [← et9]
        refine r_lstore_n Z [(3, .long t9), (0, .ref (ad o)), (5, .int v5)] dX1_mixInto_41 rfl hl (by decide) rfl (fun ls hl => ?_)
        obtain ⟨t10, et10, hF⟩ := nm_some hF
        refine r_iinc (j := 2) Z t10 [(5, .int t10), (3, .long t9), (0, .ref (ad o))] dX1_mixInto_42 hl rfl (by rw [et10]; rfl) (by decide) rfl (fun ls hl => ?_)
        refine r_goto Z 22 dX1_mixInto_45 (by decide) ?_
        exact ih22 t9 t10 q8.2 ls (lv_sub hl [2, 1, 0] rfl) hF
  unfold f_X1_mixInto at hF
  refine r_aload_n Z dX1_mixInto_0 rfl (lv_at hl 0 rfl) ?_
  obtain ⟨q11, hq11, hF⟩ := bd_some hF
  refine r_invVi [] Z (c_X1_isThere ho hq11) cv_X1_isThere rfl (shp_lt ho (by decide)) (fun _ _ => ⟨_, ce_1 ho⟩) wm_132 rfl rfl ⟨Nat.le_of_ble_eq_true rfl, Nat.le_of_ble_eq_true rfl⟩ rfl hl.1 rfl (Nat.le_of_ble_eq_true rfl) dX1_mixInto_1 ?_
  refine r_if_ne Z 17 dX1_mixInto_4 (by decide) (fun hc12 => ?_) (fun hc12 => ?_)
  · replace hF := nif_some hc12 hF
    refine r_lload_n Z dX1_mixInto_17 rfl (lv_at hl 1 rfl) ?_
    refine r_lstore_n Z [(3, .long x1), (0, .ref (ad o)), (1, .long x1)] dX1_mixInto_18 rfl hl (by decide) rfl (fun ls hl => ?_)
    refine r_iconst (v := 0) Z dX1_mixInto_19 (by decide) ?_
    refine r_istore Z [(5, .int 0), (3, .long x1), (0, .ref (ad o)), (1, .long x1)] dX1_mixInto_20 hl (by decide) rfl (fun ls hl => ?_)
    exact L22 _ x1 0 q11.2 ls (lv_sub hl [2, 1, 0] rfl) hF
  · replace hF := if_some hc12 hF
    refine r_ldc2 Z wm_130 dX1_mixInto_7 ?_
    refine r_lload_n Z dX1_mixInto_10 rfl (lv_at hl 1 rfl) ?_
    refine r_lmul Z dX1_mixInto_11 ?_
    refine r_ldc2 Z wm_131 dX1_mixInto_12 ?_
    refine r_ladd Z dX1_mixInto_15 ?_
    exact r_lret Z hQ hF dX1_mixInto_16
theorem dX1_roomWeight_0 : decode cX1_roomWeight 0 = .ok (.lconst 1, 1) := by decide +kernel
theorem dX1_roomWeight_1 : decode cX1_roomWeight 1 = .ok (.lstore_n 3, 1) := by decide +kernel
theorem dX1_roomWeight_2 : decode cX1_roomWeight 2 = .ok (.iconst 0, 1) := by decide +kernel
theorem dX1_roomWeight_3 : decode cX1_roomWeight 3 = .ok (.istore 5, 2) := by decide +kernel
theorem dX1_roomWeight_5 : decode cX1_roomWeight 5 = .ok (.iload 5, 2) := by decide +kernel
theorem dX1_roomWeight_7 : decode cX1_roomWeight 7 = .ok (.aload_n 0, 1) := by decide +kernel
theorem dX1_roomWeight_8 : decode cX1_roomWeight 8 = .ok (.getfield 25, 3) := by decide +kernel
theorem dX1_roomWeight_11 : decode cX1_roomWeight 11 = .ok (.if_icmp .ge 28, 3) := by decide +kernel
theorem dX1_roomWeight_14 : decode cX1_roomWeight 14 = .ok (.lload_n 3, 1) := by decide +kernel
theorem dX1_roomWeight_15 : decode cX1_roomWeight 15 = .ok (.iload 5, 2) := by decide +kernel
theorem dX1_roomWeight_17 : decode cX1_roomWeight 17 = .ok (.iload_n 2, 1) := by decide +kernel
theorem dX1_roomWeight_18 : decode cX1_roomWeight 18 = .ok (.if_icmp .ge 8, 3) := by decide +kernel
theorem dX1_roomWeight_21 : decode cX1_roomWeight 21 = .ok (.iload_n 1, 1) := by decide +kernel
theorem dX1_roomWeight_22 : decode cX1_roomWeight 22 = .ok (.i2l, 1) := by decide +kernel
theorem dX1_roomWeight_23 : decode cX1_roomWeight 23 = .ok (.goto 8, 3) := by decide +kernel
theorem dX1_roomWeight_26 : decode cX1_roomWeight 26 = .ok (.aload_n 0, 1) := by decide +kernel
theorem dX1_roomWeight_27 : decode cX1_roomWeight 27 = .ok (.getfield 19, 3) := by decide +kernel
theorem dX1_roomWeight_30 : decode cX1_roomWeight 30 = .ok (.i2l, 1) := by decide +kernel
theorem dX1_roomWeight_31 : decode cX1_roomWeight 31 = .ok (.lmul, 1) := by decide +kernel
theorem dX1_roomWeight_32 : decode cX1_roomWeight 32 = .ok (.lstore_n 3, 1) := by decide +kernel
theorem dX1_roomWeight_33 : decode cX1_roomWeight 33 = .ok (.iinc 5 1, 3) := by decide +kernel
theorem dX1_roomWeight_36 : decode cX1_roomWeight 36 = .ok (.goto (-31), 3) := by decide +kernel
theorem dX1_roomWeight_39 : decode cX1_roomWeight 39 = .ok (.lload_n 3, 1) := by decide +kernel
theorem dX1_roomWeight_40 : decode cX1_roomWeight 40 = .ok (.lreturn, 1) := by decide +kernel
theorem cv_X1_roomWeight : wn_cV yX1_roomWeight cX1_roomWeight 6 (some .long) RX1 2 := ⟨wm_128, wm_532, wm_533, wm_122, by decide +kernel⟩
abbrev rm_X1_roomWeight : Room := rmz 0 0
set_option maxHeartbeats 4000000 in
set_option maxRecDepth 100000 in
theorem c_X1_roomWeight {ad : Nat → Nat} {o : Nat} {x1 : Int32} {x2 : Int32} {M : Mm} {q : Int64 × Mm} (ho : shp o = 1) (hF : f_X1_roomWeight o x1 x2 M = some q) : KL ad yX1_roomWeight cX1_roomWeight 6 (some .long) rm_X1_roomWeight [.ref (ad o), .int x1, .int x2] M q.1 q.2 := by
  refine wn_enterL (own := RX1) (by decide) rfl (Nat.le_of_ble_eq_true rfl) (fun X ls Z hQ hl => ?_)
  have hl : lv_has ls 6 [(0, .ref (ad o)), (1, .int x1), (2, .int x2)] := hl
  have L5 : ∀ (n5 : Nat) (v1 : Int32) (v2 : Int32) (v3 : Int64) (v5 : Int32) (M : Mm) (ls : Array Slot), lv_has ls 6 [(0, .ref (ad o)), (1, .int v1), (2, .int v2), (3, .long v3), (5, .int v5)] → f_X1_roomWeight_b5 o n5 v1 v2 v3 v5 M = some q → G ad X M 5 ls [] := by
    intro n5
    induction n5 with
    | zero =>
      intro v1 v2 v3 v5 M ls hl hF
      cases hF
    | succ n5 ih5 =>
      have L31 : ∀ (v1 : Int32) (v2 : Int32) (v5 : Int32) (s0 : Int64) (s1 : Int64) (M : Mm) (ls : Array Slot), lv_has ls 6 [(0, .ref (ad o)), (1, .int v1), (2, .int v2), (5, .int v5)] → f_X1_roomWeight_b31 (f_X1_roomWeight_b5 o n5) o v1 v2 v5 s0 s1 M = some q → G ad X M 31 ls [.long s1, .long s0] := by
        intro v1 v2 v5 s0 s1 M ls hl hF
        unfold f_X1_roomWeight_b31 at hF
        refine r_lmul Z dX1_roomWeight_31 ?_
        obtain ⟨t1, et1, hF⟩ := nm_some hF
        rw [← et1]
        refine r_lstore_n Z [(3, .long t1), (0, .ref (ad o)), (1, .int v1), (2, .int v2), (5, .int v5)] dX1_roomWeight_32 rfl hl (by decide) rfl (fun ls hl => ?_)
        obtain ⟨t2, et2, hF⟩ := nm_some hF
        refine r_iinc (j := 4) Z t2 [(5, .int t2), (3, .long t1), (0, .ref (ad o)), (1, .int v1), (2, .int v2)] dX1_roomWeight_33 hl rfl (by rw [et2]; rfl) (by decide) rfl (fun ls hl => ?_)
        refine r_goto Z 5 dX1_roomWeight_36 (by decide) ?_
        exact ih5 v1 v2 t1 t2 M ls (lv_sub hl [2, 3, 4, 1, 0] rfl) hF
      intro v1 v2 v3 v5 M ls hl hF
      replace hF : f_X1_roomWeight_b5B (f_X1_roomWeight_b5 o n5) o v1 v2 v3 v5 M = some q := hF
      unfold f_X1_roomWeight_b5B at hF
      refine r_iload Z dX1_roomWeight_5 (lv_at hl 4 rfl) ?_
      refine r_aload_n Z dX1_roomWeight_7 rfl (lv_at hl 0 rfl) ?_
      refine g_1_4 Z ho wm_112 dX1_roomWeight_8 ?_
      refine r_icmp_ge Z 39 dX1_roomWeight_11 (by decide) (fun hc3 => ?_) (fun hc3 => ?_)
      · replace hF := if_some hc3 hF
        refine r_lload_n Z dX1_roomWeight_39 rfl (lv_at hl 3 rfl) ?_
        exact r_lret Z hQ hF dX1_roomWeight_40
      · replace hF := nif_some hc3 hF
        refine r_lload_n Z dX1_roomWeight_14 rfl (lv_at hl 3 rfl) ?_
        refine r_iload Z dX1_roomWeight_15 (lv_at hl 4 rfl) ?_
        refine r_iload_n Z dX1_roomWeight_17 rfl (lv_at hl 2 rfl) ?_
        refine r_icmp_ge Z 26 dX1_roomWeight_18 (by decide) (fun hc4 => ?_) (fun hc4 => ?_)
        · replace hF := if_some hc4 hF
          refine r_aload_n Z dX1_roomWeight_26 rfl (lv_at hl 0 rfl) ?_
          refine g_1_2 Z ho wm_110 dX1_roomWeight_27 ?_
          refine r_i2l Z dX1_roomWeight_30 ?_
          exact L31 v1 v2 v5 v3 (Int32.toInt64 (mI M o 2)) M ls (lv_sub hl [0, 1, 2, 4] rfl) hF
        · replace hF := nif_some hc4 hF
          refine r_iload_n Z dX1_roomWeight_21 rfl (lv_at hl 1 rfl) ?_
          refine r_i2l Z dX1_roomWeight_22 ?_
          refine r_goto Z 31 dX1_roomWeight_23 (by decide) ?_
          exact L31 v1 v2 v5 v3 (Int32.toInt64 v1) M ls (lv_sub hl [0, 1, 2, 4] rfl) hF
  unfold f_X1_roomWeight at hF
  refine r_lconst (v := 1) Z dX1_roomWeight_0 (by decide) ?_
  refine r_lstore_n Z [(3, .long 1), (0, .ref (ad o)), (1, .int x1), (2, .int x2)] dX1_roomWeight_1 rfl hl (by decide) rfl (fun ls hl => ?_)
  refine r_iconst (v := 0) Z dX1_roomWeight_2 (by decide) ?_
  refine r_istore Z [(5, .int 0), (3, .long 1), (0, .ref (ad o)), (1, .int x1), (2, .int x2)] dX1_roomWeight_3 hl (by decide) rfl (fun ls hl => ?_)
  exact L5 _ x1 x2 1 0 M ls (lv_sub hl [2, 3, 4, 1, 0] rfl) hF
theorem dX2_isAbove_0 : decode cX2_isAbove 0 = .ok (.iconst 0, 1) := by decide +kernel
theorem dX2_isAbove_1 : decode cX2_isAbove 1 = .ok (.istore 8, 2) := by decide +kernel
theorem dX2_isAbove_3 : decode cX2_isAbove 3 = .ok (.iconst 0, 1) := by decide +kernel
theorem dX2_isAbove_4 : decode cX2_isAbove 4 = .ok (.istore 9, 2) := by decide +kernel
theorem dX2_isAbove_6 : decode cX2_isAbove 6 = .ok (.iload 9, 2) := by decide +kernel
theorem dX2_isAbove_8 : decode cX2_isAbove 8 = .ok (.sipush 200, 3) := by decide +kernel
theorem dX2_isAbove_11 : decode cX2_isAbove 11 = .ok (.if_icmp .ge 120, 3) := by decide +kernel
theorem dX2_isAbove_14 : decode cX2_isAbove 14 = .ok (.lload_n 2, 1) := by decide +kernel
theorem dX2_isAbove_15 : decode cX2_isAbove 15 = .ok (.lconst 0, 1) := by decide +kernel
theorem dX2_isAbove_16 : decode cX2_isAbove 16 = .ok (.lcmp, 1) := by decide +kernel
theorem dX2_isAbove_17 : decode cX2_isAbove 17 = .ok (.ifCond .le 114, 3) := by decide +kernel
theorem dX2_isAbove_20 : decode cX2_isAbove 20 = .ok (.lload 6, 2) := by decide +kernel
theorem dX2_isAbove_22 : decode cX2_isAbove 22 = .ok (.lconst 0, 1) := by decide +kernel
theorem dX2_isAbove_23 : decode cX2_isAbove 23 = .ok (.lcmp, 1) := by decide +kernel
theorem dX2_isAbove_24 : decode cX2_isAbove 24 = .ok (.ifCond .le 107, 3) := by decide +kernel
theorem dX2_isAbove_27 : decode cX2_isAbove 27 = .ok (.lload_n 0, 1) := by decide +kernel
theorem dX2_isAbove_28 : decode cX2_isAbove 28 = .ok (.lload_n 2, 1) := by decide +kernel
theorem dX2_isAbove_29 : decode cX2_isAbove 29 = .ok (.ldiv, 1) := by decide +kernel
theorem dX2_isAbove_30 : decode cX2_isAbove 30 = .ok (.lstore 10, 2) := by decide +kernel
theorem dX2_isAbove_32 : decode cX2_isAbove 32 = .ok (.lload 4, 2) := by decide +kernel
theorem dX2_isAbove_34 : decode cX2_isAbove 34 = .ok (.lload 6, 2) := by decide +kernel
theorem dX2_isAbove_36 : decode cX2_isAbove 36 = .ok (.ldiv, 1) := by decide +kernel
theorem dX2_isAbove_37 : decode cX2_isAbove 37 = .ok (.lstore 12, 2) := by decide +kernel
theorem dX2_isAbove_39 : decode cX2_isAbove 39 = .ok (.lload 10, 2) := by decide +kernel
theorem dX2_isAbove_41 : decode cX2_isAbove 41 = .ok (.lload 12, 2) := by decide +kernel
theorem dX2_isAbove_43 : decode cX2_isAbove 43 = .ok (.lcmp, 1) := by decide +kernel
theorem dX2_isAbove_44 : decode cX2_isAbove 44 = .ok (.ifCond .eq 38, 3) := by decide +kernel
theorem dX2_isAbove_47 : decode cX2_isAbove 47 = .ok (.iload 8, 2) := by decide +kernel
theorem dX2_isAbove_49 : decode cX2_isAbove 49 = .ok (.ifCond .eq 19, 3) := by decide +kernel
theorem dX2_isAbove_52 : decode cX2_isAbove 52 = .ok (.lload 10, 2) := by decide +kernel
theorem dX2_isAbove_54 : decode cX2_isAbove 54 = .ok (.lload 12, 2) := by decide +kernel
theorem dX2_isAbove_56 : decode cX2_isAbove 56 = .ok (.lcmp, 1) := by decide +kernel
theorem dX2_isAbove_57 : decode cX2_isAbove 57 = .ok (.ifCond .ge 7, 3) := by decide +kernel
theorem dX2_isAbove_60 : decode cX2_isAbove 60 = .ok (.iconst 1, 1) := by decide +kernel
theorem dX2_isAbove_61 : decode cX2_isAbove 61 = .ok (.goto 20, 3) := by decide +kernel
theorem dX2_isAbove_64 : decode cX2_isAbove 64 = .ok (.iconst 0, 1) := by decide +kernel
theorem dX2_isAbove_65 : decode cX2_isAbove 65 = .ok (.goto 16, 3) := by decide +kernel
theorem dX2_isAbove_68 : decode cX2_isAbove 68 = .ok (.lload 10, 2) := by decide +kernel
theorem dX2_isAbove_70 : decode cX2_isAbove 70 = .ok (.lload 12, 2) := by decide +kernel
theorem dX2_isAbove_72 : decode cX2_isAbove 72 = .ok (.lcmp, 1) := by decide +kernel
theorem dX2_isAbove_73 : decode cX2_isAbove 73 = .ok (.ifCond .le 7, 3) := by decide +kernel
theorem dX2_isAbove_76 : decode cX2_isAbove 76 = .ok (.iconst 1, 1) := by decide +kernel
theorem dX2_isAbove_77 : decode cX2_isAbove 77 = .ok (.goto 4, 3) := by decide +kernel
theorem dX2_isAbove_80 : decode cX2_isAbove 80 = .ok (.iconst 0, 1) := by decide +kernel
theorem dX2_isAbove_81 : decode cX2_isAbove 81 = .ok (.ireturn, 1) := by decide +kernel
theorem dX2_isAbove_82 : decode cX2_isAbove 82 = .ok (.lload_n 0, 1) := by decide +kernel
theorem dX2_isAbove_83 : decode cX2_isAbove 83 = .ok (.lload 10, 2) := by decide +kernel
theorem dX2_isAbove_85 : decode cX2_isAbove 85 = .ok (.lload_n 2, 1) := by decide +kernel
theorem dX2_isAbove_86 : decode cX2_isAbove 86 = .ok (.lmul, 1) := by decide +kernel
theorem dX2_isAbove_87 : decode cX2_isAbove 87 = .ok (.lsub, 1) := by decide +kernel
theorem dX2_isAbove_88 : decode cX2_isAbove 88 = .ok (.lstore 14, 2) := by decide +kernel
theorem dX2_isAbove_90 : decode cX2_isAbove 90 = .ok (.lload 4, 2) := by decide +kernel
theorem dX2_isAbove_92 : decode cX2_isAbove 92 = .ok (.lload 12, 2) := by decide +kernel
theorem dX2_isAbove_94 : decode cX2_isAbove 94 = .ok (.lload 6, 2) := by decide +kernel
theorem dX2_isAbove_96 : decode cX2_isAbove 96 = .ok (.lmul, 1) := by decide +kernel
theorem dX2_isAbove_97 : decode cX2_isAbove 97 = .ok (.lsub, 1) := by decide +kernel
theorem dX2_isAbove_98 : decode cX2_isAbove 98 = .ok (.lstore 16, 2) := by decide +kernel
theorem dX2_isAbove_100 : decode cX2_isAbove 100 = .ok (.lload_n 2, 1) := by decide +kernel
theorem dX2_isAbove_101 : decode cX2_isAbove 101 = .ok (.lstore_n 0, 1) := by decide +kernel
theorem dX2_isAbove_102 : decode cX2_isAbove 102 = .ok (.lload 14, 2) := by decide +kernel
theorem dX2_isAbove_104 : decode cX2_isAbove 104 = .ok (.lstore_n 2, 1) := by decide +kernel
theorem dX2_isAbove_105 : decode cX2_isAbove 105 = .ok (.lload 6, 2) := by decide +kernel
theorem dX2_isAbove_107 : decode cX2_isAbove 107 = .ok (.lstore 4, 2) := by decide +kernel
theorem dX2_isAbove_109 : decode cX2_isAbove 109 = .ok (.lload 16, 2) := by decide +kernel
theorem dX2_isAbove_111 : decode cX2_isAbove 111 = .ok (.lstore 6, 2) := by decide +kernel
theorem dX2_isAbove_113 : decode cX2_isAbove 113 = .ok (.iload 8, 2) := by decide +kernel
theorem dX2_isAbove_115 : decode cX2_isAbove 115 = .ok (.ifCond .ne 7, 3) := by decide +kernel
theorem dX2_isAbove_118 : decode cX2_isAbove 118 = .ok (.iconst 1, 1) := by decide +kernel
theorem dX2_isAbove_119 : decode cX2_isAbove 119 = .ok (.goto 4, 3) := by decide +kernel
theorem dX2_isAbove_122 : decode cX2_isAbove 122 = .ok (.iconst 0, 1) := by decide +kernel
theorem dX2_isAbove_123 : decode cX2_isAbove 123 = .ok (.istore 8, 2) := by decide +kernel
theorem dX2_isAbove_125 : decode cX2_isAbove 125 = .ok (.iinc 9 1, 3) := by decide +kernel
theorem dX2_isAbove_128 : decode cX2_isAbove 128 = .ok (.goto (-122), 3) := by decide +kernel
theorem dX2_isAbove_131 : decode cX2_isAbove 131 = .ok (.lload_n 2, 1) := by decide +kernel
theorem dX2_isAbove_132 : decode cX2_isAbove 132 = .ok (.lconst 0, 1) := by decide +kernel
theorem dX2_isAbove_133 : decode cX2_isAbove 133 = .ok (.lcmp, 1) := by decide +kernel
theorem dX2_isAbove_134 : decode cX2_isAbove 134 = .ok (.ifCond .gt 14, 3) := by decide +kernel
theorem dX2_isAbove_137 : decode cX2_isAbove 137 = .ok (.lload 6, 2) := by decide +kernel
theorem dX2_isAbove_139 : decode cX2_isAbove 139 = .ok (.lconst 0, 1) := by decide +kernel
theorem dX2_isAbove_140 : decode cX2_isAbove 140 = .ok (.lcmp, 1) := by decide +kernel
theorem dX2_isAbove_141 : decode cX2_isAbove 141 = .ok (.ifCond .le 7, 3) := by decide +kernel
theorem dX2_isAbove_144 : decode cX2_isAbove 144 = .ok (.iconst 1, 1) := by decide +kernel
theorem dX2_isAbove_145 : decode cX2_isAbove 145 = .ok (.goto 4, 3) := by decide +kernel
theorem dX2_isAbove_148 : decode cX2_isAbove 148 = .ok (.iconst 0, 1) := by decide +kernel
theorem dX2_isAbove_149 : decode cX2_isAbove 149 = .ok (.istore 9, 2) := by decide +kernel
theorem dX2_isAbove_151 : decode cX2_isAbove 151 = .ok (.lload 6, 2) := by decide +kernel
theorem dX2_isAbove_153 : decode cX2_isAbove 153 = .ok (.lconst 0, 1) := by decide +kernel
theorem dX2_isAbove_154 : decode cX2_isAbove 154 = .ok (.lcmp, 1) := by decide +kernel
theorem dX2_isAbove_155 : decode cX2_isAbove 155 = .ok (.ifCond .gt 13, 3) := by decide +kernel
theorem dX2_isAbove_158 : decode cX2_isAbove 158 = .ok (.lload_n 2, 1) := by decide +kernel
theorem dX2_isAbove_159 : decode cX2_isAbove 159 = .ok (.lconst 0, 1) := by decide +kernel
theorem dX2_isAbove_160 : decode cX2_isAbove 160 = .ok (.lcmp, 1) := by decide +kernel
theorem dX2_isAbove_161 : decode cX2_isAbove 161 = .ok (.ifCond .le 7, 3) := by decide +kernel
theorem dX2_isAbove_164 : decode cX2_isAbove 164 = .ok (.iconst 1, 1) := by decide +kernel
theorem dX2_isAbove_165 : decode cX2_isAbove 165 = .ok (.goto 4, 3) := by decide +kernel
theorem dX2_isAbove_168 : decode cX2_isAbove 168 = .ok (.iconst 0, 1) := by decide +kernel
theorem dX2_isAbove_169 : decode cX2_isAbove 169 = .ok (.istore 10, 2) := by decide +kernel
theorem dX2_isAbove_171 : decode cX2_isAbove 171 = .ok (.iload 8, 2) := by decide +kernel
theorem dX2_isAbove_173 : decode cX2_isAbove 173 = .ok (.ifCond .eq 8, 3) := by decide +kernel
theorem dX2_isAbove_176 : decode cX2_isAbove 176 = .ok (.iload 10, 2) := by decide +kernel
theorem dX2_isAbove_178 : decode cX2_isAbove 178 = .ok (.goto 5, 3) := by decide +kernel
theorem dX2_isAbove_181 : decode cX2_isAbove 181 = .ok (.iload 9, 2) := by decide +kernel
theorem dX2_isAbove_183 : decode cX2_isAbove 183 = .ok (.ireturn, 1) := by decide +kernel
theorem cv_X2_isAbove : wn_cS yX2_isAbove cX2_isAbove 18 (some .boolean) 4 := ⟨wm_141, wm_296, wm_94, by decide +kernel⟩
abbrev rm_X2_isAbove : Room := rmz 0 0
set_option maxHeartbeats 4000000 in
set_option maxRecDepth 100000 in
theorem c_X2_isAbove {ad : Nat → Nat} {x1 : Int64} {x2 : Int64} {x3 : Int64} {x4 : Int64} {M : Mm} {q : Int32 × Mm} (hF : f_X2_isAbove x1 x2 x3 x4 M = some q) : KI ad yX2_isAbove cX2_isAbove 18 (some .boolean) rm_X2_isAbove [.long x1, .long x2, .long x3, .long x4] M q.1 q.2 := by
  refine wn_enterI (own := RX2) (by decide) rfl (Nat.le_of_ble_eq_true rfl) (fun X ls Z hQ hl => ?_)
  have hl : lv_has ls 18 [(0, .long x1), (2, .long x2), (4, .long x3), (6, .long x4)] := hl
  have L169 : ∀ (v8 : Int32) (v9 : Int32) (s0 : Int32) (M : Mm) (ls : Array Slot), lv_has ls 18 [(8, .int v8), (9, .int v9)] → f_X2_isAbove_b169 v8 v9 s0 M = some q → G ad X M 169 ls [.int s0] := by
    intro v8 v9 s0 M ls hl hF
    unfold f_X2_isAbove_b169 at hF
    refine r_istore Z [(10, .int s0), (8, .int v8), (9, .int v9)] dX2_isAbove_169 hl (by decide) rfl (fun ls hl => ?_)
    refine r_iload Z dX2_isAbove_171 (lv_at hl 1 rfl) ?_
    refine r_if_eq Z 181 dX2_isAbove_173 (by decide) (fun hc1 => ?_) (fun hc1 => ?_)
    · replace hF := if_some hc1 hF
      refine r_iload Z dX2_isAbove_181 (lv_at hl 2 rfl) ?_
      obtain ⟨hz, hF⟩ := bz_some hF
      exact r_zret Z hQ hz hF dX2_isAbove_183
    · replace hF := nif_some hc1 hF
      refine r_iload Z dX2_isAbove_176 (lv_at hl 0 rfl) ?_
      refine r_goto Z 183 dX2_isAbove_178 (by decide) ?_
      obtain ⟨hz, hF⟩ := bz_some hF
      exact r_zret Z hQ hz hF dX2_isAbove_183
  have L168 : ∀ (v8 : Int32) (v9 : Int32) (M : Mm) (ls : Array Slot), lv_has ls 18 [(8, .int v8), (9, .int v9)] → f_X2_isAbove_b168 v8 v9 M = some q → G ad X M 168 ls [] := by
    intro v8 v9 M ls hl hF
    unfold f_X2_isAbove_b168 at hF
    refine r_iconst (v := 0) Z dX2_isAbove_168 (by decide) ?_
    exact L169 v8 v9 0 M ls (lv_sub hl [0, 1] rfl) hF
  have L149 : ∀ (v2 : Int64) (v6 : Int64) (v8 : Int32) (s0 : Int32) (M : Mm) (ls : Array Slot), lv_has ls 18 [(2, .long v2), (6, .long v6), (8, .int v8)] → f_X2_isAbove_b149 v2 v6 v8 s0 M = some q → G ad X M 149 ls [.int s0] := by
    intro v2 v6 v8 s0 M ls hl hF
    unfold f_X2_isAbove_b149 at hF
    refine r_istore Z [(9, .int s0), (2, .long v2), (6, .long v6), (8, .int v8)] dX2_isAbove_149 hl (by decide) rfl (fun ls hl => ?_)
    refine r_lload Z dX2_isAbove_151 (lv_at hl 2 rfl) ?_
    refine r_lconst (v := 0) Z dX2_isAbove_153 (by decide) ?_
    refine r_lcmp Z dX2_isAbove_154 ?_
    refine r_if_gt Z 168 dX2_isAbove_155 (by decide) (fun hc2 => ?_) (fun hc2 => ?_)
    · replace hF := if_some hc2 hF
      exact L168 v8 s0 M ls (lv_sub hl [3, 0] rfl) hF
    · replace hF := nif_some hc2 hF
      refine r_lload_n Z dX2_isAbove_158 rfl (lv_at hl 1 rfl) ?_
      refine r_lconst (v := 0) Z dX2_isAbove_159 (by decide) ?_
      refine r_lcmp Z dX2_isAbove_160 ?_
      refine r_if_le Z 168 dX2_isAbove_161 (by decide) (fun hc3 => ?_) (fun hc3 => ?_)
      · replace hF := if_some hc3 hF
        exact L168 v8 s0 M ls (lv_sub hl [3, 0] rfl) hF
      · replace hF := nif_some hc3 hF
        refine r_iconst (v := 1) Z dX2_isAbove_164 (by decide) ?_
        refine r_goto Z 169 dX2_isAbove_165 (by decide) ?_
        exact L169 v8 s0 1 M ls (lv_sub hl [3, 0] rfl) hF
  have L148 : ∀ (v2 : Int64) (v6 : Int64) (v8 : Int32) (M : Mm) (ls : Array Slot), lv_has ls 18 [(2, .long v2), (6, .long v6), (8, .int v8)] → f_X2_isAbove_b148 v2 v6 v8 M = some q → G ad X M 148 ls [] := by
    intro v2 v6 v8 M ls hl hF
    unfold f_X2_isAbove_b148 at hF
    refine r_iconst (v := 0) Z dX2_isAbove_148 (by decide) ?_
    exact L149 v2 v6 v8 0 M ls (lv_sub hl [0, 1, 2] rfl) hF
  have L131 : ∀ (v2 : Int64) (v6 : Int64) (v8 : Int32) (M : Mm) (ls : Array Slot), lv_has ls 18 [(2, .long v2), (6, .long v6), (8, .int v8)] → f_X2_isAbove_b131 v2 v6 v8 M = some q → G ad X M 131 ls [] := by
    intro v2 v6 v8 M ls hl hF
    unfold f_X2_isAbove_b131 at hF
    refine r_lload_n Z dX2_isAbove_131 rfl (lv_at hl 0 rfl) ?_
    refine r_lconst (v := 0) Z dX2_isAbove_132 (by decide) ?_
    refine r_lcmp Z dX2_isAbove_133 ?_
    refine r_if_gt Z 148 dX2_isAbove_134 (by decide) (fun hc4 => ?_) (fun hc4 => ?_)
    · replace hF := if_some hc4 hF
      exact L148 v2 v6 v8 M ls (lv_sub hl [0, 1, 2] rfl) hF
    · replace hF := nif_some hc4 hF
      refine r_lload Z dX2_isAbove_137 (lv_at hl 1 rfl) ?_
      refine r_lconst (v := 0) Z dX2_isAbove_139 (by decide) ?_
      refine r_lcmp Z dX2_isAbove_140 ?_
      refine r_if_le Z 148 dX2_isAbove_141 (by decide) (fun hc5 => ?_) (fun hc5 => ?_)
      · replace hF := if_some hc5 hF
        exact L148 v2 v6 v8 M ls (lv_sub hl [0, 1, 2] rfl) hF
      · replace hF := nif_some hc5 hF
        refine r_iconst (v := 1) Z dX2_isAbove_144 (by decide) ?_
        refine r_goto Z 149 dX2_isAbove_145 (by decide) ?_
        exact L149 v2 v6 v8 1 M ls (lv_sub hl [0, 1, 2] rfl) hF
  have L6 : ∀ (n6 : Nat) (v0 : Int64) (v2 : Int64) (v4 : Int64) (v6 : Int64) (v8 : Int32) (v9 : Int32) (M : Mm) (ls : Array Slot), lv_has ls 18 [(0, .long v0), (2, .long v2), (4, .long v4), (6, .long v6), (8, .int v8), (9, .int v9)] → f_X2_isAbove_b6 n6 v0 v2 v4 v6 v8 v9 M = some q → G ad X M 6 ls [] := by
    intro n6
    induction n6 with
    | zero =>
      intro v0 v2 v4 v6 v8 v9 M ls hl hF
      cases hF
    | succ n6 ih6 =>
      intro v0 v2 v4 v6 v8 v9 M ls hl hF
      replace hF : f_X2_isAbove_b6B (f_X2_isAbove_b6 n6) v0 v2 v4 v6 v8 v9 M = some q := hF
      unfold f_X2_isAbove_b6B at hF
      refine r_iload Z dX2_isAbove_6 (lv_at hl 5 rfl) ?_
      refine r_sipush (v := 200) Z dX2_isAbove_8 (by decide) ?_
      refine r_icmp_ge Z 131 dX2_isAbove_11 (by decide) (fun hc6 => ?_) (fun hc6 => ?_)
      · replace hF := if_some hc6 hF
        exact L131 v2 v6 v8 M ls (lv_sub hl [1, 3, 4] rfl) hF
      · replace hF := nif_some hc6 hF
        refine r_lload_n Z dX2_isAbove_14 rfl (lv_at hl 1 rfl) ?_
        refine r_lconst (v := 0) Z dX2_isAbove_15 (by decide) ?_
        refine r_lcmp Z dX2_isAbove_16 ?_
        refine r_if_le Z 131 dX2_isAbove_17 (by decide) (fun hc7 => ?_) (fun hc7 => ?_)
        · replace hF := if_some hc7 hF
          exact L131 v2 v6 v8 M ls (lv_sub hl [1, 3, 4] rfl) hF
        · replace hF := nif_some hc7 hF
          refine r_lload Z dX2_isAbove_20 (lv_at hl 3 rfl) ?_
          refine r_lconst (v := 0) Z dX2_isAbove_22 (by decide) ?_
          refine r_lcmp Z dX2_isAbove_23 ?_
          refine r_if_le Z 131 dX2_isAbove_24 (by decide) (fun hc8 => ?_) (fun hc8 => ?_)
          · replace hF := if_some hc8 hF
            exact L131 v2 v6 v8 M ls (lv_sub hl [1, 3, 4] rfl) hF
          · replace hF := nif_some hc8 hF
            refine r_lload_n Z dX2_isAbove_27 rfl (lv_at hl 0 rfl) ?_
            refine r_lload_n Z dX2_isAbove_28 rfl (lv_at hl 1 rfl) ?_
            obtain ⟨hd9, hF⟩ := dvJ_some hF
            refine r_ldiv Z dX2_isAbove_29 hd9 ?_
            obtain ⟨t10, et10, hF⟩ := nm_some hF
            rw [← et10]
            refine r_lstore Z [(10, .long t10), (0, .long v0), (2, .long v2), (4, .long v4), (6, .long v6), (8, .int v8), (9, .int v9)] dX2_isAbove_30 hl (by decide) rfl (fun ls hl => ?_)
            refine r_lload Z dX2_isAbove_32 (lv_at hl 3 rfl) ?_
            refine r_lload Z dX2_isAbove_34 (lv_at hl 4 rfl) ?_
            obtain ⟨hd11, hF⟩ := dvJ_some hF
            refine r_ldiv Z dX2_isAbove_36 hd11 ?_
            obtain ⟨t12, et12, hF⟩ := nm_some hF
            rw [← et12]
            refine r_lstore Z [(12, .long t12), (10, .long t10), (0, .long v0), (2, .long v2), (4, .long v4), (6, .long v6), (8, .int v8), (9, .int v9)] dX2_isAbove_37 hl (by decide) rfl (fun ls hl => ?_)
            refine r_lload Z dX2_isAbove_39 (lv_at hl 1 rfl) ?_
            refine r_lload Z dX2_isAbove_41 (lv_at hl 0 rfl) ?_
            refine r_lcmp Z dX2_isAbove_43 ?_
            refine r_if_eq Z 82 dX2_isAbove_44 (by decide) (fun hc13 => ?_) (fun hc13 => ?_)
            · replace hF := if_some hc13 hF
              refine r_lload_n Z dX2_isAbove_82 rfl (lv_at hl 2 rfl) ?_
              refine r_lload Z dX2_isAbove_83 (lv_at hl 1 rfl) ?_
              refine r_lload_n Z dX2_isAbove_85 rfl (lv_at hl 3 rfl) ?_
              refine r_lmul Z dX2_isAbove_86 ?_
              refine r_lsub Z dX2_isAbove_87 ?_
              obtain ⟨t14, et14, hF⟩ := nm_some hF
              rw [← et14]
              refine r_lstore Z [(14, .long t14), (12, .long t12), (10, .long t10), (0, .long v0), (2, .long v2), (4, .long v4), (6, .long v6), (8, .int v8), (9, .int v9)] dX2_isAbove_88 hl (by decide) rfl (fun ls hl => ?_)
              refine r_lload Z dX2_isAbove_90 (lv_at hl 5 rfl) ?_
              refine r_lload Z dX2_isAbove_92 (lv_at hl 1 rfl) ?_
              refine r_lload Z dX2_isAbove_94 (lv_at hl 6 rfl) ?_
              refine r_lmul Z dX2_isAbove_96 ?_
              refine r_lsub Z dX2_isAbove_97 ?_
              obtain ⟨t15, et15, hF⟩ := nm_some hF
              rw [← et15]
              refine r_lstore Z [(16, .long t15), (14, .long t14), (12, .long t12), (10, .long t10), (0, .long v0), (2, .long v2), (4, .long v4), (6, .long v6), (8, .int v8), (9, .int v9)] dX2_isAbove_98 hl (by decide) rfl (fun ls hl => ?_)
              refine r_lload_n Z dX2_isAbove_100 rfl (lv_at hl 5 rfl) ?_
              refine r_lstore_n Z [(0, .long v2), (16, .long t15), (14, .long t14), (12, .long t12), (10, .long t10), (2, .long v2), (4, .long v4), (6, .long v6), (8, .int v8), (9, .int v9)] dX2_isAbove_101 rfl hl (by decide) rfl (fun ls hl => ?_)
              refine r_lload Z dX2_isAbove_102 (lv_at hl 2 rfl) ?_
              refine r_lstore_n Z [(2, .long t14), (0, .long v2), (16, .long t15), (14, .long t14), (12, .long t12), (10, .long t10), (4, .long v4), (6, .long v6), (8, .int v8), (9, .int v9)] dX2_isAbove_104 rfl hl (by decide) rfl (fun ls hl => ?_)
              refine r_lload Z dX2_isAbove_105 (lv_at hl 7 rfl) ?_
              refine r_lstore Z [(4, .long v6), (2, .long t14), (0, .long v2), (16, .long t15), (14, .long t14), (12, .long t12), (10, .long t10), (6, .long v6), (8, .int v8), (9, .int v9)] dX2_isAbove_107 hl (by decide) rfl (fun ls hl => ?_)
              refine r_lload Z dX2_isAbove_109 (lv_at hl 3 rfl) ?_
              refine r_lstore Z [(6, .long t15), (4, .long v6), (2, .long t14), (0, .long v2), (16, .long t15), (14, .long t14), (12, .long t12), (10, .long t10), (8, .int v8), (9, .int v9)] dX2_isAbove_111 hl (by decide) rfl (fun ls hl => ?_)
              refine r_iload Z dX2_isAbove_113 (lv_at hl 8 rfl) ?_
              refine r_if_ne Z 122 dX2_isAbove_115 (by decide) (fun hc16 => ?_) (fun hc16 => ?_)
              · replace hF := nif_some hc16 hF
                refine r_iconst (v := 0) Z dX2_isAbove_122 (by decide) ?_
                refine r_istore Z [(8, .int 0), (6, .long t15), (4, .long v6), (2, .long t14), (0, .long v2), (16, .long t15), (14, .long t14), (12, .long t12), (10, .long t10), (9, .int v9)] dX2_isAbove_123 hl (by decide) rfl (fun ls hl => ?_)
                obtain ⟨t17, et17, hF⟩ := nm_some hF
                refine r_iinc (j := 9) Z t17 [(9, .int t17), (8, .int 0), (6, .long t15), (4, .long v6), (2, .long t14), (0, .long v2), (16, .long t15), (14, .long t14), (12, .long t12), (10, .long t10)] dX2_isAbove_125 hl rfl (by rw [et17]; rfl) (by decide) rfl (fun ls hl => ?_)
                refine r_goto Z 6 dX2_isAbove_128 (by decide) ?_
                exact ih6 v2 t14 v6 t15 0 t17 M ls (lv_sub hl [5, 4, 3, 2, 1, 0] rfl) hF
              · replace hF := if_some hc16 hF
                refine r_iconst (v := 1) Z dX2_isAbove_118 (by decide) ?_
                refine r_goto Z 123 dX2_isAbove_119 (by decide) ?_
                refine r_istore Z [(8, .int 1), (6, .long t15), (4, .long v6), (2, .long t14), (0, .long v2), (16, .long t15), (14, .long t14), (12, .long t12), (10, .long t10), (9, .int v9)] dX2_isAbove_123 hl (by decide) rfl (fun ls hl => ?_)
                obtain ⟨t18, et18, hF⟩ := nm_some hF
                refine r_iinc (j := 9) Z t18 [(9, .int t18), (8, .int 1), (6, .long t15), (4, .long v6), (2, .long t14), (0, .long v2), (16, .long t15), (14, .long t14), (12, .long t12), (10, .long t10)] dX2_isAbove_125 hl rfl (by rw [et18]; rfl) (by decide) rfl (fun ls hl => ?_)
                refine r_goto Z 6 dX2_isAbove_128 (by decide) ?_
                exact ih6 v2 t14 v6 t15 1 t18 M ls (lv_sub hl [5, 4, 3, 2, 1, 0] rfl) hF
            · replace hF := nif_some hc13 hF
              refine r_iload Z dX2_isAbove_47 (lv_at hl 6 rfl) ?_
              refine r_if_eq Z 68 dX2_isAbove_49 (by decide) (fun hc19 => ?_) (fun hc19 => ?_)
              · replace hF := if_some hc19 hF
                refine r_lload Z dX2_isAbove_68 (lv_at hl 1 rfl) ?_
                refine r_lload Z dX2_isAbove_70 (lv_at hl 0 rfl) ?_
                refine r_lcmp Z dX2_isAbove_72 ?_
                refine r_if_le Z 80 dX2_isAbove_73 (by decide) (fun hc20 => ?_) (fun hc20 => ?_)
                · replace hF := if_some hc20 hF
                  refine r_iconst (v := 0) Z dX2_isAbove_80 (by decide) ?_
                  exact r_zret Z hQ (by decide) hF dX2_isAbove_81
                · replace hF := nif_some hc20 hF
                  refine r_iconst (v := 1) Z dX2_isAbove_76 (by decide) ?_
                  refine r_goto Z 81 dX2_isAbove_77 (by decide) ?_
                  exact r_zret Z hQ (by decide) hF dX2_isAbove_81
              · replace hF := nif_some hc19 hF
                refine r_lload Z dX2_isAbove_52 (lv_at hl 1 rfl) ?_
                refine r_lload Z dX2_isAbove_54 (lv_at hl 0 rfl) ?_
                refine r_lcmp Z dX2_isAbove_56 ?_
                refine r_if_ge Z 64 dX2_isAbove_57 (by decide) (fun hc21 => ?_) (fun hc21 => ?_)
                · replace hF := if_some hc21 hF
                  refine r_iconst (v := 0) Z dX2_isAbove_64 (by decide) ?_
                  refine r_goto Z 81 dX2_isAbove_65 (by decide) ?_
                  exact r_zret Z hQ (by decide) hF dX2_isAbove_81
                · replace hF := nif_some hc21 hF
                  refine r_iconst (v := 1) Z dX2_isAbove_60 (by decide) ?_
                  refine r_goto Z 81 dX2_isAbove_61 (by decide) ?_
                  exact r_zret Z hQ (by decide) hF dX2_isAbove_81
  unfold f_X2_isAbove at hF
  refine r_iconst (v := 0) Z dX2_isAbove_0 (by decide) ?_
  refine r_istore Z [(8, .int 0), (0, .long x1), (2, .long x2), (4, .long x3), (6, .long x4)] dX2_isAbove_1 hl (by decide) rfl (fun ls hl => ?_)
  refine r_iconst (v := 0) Z dX2_isAbove_3 (by decide) ?_
  refine r_istore Z [(9, .int 0), (8, .int 0), (0, .long x1), (2, .long x2), (4, .long x3), (6, .long x4)] dX2_isAbove_4 hl (by decide) rfl (fun ls hl => ?_)
  exact L6 _ x1 x2 x3 x4 0 0 M ls (lv_sub hl [2, 3, 4, 5, 1, 0] rfl) hF
theorem dX2_take_0 : decode cX2_take 0 = .ok (.aload_n 0, 1) := by decide +kernel
theorem dX2_take_1 : decode cX2_take 1 = .ok (.aload_n 1, 1) := by decide +kernel
theorem dX2_take_2 : decode cX2_take 2 = .ok (.getfield 9, 3) := by decide +kernel
theorem dX2_take_5 : decode cX2_take 5 = .ok (.putfield 9, 3) := by decide +kernel
theorem dX2_take_8 : decode cX2_take 8 = .ok (.aload_n 0, 1) := by decide +kernel
theorem dX2_take_9 : decode cX2_take 9 = .ok (.aload_n 1, 1) := by decide +kernel
theorem dX2_take_10 : decode cX2_take 10 = .ok (.getfield 15, 3) := by decide +kernel
theorem dX2_take_13 : decode cX2_take 13 = .ok (.putfield 15, 3) := by decide +kernel
theorem dX2_take_16 : decode cX2_take 16 = .ok (.return_, 1) := by decide +kernel
theorem cv_X2_take : wn_cV yX2_take cX2_take 2 none RX2 1 := ⟨wm_140, wm_458, wm_459, wm_94, by decide +kernel⟩
abbrev rm_X2_take : Room := rmz 0 0
set_option maxHeartbeats 4000000 in
set_option maxRecDepth 100000 in
theorem c_X2_take {ad : Nat → Nat} {o : Nat} {x1 : Nat} {M : Mm} {q : Mm} (ho : shp o = 2) (h1 : shp x1 = 2) (hF : f_X2_take o x1 M = some q) : KV ad yX2_take cX2_take 2 none rm_X2_take [.ref (ad o), .ref (ad x1)] M q := by
  refine wn_enterV (own := RX2) (by decide) rfl (Nat.le_of_ble_eq_true rfl) (fun X ls Z hQ hl => ?_)
  have hl : lv_has ls 2 [(0, .ref (ad o)), (1, .ref (ad x1))] := hl
  unfold f_X2_take at hF
  refine r_aload_n Z dX2_take_0 rfl (lv_at hl 0 rfl) ?_
  refine r_aload_n Z dX2_take_1 rfl (lv_at hl 1 rfl) ?_
  refine g_2_0 Z h1 wm_90 dX2_take_2 ?_
  obtain ⟨M1, eM1, hF⟩ := nm_some hF
  refine p_2_0 Z ho wm_90 dX2_take_5 ?_
  rw [← eM1]
  refine r_aload_n Z dX2_take_8 rfl (lv_at hl 0 rfl) ?_
  refine r_aload_n Z dX2_take_9 rfl (lv_at hl 1 rfl) ?_
  refine g_2_1 Z h1 wm_91 dX2_take_10 ?_
  obtain ⟨M2, eM2, hF⟩ := nm_some hF
  refine p_2_1 Z ho wm_91 dX2_take_13 ?_
  rw [← eM2]
  exact r_vret Z hQ hF dX2_take_16
theorem dX3_begin_0 : decode cX3_begin 0 = .ok (.aload_n 0, 1) := by decide +kernel
theorem dX3_begin_1 : decode cX3_begin 1 = .ok (.iconst 0, 1) := by decide +kernel
theorem dX3_begin_2 : decode cX3_begin 2 = .ok (.putfield 7, 3) := by decide +kernel
theorem dX3_begin_5 : decode cX3_begin 5 = .ok (.aload_n 0, 1) := by decide +kernel
theorem dX3_begin_6 : decode cX3_begin 6 = .ok (.iconst 0, 1) := by decide +kernel
theorem dX3_begin_7 : decode cX3_begin 7 = .ok (.putfield 13, 3) := by decide +kernel
theorem dX3_begin_10 : decode cX3_begin 10 = .ok (.aload_n 0, 1) := by decide +kernel
theorem dX3_begin_11 : decode cX3_begin 11 = .ok (.iload_n 1, 1) := by decide +kernel
theorem dX3_begin_12 : decode cX3_begin 12 = .ok (.iconst 2, 1) := by decide +kernel
theorem dX3_begin_13 : decode cX3_begin 13 = .ok (.if_icmp .ne 7, 3) := by decide +kernel
theorem dX3_begin_16 : decode cX3_begin 16 = .ok (.iconst 1, 1) := by decide +kernel
theorem dX3_begin_17 : decode cX3_begin 17 = .ok (.goto 4, 3) := by decide +kernel
theorem dX3_begin_20 : decode cX3_begin 20 = .ok (.iconst 0, 1) := by decide +kernel
theorem dX3_begin_21 : decode cX3_begin 21 = .ok (.putfield 16, 3) := by decide +kernel
theorem dX3_begin_24 : decode cX3_begin 24 = .ok (.return_, 1) := by decide +kernel
theorem cv_X3_begin : wn_cV yX3_begin cX3_begin 2 none RX3 1 := ⟨wm_147, wm_573, wm_574, wm_359, by decide +kernel⟩
abbrev rm_X3_begin : Room := rmz 0 0
set_option maxHeartbeats 4000000 in
set_option maxRecDepth 100000 in
theorem c_X3_begin {ad : Nat → Nat} {o : Nat} {x1 : Int32} {M : Mm} {q : Mm} (ho : shp o = 3) (hF : f_X3_begin o x1 M = some q) : KV ad yX3_begin cX3_begin 2 none rm_X3_begin [.ref (ad o), .int x1] M q := by
  refine wn_enterV (own := RX3) (by decide) rfl (Nat.le_of_ble_eq_true rfl) (fun X ls Z hQ hl => ?_)
  have hl : lv_has ls 2 [(0, .ref (ad o)), (1, .int x1)] := hl
  have L21 : ∀ (s0 : Nat) (s1 : Int32) (M : Mm) (ls : Array Slot), shp s0 = 3 → lv_has ls 2 [] → f_X3_begin_b21 o s0 s1 M = some q → G ad X M 21 ls [.int s1, .ref (ad s0)] := by
    intro s0 s1 M ls hs0 hl hF
    unfold f_X3_begin_b21 at hF
    obtain ⟨hz, hF⟩ := bz_some hF
    obtain ⟨M1, eM1, hF⟩ := nm_some hF
    refine p_3_2 Z hz hs0 wm_146 dX3_begin_21 ?_
    rw [← eM1]
    exact r_vret Z hQ hF dX3_begin_24
  unfold f_X3_begin at hF
  refine r_aload_n Z dX3_begin_0 rfl (lv_at hl 0 rfl) ?_
  refine r_iconst (v := 0) Z dX3_begin_1 (by decide) ?_
  obtain ⟨M2, eM2, hF⟩ := nm_some hF
  refine p_3_0 Z ho wm_144 dX3_begin_2 ?_
  rw [← eM2]
  refine r_aload_n Z dX3_begin_5 rfl (lv_at hl 0 rfl) ?_
  refine r_iconst (v := 0) Z dX3_begin_6 (by decide) ?_
  obtain ⟨M3, eM3, hF⟩ := nm_some hF
  refine p_3_1 Z ho wm_145 dX3_begin_7 ?_
  rw [← eM3]
  refine r_aload_n Z dX3_begin_10 rfl (lv_at hl 0 rfl) ?_
  refine r_iload_n Z dX3_begin_11 rfl (lv_at hl 1 rfl) ?_
  refine r_iconst (v := 2) Z dX3_begin_12 (by decide) ?_
  refine r_icmp_ne Z 20 dX3_begin_13 (by decide) (fun hc4 => ?_) (fun hc4 => ?_)
  · replace hF := nif_some hc4 hF
    refine r_iconst (v := 0) Z dX3_begin_20 (by decide) ?_
    exact L21 o 0 M3 ls ho (lv_sub hl [] rfl) hF
  · replace hF := if_some hc4 hF
    refine r_iconst (v := 1) Z dX3_begin_16 (by decide) ?_
    refine r_goto Z 21 dX3_begin_17 (by decide) ?_
    exact L21 o 1 M3 ls ho (lv_sub hl [] rfl) hF

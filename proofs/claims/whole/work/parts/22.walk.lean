theorem dX9_bound_0 : decode cX9_bound 0 = .ok (.iload_n 2, 1) := by decide +kernel
theorem dX9_bound_1 : decode cX9_bound 1 = .ok (.invokestatic 192, 3) := by decide +kernel
theorem dX9_bound_4 : decode cX9_bound 4 = .ok (.ifCond .ne 5, 3) := by decide +kernel
theorem dX9_bound_7 : decode cX9_bound 7 = .ok (.iconst (-1), 1) := by decide +kernel
theorem dX9_bound_8 : decode cX9_bound 8 = .ok (.ireturn, 1) := by decide +kernel
theorem dX9_bound_9 : decode cX9_bound 9 = .ok (.aload_n 0, 1) := by decide +kernel
theorem dX9_bound_10 : decode cX9_bound 10 = .ok (.iload_n 1, 1) := by decide +kernel
theorem dX9_bound_11 : decode cX9_bound 11 = .ok (.invokevirtual 170, 3) := by decide +kernel
theorem dX9_bound_14 : decode cX9_bound 14 = .ok (.istore_n 3, 1) := by decide +kernel
theorem dX9_bound_15 : decode cX9_bound 15 = .ok (.iload_n 3, 1) := by decide +kernel
theorem dX9_bound_16 : decode cX9_bound 16 = .ok (.ifCond .ge 5, 3) := by decide +kernel
theorem dX9_bound_19 : decode cX9_bound 19 = .ok (.iload_n 3, 1) := by decide +kernel
theorem dX9_bound_20 : decode cX9_bound 20 = .ok (.ireturn, 1) := by decide +kernel
theorem dX9_bound_21 : decode cX9_bound 21 = .ok (.lconst 0, 1) := by decide +kernel
theorem dX9_bound_22 : decode cX9_bound 22 = .ok (.lstore 4, 2) := by decide +kernel
theorem dX9_bound_24 : decode cX9_bound 24 = .ok (.iconst 0, 1) := by decide +kernel
theorem dX9_bound_25 : decode cX9_bound 25 = .ok (.istore 6, 2) := by decide +kernel
theorem dX9_bound_27 : decode cX9_bound 27 = .ok (.iload 6, 2) := by decide +kernel
theorem dX9_bound_29 : decode cX9_bound 29 = .ok (.iconst 4, 1) := by decide +kernel
theorem dX9_bound_30 : decode cX9_bound 30 = .ok (.if_icmp .ge 34, 3) := by decide +kernel
theorem dX9_bound_33 : decode cX9_bound 33 = .ok (.lload 4, 2) := by decide +kernel
theorem dX9_bound_35 : decode cX9_bound 35 = .ok (.aload_n 0, 1) := by decide +kernel
theorem dX9_bound_36 : decode cX9_bound 36 = .ok (.getfield 26, 3) := by decide +kernel
theorem dX9_bound_39 : decode cX9_bound 39 = .ok (.iload 6, 2) := by decide +kernel
theorem dX9_bound_41 : decode cX9_bound 41 = .ok (.baload, 1) := by decide +kernel
theorem dX9_bound_42 : decode cX9_bound 42 = .ok (.ifCond .eq 12, 3) := by decide +kernel
theorem dX9_bound_45 : decode cX9_bound 45 = .ok (.aload_n 0, 1) := by decide +kernel
theorem dX9_bound_46 : decode cX9_bound 46 = .ok (.iload 6, 2) := by decide +kernel
theorem dX9_bound_48 : decode cX9_bound 48 = .ok (.invokevirtual 173, 3) := by decide +kernel
theorem dX9_bound_51 : decode cX9_bound 51 = .ok (.goto 4, 3) := by decide +kernel
theorem dX9_bound_54 : decode cX9_bound 54 = .ok (.lconst 0, 1) := by decide +kernel
theorem dX9_bound_55 : decode cX9_bound 55 = .ok (.ladd, 1) := by decide +kernel
theorem dX9_bound_56 : decode cX9_bound 56 = .ok (.lstore 4, 2) := by decide +kernel
theorem dX9_bound_58 : decode cX9_bound 58 = .ok (.iinc 6 1, 3) := by decide +kernel
theorem dX9_bound_61 : decode cX9_bound 61 = .ok (.goto (-34), 3) := by decide +kernel
theorem dX9_bound_64 : decode cX9_bound 64 = .ok (.aload_n 0, 1) := by decide +kernel
theorem dX9_bound_65 : decode cX9_bound 65 = .ok (.getfield 58, 3) := by decide +kernel
theorem dX9_bound_68 : decode cX9_bound 68 = .ok (.iload_n 1, 1) := by decide +kernel
theorem dX9_bound_69 : decode cX9_bound 69 = .ok (.laload, 1) := by decide +kernel
theorem dX9_bound_70 : decode cX9_bound 70 = .ok (.iload_n 2, 1) := by decide +kernel
theorem dX9_bound_71 : decode cX9_bound 71 = .ok (.i2l, 1) := by decide +kernel
theorem dX9_bound_72 : decode cX9_bound 72 = .ok (.lmul, 1) := by decide +kernel
theorem dX9_bound_73 : decode cX9_bound 73 = .ok (.ldc2_w 195, 3) := by decide +kernel
theorem dX9_bound_76 : decode cX9_bound 76 = .ok (.lmul, 1) := by decide +kernel
theorem dX9_bound_77 : decode cX9_bound 77 = .ok (.lstore 6, 2) := by decide +kernel
theorem dX9_bound_79 : decode cX9_bound 79 = .ok (.aload_n 0, 1) := by decide +kernel
theorem dX9_bound_80 : decode cX9_bound 80 = .ok (.invokevirtual 197, 3) := by decide +kernel
theorem dX9_bound_83 : decode cX9_bound 83 = .ok (.istore 8, 2) := by decide +kernel
theorem dX9_bound_85 : decode cX9_bound 85 = .ok (.iload 8, 2) := by decide +kernel
theorem dX9_bound_87 : decode cX9_bound 87 = .ok (.ifCond .lt 52, 3) := by decide +kernel
theorem dX9_bound_90 : decode cX9_bound 90 = .ok (.aload_n 0, 1) := by decide +kernel
theorem dX9_bound_91 : decode cX9_bound 91 = .ok (.getfield 58, 3) := by decide +kernel
theorem dX9_bound_94 : decode cX9_bound 94 = .ok (.iload_n 1, 1) := by decide +kernel
theorem dX9_bound_95 : decode cX9_bound 95 = .ok (.laload, 1) := by decide +kernel
theorem dX9_bound_96 : decode cX9_bound 96 = .ok (.aload_n 0, 1) := by decide +kernel
theorem dX9_bound_97 : decode cX9_bound 97 = .ok (.iload 8, 2) := by decide +kernel
theorem dX9_bound_99 : decode cX9_bound 99 = .ok (.invokevirtual 153, 3) := by decide +kernel
theorem dX9_bound_102 : decode cX9_bound 102 = .ok (.i2l, 1) := by decide +kernel
theorem dX9_bound_103 : decode cX9_bound 103 = .ok (.lmul, 1) := by decide +kernel
theorem dX9_bound_104 : decode cX9_bound 104 = .ok (.lstore 9, 2) := by decide +kernel
theorem dX9_bound_106 : decode cX9_bound 106 = .ok (.aload_n 0, 1) := by decide +kernel
theorem dX9_bound_107 : decode cX9_bound 107 = .ok (.getfield 58, 3) := by decide +kernel
theorem dX9_bound_110 : decode cX9_bound 110 = .ok (.iload 8, 2) := by decide +kernel
theorem dX9_bound_112 : decode cX9_bound 112 = .ok (.laload, 1) := by decide +kernel
theorem dX9_bound_113 : decode cX9_bound 113 = .ok (.lstore 11, 2) := by decide +kernel
theorem dX9_bound_115 : decode cX9_bound 115 = .ok (.lload 9, 2) := by decide +kernel
theorem dX9_bound_117 : decode cX9_bound 117 = .ok (.lload 4, 2) := by decide +kernel
theorem dX9_bound_119 : decode cX9_bound 119 = .ok (.lmul, 1) := by decide +kernel
theorem dX9_bound_120 : decode cX9_bound 120 = .ok (.lload 6, 2) := by decide +kernel
theorem dX9_bound_122 : decode cX9_bound 122 = .ok (.lload 11, 2) := by decide +kernel
theorem dX9_bound_124 : decode cX9_bound 124 = .ok (.lmul, 1) := by decide +kernel
theorem dX9_bound_125 : decode cX9_bound 125 = .ok (.lcmp, 1) := by decide +kernel
theorem dX9_bound_126 : decode cX9_bound 126 = .ok (.ifCond .ge 13, 3) := by decide +kernel
theorem dX9_bound_129 : decode cX9_bound 129 = .ok (.aload_n 0, 1) := by decide +kernel
theorem dX9_bound_130 : decode cX9_bound 130 = .ok (.lload 9, 2) := by decide +kernel
theorem dX9_bound_132 : decode cX9_bound 132 = .ok (.lload 11, 2) := by decide +kernel
theorem dX9_bound_134 : decode cX9_bound 134 = .ok (.iconst 1, 1) := by decide +kernel
theorem dX9_bound_135 : decode cX9_bound 135 = .ok (.invokevirtual 149, 3) := by decide +kernel
theorem dX9_bound_138 : decode cX9_bound 138 = .ok (.ireturn, 1) := by decide +kernel
theorem dX9_bound_139 : decode cX9_bound 139 = .ok (.aload_n 0, 1) := by decide +kernel
theorem dX9_bound_140 : decode cX9_bound 140 = .ok (.lload 6, 2) := by decide +kernel
theorem dX9_bound_142 : decode cX9_bound 142 = .ok (.lload 4, 2) := by decide +kernel
theorem dX9_bound_144 : decode cX9_bound 144 = .ok (.iconst 1, 1) := by decide +kernel
theorem dX9_bound_145 : decode cX9_bound 145 = .ok (.invokevirtual 149, 3) := by decide +kernel
theorem dX9_bound_148 : decode cX9_bound 148 = .ok (.ireturn, 1) := by decide +kernel
theorem cv_X9_bound : wn_cV yX9_bound cX9_bound 13 (some .int) RX9 2 := ⟨wm_786, wm_1018, wm_1019, wm_637, by decide +kernel⟩
abbrev rm_X9_bound : Room := rmz 4 100
set_option maxHeartbeats 4000000 in
set_option maxRecDepth 100000 in
theorem c_X9_bound {ad : Nat → Nat} {o : Nat} {x1 : Int32} {x2 : Int32} {M : Mm} {q : Int32 × Mm} (ho : shp o = 9) (hF : f_X9_bound o x1 x2 M = some q) : KI ad yX9_bound cX9_bound 13 (some .int) rm_X9_bound [.ref (ad o), .int x1, .int x2] M q.1 q.2 := by
  refine wn_enterI (own := RX9) (by decide) rfl (Nat.le_of_ble_eq_true rfl) (fun X ls Z hQ hl => ?_)
  have hl : lv_has ls 13 [(0, .ref (ad o)), (1, .int x1), (2, .int x2)] := hl
  have L139 : ∀ (v4 : Int64) (v6 : Int64) (M : Mm) (ls : Array Slot), lv_has ls 13 [(0, .ref (ad o)), (4, .long v4), (6, .long v6)] → f_X9_bound_b139 o v4 v6 M = some q → G ad X M 139 ls [] := by
    intro v4 v6 M ls hl hF
    unfold f_X9_bound_b139 at hF
    refine r_aload_n Z dX9_bound_139 rfl (lv_at hl 0 rfl) ?_
    refine r_lload Z dX9_bound_140 (lv_at hl 2 rfl) ?_
    refine r_lload Z dX9_bound_142 (lv_at hl 1 rfl) ?_
    refine r_iconst (v := 1) Z dX9_bound_144 (by decide) ?_
    obtain ⟨q3, hq3, hF⟩ := bd_some hF
    refine r_invVi [] Z (c_X9_share ho hq3) cv_X9_share rfl (shp_lt ho (by decide)) (fun _ _ => ⟨_, ce_9 ho⟩) wm_719 rfl rfl ⟨Nat.le_of_ble_eq_true rfl, Nat.le_of_ble_eq_true rfl⟩ rfl hl.1 rfl (Nat.le_of_ble_eq_true rfl) dX9_bound_145 ?_
    exact r_iret Z hQ hF dX9_bound_148
  have L27 : ∀ (n27 : Nat) (v1 : Int32) (v2 : Int32) (v4 : Int64) (v6 : Int32) (M : Mm) (ls : Array Slot), lv_has ls 13 [(0, .ref (ad o)), (1, .int v1), (2, .int v2), (4, .long v4), (6, .int v6)] → f_X9_bound_b27 o n27 v1 v2 v4 v6 M = some q → G ad X M 27 ls [] := by
    intro n27
    induction n27 with
    | zero =>
      intro v1 v2 v4 v6 M ls hl hF
      cases hF
    | succ n27 ih27 =>
      have L55 : ∀ (v1 : Int32) (v2 : Int32) (v6 : Int32) (s0 : Int64) (s1 : Int64) (M : Mm) (ls : Array Slot), lv_has ls 13 [(0, .ref (ad o)), (1, .int v1), (2, .int v2), (6, .int v6)] → f_X9_bound_b55 (f_X9_bound_b27 o n27) o v1 v2 v6 s0 s1 M = some q → G ad X M 55 ls [.long s1, .long s0] := by
        intro v1 v2 v6 s0 s1 M ls hl hF
        unfold f_X9_bound_b55 at hF
        refine r_ladd Z dX9_bound_55 ?_
        obtain ⟨t1, et1, hF⟩ := nm_some hF
        rw [← et1]
        refine r_lstore Z [(4, .long t1), (0, .ref (ad o)), (1, .int v1), (2, .int v2), (6, .int v6)] dX9_bound_56 hl (by decide) rfl (fun ls hl => ?_)
        obtain ⟨t2, et2, hF⟩ := nm_some hF
        refine r_iinc (j := 4) Z t2 [(6, .int t2), (4, .long t1), (0, .ref (ad o)), (1, .int v1), (2, .int v2)] dX9_bound_58 hl rfl (by rw [et2]; rfl) (by decide) rfl (fun ls hl => ?_)
        refine r_goto Z 27 dX9_bound_61 (by decide) ?_
        exact ih27 v1 v2 t1 t2 M ls (lv_sub hl [2, 3, 4, 1, 0] rfl) hF
      intro v1 v2 v4 v6 M ls hl hF
      replace hF : f_X9_bound_b27B (f_X9_bound_b27 o n27) o v1 v2 v4 v6 M = some q := hF
      unfold f_X9_bound_b27B at hF
      refine r_iload Z dX9_bound_27 (lv_at hl 4 rfl) ?_
      refine r_iconst (v := 4) Z dX9_bound_29 (by decide) ?_
      refine r_icmp_ge Z 64 dX9_bound_30 (by decide) (fun hc4 => ?_) (fun hc4 => ?_)
      · replace hF := if_some hc4 hF
        refine r_aload_n Z dX9_bound_64 rfl (lv_at hl 0 rfl) ?_
        refine g_9_20 Z ho wm_624 dX9_bound_65 ?_
        refine r_iload_n Z dX9_bound_68 rfl (lv_at hl 1 rfl) ?_
        obtain ⟨hi5, hF⟩ := ck_some hF
        refine r_laload Z (shp_lt (sh_9_20 ho) (by decide)) (fun _ _ => ce_1004 (sh_9_20 ho)) hi5 dX9_bound_69 ?_
        refine r_iload_n Z dX9_bound_70 rfl (lv_at hl 2 rfl) ?_
        refine r_i2l Z dX9_bound_71 ?_
        refine r_lmul Z dX9_bound_72 ?_
        refine r_ldc2 Z wm_775 dX9_bound_73 ?_
        refine r_lmul Z dX9_bound_76 ?_
        obtain ⟨t6, et6, hF⟩ := nm_some hF
        rw [← et6]
        refine r_lstore Z [(6, .long t6), (0, .ref (ad o)), (1, .int v1), (2, .int v2), (4, .long v4)] dX9_bound_77 hl (by decide) rfl (fun ls hl => ?_)
        refine r_aload_n Z dX9_bound_79 rfl (lv_at hl 1 rfl) ?_
        obtain ⟨q7, hq7, hF⟩ := bd_some hF
        refine r_invVi [] Z (c_X9_narrowOf ho hq7) cv_X9_narrowOf rfl (shp_lt ho (by decide)) (fun _ _ => ⟨_, ce_9 ho⟩) wm_782 rfl rfl ⟨Nat.le_of_ble_eq_true rfl, Nat.le_of_ble_eq_true rfl⟩ rfl hl.1 rfl (Nat.le_of_ble_eq_true rfl) dX9_bound_80 ?_
        refine r_istore Z [(8, .int q7.1), (6, .long t6), (0, .ref (ad o)), (1, .int v1), (2, .int v2), (4, .long v4)] dX9_bound_83 hl (by decide) rfl (fun ls hl => ?_)
        refine r_iload Z dX9_bound_85 (lv_at hl 0 rfl) ?_
        refine r_if_lt Z 139 dX9_bound_87 (by decide) (fun hc8 => ?_) (fun hc8 => ?_)
        · replace hF := if_some hc8 hF
          exact L139 v4 t6 q7.2 ls (lv_sub hl [2, 5, 1] rfl) hF
        · replace hF := nif_some hc8 hF
          refine r_aload_n Z dX9_bound_90 rfl (lv_at hl 2 rfl) ?_
          refine g_9_20 Z ho wm_624 dX9_bound_91 ?_
          refine r_iload_n Z dX9_bound_94 rfl (lv_at hl 3 rfl) ?_
          obtain ⟨hi9, hF⟩ := ck_some hF
          refine r_laload Z (shp_lt (sh_9_20 ho) (by decide)) (fun _ _ => ce_1004 (sh_9_20 ho)) hi9 dX9_bound_95 ?_
          refine r_aload_n Z dX9_bound_96 rfl (lv_at hl 2 rfl) ?_
          refine r_iload Z dX9_bound_97 (lv_at hl 0 rfl) ?_
          obtain ⟨q10, hq10, hF⟩ := bd_some hF
          refine r_invVi [.long (mJ q7.2 (fld o 20) (Int32.toNatClampNeg v1))] Z (c_X9_bears ho hq10) cv_X9_bears rfl (shp_lt ho (by decide)) (fun _ _ => ⟨_, ce_9 ho⟩) wm_725 rfl rfl ⟨Nat.le_of_ble_eq_true rfl, Nat.le_of_ble_eq_true rfl⟩ rfl hl.1 rfl (Nat.le_of_ble_eq_true rfl) dX9_bound_99 ?_
          refine r_i2l Z dX9_bound_102 ?_
          refine r_lmul Z dX9_bound_103 ?_
          obtain ⟨t11, et11, hF⟩ := nm_some hF
          rw [← et11]
          refine r_lstore Z [(9, .long t11), (8, .int q7.1), (6, .long t6), (0, .ref (ad o)), (1, .int v1), (2, .int v2), (4, .long v4)] dX9_bound_104 hl (by decide) rfl (fun ls hl => ?_)
          refine r_aload_n Z dX9_bound_106 rfl (lv_at hl 3 rfl) ?_
          refine g_9_20 Z ho wm_624 dX9_bound_107 ?_
          refine r_iload Z dX9_bound_110 (lv_at hl 1 rfl) ?_
          obtain ⟨hi12, hF⟩ := ck_some hF
          refine r_laload Z (shp_lt (sh_9_20 ho) (by decide)) (fun _ _ => ce_1004 (sh_9_20 ho)) hi12 dX9_bound_112 ?_
          obtain ⟨t13, et13, hF⟩ := nm_some hF
          rw [← et13]
          refine r_lstore Z [(11, .long t13), (9, .long t11), (8, .int q7.1), (6, .long t6), (0, .ref (ad o)), (1, .int v1), (2, .int v2), (4, .long v4)] dX9_bound_113 hl (by decide) rfl (fun ls hl => ?_)
          refine r_lload Z dX9_bound_115 (lv_at hl 1 rfl) ?_
          refine r_lload Z dX9_bound_117 (lv_at hl 7 rfl) ?_
          refine r_lmul Z dX9_bound_119 ?_
          refine r_lload Z dX9_bound_120 (lv_at hl 3 rfl) ?_
          refine r_lload Z dX9_bound_122 (lv_at hl 0 rfl) ?_
          refine r_lmul Z dX9_bound_124 ?_
          refine r_lcmp Z dX9_bound_125 ?_
          refine r_if_ge Z 139 dX9_bound_126 (by decide) (fun hc14 => ?_) (fun hc14 => ?_)
          · replace hF := if_some hc14 hF
            exact L139 v4 t6 q10.2 ls (lv_sub hl [4, 7, 3] rfl) hF
          · replace hF := nif_some hc14 hF
            refine r_aload_n Z dX9_bound_129 rfl (lv_at hl 4 rfl) ?_
            refine r_lload Z dX9_bound_130 (lv_at hl 1 rfl) ?_
            refine r_lload Z dX9_bound_132 (lv_at hl 0 rfl) ?_
            refine r_iconst (v := 1) Z dX9_bound_134 (by decide) ?_
            obtain ⟨q15, hq15, hF⟩ := bd_some hF
            refine r_invVi [] Z (c_X9_share ho hq15) cv_X9_share rfl (shp_lt ho (by decide)) (fun _ _ => ⟨_, ce_9 ho⟩) wm_719 rfl rfl ⟨Nat.le_of_ble_eq_true rfl, Nat.le_of_ble_eq_true rfl⟩ rfl hl.1 rfl (Nat.le_of_ble_eq_true rfl) dX9_bound_135 ?_
            exact r_iret Z hQ hF dX9_bound_138
      · replace hF := nif_some hc4 hF
        refine r_lload Z dX9_bound_33 (lv_at hl 3 rfl) ?_
        refine r_aload_n Z dX9_bound_35 rfl (lv_at hl 0 rfl) ?_
        refine g_9_8 Z ho wm_614 dX9_bound_36 ?_
        refine r_iload Z dX9_bound_39 (lv_at hl 4 rfl) ?_
        obtain ⟨hi16, hF⟩ := ck_some hF
        refine r_zaload Z (shp_lt (sh_9_8 ho) (by decide)) (fun _ _ => ce_2004 (sh_9_8 ho)) hi16 dX9_bound_41 ?_
        refine r_if_eq Z 54 dX9_bound_42 (by decide) (fun hc17 => ?_) (fun hc17 => ?_)
        · replace hF := if_some hc17 hF
          refine r_lconst (v := 0) Z dX9_bound_54 (by decide) ?_
          exact L55 v1 v2 v6 v4 0 M ls (lv_sub hl [0, 1, 2, 4] rfl) hF
        · replace hF := nif_some hc17 hF
          refine r_aload_n Z dX9_bound_45 rfl (lv_at hl 0 rfl) ?_
          refine r_iload Z dX9_bound_46 (lv_at hl 4 rfl) ?_
          obtain ⟨q18, hq18, hF⟩ := bd_some hF
          refine r_invVl [.long v4] Z (c_X9_part ho hq18) cv_X9_part rfl (shp_lt ho (by decide)) (fun _ _ => ⟨_, ce_9 ho⟩) wm_754 rfl rfl ⟨Nat.le_of_ble_eq_true rfl, Nat.le_of_ble_eq_true rfl⟩ rfl hl.1 rfl (Nat.le_of_ble_eq_true rfl) dX9_bound_48 ?_
          refine r_goto Z 55 dX9_bound_51 (by decide) ?_
          exact L55 v1 v2 v6 v4 q18.1 q18.2 ls (lv_sub hl [0, 1, 2, 4] rfl) hF
  unfold f_X9_bound at hF
  refine r_iload_n Z dX9_bound_0 rfl (lv_at hl 2 rfl) ?_
  obtain ⟨q19, hq19, hF⟩ := bd_some hF
  refine r_invSi [] Z (c_X9_isMany hq19) cv_X9_isMany wm_776 rfl rfl ⟨Nat.le_of_ble_eq_true rfl, Nat.le_of_ble_eq_true rfl⟩ rfl hl.1 rfl (Nat.le_of_ble_eq_true rfl) dX9_bound_1 ?_
  refine r_if_ne Z 9 dX9_bound_4 (by decide) (fun hc20 => ?_) (fun hc20 => ?_)
  · replace hF := nif_some hc20 hF
    refine r_aload_n Z dX9_bound_9 rfl (lv_at hl 0 rfl) ?_
    refine r_iload_n Z dX9_bound_10 rfl (lv_at hl 1 rfl) ?_
    obtain ⟨q21, hq21, hF⟩ := bd_some hF
    refine r_invVi [] Z (c_X9_askedClosed ho hq21) cv_X9_askedClosed rfl (shp_lt ho (by decide)) (fun _ _ => ⟨_, ce_9 ho⟩) wm_748 rfl rfl ⟨Nat.le_of_ble_eq_true rfl, Nat.le_of_ble_eq_true rfl⟩ rfl hl.1 rfl (Nat.le_of_ble_eq_true rfl) dX9_bound_11 ?_
    refine r_istore_n Z [(3, .int q21.1), (0, .ref (ad o)), (1, .int x1), (2, .int x2)] dX9_bound_14 rfl hl (by decide) rfl (fun ls hl => ?_)
    refine r_iload_n Z dX9_bound_15 rfl (lv_at hl 0 rfl) ?_
    refine r_if_ge Z 21 dX9_bound_16 (by decide) (fun hc22 => ?_) (fun hc22 => ?_)
    · replace hF := if_some hc22 hF
      refine r_lconst (v := 0) Z dX9_bound_21 (by decide) ?_
      refine r_lstore Z [(4, .long 0), (3, .int q21.1), (0, .ref (ad o)), (1, .int x1), (2, .int x2)] dX9_bound_22 hl (by decide) rfl (fun ls hl => ?_)
      refine r_iconst (v := 0) Z dX9_bound_24 (by decide) ?_
      refine r_istore Z [(6, .int 0), (4, .long 0), (3, .int q21.1), (0, .ref (ad o)), (1, .int x1), (2, .int x2)] dX9_bound_25 hl (by decide) rfl (fun ls hl => ?_)
      exact L27 _ x1 x2 0 0 q21.2 ls (lv_sub hl [3, 4, 5, 1, 0] rfl) hF
    · replace hF := nif_some hc22 hF
      refine r_iload_n Z dX9_bound_19 rfl (lv_at hl 0 rfl) ?_
      exact r_iret Z hQ hF dX9_bound_20
  · replace hF := if_some hc20 hF
    refine r_iconst (v := (-1)) Z dX9_bound_7 (by decide) ?_
    exact r_iret Z hQ hF dX9_bound_8
theorem dX9_chance_0 : decode cX9_chance 0 = .ok (.iload_n 1, 1) := by decide +kernel
theorem dX9_chance_1 : decode cX9_chance 1 = .ok (.invokestatic 85, 3) := by decide +kernel
theorem dX9_chance_4 : decode cX9_chance 4 = .ok (.ifCond .ne 5, 3) := by decide +kernel
theorem dX9_chance_7 : decode cX9_chance 7 = .ok (.iconst (-1), 1) := by decide +kernel
theorem dX9_chance_8 : decode cX9_chance 8 = .ok (.ireturn, 1) := by decide +kernel
theorem dX9_chance_9 : decode cX9_chance 9 = .ok (.aload_n 0, 1) := by decide +kernel
theorem dX9_chance_10 : decode cX9_chance 10 = .ok (.invokevirtual 164, 3) := by decide +kernel
theorem dX9_chance_13 : decode cX9_chance 13 = .ok (.ifCond .ne 6, 3) := by decide +kernel
theorem dX9_chance_16 : decode cX9_chance 16 = .ok (.bipush (-4), 2) := by decide +kernel
theorem dX9_chance_18 : decode cX9_chance 18 = .ok (.ireturn, 1) := by decide +kernel
theorem dX9_chance_19 : decode cX9_chance 19 = .ok (.aload_n 0, 1) := by decide +kernel
theorem dX9_chance_20 : decode cX9_chance 20 = .ok (.getfield 17, 3) := by decide +kernel
theorem dX9_chance_23 : decode cX9_chance 23 = .ok (.iload_n 1, 1) := by decide +kernel
theorem dX9_chance_24 : decode cX9_chance 24 = .ok (.iaload, 1) := by decide +kernel
theorem dX9_chance_25 : decode cX9_chance 25 = .ok (.ifCond .ge 9, 3) := by decide +kernel
theorem dX9_chance_28 : decode cX9_chance 28 = .ok (.aload_n 0, 1) := by decide +kernel
theorem dX9_chance_29 : decode cX9_chance 29 = .ok (.iconst 1, 1) := by decide +kernel
theorem dX9_chance_30 : decode cX9_chance 30 = .ok (.invokevirtual 89, 3) := by decide +kernel
theorem dX9_chance_33 : decode cX9_chance 33 = .ok (.ireturn, 1) := by decide +kernel
theorem dX9_chance_34 : decode cX9_chance 34 = .ok (.aload_n 0, 1) := by decide +kernel
theorem dX9_chance_35 : decode cX9_chance 35 = .ok (.getfield 17, 3) := by decide +kernel
theorem dX9_chance_38 : decode cX9_chance 38 = .ok (.iload_n 1, 1) := by decide +kernel
theorem dX9_chance_39 : decode cX9_chance 39 = .ok (.iaload, 1) := by decide +kernel
theorem dX9_chance_40 : decode cX9_chance 40 = .ok (.iconst 4, 1) := by decide +kernel
theorem dX9_chance_41 : decode cX9_chance 41 = .ok (.if_icmp .eq 9, 3) := by decide +kernel
theorem dX9_chance_44 : decode cX9_chance 44 = .ok (.aload_n 0, 1) := by decide +kernel
theorem dX9_chance_45 : decode cX9_chance 45 = .ok (.iconst 5, 1) := by decide +kernel
theorem dX9_chance_46 : decode cX9_chance 46 = .ok (.invokevirtual 89, 3) := by decide +kernel
theorem dX9_chance_49 : decode cX9_chance 49 = .ok (.ireturn, 1) := by decide +kernel
theorem dX9_chance_50 : decode cX9_chance 50 = .ok (.iconst 0, 1) := by decide +kernel
theorem dX9_chance_51 : decode cX9_chance 51 = .ok (.istore_n 2, 1) := by decide +kernel
theorem dX9_chance_52 : decode cX9_chance 52 = .ok (.iconst 1, 1) := by decide +kernel
theorem dX9_chance_53 : decode cX9_chance 53 = .ok (.istore_n 3, 1) := by decide +kernel
theorem dX9_chance_54 : decode cX9_chance 54 = .ok (.iconst 0, 1) := by decide +kernel
theorem dX9_chance_55 : decode cX9_chance 55 = .ok (.istore 4, 2) := by decide +kernel
theorem dX9_chance_57 : decode cX9_chance 57 = .ok (.iload 4, 2) := by decide +kernel
theorem dX9_chance_59 : decode cX9_chance 59 = .ok (.iconst 4, 1) := by decide +kernel
theorem dX9_chance_60 : decode cX9_chance 60 = .ok (.if_icmp .ge 70, 3) := by decide +kernel
theorem dX9_chance_63 : decode cX9_chance 63 = .ok (.aload_n 0, 1) := by decide +kernel
theorem dX9_chance_64 : decode cX9_chance 64 = .ok (.getfield 20, 3) := by decide +kernel
theorem dX9_chance_67 : decode cX9_chance 67 = .ok (.bipush 40, 2) := by decide +kernel
theorem dX9_chance_69 : decode cX9_chance 69 = .ok (.iload_n 1, 1) := by decide +kernel
theorem dX9_chance_70 : decode cX9_chance 70 = .ok (.imul, 1) := by decide +kernel
theorem dX9_chance_71 : decode cX9_chance 71 = .ok (.iload 4, 2) := by decide +kernel
theorem dX9_chance_73 : decode cX9_chance 73 = .ok (.iadd, 1) := by decide +kernel
theorem dX9_chance_74 : decode cX9_chance 74 = .ok (.iaload, 1) := by decide +kernel
theorem dX9_chance_75 : decode cX9_chance 75 = .ok (.istore 5, 2) := by decide +kernel
theorem dX9_chance_77 : decode cX9_chance 77 = .ok (.iload_n 3, 1) := by decide +kernel
theorem dX9_chance_78 : decode cX9_chance 78 = .ok (.ifCond .eq 31, 3) := by decide +kernel
theorem dX9_chance_81 : decode cX9_chance 81 = .ok (.iload 5, 2) := by decide +kernel
theorem dX9_chance_83 : decode cX9_chance 83 = .ok (.iconst 0, 1) := by decide +kernel
theorem dX9_chance_84 : decode cX9_chance 84 = .ok (.aload_n 0, 1) := by decide +kernel
theorem dX9_chance_85 : decode cX9_chance 85 = .ok (.getfield 26, 3) := by decide +kernel
theorem dX9_chance_88 : decode cX9_chance 88 = .ok (.iload 4, 2) := by decide +kernel
theorem dX9_chance_90 : decode cX9_chance 90 = .ok (.baload, 1) := by decide +kernel
theorem dX9_chance_91 : decode cX9_chance 91 = .ok (.ifCond .eq 7, 3) := by decide +kernel
theorem dX9_chance_94 : decode cX9_chance 94 = .ok (.iconst 4, 1) := by decide +kernel
theorem dX9_chance_95 : decode cX9_chance 95 = .ok (.goto 4, 3) := by decide +kernel
theorem dX9_chance_98 : decode cX9_chance 98 = .ok (.iconst 0, 1) := by decide +kernel
theorem dX9_chance_99 : decode cX9_chance 99 = .ok (.invokestatic 81, 3) := by decide +kernel
theorem dX9_chance_102 : decode cX9_chance 102 = .ok (.ifCond .eq 7, 3) := by decide +kernel
theorem dX9_chance_105 : decode cX9_chance 105 = .ok (.iconst 1, 1) := by decide +kernel
theorem dX9_chance_106 : decode cX9_chance 106 = .ok (.goto 4, 3) := by decide +kernel
theorem dX9_chance_109 : decode cX9_chance 109 = .ok (.iconst 0, 1) := by decide +kernel
theorem dX9_chance_110 : decode cX9_chance 110 = .ok (.istore_n 3, 1) := by decide +kernel
theorem dX9_chance_111 : decode cX9_chance 111 = .ok (.iload_n 2, 1) := by decide +kernel
theorem dX9_chance_112 : decode cX9_chance 112 = .ok (.iload_n 3, 1) := by decide +kernel
theorem dX9_chance_113 : decode cX9_chance 113 = .ok (.ifCond .eq 8, 3) := by decide +kernel
theorem dX9_chance_116 : decode cX9_chance 116 = .ok (.iload 5, 2) := by decide +kernel
theorem dX9_chance_118 : decode cX9_chance 118 = .ok (.goto 4, 3) := by decide +kernel
theorem dX9_chance_121 : decode cX9_chance 121 = .ok (.iconst 0, 1) := by decide +kernel
theorem dX9_chance_122 : decode cX9_chance 122 = .ok (.iadd, 1) := by decide +kernel
theorem dX9_chance_123 : decode cX9_chance 123 = .ok (.istore_n 2, 1) := by decide +kernel
theorem dX9_chance_124 : decode cX9_chance 124 = .ok (.iinc 4 1, 3) := by decide +kernel
theorem dX9_chance_127 : decode cX9_chance 127 = .ok (.goto (-70), 3) := by decide +kernel
theorem dX9_chance_130 : decode cX9_chance 130 = .ok (.iload_n 3, 1) := by decide +kernel
theorem dX9_chance_131 : decode cX9_chance 131 = .ok (.ifCond .eq 12, 3) := by decide +kernel
theorem dX9_chance_134 : decode cX9_chance 134 = .ok (.iload_n 2, 1) := by decide +kernel
theorem dX9_chance_135 : decode cX9_chance 135 = .ok (.iconst 1, 1) := by decide +kernel
theorem dX9_chance_136 : decode cX9_chance 136 = .ok (.iconst 4, 1) := by decide +kernel
theorem dX9_chance_137 : decode cX9_chance 137 = .ok (.invokestatic 81, 3) := by decide +kernel
theorem dX9_chance_140 : decode cX9_chance 140 = .ok (.ifCond .ne 9, 3) := by decide +kernel
theorem dX9_chance_143 : decode cX9_chance 143 = .ok (.aload_n 0, 1) := by decide +kernel
theorem dX9_chance_144 : decode cX9_chance 144 = .ok (.iconst 3, 1) := by decide +kernel
theorem dX9_chance_145 : decode cX9_chance 145 = .ok (.invokevirtual 89, 3) := by decide +kernel
theorem dX9_chance_148 : decode cX9_chance 148 = .ok (.ireturn, 1) := by decide +kernel
theorem dX9_chance_149 : decode cX9_chance 149 = .ok (.aload_n 0, 1) := by decide +kernel
theorem dX9_chance_150 : decode cX9_chance 150 = .ok (.invokevirtual 167, 3) := by decide +kernel
theorem dX9_chance_153 : decode cX9_chance 153 = .ok (.aload_n 0, 1) := by decide +kernel
theorem dX9_chance_154 : decode cX9_chance 154 = .ok (.iload_n 2, 1) := by decide +kernel
theorem dX9_chance_155 : decode cX9_chance 155 = .ok (.bipush (-9), 2) := by decide +kernel
theorem dX9_chance_157 : decode cX9_chance 157 = .ok (.invokevirtual 189, 3) := by decide +kernel
theorem dX9_chance_160 : decode cX9_chance 160 = .ok (.lstore 4, 2) := by decide +kernel
theorem dX9_chance_162 : decode cX9_chance 162 = .ok (.iconst 0, 1) := by decide +kernel
theorem dX9_chance_163 : decode cX9_chance 163 = .ok (.istore 6, 2) := by decide +kernel
theorem dX9_chance_165 : decode cX9_chance 165 = .ok (.iload 6, 2) := by decide +kernel
theorem dX9_chance_167 : decode cX9_chance 167 = .ok (.iconst 4, 1) := by decide +kernel
theorem dX9_chance_168 : decode cX9_chance 168 = .ok (.if_icmp .ge 28, 3) := by decide +kernel
theorem dX9_chance_171 : decode cX9_chance 171 = .ok (.aload_n 0, 1) := by decide +kernel
theorem dX9_chance_172 : decode cX9_chance 172 = .ok (.getfield 61, 3) := by decide +kernel
theorem dX9_chance_175 : decode cX9_chance 175 = .ok (.iload 6, 2) := by decide +kernel
theorem dX9_chance_177 : decode cX9_chance 177 = .ok (.aload_n 0, 1) := by decide +kernel
theorem dX9_chance_178 : decode cX9_chance 178 = .ok (.getfield 20, 3) := by decide +kernel
theorem dX9_chance_181 : decode cX9_chance 181 = .ok (.bipush 40, 2) := by decide +kernel
theorem dX9_chance_183 : decode cX9_chance 183 = .ok (.iload_n 1, 1) := by decide +kernel
theorem dX9_chance_184 : decode cX9_chance 184 = .ok (.imul, 1) := by decide +kernel
theorem dX9_chance_185 : decode cX9_chance 185 = .ok (.iload 6, 2) := by decide +kernel
theorem dX9_chance_187 : decode cX9_chance 187 = .ok (.iadd, 1) := by decide +kernel
theorem dX9_chance_188 : decode cX9_chance 188 = .ok (.iaload, 1) := by decide +kernel
theorem dX9_chance_189 : decode cX9_chance 189 = .ok (.iastore, 1) := by decide +kernel
theorem dX9_chance_190 : decode cX9_chance 190 = .ok (.iinc 6 1, 3) := by decide +kernel
theorem dX9_chance_193 : decode cX9_chance 193 = .ok (.goto (-28), 3) := by decide +kernel
theorem dX9_chance_196 : decode cX9_chance 196 = .ok (.aload_n 0, 1) := by decide +kernel
theorem dX9_chance_197 : decode cX9_chance 197 = .ok (.aload_n 0, 1) := by decide +kernel
theorem dX9_chance_198 : decode cX9_chance 198 = .ok (.invokevirtual 185, 3) := by decide +kernel
theorem dX9_chance_201 : decode cX9_chance 201 = .ok (.lload 4, 2) := by decide +kernel
theorem dX9_chance_203 : decode cX9_chance 203 = .ok (.iload_n 2, 1) := by decide +kernel
theorem dX9_chance_204 : decode cX9_chance 204 = .ok (.invokevirtual 149, 3) := by decide +kernel
theorem dX9_chance_207 : decode cX9_chance 207 = .ok (.ireturn, 1) := by decide +kernel
theorem cv_X9_chance : wn_cV yX9_chance cX9_chance 7 (some .int) RX9 1 := ⟨wm_773, wm_988, wm_989, wm_637, by decide +kernel⟩
abbrev rm_X9_chance : Room := rmz 4 93
set_option maxHeartbeats 4000000 in
set_option maxRecDepth 100000 in
theorem c_X9_chance {ad : Nat → Nat} {o : Nat} {x1 : Int32} {M : Mm} {q : Int32 × Mm} (ho : shp o = 9) (hF : f_X9_chance o x1 M = some q) : KI ad yX9_chance cX9_chance 7 (some .int) rm_X9_chance [.ref (ad o), .int x1] M q.1 q.2 := by
  refine wn_enterI (own := RX9) (by decide) rfl (Nat.le_of_ble_eq_true rfl) (fun X ls Z hQ hl => ?_)
  have hl : lv_has ls 7 [(0, .ref (ad o)), (1, .int x1)] := hl
  have L143 : ∀ (M : Mm) (ls : Array Slot), lv_has ls 7 [(0, .ref (ad o))] → f_X9_chance_b143 o M = some q → G ad X M 143 ls [] := by
    intro M ls hl hF
    unfold f_X9_chance_b143 at hF
    refine r_aload_n Z dX9_chance_143 rfl (lv_at hl 0 rfl) ?_
    refine r_iconst (v := 3) Z dX9_chance_144 (by decide) ?_
    obtain ⟨q8, hq8, hF⟩ := bd_some hF
    refine r_invVi [] Z (c_X9_meets ho hq8) cv_X9_meets rfl (shp_lt ho (by decide)) (fun _ _ => ⟨_, ce_9 ho⟩) wm_644 rfl rfl ⟨Nat.le_of_ble_eq_true rfl, Nat.le_of_ble_eq_true rfl⟩ rfl hl.1 rfl (Nat.le_of_ble_eq_true rfl) dX9_chance_145 ?_
    exact r_iret Z hQ hF dX9_chance_148
  have L165 : ∀ (n165 : Nat) (v1 : Int32) (v2 : Int32) (v4 : Int64) (v6 : Int32) (M : Mm) (ls : Array Slot), lv_has ls 7 [(0, .ref (ad o)), (1, .int v1), (2, .int v2), (4, .long v4), (6, .int v6)] → f_X9_chance_b165 o n165 v1 v2 v4 v6 M = some q → G ad X M 165 ls [] := by
    intro n165
    induction n165 with
    | zero =>
      intro v1 v2 v4 v6 M ls hl hF
      cases hF
    | succ n165 ih165 =>
      intro v1 v2 v4 v6 M ls hl hF
      replace hF : f_X9_chance_b165B (f_X9_chance_b165 o n165) o v1 v2 v4 v6 M = some q := hF
      unfold f_X9_chance_b165B at hF
      refine r_iload Z dX9_chance_165 (lv_at hl 4 rfl) ?_
      refine r_iconst (v := 4) Z dX9_chance_167 (by decide) ?_
      refine r_icmp_ge Z 196 dX9_chance_168 (by decide) (fun hc9 => ?_) (fun hc9 => ?_)
      · replace hF := if_some hc9 hF
        refine r_aload_n Z dX9_chance_196 rfl (lv_at hl 0 rfl) ?_
        refine r_aload_n Z dX9_chance_197 rfl (lv_at hl 0 rfl) ?_
        obtain ⟨q10, hq10, hF⟩ := bd_some hF
        refine r_invVl [.ref (ad o)] Z (c_X9_weight ho hq10) cv_X9_weight rfl (shp_lt ho (by decide)) (fun _ _ => ⟨_, ce_9 ho⟩) wm_767 rfl rfl ⟨Nat.le_of_ble_eq_true rfl, Nat.le_of_ble_eq_true rfl⟩ rfl hl.1 rfl (Nat.le_of_ble_eq_true rfl) dX9_chance_198 ?_
        refine r_lload Z dX9_chance_201 (lv_at hl 3 rfl) ?_
        refine r_iload_n Z dX9_chance_203 rfl (lv_at hl 2 rfl) ?_
        obtain ⟨q11, hq11, hF⟩ := bd_some hF
        refine r_invVi [] Z (c_X9_share ho hq11) cv_X9_share rfl (shp_lt ho (by decide)) (fun _ _ => ⟨_, ce_9 ho⟩) wm_719 rfl rfl ⟨Nat.le_of_ble_eq_true rfl, Nat.le_of_ble_eq_true rfl⟩ rfl hl.1 rfl (Nat.le_of_ble_eq_true rfl) dX9_chance_204 ?_
        exact r_iret Z hQ hF dX9_chance_207
      · replace hF := nif_some hc9 hF
        refine r_aload_n Z dX9_chance_171 rfl (lv_at hl 0 rfl) ?_
        refine g_9_21 Z ho wm_625 dX9_chance_172 ?_
        refine r_iload Z dX9_chance_175 (lv_at hl 4 rfl) ?_
        refine r_aload_n Z dX9_chance_177 rfl (lv_at hl 0 rfl) ?_
        refine g_9_6 Z ho wm_611 dX9_chance_178 ?_
        refine r_bipush (v := 40) Z dX9_chance_181 (by decide) ?_
        refine r_iload_n Z dX9_chance_183 rfl (lv_at hl 1 rfl) ?_
        refine r_imul Z dX9_chance_184 ?_
        refine r_iload Z dX9_chance_185 (lv_at hl 4 rfl) ?_
        refine r_iadd Z dX9_chance_187 ?_
        obtain ⟨hi12, hF⟩ := ck_some hF
        refine r_iaload Z (shp_lt (sh_9_6 ho) (by decide)) (fun _ _ => ce_340 (sh_9_6 ho)) hi12 dX9_chance_188 ?_
        obtain ⟨hi13, hF⟩ := ck_some hF
        obtain ⟨M14, eM14, hF⟩ := nm_some hF
        refine r_iastore Z (shp_lt (sh_9_21 ho) (by decide)) (fun _ _ => ce_104 (sh_9_21 ho)) hi13 dX9_chance_189 ?_
        rw [← eM14]
        obtain ⟨t15, et15, hF⟩ := nm_some hF
        refine r_iinc (j := 4) Z t15 [(6, .int t15), (0, .ref (ad o)), (1, .int v1), (2, .int v2), (4, .long v4)] dX9_chance_190 hl rfl (by rw [et15]; rfl) (by decide) rfl (fun ls hl => ?_)
        refine r_goto Z 165 dX9_chance_193 (by decide) ?_
        exact ih165 v1 v2 v4 t15 M14 ls (lv_sub hl [1, 2, 3, 4, 0] rfl) hF
  have L57 : ∀ (n57 : Nat) (v1 : Int32) (v2 : Int32) (v3 : Int32) (v4 : Int32) (M : Mm) (ls : Array Slot), lv_has ls 7 [(0, .ref (ad o)), (1, .int v1), (2, .int v2), (3, .int v3), (4, .int v4)] → f_X9_chance_b57 o n57 v1 v2 v3 v4 M = some q → G ad X M 57 ls [] := by
    intro n57
    induction n57 with
    | zero =>
      intro v1 v2 v3 v4 M ls hl hF
      cases hF
    | succ n57 ih57 =>
      have L110 : ∀ (v1 : Int32) (v2 : Int32) (v4 : Int32) (v5 : Int32) (s0 : Int32) (M : Mm) (ls : Array Slot), lv_has ls 7 [(0, .ref (ad o)), (1, .int v1), (2, .int v2), (4, .int v4), (5, .int v5)] → f_X9_chance_b110 (f_X9_chance_b57 o n57) o v1 v2 v4 v5 s0 M = some q → G ad X M 110 ls [.int s0] := by
        intro v1 v2 v4 v5 s0 M ls hl hF
        unfold f_X9_chance_b110 at hF
        refine r_istore_n Z [(3, .int s0), (0, .ref (ad o)), (1, .int v1), (2, .int v2), (4, .int v4), (5, .int v5)] dX9_chance_110 rfl hl (by decide) rfl (fun ls hl => ?_)
        refine r_iload_n Z dX9_chance_111 rfl (lv_at hl 3 rfl) ?_
        refine r_iload_n Z dX9_chance_112 rfl (lv_at hl 0 rfl) ?_
        refine r_if_eq Z 121 dX9_chance_113 (by decide) (fun hc1 => ?_) (fun hc1 => ?_)
        · replace hF := if_some hc1 hF
          refine r_iconst (v := 0) Z dX9_chance_121 (by decide) ?_
          refine r_iadd Z dX9_chance_122 ?_
          obtain ⟨t2, et2, hF⟩ := nm_some hF
          rw [← et2]
          refine r_istore_n Z [(2, .int t2), (3, .int s0), (0, .ref (ad o)), (1, .int v1), (4, .int v4), (5, .int v5)] dX9_chance_123 rfl hl (by decide) rfl (fun ls hl => ?_)
          obtain ⟨t3, et3, hF⟩ := nm_some hF
          refine r_iinc (j := 4) Z t3 [(4, .int t3), (2, .int t2), (3, .int s0), (0, .ref (ad o)), (1, .int v1), (5, .int v5)] dX9_chance_124 hl rfl (by rw [et3]; rfl) (by decide) rfl (fun ls hl => ?_)
          refine r_goto Z 57 dX9_chance_127 (by decide) ?_
          exact ih57 v1 t2 s0 t3 M ls (lv_sub hl [3, 4, 1, 2, 0] rfl) hF
        · replace hF := nif_some hc1 hF
          refine r_iload Z dX9_chance_116 (lv_at hl 5 rfl) ?_
          refine r_goto Z 122 dX9_chance_118 (by decide) ?_
          refine r_iadd Z dX9_chance_122 ?_
          obtain ⟨t4, et4, hF⟩ := nm_some hF
          rw [← et4]
          refine r_istore_n Z [(2, .int t4), (3, .int s0), (0, .ref (ad o)), (1, .int v1), (4, .int v4), (5, .int v5)] dX9_chance_123 rfl hl (by decide) rfl (fun ls hl => ?_)
          obtain ⟨t5, et5, hF⟩ := nm_some hF
          refine r_iinc (j := 4) Z t5 [(4, .int t5), (2, .int t4), (3, .int s0), (0, .ref (ad o)), (1, .int v1), (5, .int v5)] dX9_chance_124 hl rfl (by rw [et5]; rfl) (by decide) rfl (fun ls hl => ?_)
          refine r_goto Z 57 dX9_chance_127 (by decide) ?_
          exact ih57 v1 t4 s0 t5 M ls (lv_sub hl [3, 4, 1, 2, 0] rfl) hF
      have L109 : ∀ (v1 : Int32) (v2 : Int32) (v4 : Int32) (v5 : Int32) (M : Mm) (ls : Array Slot), lv_has ls 7 [(0, .ref (ad o)), (1, .int v1), (2, .int v2), (4, .int v4), (5, .int v5)] → f_X9_chance_b109 (f_X9_chance_b57 o n57) o v1 v2 v4 v5 M = some q → G ad X M 109 ls [] := by
        intro v1 v2 v4 v5 M ls hl hF
        unfold f_X9_chance_b109 at hF
        refine r_iconst (v := 0) Z dX9_chance_109 (by decide) ?_
        exact L110 v1 v2 v4 v5 0 M ls (lv_sub hl [0, 1, 2, 3, 4] rfl) hF
      have L99 : ∀ (v1 : Int32) (v2 : Int32) (v4 : Int32) (v5 : Int32) (s0 : Int32) (s1 : Int32) (s2 : Int32) (M : Mm) (ls : Array Slot), lv_has ls 7 [(0, .ref (ad o)), (1, .int v1), (2, .int v2), (4, .int v4), (5, .int v5)] → f_X9_chance_b99 (f_X9_chance_b57 o n57) o v1 v2 v4 v5 s0 s1 s2 M = some q → G ad X M 99 ls [.int s2, .int s1, .int s0] := by
        intro v1 v2 v4 v5 s0 s1 s2 M ls hl hF
        unfold f_X9_chance_b99 at hF
        obtain ⟨q6, hq6, hF⟩ := bd_some hF
        refine r_invSi [] Z (c_X9_in hq6) cv_X9_in wm_639 rfl rfl ⟨Nat.le_of_ble_eq_true rfl, Nat.le_of_ble_eq_true rfl⟩ rfl hl.1 rfl (Nat.le_of_ble_eq_true rfl) dX9_chance_99 ?_
        refine r_if_eq Z 109 dX9_chance_102 (by decide) (fun hc7 => ?_) (fun hc7 => ?_)
        · replace hF := if_some hc7 hF
          exact L109 v1 v2 v4 v5 q6.2 ls (lv_sub hl [0, 1, 2, 3, 4] rfl) hF
        · replace hF := nif_some hc7 hF
          refine r_iconst (v := 1) Z dX9_chance_105 (by decide) ?_
          refine r_goto Z 110 dX9_chance_106 (by decide) ?_
          exact L110 v1 v2 v4 v5 1 q6.2 ls (lv_sub hl [0, 1, 2, 3, 4] rfl) hF
      intro v1 v2 v3 v4 M ls hl hF
      replace hF : f_X9_chance_b57B (f_X9_chance_b57 o n57) o v1 v2 v3 v4 M = some q := hF
      unfold f_X9_chance_b57B at hF
      refine r_iload Z dX9_chance_57 (lv_at hl 4 rfl) ?_
      refine r_iconst (v := 4) Z dX9_chance_59 (by decide) ?_
      refine r_icmp_ge Z 130 dX9_chance_60 (by decide) (fun hc16 => ?_) (fun hc16 => ?_)
      · replace hF := if_some hc16 hF
        refine r_iload_n Z dX9_chance_130 rfl (lv_at hl 3 rfl) ?_
        refine r_if_eq Z 143 dX9_chance_131 (by decide) (fun hc17 => ?_) (fun hc17 => ?_)
        · replace hF := if_some hc17 hF
          exact L143 M ls (lv_sub hl [0] rfl) hF
        · replace hF := nif_some hc17 hF
          refine r_iload_n Z dX9_chance_134 rfl (lv_at hl 2 rfl) ?_
          refine r_iconst (v := 1) Z dX9_chance_135 (by decide) ?_
          refine r_iconst (v := 4) Z dX9_chance_136 (by decide) ?_
          obtain ⟨q18, hq18, hF⟩ := bd_some hF
          refine r_invSi [] Z (c_X9_in hq18) cv_X9_in wm_639 rfl rfl ⟨Nat.le_of_ble_eq_true rfl, Nat.le_of_ble_eq_true rfl⟩ rfl hl.1 rfl (Nat.le_of_ble_eq_true rfl) dX9_chance_137 ?_
          refine r_if_ne Z 149 dX9_chance_140 (by decide) (fun hc19 => ?_) (fun hc19 => ?_)
          · replace hF := nif_some hc19 hF
            refine r_aload_n Z dX9_chance_149 rfl (lv_at hl 0 rfl) ?_
            obtain ⟨M20, hM20, hF⟩ := bd_some hF
            refine r_invVv [] Z (c_X9_setVisits ho hM20) cv_X9_setVisits rfl (shp_lt ho (by decide)) (fun _ _ => ⟨_, ce_9 ho⟩) wm_744 rfl rfl ⟨Nat.le_of_ble_eq_true rfl, Nat.le_of_ble_eq_true rfl⟩ rfl hl.1 rfl (Nat.le_of_ble_eq_true rfl) dX9_chance_150 ?_
            refine r_aload_n Z dX9_chance_153 rfl (lv_at hl 0 rfl) ?_
            refine r_iload_n Z dX9_chance_154 rfl (lv_at hl 2 rfl) ?_
            refine r_bipush (v := (-9)) Z dX9_chance_155 (by decide) ?_
            obtain ⟨q21, hq21, hF⟩ := bd_some hF
            refine r_invVl [] Z (c_X9_sumOf ho hq21) cv_X9_sumOf rfl (shp_lt ho (by decide)) (fun _ _ => ⟨_, ce_9 ho⟩) wm_770 rfl rfl ⟨Nat.le_of_ble_eq_true rfl, Nat.le_of_ble_eq_true rfl⟩ rfl hl.1 rfl (Nat.le_of_ble_eq_true rfl) dX9_chance_157 ?_
            refine r_lstore Z [(4, .long q21.1), (0, .ref (ad o)), (1, .int v1), (2, .int v2), (3, .int v3)] dX9_chance_160 hl (by decide) rfl (fun ls hl => ?_)
            refine r_iconst (v := 0) Z dX9_chance_162 (by decide) ?_
            refine r_istore Z [(6, .int 0), (4, .long q21.1), (0, .ref (ad o)), (1, .int v1), (2, .int v2), (3, .int v3)] dX9_chance_163 hl (by decide) rfl (fun ls hl => ?_)
            exact L165 _ v1 v2 q21.1 0 q21.2 ls (lv_sub hl [2, 3, 4, 1, 0] rfl) hF
          · replace hF := if_some hc19 hF
            exact L143 q18.2 ls (lv_sub hl [0] rfl) hF
      · replace hF := nif_some hc16 hF
        refine r_aload_n Z dX9_chance_63 rfl (lv_at hl 0 rfl) ?_
        refine g_9_6 Z ho wm_611 dX9_chance_64 ?_
        refine r_bipush (v := 40) Z dX9_chance_67 (by decide) ?_
        refine r_iload_n Z dX9_chance_69 rfl (lv_at hl 1 rfl) ?_
        refine r_imul Z dX9_chance_70 ?_
        refine r_iload Z dX9_chance_71 (lv_at hl 4 rfl) ?_
        refine r_iadd Z dX9_chance_73 ?_
        obtain ⟨hi22, hF⟩ := ck_some hF
        refine r_iaload Z (shp_lt (sh_9_6 ho) (by decide)) (fun _ _ => ce_340 (sh_9_6 ho)) hi22 dX9_chance_74 ?_
        obtain ⟨t23, et23, hF⟩ := nm_some hF
        rw [← et23]
        refine r_istore Z [(5, .int t23), (0, .ref (ad o)), (1, .int v1), (2, .int v2), (3, .int v3), (4, .int v4)] dX9_chance_75 hl (by decide) rfl (fun ls hl => ?_)
        refine r_iload_n Z dX9_chance_77 rfl (lv_at hl 4 rfl) ?_
        refine r_if_eq Z 109 dX9_chance_78 (by decide) (fun hc24 => ?_) (fun hc24 => ?_)
        · replace hF := if_some hc24 hF
          exact L109 v1 v2 v4 t23 M ls (lv_sub hl [1, 2, 3, 5, 0] rfl) hF
        · replace hF := nif_some hc24 hF
          refine r_iload Z dX9_chance_81 (lv_at hl 0 rfl) ?_
          refine r_iconst (v := 0) Z dX9_chance_83 (by decide) ?_
          refine r_aload_n Z dX9_chance_84 rfl (lv_at hl 1 rfl) ?_
          refine g_9_8 Z ho wm_614 dX9_chance_85 ?_
          refine r_iload Z dX9_chance_88 (lv_at hl 5 rfl) ?_
          obtain ⟨hi25, hF⟩ := ck_some hF
          refine r_zaload Z (shp_lt (sh_9_8 ho) (by decide)) (fun _ _ => ce_2004 (sh_9_8 ho)) hi25 dX9_chance_90 ?_
          refine r_if_eq Z 98 dX9_chance_91 (by decide) (fun hc26 => ?_) (fun hc26 => ?_)
          · replace hF := if_some hc26 hF
            refine r_iconst (v := 0) Z dX9_chance_98 (by decide) ?_
            exact L99 v1 v2 v4 t23 t23 0 0 M ls (lv_sub hl [1, 2, 3, 5, 0] rfl) hF
          · replace hF := nif_some hc26 hF
            refine r_iconst (v := 4) Z dX9_chance_94 (by decide) ?_
            refine r_goto Z 99 dX9_chance_95 (by decide) ?_
            exact L99 v1 v2 v4 t23 t23 0 4 M ls (lv_sub hl [1, 2, 3, 5, 0] rfl) hF
  unfold f_X9_chance at hF
  refine r_iload_n Z dX9_chance_0 rfl (lv_at hl 1 rfl) ?_
  obtain ⟨q27, hq27, hF⟩ := bd_some hF
  refine r_invSi [] Z (c_X9_isRow hq27) cv_X9_isRow wm_642 rfl rfl ⟨Nat.le_of_ble_eq_true rfl, Nat.le_of_ble_eq_true rfl⟩ rfl hl.1 rfl (Nat.le_of_ble_eq_true rfl) dX9_chance_1 ?_
  refine r_if_ne Z 9 dX9_chance_4 (by decide) (fun hc28 => ?_) (fun hc28 => ?_)
  · replace hF := nif_some hc28 hF
    refine r_aload_n Z dX9_chance_9 rfl (lv_at hl 0 rfl) ?_
    obtain ⟨q29, hq29, hF⟩ := bd_some hF
    refine r_invVi [] Z (c_X9_isClosed ho hq29) cv_X9_isClosed rfl (shp_lt ho (by decide)) (fun _ _ => ⟨_, ce_9 ho⟩) wm_740 rfl rfl ⟨Nat.le_of_ble_eq_true rfl, Nat.le_of_ble_eq_true rfl⟩ rfl hl.1 rfl (Nat.le_of_ble_eq_true rfl) dX9_chance_10 ?_
    refine r_if_ne Z 19 dX9_chance_13 (by decide) (fun hc30 => ?_) (fun hc30 => ?_)
    · replace hF := nif_some hc30 hF
      refine r_aload_n Z dX9_chance_19 rfl (lv_at hl 0 rfl) ?_
      refine g_9_5 Z ho wm_610 dX9_chance_20 ?_
      refine r_iload_n Z dX9_chance_23 rfl (lv_at hl 1 rfl) ?_
      obtain ⟨hi31, hF⟩ := ck_some hF
      refine r_iaload Z (shp_lt (sh_9_5 ho) (by decide)) (fun _ _ => ce_106 (sh_9_5 ho)) hi31 dX9_chance_24 ?_
      refine r_if_ge Z 34 dX9_chance_25 (by decide) (fun hc32 => ?_) (fun hc32 => ?_)
      · replace hF := if_some hc32 hF
        refine r_aload_n Z dX9_chance_34 rfl (lv_at hl 0 rfl) ?_
        refine g_9_5 Z ho wm_610 dX9_chance_35 ?_
        refine r_iload_n Z dX9_chance_38 rfl (lv_at hl 1 rfl) ?_
        obtain ⟨hi33, hF⟩ := ck_some hF
        refine r_iaload Z (shp_lt (sh_9_5 ho) (by decide)) (fun _ _ => ce_106 (sh_9_5 ho)) hi33 dX9_chance_39 ?_
        refine r_iconst (v := 4) Z dX9_chance_40 (by decide) ?_
        refine r_icmp_eq Z 50 dX9_chance_41 (by decide) (fun hc34 => ?_) (fun hc34 => ?_)
        · replace hF := if_some hc34 hF
          refine r_iconst (v := 0) Z dX9_chance_50 (by decide) ?_
          refine r_istore_n Z [(2, .int 0), (0, .ref (ad o)), (1, .int x1)] dX9_chance_51 rfl hl (by decide) rfl (fun ls hl => ?_)
          refine r_iconst (v := 1) Z dX9_chance_52 (by decide) ?_
          refine r_istore_n Z [(3, .int 1), (2, .int 0), (0, .ref (ad o)), (1, .int x1)] dX9_chance_53 rfl hl (by decide) rfl (fun ls hl => ?_)
          refine r_iconst (v := 0) Z dX9_chance_54 (by decide) ?_
          refine r_istore Z [(4, .int 0), (3, .int 1), (2, .int 0), (0, .ref (ad o)), (1, .int x1)] dX9_chance_55 hl (by decide) rfl (fun ls hl => ?_)
          exact L57 _ x1 0 1 0 q29.2 ls (lv_sub hl [3, 4, 2, 1, 0] rfl) hF
        · replace hF := nif_some hc34 hF
          refine r_aload_n Z dX9_chance_44 rfl (lv_at hl 0 rfl) ?_
          refine r_iconst (v := 5) Z dX9_chance_45 (by decide) ?_
          obtain ⟨q35, hq35, hF⟩ := bd_some hF
          refine r_invVi [] Z (c_X9_meets ho hq35) cv_X9_meets rfl (shp_lt ho (by decide)) (fun _ _ => ⟨_, ce_9 ho⟩) wm_644 rfl rfl ⟨Nat.le_of_ble_eq_true rfl, Nat.le_of_ble_eq_true rfl⟩ rfl hl.1 rfl (Nat.le_of_ble_eq_true rfl) dX9_chance_46 ?_
          exact r_iret Z hQ hF dX9_chance_49
      · replace hF := nif_some hc32 hF
        refine r_aload_n Z dX9_chance_28 rfl (lv_at hl 0 rfl) ?_
        refine r_iconst (v := 1) Z dX9_chance_29 (by decide) ?_
        obtain ⟨q36, hq36, hF⟩ := bd_some hF
        refine r_invVi [] Z (c_X9_meets ho hq36) cv_X9_meets rfl (shp_lt ho (by decide)) (fun _ _ => ⟨_, ce_9 ho⟩) wm_644 rfl rfl ⟨Nat.le_of_ble_eq_true rfl, Nat.le_of_ble_eq_true rfl⟩ rfl hl.1 rfl (Nat.le_of_ble_eq_true rfl) dX9_chance_30 ?_
        exact r_iret Z hQ hF dX9_chance_33
    · replace hF := if_some hc30 hF
      refine r_bipush (v := (-4)) Z dX9_chance_16 (by decide) ?_
      exact r_iret Z hQ hF dX9_chance_18
  · replace hF := if_some hc28 hF
    refine r_iconst (v := (-1)) Z dX9_chance_7 (by decide) ?_
    exact r_iret Z hQ hF dX9_chance_8
theorem dX9_closed_0 : decode cX9_closed 0 = .ok (.aload_n 0, 1) := by decide +kernel
theorem dX9_closed_1 : decode cX9_closed 1 = .ok (.invokevirtual 164, 3) := by decide +kernel
theorem dX9_closed_4 : decode cX9_closed 4 = .ok (.ifCond .eq 7, 3) := by decide +kernel
theorem dX9_closed_7 : decode cX9_closed 7 = .ok (.iconst 1, 1) := by decide +kernel
theorem dX9_closed_8 : decode cX9_closed 8 = .ok (.goto 4, 3) := by decide +kernel
theorem dX9_closed_11 : decode cX9_closed 11 = .ok (.iconst 0, 1) := by decide +kernel
theorem dX9_closed_12 : decode cX9_closed 12 = .ok (.ireturn, 1) := by decide +kernel
theorem cv_X9_closed : wn_cV yX9_closed cX9_closed 1 (some .int) RX9 0 := ⟨wm_739, wm_976, wm_977, wm_637, by decide +kernel⟩
abbrev rm_X9_closed : Room := rmz 2 48
set_option maxHeartbeats 4000000 in
set_option maxRecDepth 100000 in
theorem c_X9_closed {ad : Nat → Nat} {o : Nat} {M : Mm} {q : Int32 × Mm} (ho : shp o = 9) (hF : f_X9_closed o M = some q) : KI ad yX9_closed cX9_closed 1 (some .int) rm_X9_closed [.ref (ad o)] M q.1 q.2 := by
  refine wn_enterI (own := RX9) (by decide) rfl (Nat.le_of_ble_eq_true rfl) (fun X ls Z hQ hl => ?_)
  have hl : lv_has ls 1 [(0, .ref (ad o))] := hl
  unfold f_X9_closed at hF
  refine r_aload_n Z dX9_closed_0 rfl (lv_at hl 0 rfl) ?_
  obtain ⟨q1, hq1, hF⟩ := bd_some hF
  refine r_invVi [] Z (c_X9_isClosed ho hq1) cv_X9_isClosed rfl (shp_lt ho (by decide)) (fun _ _ => ⟨_, ce_9 ho⟩) wm_740 rfl rfl ⟨Nat.le_of_ble_eq_true rfl, Nat.le_of_ble_eq_true rfl⟩ rfl hl.1 rfl (Nat.le_of_ble_eq_true rfl) dX9_closed_1 ?_
  refine r_if_eq Z 11 dX9_closed_4 (by decide) (fun hc2 => ?_) (fun hc2 => ?_)
  · replace hF := if_some hc2 hF
    refine r_iconst (v := 0) Z dX9_closed_11 (by decide) ?_
    exact r_iret Z hQ hF dX9_closed_12
  · replace hF := nif_some hc2 hF
    refine r_iconst (v := 1) Z dX9_closed_7 (by decide) ?_
    refine r_goto Z 12 dX9_closed_8 (by decide) ?_
    exact r_iret Z hQ hF dX9_closed_12
theorem dX9_comes_0 : decode cX9_comes 0 = .ok (.iload_n 2, 1) := by decide +kernel
theorem dX9_comes_1 : decode cX9_comes 1 = .ok (.iconst 0, 1) := by decide +kernel
theorem dX9_comes_2 : decode cX9_comes 2 = .ok (.bipush 9, 2) := by decide +kernel
theorem dX9_comes_4 : decode cX9_comes 4 = .ok (.invokestatic 81, 3) := by decide +kernel
theorem dX9_comes_7 : decode cX9_comes 7 = .ok (.ifCond .ne 5, 3) := by decide +kernel
theorem dX9_comes_10 : decode cX9_comes 10 = .ok (.iconst (-1), 1) := by decide +kernel
theorem dX9_comes_11 : decode cX9_comes 11 = .ok (.ireturn, 1) := by decide +kernel
theorem dX9_comes_12 : decode cX9_comes 12 = .ok (.aload_n 0, 1) := by decide +kernel
theorem dX9_comes_13 : decode cX9_comes 13 = .ok (.iload_n 1, 1) := by decide +kernel
theorem dX9_comes_14 : decode cX9_comes 14 = .ok (.invokevirtual 107, 3) := by decide +kernel
theorem dX9_comes_17 : decode cX9_comes 17 = .ok (.istore_n 3, 1) := by decide +kernel
theorem dX9_comes_18 : decode cX9_comes 18 = .ok (.iload_n 3, 1) := by decide +kernel
theorem dX9_comes_19 : decode cX9_comes 19 = .ok (.ifCond .ge 5, 3) := by decide +kernel
theorem dX9_comes_22 : decode cX9_comes 22 = .ok (.iload_n 3, 1) := by decide +kernel
theorem dX9_comes_23 : decode cX9_comes 23 = .ok (.ireturn, 1) := by decide +kernel
theorem dX9_comes_24 : decode cX9_comes 24 = .ok (.aload_n 0, 1) := by decide +kernel
theorem dX9_comes_25 : decode cX9_comes 25 = .ok (.getfield 42, 3) := by decide +kernel
theorem dX9_comes_28 : decode cX9_comes 28 = .ok (.iload_n 1, 1) := by decide +kernel
theorem dX9_comes_29 : decode cX9_comes 29 = .ok (.iaload, 1) := by decide +kernel
theorem dX9_comes_30 : decode cX9_comes 30 = .ok (.istore 4, 2) := by decide +kernel
theorem dX9_comes_32 : decode cX9_comes 32 = .ok (.aload_n 0, 1) := by decide +kernel
theorem dX9_comes_33 : decode cX9_comes 33 = .ok (.getfield 42, 3) := by decide +kernel
theorem dX9_comes_36 : decode cX9_comes 36 = .ok (.iload_n 1, 1) := by decide +kernel
theorem dX9_comes_37 : decode cX9_comes 37 = .ok (.iload_n 2, 1) := by decide +kernel
theorem dX9_comes_38 : decode cX9_comes 38 = .ok (.iastore, 1) := by decide +kernel
theorem dX9_comes_39 : decode cX9_comes 39 = .ok (.iload 4, 2) := by decide +kernel
theorem dX9_comes_41 : decode cX9_comes 41 = .ok (.ireturn, 1) := by decide +kernel
theorem cv_X9_comes : wn_cV yX9_comes cX9_comes 5 (some .int) RX9 2 := ⟨wm_679, wm_928, wm_929, wm_637, by decide +kernel⟩
abbrev rm_X9_comes : Room := rmz 3 63
set_option maxHeartbeats 4000000 in
set_option maxRecDepth 100000 in
theorem c_X9_comes {ad : Nat → Nat} {o : Nat} {x1 : Int32} {x2 : Int32} {M : Mm} {q : Int32 × Mm} (ho : shp o = 9) (hF : f_X9_comes o x1 x2 M = some q) : KI ad yX9_comes cX9_comes 5 (some .int) rm_X9_comes [.ref (ad o), .int x1, .int x2] M q.1 q.2 := by
  refine wn_enterI (own := RX9) (by decide) rfl (Nat.le_of_ble_eq_true rfl) (fun X ls Z hQ hl => ?_)
  have hl : lv_has ls 5 [(0, .ref (ad o)), (1, .int x1), (2, .int x2)] := hl
  unfold f_X9_comes at hF
  refine r_iload_n Z dX9_comes_0 rfl (lv_at hl 2 rfl) ?_
  refine r_iconst (v := 0) Z dX9_comes_1 (by decide) ?_
  refine r_bipush (v := 9) Z dX9_comes_2 (by decide) ?_
  obtain ⟨q1, hq1, hF⟩ := bd_some hF
  refine r_invSi [] Z (c_X9_in hq1) cv_X9_in wm_639 rfl rfl ⟨Nat.le_of_ble_eq_true rfl, Nat.le_of_ble_eq_true rfl⟩ rfl hl.1 rfl (Nat.le_of_ble_eq_true rfl) dX9_comes_4 ?_
  refine r_if_ne Z 12 dX9_comes_7 (by decide) (fun hc2 => ?_) (fun hc2 => ?_)
  · replace hF := nif_some hc2 hF
    refine r_aload_n Z dX9_comes_12 rfl (lv_at hl 0 rfl) ?_
    refine r_iload_n Z dX9_comes_13 rfl (lv_at hl 1 rfl) ?_
    obtain ⟨q3, hq3, hF⟩ := bd_some hF
    refine r_invVi [] Z (c_X9_askedFor ho hq3) cv_X9_askedFor rfl (shp_lt ho (by decide)) (fun _ _ => ⟨_, ce_9 ho⟩) wm_668 rfl rfl ⟨Nat.le_of_ble_eq_true rfl, Nat.le_of_ble_eq_true rfl⟩ rfl hl.1 rfl (Nat.le_of_ble_eq_true rfl) dX9_comes_14 ?_
    refine r_istore_n Z [(3, .int q3.1), (0, .ref (ad o)), (1, .int x1), (2, .int x2)] dX9_comes_17 rfl hl (by decide) rfl (fun ls hl => ?_)
    refine r_iload_n Z dX9_comes_18 rfl (lv_at hl 0 rfl) ?_
    refine r_if_ge Z 24 dX9_comes_19 (by decide) (fun hc4 => ?_) (fun hc4 => ?_)
    · replace hF := if_some hc4 hF
      refine r_aload_n Z dX9_comes_24 rfl (lv_at hl 1 rfl) ?_
      refine g_9_13 Z ho wm_619 dX9_comes_25 ?_
      refine r_iload_n Z dX9_comes_28 rfl (lv_at hl 2 rfl) ?_
      obtain ⟨hi5, hF⟩ := ck_some hF
      refine r_iaload Z (shp_lt (sh_9_13 ho) (by decide)) (fun _ _ => ce_104 (sh_9_13 ho)) hi5 dX9_comes_29 ?_
      obtain ⟨t6, et6, hF⟩ := nm_some hF
      rw [← et6]
      refine r_istore Z [(4, .int t6), (3, .int q3.1), (0, .ref (ad o)), (1, .int x1), (2, .int x2)] dX9_comes_30 hl (by decide) rfl (fun ls hl => ?_)
      refine r_aload_n Z dX9_comes_32 rfl (lv_at hl 2 rfl) ?_
      refine g_9_13 Z ho wm_619 dX9_comes_33 ?_
      refine r_iload_n Z dX9_comes_36 rfl (lv_at hl 3 rfl) ?_
      refine r_iload_n Z dX9_comes_37 rfl (lv_at hl 4 rfl) ?_
      obtain ⟨hi7, hF⟩ := ck_some hF
      obtain ⟨M8, eM8, hF⟩ := nm_some hF
      refine r_iastore Z (shp_lt (sh_9_13 ho) (by decide)) (fun _ _ => ce_104 (sh_9_13 ho)) hi7 dX9_comes_38 ?_
      rw [← eM8]
      refine r_iload Z dX9_comes_39 (lv_at hl 0 rfl) ?_
      exact r_iret Z hQ hF dX9_comes_41
    · replace hF := nif_some hc4 hF
      refine r_iload_n Z dX9_comes_22 rfl (lv_at hl 0 rfl) ?_
      exact r_iret Z hQ hF dX9_comes_23
  · replace hF := if_some hc2 hF
    refine r_iconst (v := (-1)) Z dX9_comes_10 (by decide) ?_
    exact r_iret Z hQ hF dX9_comes_11
theorem dX9_rateOf_0 : decode cX9_rateOf 0 = .ok (.iload_n 3, 1) := by decide +kernel
theorem dX9_rateOf_1 : decode cX9_rateOf 1 = .ok (.iload 4, 2) := by decide +kernel
theorem dX9_rateOf_3 : decode cX9_rateOf 3 = .ok (.if_icmp .ne 7, 3) := by decide +kernel
theorem dX9_rateOf_6 : decode cX9_rateOf 6 = .ok (.iconst 0, 1) := by decide +kernel
theorem dX9_rateOf_7 : decode cX9_rateOf 7 = .ok (.goto 19, 3) := by decide +kernel
theorem dX9_rateOf_10 : decode cX9_rateOf 10 = .ok (.aload_n 0, 1) := by decide +kernel
theorem dX9_rateOf_11 : decode cX9_rateOf 11 = .ok (.getfield 20, 3) := by decide +kernel
theorem dX9_rateOf_14 : decode cX9_rateOf 14 = .ok (.bipush 40, 2) := by decide +kernel
theorem dX9_rateOf_16 : decode cX9_rateOf 16 = .ok (.iload_n 1, 1) := by decide +kernel
theorem dX9_rateOf_17 : decode cX9_rateOf 17 = .ok (.imul, 1) := by decide +kernel
theorem dX9_rateOf_18 : decode cX9_rateOf 18 = .ok (.iload_n 2, 1) := by decide +kernel
theorem dX9_rateOf_19 : decode cX9_rateOf 19 = .ok (.iload_n 3, 1) := by decide +kernel
theorem dX9_rateOf_20 : decode cX9_rateOf 20 = .ok (.imul, 1) := by decide +kernel
theorem dX9_rateOf_21 : decode cX9_rateOf 21 = .ok (.iadd, 1) := by decide +kernel
theorem dX9_rateOf_22 : decode cX9_rateOf 22 = .ok (.iload 4, 2) := by decide +kernel
theorem dX9_rateOf_24 : decode cX9_rateOf 24 = .ok (.iadd, 1) := by decide +kernel
theorem dX9_rateOf_25 : decode cX9_rateOf 25 = .ok (.iaload, 1) := by decide +kernel
theorem dX9_rateOf_26 : decode cX9_rateOf 26 = .ok (.ireturn, 1) := by decide +kernel
theorem cv_X9_rateOf : wn_cV yX9_rateOf cX9_rateOf 5 (some .int) RX9 4 := ⟨wm_803, wm_806, wm_807, wm_637, by decide +kernel⟩
abbrev rm_X9_rateOf : Room := rmz 0 0
set_option maxHeartbeats 4000000 in
set_option maxRecDepth 100000 in
theorem c_X9_rateOf {ad : Nat → Nat} {o : Nat} {x1 : Int32} {x2 : Int32} {x3 : Int32} {x4 : Int32} {M : Mm} {q : Int32 × Mm} (ho : shp o = 9) (hF : f_X9_rateOf o x1 x2 x3 x4 M = some q) : KI ad yX9_rateOf cX9_rateOf 5 (some .int) rm_X9_rateOf [.ref (ad o), .int x1, .int x2, .int x3, .int x4] M q.1 q.2 := by
  refine wn_enterI (own := RX9) (by decide) rfl (Nat.le_of_ble_eq_true rfl) (fun X ls Z hQ hl => ?_)
  have hl : lv_has ls 5 [(0, .ref (ad o)), (1, .int x1), (2, .int x2), (3, .int x3), (4, .int x4)] := hl
  unfold f_X9_rateOf at hF
  refine r_iload_n Z dX9_rateOf_0 rfl (lv_at hl 3 rfl) ?_
  refine r_iload Z dX9_rateOf_1 (lv_at hl 4 rfl) ?_
  refine r_icmp_ne Z 10 dX9_rateOf_3 (by decide) (fun hc1 => ?_) (fun hc1 => ?_)
  · replace hF := nif_some hc1 hF
    refine r_aload_n Z dX9_rateOf_10 rfl (lv_at hl 0 rfl) ?_
    refine g_9_6 Z ho wm_611 dX9_rateOf_11 ?_
    refine r_bipush (v := 40) Z dX9_rateOf_14 (by decide) ?_
    refine r_iload_n Z dX9_rateOf_16 rfl (lv_at hl 1 rfl) ?_
    refine r_imul Z dX9_rateOf_17 ?_
    refine r_iload_n Z dX9_rateOf_18 rfl (lv_at hl 2 rfl) ?_
    refine r_iload_n Z dX9_rateOf_19 rfl (lv_at hl 3 rfl) ?_
    refine r_imul Z dX9_rateOf_20 ?_
    refine r_iadd Z dX9_rateOf_21 ?_
    refine r_iload Z dX9_rateOf_22 (lv_at hl 4 rfl) ?_
    refine r_iadd Z dX9_rateOf_24 ?_
    obtain ⟨hi2, hF⟩ := ck_some hF
    refine r_iaload Z (shp_lt (sh_9_6 ho) (by decide)) (fun _ _ => ce_340 (sh_9_6 ho)) hi2 dX9_rateOf_25 ?_
    exact r_iret Z hQ hF dX9_rateOf_26
  · replace hF := if_some hc1 hF
    refine r_iconst (v := 0) Z dX9_rateOf_6 (by decide) ?_
    refine r_goto Z 26 dX9_rateOf_7 (by decide) ?_
    exact r_iret Z hQ hF dX9_rateOf_26
theorem dX9_comesTo_0 : decode cX9_comesTo 0 = .ok (.iconst 1, 1) := by decide +kernel
theorem dX9_comesTo_1 : decode cX9_comesTo 1 = .ok (.iload_n 3, 1) := by decide +kernel
theorem dX9_comesTo_2 : decode cX9_comesTo 2 = .ok (.ishl, 1) := by decide +kernel
theorem dX9_comesTo_3 : decode cX9_comesTo 3 = .ok (.istore 4, 2) := by decide +kernel
theorem dX9_comesTo_5 : decode cX9_comesTo 5 = .ok (.iconst 0, 1) := by decide +kernel
theorem dX9_comesTo_6 : decode cX9_comesTo 6 = .ok (.istore 5, 2) := by decide +kernel
theorem dX9_comesTo_8 : decode cX9_comesTo 8 = .ok (.iload 5, 2) := by decide +kernel
theorem dX9_comesTo_10 : decode cX9_comesTo 10 = .ok (.iload_n 2, 1) := by decide +kernel
theorem dX9_comesTo_11 : decode cX9_comesTo 11 = .ok (.if_icmp .ge 76, 3) := by decide +kernel
theorem dX9_comesTo_14 : decode cX9_comesTo 14 = .ok (.iconst 0, 1) := by decide +kernel
theorem dX9_comesTo_15 : decode cX9_comesTo 15 = .ok (.istore 6, 2) := by decide +kernel
theorem dX9_comesTo_17 : decode cX9_comesTo 17 = .ok (.iload 6, 2) := by decide +kernel
theorem dX9_comesTo_19 : decode cX9_comesTo 19 = .ok (.iload_n 2, 1) := by decide +kernel
theorem dX9_comesTo_20 : decode cX9_comesTo 20 = .ok (.if_icmp .ge 61, 3) := by decide +kernel
theorem dX9_comesTo_23 : decode cX9_comesTo 23 = .ok (.iconst 0, 1) := by decide +kernel
theorem dX9_comesTo_24 : decode cX9_comesTo 24 = .ok (.istore 7, 2) := by decide +kernel
theorem dX9_comesTo_26 : decode cX9_comesTo 26 = .ok (.iload 7, 2) := by decide +kernel
theorem dX9_comesTo_28 : decode cX9_comesTo 28 = .ok (.iload_n 2, 1) := by decide +kernel
theorem dX9_comesTo_29 : decode cX9_comesTo 29 = .ok (.if_icmp .ge 46, 3) := by decide +kernel
theorem dX9_comesTo_32 : decode cX9_comesTo 32 = .ok (.iload 4, 2) := by decide +kernel
theorem dX9_comesTo_34 : decode cX9_comesTo 34 = .ok (.iload 4, 2) := by decide +kernel
theorem dX9_comesTo_36 : decode cX9_comesTo 36 = .ok (.iload 6, 2) := by decide +kernel
theorem dX9_comesTo_38 : decode cX9_comesTo 38 = .ok (.ishr, 1) := by decide +kernel
theorem dX9_comesTo_39 : decode cX9_comesTo 39 = .ok (.iconst 1, 1) := by decide +kernel
theorem dX9_comesTo_40 : decode cX9_comesTo 40 = .ok (.iand, 1) := by decide +kernel
theorem dX9_comesTo_41 : decode cX9_comesTo 41 = .ok (.iconst 1, 1) := by decide +kernel
theorem dX9_comesTo_42 : decode cX9_comesTo 42 = .ok (.if_icmp .ne 23, 3) := by decide +kernel
theorem dX9_comesTo_45 : decode cX9_comesTo 45 = .ok (.aload_n 0, 1) := by decide +kernel
theorem dX9_comesTo_46 : decode cX9_comesTo 46 = .ok (.iload_n 1, 1) := by decide +kernel
theorem dX9_comesTo_47 : decode cX9_comesTo 47 = .ok (.iload_n 2, 1) := by decide +kernel
theorem dX9_comesTo_48 : decode cX9_comesTo 48 = .ok (.iload 6, 2) := by decide +kernel
theorem dX9_comesTo_50 : decode cX9_comesTo 50 = .ok (.iload 7, 2) := by decide +kernel
theorem dX9_comesTo_52 : decode cX9_comesTo 52 = .ok (.invokevirtual 211, 3) := by decide +kernel
theorem dX9_comesTo_55 : decode cX9_comesTo 55 = .ok (.ifCond .le 10, 3) := by decide +kernel
theorem dX9_comesTo_58 : decode cX9_comesTo 58 = .ok (.iconst 1, 1) := by decide +kernel
theorem dX9_comesTo_59 : decode cX9_comesTo 59 = .ok (.iload 7, 2) := by decide +kernel
theorem dX9_comesTo_61 : decode cX9_comesTo 61 = .ok (.ishl, 1) := by decide +kernel
theorem dX9_comesTo_62 : decode cX9_comesTo 62 = .ok (.goto 4, 3) := by decide +kernel
theorem dX9_comesTo_65 : decode cX9_comesTo 65 = .ok (.iconst 0, 1) := by decide +kernel
theorem dX9_comesTo_66 : decode cX9_comesTo 66 = .ok (.ior, 1) := by decide +kernel
theorem dX9_comesTo_67 : decode cX9_comesTo 67 = .ok (.istore 4, 2) := by decide +kernel
theorem dX9_comesTo_69 : decode cX9_comesTo 69 = .ok (.iinc 7 1, 3) := by decide +kernel
theorem dX9_comesTo_72 : decode cX9_comesTo 72 = .ok (.goto (-46), 3) := by decide +kernel
theorem dX9_comesTo_75 : decode cX9_comesTo 75 = .ok (.iinc 6 1, 3) := by decide +kernel
theorem dX9_comesTo_78 : decode cX9_comesTo 78 = .ok (.goto (-61), 3) := by decide +kernel
theorem dX9_comesTo_81 : decode cX9_comesTo 81 = .ok (.iinc 5 1, 3) := by decide +kernel
theorem dX9_comesTo_84 : decode cX9_comesTo 84 = .ok (.goto (-76), 3) := by decide +kernel
theorem dX9_comesTo_87 : decode cX9_comesTo 87 = .ok (.iload 4, 2) := by decide +kernel
theorem dX9_comesTo_89 : decode cX9_comesTo 89 = .ok (.ireturn, 1) := by decide +kernel
theorem cv_X9_comesTo : wn_cV yX9_comesTo cX9_comesTo 8 (some .int) RX9 3 := ⟨wm_804, wm_811, wm_812, wm_637, by decide +kernel⟩
abbrev rm_X9_comesTo : Room := rmz 1 24
set_option maxHeartbeats 4000000 in
set_option maxRecDepth 100000 in
theorem c_X9_comesTo {ad : Nat → Nat} {o : Nat} {x1 : Int32} {x2 : Int32} {x3 : Int32} {M : Mm} {q : Int32 × Mm} (ho : shp o = 9) (hF : f_X9_comesTo o x1 x2 x3 M = some q) : KI ad yX9_comesTo cX9_comesTo 8 (some .int) rm_X9_comesTo [.ref (ad o), .int x1, .int x2, .int x3] M q.1 q.2 := by
  refine wn_enterI (own := RX9) (by decide) rfl (Nat.le_of_ble_eq_true rfl) (fun X ls Z hQ hl => ?_)
  have hl : lv_has ls 8 [(0, .ref (ad o)), (1, .int x1), (2, .int x2), (3, .int x3)] := hl
  have L8 : ∀ (n8 : Nat) (v1 : Int32) (v2 : Int32) (v4 : Int32) (v5 : Int32) (M : Mm) (ls : Array Slot), lv_has ls 8 [(0, .ref (ad o)), (1, .int v1), (2, .int v2), (4, .int v4), (5, .int v5)] → f_X9_comesTo_b8 o n8 v1 v2 v4 v5 M = some q → G ad X M 8 ls [] := by
    intro n8
    induction n8 with
    | zero =>
      intro v1 v2 v4 v5 M ls hl hF
      cases hF
    | succ n8 ih8 =>
      have L17 : ∀ (n17 : Nat) (v1 : Int32) (v2 : Int32) (v4 : Int32) (v5 : Int32) (v6 : Int32) (M : Mm) (ls : Array Slot), lv_has ls 8 [(0, .ref (ad o)), (1, .int v1), (2, .int v2), (4, .int v4), (5, .int v5), (6, .int v6)] → f_X9_comesTo_b17 (f_X9_comesTo_b8 o n8) o n17 v1 v2 v4 v5 v6 M = some q → G ad X M 17 ls [] := by
        intro n17
        induction n17 with
        | zero =>
          intro v1 v2 v4 v5 v6 M ls hl hF
          cases hF
        | succ n17 ih17 =>
          have L26 : ∀ (n26 : Nat) (v1 : Int32) (v2 : Int32) (v4 : Int32) (v5 : Int32) (v6 : Int32) (v7 : Int32) (M : Mm) (ls : Array Slot), lv_has ls 8 [(0, .ref (ad o)), (1, .int v1), (2, .int v2), (4, .int v4), (5, .int v5), (6, .int v6), (7, .int v7)] → f_X9_comesTo_b26 (f_X9_comesTo_b8 o n8) (f_X9_comesTo_b17 (f_X9_comesTo_b8 o n8) o n17) o n26 v1 v2 v4 v5 v6 v7 M = some q → G ad X M 26 ls [] := by
            intro n26
            induction n26 with
            | zero =>
              intro v1 v2 v4 v5 v6 v7 M ls hl hF
              cases hF
            | succ n26 ih26 =>
              have L66 : ∀ (v1 : Int32) (v2 : Int32) (v5 : Int32) (v6 : Int32) (v7 : Int32) (s0 : Int32) (s1 : Int32) (M : Mm) (ls : Array Slot), lv_has ls 8 [(0, .ref (ad o)), (1, .int v1), (2, .int v2), (5, .int v5), (6, .int v6), (7, .int v7)] → f_X9_comesTo_b66 (f_X9_comesTo_b8 o n8) (f_X9_comesTo_b17 (f_X9_comesTo_b8 o n8) o n17) (f_X9_comesTo_b26 (f_X9_comesTo_b8 o n8) (f_X9_comesTo_b17 (f_X9_comesTo_b8 o n8) o n17) o n26) o v1 v2 v5 v6 v7 s0 s1 M = some q → G ad X M 66 ls [.int s1, .int s0] := by
                intro v1 v2 v5 v6 v7 s0 s1 M ls hl hF
                unfold f_X9_comesTo_b66 at hF
                refine r_ior Z dX9_comesTo_66 ?_
                obtain ⟨t1, et1, hF⟩ := nm_some hF
                rw [← et1]
                refine r_istore Z [(4, .int t1), (0, .ref (ad o)), (1, .int v1), (2, .int v2), (5, .int v5), (6, .int v6), (7, .int v7)] dX9_comesTo_67 hl (by decide) rfl (fun ls hl => ?_)
                obtain ⟨t2, et2, hF⟩ := nm_some hF
                refine r_iinc (j := 6) Z t2 [(7, .int t2), (4, .int t1), (0, .ref (ad o)), (1, .int v1), (2, .int v2), (5, .int v5), (6, .int v6)] dX9_comesTo_69 hl rfl (by rw [et2]; rfl) (by decide) rfl (fun ls hl => ?_)
                refine r_goto Z 26 dX9_comesTo_72 (by decide) ?_
                exact ih26 v1 v2 t1 v5 v6 t2 M ls (lv_sub hl [2, 3, 4, 1, 5, 6, 0] rfl) hF
              have L65 : ∀ (v1 : Int32) (v2 : Int32) (v5 : Int32) (v6 : Int32) (v7 : Int32) (s0 : Int32) (M : Mm) (ls : Array Slot), lv_has ls 8 [(0, .ref (ad o)), (1, .int v1), (2, .int v2), (5, .int v5), (6, .int v6), (7, .int v7)] → f_X9_comesTo_b65 (f_X9_comesTo_b8 o n8) (f_X9_comesTo_b17 (f_X9_comesTo_b8 o n8) o n17) (f_X9_comesTo_b26 (f_X9_comesTo_b8 o n8) (f_X9_comesTo_b17 (f_X9_comesTo_b8 o n8) o n17) o n26) o v1 v2 v5 v6 v7 s0 M = some q → G ad X M 65 ls [.int s0] := by
                intro v1 v2 v5 v6 v7 s0 M ls hl hF
                unfold f_X9_comesTo_b65 at hF
                refine r_iconst (v := 0) Z dX9_comesTo_65 (by decide) ?_
                exact L66 v1 v2 v5 v6 v7 s0 0 M ls (lv_sub hl [0, 1, 2, 3, 4, 5] rfl) hF
              intro v1 v2 v4 v5 v6 v7 M ls hl hF
              replace hF : f_X9_comesTo_b26B (f_X9_comesTo_b8 o n8) (f_X9_comesTo_b17 (f_X9_comesTo_b8 o n8) o n17) (f_X9_comesTo_b26 (f_X9_comesTo_b8 o n8) (f_X9_comesTo_b17 (f_X9_comesTo_b8 o n8) o n17) o n26) o v1 v2 v4 v5 v6 v7 M = some q := hF
              unfold f_X9_comesTo_b26B at hF
              refine r_iload Z dX9_comesTo_26 (lv_at hl 6 rfl) ?_
              refine r_iload_n Z dX9_comesTo_28 rfl (lv_at hl 2 rfl) ?_
              refine r_icmp_ge Z 75 dX9_comesTo_29 (by decide) (fun hc3 => ?_) (fun hc3 => ?_)
              · replace hF := if_some hc3 hF
                obtain ⟨t4, et4, hF⟩ := nm_some hF
                refine r_iinc (j := 5) Z t4 [(6, .int t4), (0, .ref (ad o)), (1, .int v1), (2, .int v2), (4, .int v4), (5, .int v5), (7, .int v7)] dX9_comesTo_75 hl rfl (by rw [et4]; rfl) (by decide) rfl (fun ls hl => ?_)
                refine r_goto Z 17 dX9_comesTo_78 (by decide) ?_
                exact ih17 v1 v2 v4 v5 t4 M ls (lv_sub hl [1, 2, 3, 4, 5, 0] rfl) hF
              · replace hF := nif_some hc3 hF
                refine r_iload Z dX9_comesTo_32 (lv_at hl 3 rfl) ?_
                refine r_iload Z dX9_comesTo_34 (lv_at hl 3 rfl) ?_
                refine r_iload Z dX9_comesTo_36 (lv_at hl 5 rfl) ?_
                refine r_ishr Z dX9_comesTo_38 ?_
                refine r_iconst (v := 1) Z dX9_comesTo_39 (by decide) ?_
                refine r_iand Z dX9_comesTo_40 ?_
                refine r_iconst (v := 1) Z dX9_comesTo_41 (by decide) ?_
                refine r_icmp_ne Z 65 dX9_comesTo_42 (by decide) (fun hc5 => ?_) (fun hc5 => ?_)
                · replace hF := nif_some hc5 hF
                  exact L65 v1 v2 v5 v6 v7 v4 M ls (lv_sub hl [0, 1, 2, 4, 5, 6] rfl) hF
                · replace hF := if_some hc5 hF
                  refine r_aload_n Z dX9_comesTo_45 rfl (lv_at hl 0 rfl) ?_
                  refine r_iload_n Z dX9_comesTo_46 rfl (lv_at hl 1 rfl) ?_
                  refine r_iload_n Z dX9_comesTo_47 rfl (lv_at hl 2 rfl) ?_
                  refine r_iload Z dX9_comesTo_48 (lv_at hl 5 rfl) ?_
                  refine r_iload Z dX9_comesTo_50 (lv_at hl 6 rfl) ?_
                  obtain ⟨q6, hq6, hF⟩ := bd_some hF
                  refine r_invVi [.int v4] Z (c_X9_rateOf ho hq6) cv_X9_rateOf rfl (shp_lt ho (by decide)) (fun _ _ => ⟨_, ce_9 ho⟩) wm_805 rfl rfl ⟨Nat.le_of_ble_eq_true rfl, Nat.le_of_ble_eq_true rfl⟩ rfl hl.1 rfl (Nat.le_of_ble_eq_true rfl) dX9_comesTo_52 ?_
                  refine r_if_le Z 65 dX9_comesTo_55 (by decide) (fun hc7 => ?_) (fun hc7 => ?_)
                  · replace hF := if_some hc7 hF
                    exact L65 v1 v2 v5 v6 v7 v4 q6.2 ls (lv_sub hl [0, 1, 2, 4, 5, 6] rfl) hF
                  · replace hF := nif_some hc7 hF
                    refine r_iconst (v := 1) Z dX9_comesTo_58 (by decide) ?_
                    refine r_iload Z dX9_comesTo_59 (lv_at hl 6 rfl) ?_
                    refine r_ishl Z dX9_comesTo_61 ?_
                    refine r_goto Z 66 dX9_comesTo_62 (by decide) ?_
                    exact L66 v1 v2 v5 v6 v7 v4 (1 <<< (v7 &&& 31)) q6.2 ls (lv_sub hl [0, 1, 2, 4, 5, 6] rfl) hF
          intro v1 v2 v4 v5 v6 M ls hl hF
          replace hF : f_X9_comesTo_b17B (f_X9_comesTo_b8 o n8) (f_X9_comesTo_b17 (f_X9_comesTo_b8 o n8) o n17) o v1 v2 v4 v5 v6 M = some q := hF
          unfold f_X9_comesTo_b17B at hF
          refine r_iload Z dX9_comesTo_17 (lv_at hl 5 rfl) ?_
          refine r_iload_n Z dX9_comesTo_19 rfl (lv_at hl 2 rfl) ?_
          refine r_icmp_ge Z 81 dX9_comesTo_20 (by decide) (fun hc8 => ?_) (fun hc8 => ?_)
          · replace hF := if_some hc8 hF
            obtain ⟨t9, et9, hF⟩ := nm_some hF
            refine r_iinc (j := 4) Z t9 [(5, .int t9), (0, .ref (ad o)), (1, .int v1), (2, .int v2), (4, .int v4), (6, .int v6)] dX9_comesTo_81 hl rfl (by rw [et9]; rfl) (by decide) rfl (fun ls hl => ?_)
            refine r_goto Z 8 dX9_comesTo_84 (by decide) ?_
            exact ih8 v1 v2 v4 t9 M ls (lv_sub hl [1, 2, 3, 4, 0] rfl) hF
          · replace hF := nif_some hc8 hF
            refine r_iconst (v := 0) Z dX9_comesTo_23 (by decide) ?_
            refine r_istore Z [(7, .int 0), (0, .ref (ad o)), (1, .int v1), (2, .int v2), (4, .int v4), (5, .int v5), (6, .int v6)] dX9_comesTo_24 hl (by decide) rfl (fun ls hl => ?_)
            exact L26 _ v1 v2 v4 v5 v6 0 M ls (lv_sub hl [1, 2, 3, 4, 5, 6, 0] rfl) hF
      intro v1 v2 v4 v5 M ls hl hF
      replace hF : f_X9_comesTo_b8B (f_X9_comesTo_b8 o n8) o v1 v2 v4 v5 M = some q := hF
      unfold f_X9_comesTo_b8B at hF
      refine r_iload Z dX9_comesTo_8 (lv_at hl 4 rfl) ?_
      refine r_iload_n Z dX9_comesTo_10 rfl (lv_at hl 2 rfl) ?_
      refine r_icmp_ge Z 87 dX9_comesTo_11 (by decide) (fun hc10 => ?_) (fun hc10 => ?_)
      · replace hF := if_some hc10 hF
        refine r_iload Z dX9_comesTo_87 (lv_at hl 3 rfl) ?_
        exact r_iret Z hQ hF dX9_comesTo_89
      · replace hF := nif_some hc10 hF
        refine r_iconst (v := 0) Z dX9_comesTo_14 (by decide) ?_
        refine r_istore Z [(6, .int 0), (0, .ref (ad o)), (1, .int v1), (2, .int v2), (4, .int v4), (5, .int v5)] dX9_comesTo_15 hl (by decide) rfl (fun ls hl => ?_)
        exact L17 _ v1 v2 v4 v5 0 M ls (lv_sub hl [1, 2, 3, 4, 5, 0] rfl) hF
  unfold f_X9_comesTo at hF
  refine r_iconst (v := 1) Z dX9_comesTo_0 (by decide) ?_
  refine r_iload_n Z dX9_comesTo_1 rfl (lv_at hl 3 rfl) ?_
  refine r_ishl Z dX9_comesTo_2 ?_
  obtain ⟨t11, et11, hF⟩ := nm_some hF
  rw [← et11]
  refine r_istore Z [(4, .int t11), (0, .ref (ad o)), (1, .int x1), (2, .int x2), (3, .int x3)] dX9_comesTo_3 hl (by decide) rfl (fun ls hl => ?_)
  refine r_iconst (v := 0) Z dX9_comesTo_5 (by decide) ?_
  refine r_istore Z [(5, .int 0), (4, .int t11), (0, .ref (ad o)), (1, .int x1), (2, .int x2), (3, .int x3)] dX9_comesTo_6 hl (by decide) rfl (fun ls hl => ?_)
  exact L8 _ x1 x2 t11 0 M ls (lv_sub hl [2, 3, 4, 1, 0] rfl) hF
theorem dX9_copy_0 : decode cX9_copy 0 = .ok (.iload_n 1, 1) := by decide +kernel
theorem dX9_copy_1 : decode cX9_copy 1 = .ok (.invokestatic 85, 3) := by decide +kernel
theorem dX9_copy_4 : decode cX9_copy 4 = .ok (.ifCond .eq 10, 3) := by decide +kernel
theorem dX9_copy_7 : decode cX9_copy 7 = .ok (.iload_n 3, 1) := by decide +kernel
theorem dX9_copy_8 : decode cX9_copy 8 = .ok (.invokestatic 85, 3) := by decide +kernel
theorem dX9_copy_11 : decode cX9_copy 11 = .ok (.ifCond .ne 5, 3) := by decide +kernel
theorem dX9_copy_14 : decode cX9_copy 14 = .ok (.iconst (-1), 1) := by decide +kernel
theorem dX9_copy_15 : decode cX9_copy 15 = .ok (.ireturn, 1) := by decide +kernel
theorem dX9_copy_16 : decode cX9_copy 16 = .ok (.iload 5, 2) := by decide +kernel
theorem dX9_copy_18 : decode cX9_copy 18 = .ok (.ifCond .ge 9, 3) := by decide +kernel
theorem dX9_copy_21 : decode cX9_copy 21 = .ok (.aload_n 0, 1) := by decide +kernel
theorem dX9_copy_22 : decode cX9_copy 22 = .ok (.iconst 5, 1) := by decide +kernel
theorem dX9_copy_23 : decode cX9_copy 23 = .ok (.invokevirtual 89, 3) := by decide +kernel
theorem dX9_copy_26 : decode cX9_copy 26 = .ok (.ireturn, 1) := by decide +kernel
theorem dX9_copy_27 : decode cX9_copy 27 = .ok (.aload_n 0, 1) := by decide +kernel
theorem dX9_copy_28 : decode cX9_copy 28 = .ok (.getfield 17, 3) := by decide +kernel
theorem dX9_copy_31 : decode cX9_copy 31 = .ok (.iload_n 1, 1) := by decide +kernel
theorem dX9_copy_32 : decode cX9_copy 32 = .ok (.iaload, 1) := by decide +kernel
theorem dX9_copy_33 : decode cX9_copy 33 = .ok (.ifCond .lt 12, 3) := by decide +kernel
theorem dX9_copy_36 : decode cX9_copy 36 = .ok (.aload_n 0, 1) := by decide +kernel
theorem dX9_copy_37 : decode cX9_copy 37 = .ok (.getfield 17, 3) := by decide +kernel
theorem dX9_copy_40 : decode cX9_copy 40 = .ok (.iload_n 3, 1) := by decide +kernel
theorem dX9_copy_41 : decode cX9_copy 41 = .ok (.iaload, 1) := by decide +kernel
theorem dX9_copy_42 : decode cX9_copy 42 = .ok (.ifCond .ge 9, 3) := by decide +kernel
theorem dX9_copy_45 : decode cX9_copy 45 = .ok (.aload_n 0, 1) := by decide +kernel
theorem dX9_copy_46 : decode cX9_copy 46 = .ok (.iconst 1, 1) := by decide +kernel
theorem dX9_copy_47 : decode cX9_copy 47 = .ok (.invokevirtual 89, 3) := by decide +kernel
theorem dX9_copy_50 : decode cX9_copy 50 = .ok (.ireturn, 1) := by decide +kernel
theorem dX9_copy_51 : decode cX9_copy 51 = .ok (.iload_n 2, 1) := by decide +kernel
theorem dX9_copy_52 : decode cX9_copy 52 = .ok (.ifCond .lt 43, 3) := by decide +kernel
theorem dX9_copy_55 : decode cX9_copy 55 = .ok (.iload 4, 2) := by decide +kernel
theorem dX9_copy_57 : decode cX9_copy 57 = .ok (.ifCond .lt 38, 3) := by decide +kernel
theorem dX9_copy_60 : decode cX9_copy 60 = .ok (.iload_n 2, 1) := by decide +kernel
theorem dX9_copy_61 : decode cX9_copy 61 = .ok (.i2l, 1) := by decide +kernel
theorem dX9_copy_62 : decode cX9_copy 62 = .ok (.iload 5, 2) := by decide +kernel
theorem dX9_copy_64 : decode cX9_copy 64 = .ok (.i2l, 1) := by decide +kernel
theorem dX9_copy_65 : decode cX9_copy 65 = .ok (.ladd, 1) := by decide +kernel
theorem dX9_copy_66 : decode cX9_copy 66 = .ok (.aload_n 0, 1) := by decide +kernel
theorem dX9_copy_67 : decode cX9_copy 67 = .ok (.getfield 17, 3) := by decide +kernel
theorem dX9_copy_70 : decode cX9_copy 70 = .ok (.iload_n 1, 1) := by decide +kernel
theorem dX9_copy_71 : decode cX9_copy 71 = .ok (.iaload, 1) := by decide +kernel
theorem dX9_copy_72 : decode cX9_copy 72 = .ok (.i2l, 1) := by decide +kernel
theorem dX9_copy_73 : decode cX9_copy 73 = .ok (.lcmp, 1) := by decide +kernel
theorem dX9_copy_74 : decode cX9_copy 74 = .ok (.ifCond .gt 21, 3) := by decide +kernel
theorem dX9_copy_77 : decode cX9_copy 77 = .ok (.iload 4, 2) := by decide +kernel
theorem dX9_copy_79 : decode cX9_copy 79 = .ok (.i2l, 1) := by decide +kernel
theorem dX9_copy_80 : decode cX9_copy 80 = .ok (.iload 5, 2) := by decide +kernel
theorem dX9_copy_82 : decode cX9_copy 82 = .ok (.i2l, 1) := by decide +kernel
theorem dX9_copy_83 : decode cX9_copy 83 = .ok (.ladd, 1) := by decide +kernel
theorem dX9_copy_84 : decode cX9_copy 84 = .ok (.aload_n 0, 1) := by decide +kernel
theorem dX9_copy_85 : decode cX9_copy 85 = .ok (.getfield 17, 3) := by decide +kernel
theorem dX9_copy_88 : decode cX9_copy 88 = .ok (.iload_n 3, 1) := by decide +kernel
theorem dX9_copy_89 : decode cX9_copy 89 = .ok (.iaload, 1) := by decide +kernel
theorem dX9_copy_90 : decode cX9_copy 90 = .ok (.i2l, 1) := by decide +kernel
theorem dX9_copy_91 : decode cX9_copy 91 = .ok (.lcmp, 1) := by decide +kernel
theorem dX9_copy_92 : decode cX9_copy 92 = .ok (.ifCond .le 9, 3) := by decide +kernel
theorem dX9_copy_95 : decode cX9_copy 95 = .ok (.aload_n 0, 1) := by decide +kernel
theorem dX9_copy_96 : decode cX9_copy 96 = .ok (.iconst 2, 1) := by decide +kernel
theorem dX9_copy_97 : decode cX9_copy 97 = .ok (.invokevirtual 89, 3) := by decide +kernel
theorem dX9_copy_100 : decode cX9_copy 100 = .ok (.ireturn, 1) := by decide +kernel
theorem dX9_copy_101 : decode cX9_copy 101 = .ok (.iconst 0, 1) := by decide +kernel
theorem dX9_copy_102 : decode cX9_copy 102 = .ok (.istore 6, 2) := by decide +kernel
theorem dX9_copy_104 : decode cX9_copy 104 = .ok (.iload 6, 2) := by decide +kernel
theorem dX9_copy_106 : decode cX9_copy 106 = .ok (.iload 5, 2) := by decide +kernel
theorem dX9_copy_108 : decode cX9_copy 108 = .ok (.if_icmp .ge 30, 3) := by decide +kernel
theorem dX9_copy_111 : decode cX9_copy 111 = .ok (.aload_n 0, 1) := by decide +kernel
theorem dX9_copy_112 : decode cX9_copy 112 = .ok (.getfield 23, 3) := by decide +kernel
theorem dX9_copy_115 : decode cX9_copy 115 = .ok (.iload 6, 2) := by decide +kernel
theorem dX9_copy_117 : decode cX9_copy 117 = .ok (.aload_n 0, 1) := by decide +kernel
theorem dX9_copy_118 : decode cX9_copy 118 = .ok (.getfield 20, 3) := by decide +kernel
theorem dX9_copy_121 : decode cX9_copy 121 = .ok (.bipush 40, 2) := by decide +kernel
theorem dX9_copy_123 : decode cX9_copy 123 = .ok (.iload_n 1, 1) := by decide +kernel
theorem dX9_copy_124 : decode cX9_copy 124 = .ok (.imul, 1) := by decide +kernel
theorem dX9_copy_125 : decode cX9_copy 125 = .ok (.iload_n 2, 1) := by decide +kernel
theorem dX9_copy_126 : decode cX9_copy 126 = .ok (.iadd, 1) := by decide +kernel
theorem dX9_copy_127 : decode cX9_copy 127 = .ok (.iload 6, 2) := by decide +kernel
theorem dX9_copy_129 : decode cX9_copy 129 = .ok (.iadd, 1) := by decide +kernel
theorem dX9_copy_130 : decode cX9_copy 130 = .ok (.iaload, 1) := by decide +kernel
theorem dX9_copy_131 : decode cX9_copy 131 = .ok (.iastore, 1) := by decide +kernel
theorem dX9_copy_132 : decode cX9_copy 132 = .ok (.iinc 6 1, 3) := by decide +kernel
theorem dX9_copy_135 : decode cX9_copy 135 = .ok (.goto (-31), 3) := by decide +kernel
theorem dX9_copy_138 : decode cX9_copy 138 = .ok (.iconst 0, 1) := by decide +kernel
theorem dX9_copy_139 : decode cX9_copy 139 = .ok (.istore 6, 2) := by decide +kernel
theorem dX9_copy_141 : decode cX9_copy 141 = .ok (.iload 6, 2) := by decide +kernel
theorem dX9_copy_143 : decode cX9_copy 143 = .ok (.iload 5, 2) := by decide +kernel
theorem dX9_copy_145 : decode cX9_copy 145 = .ok (.if_icmp .ge 31, 3) := by decide +kernel
theorem dX9_copy_148 : decode cX9_copy 148 = .ok (.aload_n 0, 1) := by decide +kernel
theorem dX9_copy_149 : decode cX9_copy 149 = .ok (.getfield 20, 3) := by decide +kernel
theorem dX9_copy_152 : decode cX9_copy 152 = .ok (.bipush 40, 2) := by decide +kernel
theorem dX9_copy_154 : decode cX9_copy 154 = .ok (.iload_n 3, 1) := by decide +kernel
theorem dX9_copy_155 : decode cX9_copy 155 = .ok (.imul, 1) := by decide +kernel
theorem dX9_copy_156 : decode cX9_copy 156 = .ok (.iload 4, 2) := by decide +kernel
theorem dX9_copy_158 : decode cX9_copy 158 = .ok (.iadd, 1) := by decide +kernel
theorem dX9_copy_159 : decode cX9_copy 159 = .ok (.iload 6, 2) := by decide +kernel
theorem dX9_copy_161 : decode cX9_copy 161 = .ok (.iadd, 1) := by decide +kernel
theorem dX9_copy_162 : decode cX9_copy 162 = .ok (.aload_n 0, 1) := by decide +kernel
theorem dX9_copy_163 : decode cX9_copy 163 = .ok (.getfield 23, 3) := by decide +kernel
theorem dX9_copy_166 : decode cX9_copy 166 = .ok (.iload 6, 2) := by decide +kernel
theorem dX9_copy_168 : decode cX9_copy 168 = .ok (.iaload, 1) := by decide +kernel
theorem dX9_copy_169 : decode cX9_copy 169 = .ok (.iastore, 1) := by decide +kernel
theorem dX9_copy_170 : decode cX9_copy 170 = .ok (.iinc 6 1, 3) := by decide +kernel
theorem dX9_copy_173 : decode cX9_copy 173 = .ok (.goto (-32), 3) := by decide +kernel
theorem dX9_copy_176 : decode cX9_copy 176 = .ok (.iconst 1, 1) := by decide +kernel
theorem dX9_copy_177 : decode cX9_copy 177 = .ok (.ireturn, 1) := by decide +kernel
theorem cv_X9_copy : wn_cV yX9_copy cX9_copy 7 (some .int) RX9 5 := ⟨wm_653, wm_880, wm_881, wm_637, by decide +kernel⟩
abbrev rm_X9_copy : Room := rmz 2 42
set_option maxHeartbeats 4000000 in
set_option maxRecDepth 100000 in
theorem c_X9_copy {ad : Nat → Nat} {o : Nat} {x1 : Int32} {x2 : Int32} {x3 : Int32} {x4 : Int32} {x5 : Int32} {M : Mm} {q : Int32 × Mm} (ho : shp o = 9) (hF : f_X9_copy o x1 x2 x3 x4 x5 M = some q) : KI ad yX9_copy cX9_copy 7 (some .int) rm_X9_copy [.ref (ad o), .int x1, .int x2, .int x3, .int x4, .int x5] M q.1 q.2 := by
  refine wn_enterI (own := RX9) (by decide) rfl (Nat.le_of_ble_eq_true rfl) (fun X ls Z hQ hl => ?_)
  have hl : lv_has ls 7 [(0, .ref (ad o)), (1, .int x1), (2, .int x2), (3, .int x3), (4, .int x4), (5, .int x5)] := hl
  have L45 : ∀ (M : Mm) (ls : Array Slot), lv_has ls 7 [(0, .ref (ad o))] → f_X9_copy_b45 o M = some q → G ad X M 45 ls [] := by
    intro M ls hl hF
    unfold f_X9_copy_b45 at hF
    refine r_aload_n Z dX9_copy_45 rfl (lv_at hl 0 rfl) ?_
    refine r_iconst (v := 1) Z dX9_copy_46 (by decide) ?_
    obtain ⟨q1, hq1, hF⟩ := bd_some hF
    refine r_invVi [] Z (c_X9_meets ho hq1) cv_X9_meets rfl (shp_lt ho (by decide)) (fun _ _ => ⟨_, ce_9 ho⟩) wm_644 rfl rfl ⟨Nat.le_of_ble_eq_true rfl, Nat.le_of_ble_eq_true rfl⟩ rfl hl.1 rfl (Nat.le_of_ble_eq_true rfl) dX9_copy_47 ?_
    exact r_iret Z hQ hF dX9_copy_50
  have L95 : ∀ (M : Mm) (ls : Array Slot), lv_has ls 7 [(0, .ref (ad o))] → f_X9_copy_b95 o M = some q → G ad X M 95 ls [] := by
    intro M ls hl hF
    unfold f_X9_copy_b95 at hF
    refine r_aload_n Z dX9_copy_95 rfl (lv_at hl 0 rfl) ?_
    refine r_iconst (v := 2) Z dX9_copy_96 (by decide) ?_
    obtain ⟨q2, hq2, hF⟩ := bd_some hF
    refine r_invVi [] Z (c_X9_meets ho hq2) cv_X9_meets rfl (shp_lt ho (by decide)) (fun _ _ => ⟨_, ce_9 ho⟩) wm_644 rfl rfl ⟨Nat.le_of_ble_eq_true rfl, Nat.le_of_ble_eq_true rfl⟩ rfl hl.1 rfl (Nat.le_of_ble_eq_true rfl) dX9_copy_97 ?_
    exact r_iret Z hQ hF dX9_copy_100
  have L141 : ∀ (n141 : Nat) (v3 : Int32) (v4 : Int32) (v5 : Int32) (v6 : Int32) (M : Mm) (ls : Array Slot), lv_has ls 7 [(0, .ref (ad o)), (3, .int v3), (4, .int v4), (5, .int v5), (6, .int v6)] → f_X9_copy_b141 o n141 v3 v4 v5 v6 M = some q → G ad X M 141 ls [] := by
    intro n141
    induction n141 with
    | zero =>
      intro v3 v4 v5 v6 M ls hl hF
      cases hF
    | succ n141 ih141 =>
      intro v3 v4 v5 v6 M ls hl hF
      replace hF : f_X9_copy_b141B (f_X9_copy_b141 o n141) o v3 v4 v5 v6 M = some q := hF
      unfold f_X9_copy_b141B at hF
      refine r_iload Z dX9_copy_141 (lv_at hl 4 rfl) ?_
      refine r_iload Z dX9_copy_143 (lv_at hl 3 rfl) ?_
      refine r_icmp_ge Z 176 dX9_copy_145 (by decide) (fun hc3 => ?_) (fun hc3 => ?_)
      · replace hF := if_some hc3 hF
        refine r_iconst (v := 1) Z dX9_copy_176 (by decide) ?_
        exact r_iret Z hQ hF dX9_copy_177
      · replace hF := nif_some hc3 hF
        refine r_aload_n Z dX9_copy_148 rfl (lv_at hl 0 rfl) ?_
        refine g_9_6 Z ho wm_611 dX9_copy_149 ?_
        refine r_bipush (v := 40) Z dX9_copy_152 (by decide) ?_
        refine r_iload_n Z dX9_copy_154 rfl (lv_at hl 1 rfl) ?_
        refine r_imul Z dX9_copy_155 ?_
        refine r_iload Z dX9_copy_156 (lv_at hl 2 rfl) ?_
        refine r_iadd Z dX9_copy_158 ?_
        refine r_iload Z dX9_copy_159 (lv_at hl 4 rfl) ?_
        refine r_iadd Z dX9_copy_161 ?_
        refine r_aload_n Z dX9_copy_162 rfl (lv_at hl 0 rfl) ?_
        refine g_9_7 Z ho wm_612 dX9_copy_163 ?_
        refine r_iload Z dX9_copy_166 (lv_at hl 4 rfl) ?_
        obtain ⟨hi4, hF⟩ := ck_some hF
        refine r_iaload Z (shp_lt (sh_9_7 ho) (by decide)) (fun _ _ => ce_140 (sh_9_7 ho)) hi4 dX9_copy_168 ?_
        obtain ⟨hi5, hF⟩ := ck_some hF
        obtain ⟨M6, eM6, hF⟩ := nm_some hF
        refine r_iastore Z (shp_lt (sh_9_6 ho) (by decide)) (fun _ _ => ce_340 (sh_9_6 ho)) hi5 dX9_copy_169 ?_
        rw [← eM6]
        obtain ⟨t7, et7, hF⟩ := nm_some hF
        refine r_iinc (j := 4) Z t7 [(6, .int t7), (0, .ref (ad o)), (3, .int v3), (4, .int v4), (5, .int v5)] dX9_copy_170 hl rfl (by rw [et7]; rfl) (by decide) rfl (fun ls hl => ?_)
        refine r_goto Z 141 dX9_copy_173 (by decide) ?_
        exact ih141 v3 v4 v5 t7 M6 ls (lv_sub hl [1, 2, 3, 4, 0] rfl) hF
  have L104 : ∀ (n104 : Nat) (v1 : Int32) (v2 : Int32) (v3 : Int32) (v4 : Int32) (v5 : Int32) (v6 : Int32) (M : Mm) (ls : Array Slot), lv_has ls 7 [(0, .ref (ad o)), (1, .int v1), (2, .int v2), (3, .int v3), (4, .int v4), (5, .int v5), (6, .int v6)] → f_X9_copy_b104 o n104 v1 v2 v3 v4 v5 v6 M = some q → G ad X M 104 ls [] := by
    intro n104
    induction n104 with
    | zero =>
      intro v1 v2 v3 v4 v5 v6 M ls hl hF
      cases hF
    | succ n104 ih104 =>
      intro v1 v2 v3 v4 v5 v6 M ls hl hF
      replace hF : f_X9_copy_b104B (f_X9_copy_b104 o n104) o v1 v2 v3 v4 v5 v6 M = some q := hF
      unfold f_X9_copy_b104B at hF
      refine r_iload Z dX9_copy_104 (lv_at hl 6 rfl) ?_
      refine r_iload Z dX9_copy_106 (lv_at hl 5 rfl) ?_
      refine r_icmp_ge Z 138 dX9_copy_108 (by decide) (fun hc8 => ?_) (fun hc8 => ?_)
      · replace hF := if_some hc8 hF
        refine r_iconst (v := 0) Z dX9_copy_138 (by decide) ?_
        refine r_istore Z [(6, .int 0), (0, .ref (ad o)), (1, .int v1), (2, .int v2), (3, .int v3), (4, .int v4), (5, .int v5)] dX9_copy_139 hl (by decide) rfl (fun ls hl => ?_)
        exact L141 _ v3 v4 v5 0 M ls (lv_sub hl [1, 4, 5, 6, 0] rfl) hF
      · replace hF := nif_some hc8 hF
        refine r_aload_n Z dX9_copy_111 rfl (lv_at hl 0 rfl) ?_
        refine g_9_7 Z ho wm_612 dX9_copy_112 ?_
        refine r_iload Z dX9_copy_115 (lv_at hl 6 rfl) ?_
        refine r_aload_n Z dX9_copy_117 rfl (lv_at hl 0 rfl) ?_
        refine g_9_6 Z ho wm_611 dX9_copy_118 ?_
        refine r_bipush (v := 40) Z dX9_copy_121 (by decide) ?_
        refine r_iload_n Z dX9_copy_123 rfl (lv_at hl 1 rfl) ?_
        refine r_imul Z dX9_copy_124 ?_
        refine r_iload_n Z dX9_copy_125 rfl (lv_at hl 2 rfl) ?_
        refine r_iadd Z dX9_copy_126 ?_
        refine r_iload Z dX9_copy_127 (lv_at hl 6 rfl) ?_
        refine r_iadd Z dX9_copy_129 ?_
        obtain ⟨hi9, hF⟩ := ck_some hF
        refine r_iaload Z (shp_lt (sh_9_6 ho) (by decide)) (fun _ _ => ce_340 (sh_9_6 ho)) hi9 dX9_copy_130 ?_
        obtain ⟨hi10, hF⟩ := ck_some hF
        obtain ⟨M11, eM11, hF⟩ := nm_some hF
        refine r_iastore Z (shp_lt (sh_9_7 ho) (by decide)) (fun _ _ => ce_140 (sh_9_7 ho)) hi10 dX9_copy_131 ?_
        rw [← eM11]
        obtain ⟨t12, et12, hF⟩ := nm_some hF
        refine r_iinc (j := 6) Z t12 [(6, .int t12), (0, .ref (ad o)), (1, .int v1), (2, .int v2), (3, .int v3), (4, .int v4), (5, .int v5)] dX9_copy_132 hl rfl (by rw [et12]; rfl) (by decide) rfl (fun ls hl => ?_)
        refine r_goto Z 104 dX9_copy_135 (by decide) ?_
        exact ih104 v1 v2 v3 v4 v5 t12 M11 ls (lv_sub hl [1, 2, 3, 4, 5, 6, 0] rfl) hF
  unfold f_X9_copy at hF
  refine r_iload_n Z dX9_copy_0 rfl (lv_at hl 1 rfl) ?_
  obtain ⟨q13, hq13, hF⟩ := bd_some hF
  refine r_invSi [] Z (c_X9_isRow hq13) cv_X9_isRow wm_642 rfl rfl ⟨Nat.le_of_ble_eq_true rfl, Nat.le_of_ble_eq_true rfl⟩ rfl hl.1 rfl (Nat.le_of_ble_eq_true rfl) dX9_copy_1 ?_
  refine r_if_eq Z 14 dX9_copy_4 (by decide) (fun hc14 => ?_) (fun hc14 => ?_)
  · replace hF := if_some hc14 hF
    refine r_iconst (v := (-1)) Z dX9_copy_14 (by decide) ?_
    exact r_iret Z hQ hF dX9_copy_15
  · replace hF := nif_some hc14 hF
    refine r_iload_n Z dX9_copy_7 rfl (lv_at hl 3 rfl) ?_
    obtain ⟨q15, hq15, hF⟩ := bd_some hF
    refine r_invSi [] Z (c_X9_isRow hq15) cv_X9_isRow wm_642 rfl rfl ⟨Nat.le_of_ble_eq_true rfl, Nat.le_of_ble_eq_true rfl⟩ rfl hl.1 rfl (Nat.le_of_ble_eq_true rfl) dX9_copy_8 ?_
    refine r_if_ne Z 16 dX9_copy_11 (by decide) (fun hc16 => ?_) (fun hc16 => ?_)
    · replace hF := nif_some hc16 hF
      refine r_iload Z dX9_copy_16 (lv_at hl 5 rfl) ?_
      refine r_if_ge Z 27 dX9_copy_18 (by decide) (fun hc17 => ?_) (fun hc17 => ?_)
      · replace hF := if_some hc17 hF
        refine r_aload_n Z dX9_copy_27 rfl (lv_at hl 0 rfl) ?_
        refine g_9_5 Z ho wm_610 dX9_copy_28 ?_
        refine r_iload_n Z dX9_copy_31 rfl (lv_at hl 1 rfl) ?_
        obtain ⟨hi18, hF⟩ := ck_some hF
        refine r_iaload Z (shp_lt (sh_9_5 ho) (by decide)) (fun _ _ => ce_106 (sh_9_5 ho)) hi18 dX9_copy_32 ?_
        refine r_if_lt Z 45 dX9_copy_33 (by decide) (fun hc19 => ?_) (fun hc19 => ?_)
        · replace hF := if_some hc19 hF
          exact L45 q15.2 ls (lv_sub hl [0] rfl) hF
        · replace hF := nif_some hc19 hF
          refine r_aload_n Z dX9_copy_36 rfl (lv_at hl 0 rfl) ?_
          refine g_9_5 Z ho wm_610 dX9_copy_37 ?_
          refine r_iload_n Z dX9_copy_40 rfl (lv_at hl 3 rfl) ?_
          obtain ⟨hi20, hF⟩ := ck_some hF
          refine r_iaload Z (shp_lt (sh_9_5 ho) (by decide)) (fun _ _ => ce_106 (sh_9_5 ho)) hi20 dX9_copy_41 ?_
          refine r_if_ge Z 51 dX9_copy_42 (by decide) (fun hc21 => ?_) (fun hc21 => ?_)
          · replace hF := if_some hc21 hF
            refine r_iload_n Z dX9_copy_51 rfl (lv_at hl 2 rfl) ?_
            refine r_if_lt Z 95 dX9_copy_52 (by decide) (fun hc22 => ?_) (fun hc22 => ?_)
            · replace hF := if_some hc22 hF
              exact L95 q15.2 ls (lv_sub hl [0] rfl) hF
            · replace hF := nif_some hc22 hF
              refine r_iload Z dX9_copy_55 (lv_at hl 4 rfl) ?_
              refine r_if_lt Z 95 dX9_copy_57 (by decide) (fun hc23 => ?_) (fun hc23 => ?_)
              · replace hF := if_some hc23 hF
                exact L95 q15.2 ls (lv_sub hl [0] rfl) hF
              · replace hF := nif_some hc23 hF
                refine r_iload_n Z dX9_copy_60 rfl (lv_at hl 2 rfl) ?_
                refine r_i2l Z dX9_copy_61 ?_
                refine r_iload Z dX9_copy_62 (lv_at hl 5 rfl) ?_
                refine r_i2l Z dX9_copy_64 ?_
                refine r_ladd Z dX9_copy_65 ?_
                refine r_aload_n Z dX9_copy_66 rfl (lv_at hl 0 rfl) ?_
                refine g_9_5 Z ho wm_610 dX9_copy_67 ?_
                refine r_iload_n Z dX9_copy_70 rfl (lv_at hl 1 rfl) ?_
                obtain ⟨hi24, hF⟩ := ck_some hF
                refine r_iaload Z (shp_lt (sh_9_5 ho) (by decide)) (fun _ _ => ce_106 (sh_9_5 ho)) hi24 dX9_copy_71 ?_
                refine r_i2l Z dX9_copy_72 ?_
                refine r_lcmp Z dX9_copy_73 ?_
                refine r_if_gt Z 95 dX9_copy_74 (by decide) (fun hc25 => ?_) (fun hc25 => ?_)
                · replace hF := if_some hc25 hF
                  exact L95 q15.2 ls (lv_sub hl [0] rfl) hF
                · replace hF := nif_some hc25 hF
                  refine r_iload Z dX9_copy_77 (lv_at hl 4 rfl) ?_
                  refine r_i2l Z dX9_copy_79 ?_
                  refine r_iload Z dX9_copy_80 (lv_at hl 5 rfl) ?_
                  refine r_i2l Z dX9_copy_82 ?_
                  refine r_ladd Z dX9_copy_83 ?_
                  refine r_aload_n Z dX9_copy_84 rfl (lv_at hl 0 rfl) ?_
                  refine g_9_5 Z ho wm_610 dX9_copy_85 ?_
                  refine r_iload_n Z dX9_copy_88 rfl (lv_at hl 3 rfl) ?_
                  obtain ⟨hi26, hF⟩ := ck_some hF
                  refine r_iaload Z (shp_lt (sh_9_5 ho) (by decide)) (fun _ _ => ce_106 (sh_9_5 ho)) hi26 dX9_copy_89 ?_
                  refine r_i2l Z dX9_copy_90 ?_
                  refine r_lcmp Z dX9_copy_91 ?_
                  refine r_if_le Z 101 dX9_copy_92 (by decide) (fun hc27 => ?_) (fun hc27 => ?_)
                  · replace hF := if_some hc27 hF
                    refine r_iconst (v := 0) Z dX9_copy_101 (by decide) ?_
                    refine r_istore Z [(6, .int 0), (0, .ref (ad o)), (1, .int x1), (2, .int x2), (3, .int x3), (4, .int x4), (5, .int x5)] dX9_copy_102 hl (by decide) rfl (fun ls hl => ?_)
                    exact L104 _ x1 x2 x3 x4 x5 0 q15.2 ls (lv_sub hl [1, 2, 3, 4, 5, 6, 0] rfl) hF
                  · replace hF := nif_some hc27 hF
                    exact L95 q15.2 ls (lv_sub hl [0] rfl) hF
          · replace hF := nif_some hc21 hF
            exact L45 q15.2 ls (lv_sub hl [0] rfl) hF
      · replace hF := nif_some hc17 hF
        refine r_aload_n Z dX9_copy_21 rfl (lv_at hl 0 rfl) ?_
        refine r_iconst (v := 5) Z dX9_copy_22 (by decide) ?_
        obtain ⟨q28, hq28, hF⟩ := bd_some hF
        refine r_invVi [] Z (c_X9_meets ho hq28) cv_X9_meets rfl (shp_lt ho (by decide)) (fun _ _ => ⟨_, ce_9 ho⟩) wm_644 rfl rfl ⟨Nat.le_of_ble_eq_true rfl, Nat.le_of_ble_eq_true rfl⟩ rfl hl.1 rfl (Nat.le_of_ble_eq_true rfl) dX9_copy_23 ?_
        exact r_iret Z hQ hF dX9_copy_26
    · replace hF := if_some hc16 hF
      refine r_iconst (v := (-1)) Z dX9_copy_14 (by decide) ?_
      exact r_iret Z hQ hF dX9_copy_15
theorem dX9_count_0 : decode cX9_count 0 = .ok (.iconst 0, 1) := by decide +kernel
theorem dX9_count_1 : decode cX9_count 1 = .ok (.istore_n 2, 1) := by decide +kernel
theorem dX9_count_2 : decode cX9_count 2 = .ok (.iconst 0, 1) := by decide +kernel
theorem dX9_count_3 : decode cX9_count 3 = .ok (.istore_n 3, 1) := by decide +kernel
theorem dX9_count_4 : decode cX9_count 4 = .ok (.iload_n 3, 1) := by decide +kernel
theorem dX9_count_5 : decode cX9_count 5 = .ok (.bipush 6, 2) := by decide +kernel
theorem dX9_count_7 : decode cX9_count 7 = .ok (.if_icmp .ge 30, 3) := by decide +kernel
theorem dX9_count_10 : decode cX9_count 10 = .ok (.iload_n 2, 1) := by decide +kernel
theorem dX9_count_11 : decode cX9_count 11 = .ok (.iload_n 1, 1) := by decide +kernel
theorem dX9_count_12 : decode cX9_count 12 = .ok (.ifCond .ne 16, 3) := by decide +kernel
theorem dX9_count_15 : decode cX9_count 15 = .ok (.aload_n 0, 1) := by decide +kernel
theorem dX9_count_16 : decode cX9_count 16 = .ok (.getfield 17, 3) := by decide +kernel
theorem dX9_count_19 : decode cX9_count 19 = .ok (.iload_n 3, 1) := by decide +kernel
theorem dX9_count_20 : decode cX9_count 20 = .ok (.iaload, 1) := by decide +kernel
theorem dX9_count_21 : decode cX9_count 21 = .ok (.ifCond .lt 7, 3) := by decide +kernel
theorem dX9_count_24 : decode cX9_count 24 = .ok (.iconst 1, 1) := by decide +kernel
theorem dX9_count_25 : decode cX9_count 25 = .ok (.goto 4, 3) := by decide +kernel
theorem dX9_count_28 : decode cX9_count 28 = .ok (.iconst 0, 1) := by decide +kernel
theorem dX9_count_29 : decode cX9_count 29 = .ok (.iadd, 1) := by decide +kernel
theorem dX9_count_30 : decode cX9_count 30 = .ok (.istore_n 2, 1) := by decide +kernel
theorem dX9_count_31 : decode cX9_count 31 = .ok (.iinc 3 1, 3) := by decide +kernel
theorem dX9_count_34 : decode cX9_count 34 = .ok (.goto (-30), 3) := by decide +kernel
theorem dX9_count_37 : decode cX9_count 37 = .ok (.iconst 0, 1) := by decide +kernel
theorem dX9_count_38 : decode cX9_count 38 = .ok (.istore_n 3, 1) := by decide +kernel
theorem dX9_count_39 : decode cX9_count 39 = .ok (.iload_n 3, 1) := by decide +kernel
theorem dX9_count_40 : decode cX9_count 40 = .ok (.iconst 4, 1) := by decide +kernel
theorem dX9_count_41 : decode cX9_count 41 = .ok (.if_icmp .ge 68, 3) := by decide +kernel
theorem dX9_count_44 : decode cX9_count 44 = .ok (.iload_n 2, 1) := by decide +kernel
theorem dX9_count_45 : decode cX9_count 45 = .ok (.aload_n 0, 1) := by decide +kernel
theorem dX9_count_46 : decode cX9_count 46 = .ok (.getfield 26, 3) := by decide +kernel
theorem dX9_count_49 : decode cX9_count 49 = .ok (.iload_n 3, 1) := by decide +kernel
theorem dX9_count_50 : decode cX9_count 50 = .ok (.baload, 1) := by decide +kernel
theorem dX9_count_51 : decode cX9_count 51 = .ok (.ifCond .eq 12, 3) := by decide +kernel
theorem dX9_count_54 : decode cX9_count 54 = .ok (.iload_n 1, 1) := by decide +kernel
theorem dX9_count_55 : decode cX9_count 55 = .ok (.iconst 1, 1) := by decide +kernel
theorem dX9_count_56 : decode cX9_count 56 = .ok (.if_icmp .ne 7, 3) := by decide +kernel
theorem dX9_count_59 : decode cX9_count 59 = .ok (.iconst 1, 1) := by decide +kernel
theorem dX9_count_60 : decode cX9_count 60 = .ok (.goto 4, 3) := by decide +kernel
theorem dX9_count_63 : decode cX9_count 63 = .ok (.iconst 0, 1) := by decide +kernel
theorem dX9_count_64 : decode cX9_count 64 = .ok (.iadd, 1) := by decide +kernel
theorem dX9_count_65 : decode cX9_count 65 = .ok (.istore_n 2, 1) := by decide +kernel
theorem dX9_count_66 : decode cX9_count 66 = .ok (.iload_n 2, 1) := by decide +kernel
theorem dX9_count_67 : decode cX9_count 67 = .ok (.aload_n 0, 1) := by decide +kernel
theorem dX9_count_68 : decode cX9_count 68 = .ok (.getfield 26, 3) := by decide +kernel
theorem dX9_count_71 : decode cX9_count 71 = .ok (.iload_n 3, 1) := by decide +kernel
theorem dX9_count_72 : decode cX9_count 72 = .ok (.baload, 1) := by decide +kernel
theorem dX9_count_73 : decode cX9_count 73 = .ok (.ifCond .eq 27, 3) := by decide +kernel
theorem dX9_count_76 : decode cX9_count 76 = .ok (.iload_n 1, 1) := by decide +kernel
theorem dX9_count_77 : decode cX9_count 77 = .ok (.iconst 2, 1) := by decide +kernel
theorem dX9_count_78 : decode cX9_count 78 = .ok (.if_icmp .ne 22, 3) := by decide +kernel
theorem dX9_count_81 : decode cX9_count 81 = .ok (.aload_n 0, 1) := by decide +kernel
theorem dX9_count_82 : decode cX9_count 82 = .ok (.getfield 30, 3) := by decide +kernel
theorem dX9_count_85 : decode cX9_count 85 = .ok (.iload_n 3, 1) := by decide +kernel
theorem dX9_count_86 : decode cX9_count 86 = .ok (.iaload, 1) := by decide +kernel
theorem dX9_count_87 : decode cX9_count 87 = .ok (.iconst 3, 1) := by decide +kernel
theorem dX9_count_88 : decode cX9_count 88 = .ok (.if_icmp .eq 12, 3) := by decide +kernel
theorem dX9_count_91 : decode cX9_count 91 = .ok (.aload_n 0, 1) := by decide +kernel
theorem dX9_count_92 : decode cX9_count 92 = .ok (.getfield 36, 3) := by decide +kernel
theorem dX9_count_95 : decode cX9_count 95 = .ok (.iload_n 3, 1) := by decide +kernel
theorem dX9_count_96 : decode cX9_count 96 = .ok (.iaload, 1) := by decide +kernel
theorem dX9_count_97 : decode cX9_count 97 = .ok (.goto 4, 3) := by decide +kernel
theorem dX9_count_100 : decode cX9_count 100 = .ok (.iconst 0, 1) := by decide +kernel
theorem dX9_count_101 : decode cX9_count 101 = .ok (.iadd, 1) := by decide +kernel
theorem dX9_count_102 : decode cX9_count 102 = .ok (.istore_n 2, 1) := by decide +kernel
theorem dX9_count_103 : decode cX9_count 103 = .ok (.iinc 3 1, 3) := by decide +kernel
theorem dX9_count_106 : decode cX9_count 106 = .ok (.goto (-67), 3) := by decide +kernel
theorem dX9_count_109 : decode cX9_count 109 = .ok (.iconst 0, 1) := by decide +kernel
theorem dX9_count_110 : decode cX9_count 110 = .ok (.istore_n 3, 1) := by decide +kernel
theorem dX9_count_111 : decode cX9_count 111 = .ok (.iload_n 3, 1) := by decide +kernel
theorem dX9_count_112 : decode cX9_count 112 = .ok (.bipush 16, 2) := by decide +kernel
theorem dX9_count_114 : decode cX9_count 114 = .ok (.if_icmp .ge 31, 3) := by decide +kernel
theorem dX9_count_117 : decode cX9_count 117 = .ok (.iload_n 2, 1) := by decide +kernel
theorem dX9_count_118 : decode cX9_count 118 = .ok (.iload_n 1, 1) := by decide +kernel
theorem dX9_count_119 : decode cX9_count 119 = .ok (.iconst 3, 1) := by decide +kernel
theorem dX9_count_120 : decode cX9_count 120 = .ok (.if_icmp .ne 16, 3) := by decide +kernel
theorem dX9_count_123 : decode cX9_count 123 = .ok (.aload_n 0, 1) := by decide +kernel
theorem dX9_count_124 : decode cX9_count 124 = .ok (.getfield 45, 3) := by decide +kernel
theorem dX9_count_127 : decode cX9_count 127 = .ok (.iload_n 3, 1) := by decide +kernel
theorem dX9_count_128 : decode cX9_count 128 = .ok (.iaload, 1) := by decide +kernel
theorem dX9_count_129 : decode cX9_count 129 = .ok (.ifCond .le 7, 3) := by decide +kernel
theorem dX9_count_132 : decode cX9_count 132 = .ok (.iconst 1, 1) := by decide +kernel
theorem dX9_count_133 : decode cX9_count 133 = .ok (.goto 4, 3) := by decide +kernel
theorem dX9_count_136 : decode cX9_count 136 = .ok (.iconst 0, 1) := by decide +kernel
theorem dX9_count_137 : decode cX9_count 137 = .ok (.iadd, 1) := by decide +kernel
theorem dX9_count_138 : decode cX9_count 138 = .ok (.istore_n 2, 1) := by decide +kernel
theorem dX9_count_139 : decode cX9_count 139 = .ok (.iinc 3 1, 3) := by decide +kernel
theorem dX9_count_142 : decode cX9_count 142 = .ok (.goto (-31), 3) := by decide +kernel
theorem dX9_count_145 : decode cX9_count 145 = .ok (.iload_n 1, 1) := by decide +kernel
theorem dX9_count_146 : decode cX9_count 146 = .ok (.iconst 0, 1) := by decide +kernel
theorem dX9_count_147 : decode cX9_count 147 = .ok (.iconst 3, 1) := by decide +kernel
theorem dX9_count_148 : decode cX9_count 148 = .ok (.invokestatic 81, 3) := by decide +kernel
theorem dX9_count_151 : decode cX9_count 151 = .ok (.ifCond .eq 7, 3) := by decide +kernel
theorem dX9_count_154 : decode cX9_count 154 = .ok (.iload_n 2, 1) := by decide +kernel
theorem dX9_count_155 : decode cX9_count 155 = .ok (.goto 4, 3) := by decide +kernel
theorem dX9_count_158 : decode cX9_count 158 = .ok (.iconst (-1), 1) := by decide +kernel
theorem dX9_count_159 : decode cX9_count 159 = .ok (.ireturn, 1) := by decide +kernel
theorem cv_X9_count : wn_cV yX9_count cX9_count 4 (some .int) RX9 1 := ⟨wm_836, wm_1096, wm_1097, wm_637, by decide +kernel⟩
abbrev rm_X9_count : Room := rmz 1 22
set_option maxHeartbeats 4000000 in
set_option maxRecDepth 100000 in
theorem c_X9_count {ad : Nat → Nat} {o : Nat} {x1 : Int32} {M : Mm} {q : Int32 × Mm} (ho : shp o = 9) (hF : f_X9_count o x1 M = some q) : KI ad yX9_count cX9_count 4 (some .int) rm_X9_count [.ref (ad o), .int x1] M q.1 q.2 := by
  refine wn_enterI (own := RX9) (by decide) rfl (Nat.le_of_ble_eq_true rfl) (fun X ls Z hQ hl => ?_)
  have hl : lv_has ls 4 [(0, .ref (ad o)), (1, .int x1)] := hl
  have L111 : ∀ (n111 : Nat) (v1 : Int32) (v2 : Int32) (v3 : Int32) (M : Mm) (ls : Array Slot), lv_has ls 4 [(0, .ref (ad o)), (1, .int v1), (2, .int v2), (3, .int v3)] → f_X9_count_b111 o n111 v1 v2 v3 M = some q → G ad X M 111 ls [] := by
    intro n111
    induction n111 with
    | zero =>
      intro v1 v2 v3 M ls hl hF
      cases hF
    | succ n111 ih111 =>
      intro v1 v2 v3 M ls hl hF
      replace hF : f_X9_count_b111B (f_X9_count_b111 o n111) o v1 v2 v3 M = some q := hF
      unfold f_X9_count_b111B at hF
      refine r_iload_n Z dX9_count_111 rfl (lv_at hl 3 rfl) ?_
      refine r_bipush (v := 16) Z dX9_count_112 (by decide) ?_
      refine r_icmp_ge Z 145 dX9_count_114 (by decide) (fun hc16 => ?_) (fun hc16 => ?_)
      · replace hF := if_some hc16 hF
        refine r_iload_n Z dX9_count_145 rfl (lv_at hl 1 rfl) ?_
        refine r_iconst (v := 0) Z dX9_count_146 (by decide) ?_
        refine r_iconst (v := 3) Z dX9_count_147 (by decide) ?_
        obtain ⟨q17, hq17, hF⟩ := bd_some hF
        refine r_invSi [] Z (c_X9_in hq17) cv_X9_in wm_639 rfl rfl ⟨Nat.le_of_ble_eq_true rfl, Nat.le_of_ble_eq_true rfl⟩ rfl hl.1 rfl (Nat.le_of_ble_eq_true rfl) dX9_count_148 ?_
        refine r_if_eq Z 158 dX9_count_151 (by decide) (fun hc18 => ?_) (fun hc18 => ?_)
        · replace hF := if_some hc18 hF
          refine r_iconst (v := (-1)) Z dX9_count_158 (by decide) ?_
          exact r_iret Z hQ hF dX9_count_159
        · replace hF := nif_some hc18 hF
          refine r_iload_n Z dX9_count_154 rfl (lv_at hl 2 rfl) ?_
          refine r_goto Z 159 dX9_count_155 (by decide) ?_
          exact r_iret Z hQ hF dX9_count_159
      · replace hF := nif_some hc16 hF
        refine r_iload_n Z dX9_count_117 rfl (lv_at hl 2 rfl) ?_
        refine r_iload_n Z dX9_count_118 rfl (lv_at hl 1 rfl) ?_
        refine r_iconst (v := 3) Z dX9_count_119 (by decide) ?_
        refine r_icmp_ne Z 136 dX9_count_120 (by decide) (fun hc19 => ?_) (fun hc19 => ?_)
        · replace hF := nif_some hc19 hF
          refine r_iconst (v := 0) Z dX9_count_136 (by decide) ?_
          refine r_iadd Z dX9_count_137 ?_
          obtain ⟨t20, et20, hF⟩ := nm_some hF
          rw [← et20]
          refine r_istore_n Z [(2, .int t20), (0, .ref (ad o)), (1, .int v1), (3, .int v3)] dX9_count_138 rfl hl (by decide) rfl (fun ls hl => ?_)
          obtain ⟨t21, et21, hF⟩ := nm_some hF
          refine r_iinc (j := 3) Z t21 [(3, .int t21), (2, .int t20), (0, .ref (ad o)), (1, .int v1)] dX9_count_139 hl rfl (by rw [et21]; rfl) (by decide) rfl (fun ls hl => ?_)
          refine r_goto Z 111 dX9_count_142 (by decide) ?_
          exact ih111 v1 t20 t21 M ls (lv_sub hl [2, 3, 1, 0] rfl) hF
        · replace hF := if_some hc19 hF
          refine r_aload_n Z dX9_count_123 rfl (lv_at hl 0 rfl) ?_
          refine g_9_14 Z ho wm_620 dX9_count_124 ?_
          refine r_iload_n Z dX9_count_127 rfl (lv_at hl 3 rfl) ?_
          obtain ⟨hi22, hF⟩ := ck_some hF
          refine r_iaload Z (shp_lt (sh_9_14 ho) (by decide)) (fun _ _ => ce_116 (sh_9_14 ho)) hi22 dX9_count_128 ?_
          refine r_if_le Z 136 dX9_count_129 (by decide) (fun hc23 => ?_) (fun hc23 => ?_)
          · replace hF := if_some hc23 hF
            refine r_iconst (v := 0) Z dX9_count_136 (by decide) ?_
            refine r_iadd Z dX9_count_137 ?_
            obtain ⟨t24, et24, hF⟩ := nm_some hF
            rw [← et24]
            refine r_istore_n Z [(2, .int t24), (0, .ref (ad o)), (1, .int v1), (3, .int v3)] dX9_count_138 rfl hl (by decide) rfl (fun ls hl => ?_)
            obtain ⟨t25, et25, hF⟩ := nm_some hF
            refine r_iinc (j := 3) Z t25 [(3, .int t25), (2, .int t24), (0, .ref (ad o)), (1, .int v1)] dX9_count_139 hl rfl (by rw [et25]; rfl) (by decide) rfl (fun ls hl => ?_)
            refine r_goto Z 111 dX9_count_142 (by decide) ?_
            exact ih111 v1 t24 t25 M ls (lv_sub hl [2, 3, 1, 0] rfl) hF
          · replace hF := nif_some hc23 hF
            refine r_iconst (v := 1) Z dX9_count_132 (by decide) ?_
            refine r_goto Z 137 dX9_count_133 (by decide) ?_
            refine r_iadd Z dX9_count_137 ?_
            obtain ⟨t26, et26, hF⟩ := nm_some hF
            rw [← et26]
            refine r_istore_n Z [(2, .int t26), (0, .ref (ad o)), (1, .int v1), (3, .int v3)] dX9_count_138 rfl hl (by decide) rfl (fun ls hl => ?_)
            obtain ⟨t27, et27, hF⟩ := nm_some hF
            refine r_iinc (j := 3) Z t27 [(3, .int t27), (2, .int t26), (0, .ref (ad o)), (1, .int v1)] dX9_count_139 hl rfl (by rw [et27]; rfl) (by decide) rfl (fun ls hl => ?_)
            refine r_goto Z 111 dX9_count_142 (by decide) ?_
            exact ih111 v1 t26 t27 M ls (lv_sub hl [2, 3, 1, 0] rfl) hF
  have L39 : ∀ (n39 : Nat) (v1 : Int32) (v2 : Int32) (v3 : Int32) (M : Mm) (ls : Array Slot), lv_has ls 4 [(0, .ref (ad o)), (1, .int v1), (2, .int v2), (3, .int v3)] → f_X9_count_b39 o n39 v1 v2 v3 M = some q → G ad X M 39 ls [] := by
    intro n39
    induction n39 with
    | zero =>
      intro v1 v2 v3 M ls hl hF
      cases hF
    | succ n39 ih39 =>
      have L64 : ∀ (v1 : Int32) (v3 : Int32) (s0 : Int32) (s1 : Int32) (M : Mm) (ls : Array Slot), lv_has ls 4 [(0, .ref (ad o)), (1, .int v1), (3, .int v3)] → f_X9_count_b64 (f_X9_count_b39 o n39) o v1 v3 s0 s1 M = some q → G ad X M 64 ls [.int s1, .int s0] := by
        intro v1 v3 s0 s1 M ls hl hF
        unfold f_X9_count_b64 at hF
        refine r_iadd Z dX9_count_64 ?_
        obtain ⟨t1, et1, hF⟩ := nm_some hF
        rw [← et1]
        refine r_istore_n Z [(2, .int t1), (0, .ref (ad o)), (1, .int v1), (3, .int v3)] dX9_count_65 rfl hl (by decide) rfl (fun ls hl => ?_)
        refine r_iload_n Z dX9_count_66 rfl (lv_at hl 0 rfl) ?_
        refine r_aload_n Z dX9_count_67 rfl (lv_at hl 1 rfl) ?_
        refine g_9_8 Z ho wm_614 dX9_count_68 ?_
        refine r_iload_n Z dX9_count_71 rfl (lv_at hl 3 rfl) ?_
        obtain ⟨hi2, hF⟩ := ck_some hF
        refine r_zaload Z (shp_lt (sh_9_8 ho) (by decide)) (fun _ _ => ce_2004 (sh_9_8 ho)) hi2 dX9_count_72 ?_
        refine r_if_eq Z 100 dX9_count_73 (by decide) (fun hc3 => ?_) (fun hc3 => ?_)
        · replace hF := if_some hc3 hF
          refine r_iconst (v := 0) Z dX9_count_100 (by decide) ?_
          refine r_iadd Z dX9_count_101 ?_
          obtain ⟨t4, et4, hF⟩ := nm_some hF
          rw [← et4]
          refine r_istore_n Z [(2, .int t4), (0, .ref (ad o)), (1, .int v1), (3, .int v3)] dX9_count_102 rfl hl (by decide) rfl (fun ls hl => ?_)
          obtain ⟨t5, et5, hF⟩ := nm_some hF
          refine r_iinc (j := 3) Z t5 [(3, .int t5), (2, .int t4), (0, .ref (ad o)), (1, .int v1)] dX9_count_103 hl rfl (by rw [et5]; rfl) (by decide) rfl (fun ls hl => ?_)
          refine r_goto Z 39 dX9_count_106 (by decide) ?_
          exact ih39 v1 t4 t5 M ls (lv_sub hl [2, 3, 1, 0] rfl) hF
        · replace hF := nif_some hc3 hF
          refine r_iload_n Z dX9_count_76 rfl (lv_at hl 2 rfl) ?_
          refine r_iconst (v := 2) Z dX9_count_77 (by decide) ?_
          refine r_icmp_ne Z 100 dX9_count_78 (by decide) (fun hc6 => ?_) (fun hc6 => ?_)
          · replace hF := nif_some hc6 hF
            refine r_iconst (v := 0) Z dX9_count_100 (by decide) ?_
            refine r_iadd Z dX9_count_101 ?_
            obtain ⟨t7, et7, hF⟩ := nm_some hF
            rw [← et7]
            refine r_istore_n Z [(2, .int t7), (0, .ref (ad o)), (1, .int v1), (3, .int v3)] dX9_count_102 rfl hl (by decide) rfl (fun ls hl => ?_)
            obtain ⟨t8, et8, hF⟩ := nm_some hF
            refine r_iinc (j := 3) Z t8 [(3, .int t8), (2, .int t7), (0, .ref (ad o)), (1, .int v1)] dX9_count_103 hl rfl (by rw [et8]; rfl) (by decide) rfl (fun ls hl => ?_)
            refine r_goto Z 39 dX9_count_106 (by decide) ?_
            exact ih39 v1 t7 t8 M ls (lv_sub hl [2, 3, 1, 0] rfl) hF
          · replace hF := if_some hc6 hF
            refine r_aload_n Z dX9_count_81 rfl (lv_at hl 1 rfl) ?_
            refine g_9_9 Z ho wm_615 dX9_count_82 ?_
            refine r_iload_n Z dX9_count_85 rfl (lv_at hl 3 rfl) ?_
            obtain ⟨hi9, hF⟩ := ck_some hF
            refine r_iaload Z (shp_lt (sh_9_9 ho) (by decide)) (fun _ _ => ce_104 (sh_9_9 ho)) hi9 dX9_count_86 ?_
            refine r_iconst (v := 3) Z dX9_count_87 (by decide) ?_
            refine r_icmp_eq Z 100 dX9_count_88 (by decide) (fun hc10 => ?_) (fun hc10 => ?_)
            · replace hF := if_some hc10 hF
              refine r_iconst (v := 0) Z dX9_count_100 (by decide) ?_
              refine r_iadd Z dX9_count_101 ?_
              obtain ⟨t11, et11, hF⟩ := nm_some hF
              rw [← et11]
              refine r_istore_n Z [(2, .int t11), (0, .ref (ad o)), (1, .int v1), (3, .int v3)] dX9_count_102 rfl hl (by decide) rfl (fun ls hl => ?_)
              obtain ⟨t12, et12, hF⟩ := nm_some hF
              refine r_iinc (j := 3) Z t12 [(3, .int t12), (2, .int t11), (0, .ref (ad o)), (1, .int v1)] dX9_count_103 hl rfl (by rw [et12]; rfl) (by decide) rfl (fun ls hl => ?_)
              refine r_goto Z 39 dX9_count_106 (by decide) ?_
              exact ih39 v1 t11 t12 M ls (lv_sub hl [2, 3, 1, 0] rfl) hF
            · replace hF := nif_some hc10 hF
              refine r_aload_n Z dX9_count_91 rfl (lv_at hl 1 rfl) ?_
              refine g_9_11 Z ho wm_617 dX9_count_92 ?_
              refine r_iload_n Z dX9_count_95 rfl (lv_at hl 3 rfl) ?_
              obtain ⟨hi13, hF⟩ := ck_some hF
              refine r_iaload Z (shp_lt (sh_9_11 ho) (by decide)) (fun _ _ => ce_104 (sh_9_11 ho)) hi13 dX9_count_96 ?_
              refine r_goto Z 101 dX9_count_97 (by decide) ?_
              refine r_iadd Z dX9_count_101 ?_
              obtain ⟨t14, et14, hF⟩ := nm_some hF
              rw [← et14]
              refine r_istore_n Z [(2, .int t14), (0, .ref (ad o)), (1, .int v1), (3, .int v3)] dX9_count_102 rfl hl (by decide) rfl (fun ls hl => ?_)
              obtain ⟨t15, et15, hF⟩ := nm_some hF
              refine r_iinc (j := 3) Z t15 [(3, .int t15), (2, .int t14), (0, .ref (ad o)), (1, .int v1)] dX9_count_103 hl rfl (by rw [et15]; rfl) (by decide) rfl (fun ls hl => ?_)
              refine r_goto Z 39 dX9_count_106 (by decide) ?_
              exact ih39 v1 t14 t15 M ls (lv_sub hl [2, 3, 1, 0] rfl) hF
      have L63 : ∀ (v1 : Int32) (v3 : Int32) (s0 : Int32) (M : Mm) (ls : Array Slot), lv_has ls 4 [(0, .ref (ad o)), (1, .int v1), (3, .int v3)] → f_X9_count_b63 (f_X9_count_b39 o n39) o v1 v3 s0 M = some q → G ad X M 63 ls [.int s0] := by
        intro v1 v3 s0 M ls hl hF
        unfold f_X9_count_b63 at hF
        refine r_iconst (v := 0) Z dX9_count_63 (by decide) ?_
        exact L64 v1 v3 s0 0 M ls (lv_sub hl [0, 1, 2] rfl) hF
      intro v1 v2 v3 M ls hl hF
      replace hF : f_X9_count_b39B (f_X9_count_b39 o n39) o v1 v2 v3 M = some q := hF
      unfold f_X9_count_b39B at hF
      refine r_iload_n Z dX9_count_39 rfl (lv_at hl 3 rfl) ?_
      refine r_iconst (v := 4) Z dX9_count_40 (by decide) ?_
      refine r_icmp_ge Z 109 dX9_count_41 (by decide) (fun hc28 => ?_) (fun hc28 => ?_)
      · replace hF := if_some hc28 hF
        refine r_iconst (v := 0) Z dX9_count_109 (by decide) ?_
        refine r_istore_n Z [(3, .int 0), (0, .ref (ad o)), (1, .int v1), (2, .int v2)] dX9_count_110 rfl hl (by decide) rfl (fun ls hl => ?_)
        exact L111 _ v1 v2 0 M ls (lv_sub hl [1, 2, 3, 0] rfl) hF
      · replace hF := nif_some hc28 hF
        refine r_iload_n Z dX9_count_44 rfl (lv_at hl 2 rfl) ?_
        refine r_aload_n Z dX9_count_45 rfl (lv_at hl 0 rfl) ?_
        refine g_9_8 Z ho wm_614 dX9_count_46 ?_
        refine r_iload_n Z dX9_count_49 rfl (lv_at hl 3 rfl) ?_
        obtain ⟨hi29, hF⟩ := ck_some hF
        refine r_zaload Z (shp_lt (sh_9_8 ho) (by decide)) (fun _ _ => ce_2004 (sh_9_8 ho)) hi29 dX9_count_50 ?_
        refine r_if_eq Z 63 dX9_count_51 (by decide) (fun hc30 => ?_) (fun hc30 => ?_)
        · replace hF := if_some hc30 hF
          exact L63 v1 v3 v2 M ls (lv_sub hl [0, 1, 3] rfl) hF
        · replace hF := nif_some hc30 hF
          refine r_iload_n Z dX9_count_54 rfl (lv_at hl 1 rfl) ?_
          refine r_iconst (v := 1) Z dX9_count_55 (by decide) ?_
          refine r_icmp_ne Z 63 dX9_count_56 (by decide) (fun hc31 => ?_) (fun hc31 => ?_)
          · replace hF := nif_some hc31 hF
            exact L63 v1 v3 v2 M ls (lv_sub hl [0, 1, 3] rfl) hF
          · replace hF := if_some hc31 hF
            refine r_iconst (v := 1) Z dX9_count_59 (by decide) ?_
            refine r_goto Z 64 dX9_count_60 (by decide) ?_
            exact L64 v1 v3 v2 1 M ls (lv_sub hl [0, 1, 3] rfl) hF
  have L4 : ∀ (n4 : Nat) (v1 : Int32) (v2 : Int32) (v3 : Int32) (M : Mm) (ls : Array Slot), lv_has ls 4 [(0, .ref (ad o)), (1, .int v1), (2, .int v2), (3, .int v3)] → f_X9_count_b4 o n4 v1 v2 v3 M = some q → G ad X M 4 ls [] := by
    intro n4
    induction n4 with
    | zero =>
      intro v1 v2 v3 M ls hl hF
      cases hF
    | succ n4 ih4 =>
      intro v1 v2 v3 M ls hl hF
      replace hF : f_X9_count_b4B (f_X9_count_b4 o n4) o v1 v2 v3 M = some q := hF
      unfold f_X9_count_b4B at hF
      refine r_iload_n Z dX9_count_4 rfl (lv_at hl 3 rfl) ?_
      refine r_bipush (v := 6) Z dX9_count_5 (by decide) ?_
      refine r_icmp_ge Z 37 dX9_count_7 (by decide) (fun hc32 => ?_) (fun hc32 => ?_)
      · replace hF := if_some hc32 hF
        refine r_iconst (v := 0) Z dX9_count_37 (by decide) ?_
        refine r_istore_n Z [(3, .int 0), (0, .ref (ad o)), (1, .int v1), (2, .int v2)] dX9_count_38 rfl hl (by decide) rfl (fun ls hl => ?_)
        exact L39 _ v1 v2 0 M ls (lv_sub hl [1, 2, 3, 0] rfl) hF
      · replace hF := nif_some hc32 hF
        refine r_iload_n Z dX9_count_10 rfl (lv_at hl 2 rfl) ?_
        refine r_iload_n Z dX9_count_11 rfl (lv_at hl 1 rfl) ?_
        refine r_if_ne Z 28 dX9_count_12 (by decide) (fun hc33 => ?_) (fun hc33 => ?_)
        · replace hF := nif_some hc33 hF
          refine r_iconst (v := 0) Z dX9_count_28 (by decide) ?_
          refine r_iadd Z dX9_count_29 ?_
          obtain ⟨t34, et34, hF⟩ := nm_some hF
          rw [← et34]
          refine r_istore_n Z [(2, .int t34), (0, .ref (ad o)), (1, .int v1), (3, .int v3)] dX9_count_30 rfl hl (by decide) rfl (fun ls hl => ?_)
          obtain ⟨t35, et35, hF⟩ := nm_some hF
          refine r_iinc (j := 3) Z t35 [(3, .int t35), (2, .int t34), (0, .ref (ad o)), (1, .int v1)] dX9_count_31 hl rfl (by rw [et35]; rfl) (by decide) rfl (fun ls hl => ?_)
          refine r_goto Z 4 dX9_count_34 (by decide) ?_
          exact ih4 v1 t34 t35 M ls (lv_sub hl [2, 3, 1, 0] rfl) hF
        · replace hF := if_some hc33 hF
          refine r_aload_n Z dX9_count_15 rfl (lv_at hl 0 rfl) ?_
          refine g_9_5 Z ho wm_610 dX9_count_16 ?_
          refine r_iload_n Z dX9_count_19 rfl (lv_at hl 3 rfl) ?_
          obtain ⟨hi36, hF⟩ := ck_some hF
          refine r_iaload Z (shp_lt (sh_9_5 ho) (by decide)) (fun _ _ => ce_106 (sh_9_5 ho)) hi36 dX9_count_20 ?_
          refine r_if_lt Z 28 dX9_count_21 (by decide) (fun hc37 => ?_) (fun hc37 => ?_)
          · replace hF := if_some hc37 hF
            refine r_iconst (v := 0) Z dX9_count_28 (by decide) ?_
            refine r_iadd Z dX9_count_29 ?_
            obtain ⟨t38, et38, hF⟩ := nm_some hF
            rw [← et38]
            refine r_istore_n Z [(2, .int t38), (0, .ref (ad o)), (1, .int v1), (3, .int v3)] dX9_count_30 rfl hl (by decide) rfl (fun ls hl => ?_)
            obtain ⟨t39, et39, hF⟩ := nm_some hF
            refine r_iinc (j := 3) Z t39 [(3, .int t39), (2, .int t38), (0, .ref (ad o)), (1, .int v1)] dX9_count_31 hl rfl (by rw [et39]; rfl) (by decide) rfl (fun ls hl => ?_)
            refine r_goto Z 4 dX9_count_34 (by decide) ?_
            exact ih4 v1 t38 t39 M ls (lv_sub hl [2, 3, 1, 0] rfl) hF
          · replace hF := nif_some hc37 hF
            refine r_iconst (v := 1) Z dX9_count_24 (by decide) ?_
            refine r_goto Z 29 dX9_count_25 (by decide) ?_
            refine r_iadd Z dX9_count_29 ?_
            obtain ⟨t40, et40, hF⟩ := nm_some hF
            rw [← et40]
            refine r_istore_n Z [(2, .int t40), (0, .ref (ad o)), (1, .int v1), (3, .int v3)] dX9_count_30 rfl hl (by decide) rfl (fun ls hl => ?_)
            obtain ⟨t41, et41, hF⟩ := nm_some hF
            refine r_iinc (j := 3) Z t41 [(3, .int t41), (2, .int t40), (0, .ref (ad o)), (1, .int v1)] dX9_count_31 hl rfl (by rw [et41]; rfl) (by decide) rfl (fun ls hl => ?_)
            refine r_goto Z 4 dX9_count_34 (by decide) ?_
            exact ih4 v1 t40 t41 M ls (lv_sub hl [2, 3, 1, 0] rfl) hF
  unfold f_X9_count at hF
  refine r_iconst (v := 0) Z dX9_count_0 (by decide) ?_
  refine r_istore_n Z [(2, .int 0), (0, .ref (ad o)), (1, .int x1)] dX9_count_1 rfl hl (by decide) rfl (fun ls hl => ?_)
  refine r_iconst (v := 0) Z dX9_count_2 (by decide) ?_
  refine r_istore_n Z [(3, .int 0), (2, .int 0), (0, .ref (ad o)), (1, .int x1)] dX9_count_3 rfl hl (by decide) rfl (fun ls hl => ?_)
  exact L4 _ x1 0 0 M ls (lv_sub hl [2, 3, 1, 0] rfl) hF
theorem dX9_empty_0 : decode cX9_empty 0 = .ok (.aload_n 0, 1) := by decide +kernel
theorem dX9_empty_1 : decode cX9_empty 1 = .ok (.getfield 42, 3) := by decide +kernel
theorem dX9_empty_4 : decode cX9_empty 4 = .ok (.iload_n 1, 1) := by decide +kernel
theorem dX9_empty_5 : decode cX9_empty 5 = .ok (.iconst 0, 1) := by decide +kernel
theorem dX9_empty_6 : decode cX9_empty 6 = .ok (.iastore, 1) := by decide +kernel
theorem dX9_empty_7 : decode cX9_empty 7 = .ok (.iconst 0, 1) := by decide +kernel
theorem dX9_empty_8 : decode cX9_empty 8 = .ok (.istore_n 2, 1) := by decide +kernel
theorem dX9_empty_9 : decode cX9_empty 9 = .ok (.iload_n 2, 1) := by decide +kernel
theorem dX9_empty_10 : decode cX9_empty 10 = .ok (.iconst 4, 1) := by decide +kernel
theorem dX9_empty_11 : decode cX9_empty 11 = .ok (.if_icmp .ge 31, 3) := by decide +kernel
theorem dX9_empty_14 : decode cX9_empty 14 = .ok (.aload_n 0, 1) := by decide +kernel
theorem dX9_empty_15 : decode cX9_empty 15 = .ok (.getfield 45, 3) := by decide +kernel
theorem dX9_empty_18 : decode cX9_empty 18 = .ok (.iconst 4, 1) := by decide +kernel
theorem dX9_empty_19 : decode cX9_empty 19 = .ok (.iload_n 1, 1) := by decide +kernel
theorem dX9_empty_20 : decode cX9_empty 20 = .ok (.imul, 1) := by decide +kernel
theorem dX9_empty_21 : decode cX9_empty 21 = .ok (.iload_n 2, 1) := by decide +kernel
theorem dX9_empty_22 : decode cX9_empty 22 = .ok (.iadd, 1) := by decide +kernel
theorem dX9_empty_23 : decode cX9_empty 23 = .ok (.iconst 0, 1) := by decide +kernel
theorem dX9_empty_24 : decode cX9_empty 24 = .ok (.iastore, 1) := by decide +kernel
theorem dX9_empty_25 : decode cX9_empty 25 = .ok (.aload_n 0, 1) := by decide +kernel
theorem dX9_empty_26 : decode cX9_empty 26 = .ok (.getfield 45, 3) := by decide +kernel
theorem dX9_empty_29 : decode cX9_empty 29 = .ok (.iconst 4, 1) := by decide +kernel
theorem dX9_empty_30 : decode cX9_empty 30 = .ok (.iload_n 2, 1) := by decide +kernel
theorem dX9_empty_31 : decode cX9_empty 31 = .ok (.imul, 1) := by decide +kernel
theorem dX9_empty_32 : decode cX9_empty 32 = .ok (.iload_n 1, 1) := by decide +kernel
theorem dX9_empty_33 : decode cX9_empty 33 = .ok (.iadd, 1) := by decide +kernel
theorem dX9_empty_34 : decode cX9_empty 34 = .ok (.iconst 0, 1) := by decide +kernel
theorem dX9_empty_35 : decode cX9_empty 35 = .ok (.iastore, 1) := by decide +kernel
theorem dX9_empty_36 : decode cX9_empty 36 = .ok (.iinc 2 1, 3) := by decide +kernel
theorem dX9_empty_39 : decode cX9_empty 39 = .ok (.goto (-30), 3) := by decide +kernel
theorem dX9_empty_42 : decode cX9_empty 42 = .ok (.return_, 1) := by decide +kernel
theorem cv_X9_empty : wn_cV yX9_empty cX9_empty 3 none RX9 1 := ⟨wm_662, wm_665, wm_666, wm_637, by decide +kernel⟩
abbrev rm_X9_empty : Room := rmz 0 0
set_option maxHeartbeats 4000000 in
set_option maxRecDepth 100000 in
theorem c_X9_empty {ad : Nat → Nat} {o : Nat} {x1 : Int32} {M : Mm} {q : Mm} (ho : shp o = 9) (hF : f_X9_empty o x1 M = some q) : KV ad yX9_empty cX9_empty 3 none rm_X9_empty [.ref (ad o), .int x1] M q := by
  refine wn_enterV (own := RX9) (by decide) rfl (Nat.le_of_ble_eq_true rfl) (fun X ls Z hQ hl => ?_)
  have hl : lv_has ls 3 [(0, .ref (ad o)), (1, .int x1)] := hl
  have L9 : ∀ (n9 : Nat) (v1 : Int32) (v2 : Int32) (M : Mm) (ls : Array Slot), lv_has ls 3 [(0, .ref (ad o)), (1, .int v1), (2, .int v2)] → f_X9_empty_b9 o n9 v1 v2 M = some q → G ad X M 9 ls [] := by
    intro n9
    induction n9 with
    | zero =>
      intro v1 v2 M ls hl hF
      cases hF
    | succ n9 ih9 =>
      intro v1 v2 M ls hl hF
      replace hF : f_X9_empty_b9B (f_X9_empty_b9 o n9) o v1 v2 M = some q := hF
      unfold f_X9_empty_b9B at hF
      refine r_iload_n Z dX9_empty_9 rfl (lv_at hl 2 rfl) ?_
      refine r_iconst (v := 4) Z dX9_empty_10 (by decide) ?_
      refine r_icmp_ge Z 42 dX9_empty_11 (by decide) (fun hc1 => ?_) (fun hc1 => ?_)
      · replace hF := if_some hc1 hF
        exact r_vret Z hQ hF dX9_empty_42
      · replace hF := nif_some hc1 hF
        refine r_aload_n Z dX9_empty_14 rfl (lv_at hl 0 rfl) ?_
        refine g_9_14 Z ho wm_620 dX9_empty_15 ?_
        refine r_iconst (v := 4) Z dX9_empty_18 (by decide) ?_
        refine r_iload_n Z dX9_empty_19 rfl (lv_at hl 1 rfl) ?_
        refine r_imul Z dX9_empty_20 ?_
        refine r_iload_n Z dX9_empty_21 rfl (lv_at hl 2 rfl) ?_
        refine r_iadd Z dX9_empty_22 ?_
        refine r_iconst (v := 0) Z dX9_empty_23 (by decide) ?_
        obtain ⟨hi2, hF⟩ := ck_some hF
        obtain ⟨M3, eM3, hF⟩ := nm_some hF
        refine r_iastore Z (shp_lt (sh_9_14 ho) (by decide)) (fun _ _ => ce_116 (sh_9_14 ho)) hi2 dX9_empty_24 ?_
        rw [← eM3]
        refine r_aload_n Z dX9_empty_25 rfl (lv_at hl 0 rfl) ?_
        refine g_9_14 Z ho wm_620 dX9_empty_26 ?_
        refine r_iconst (v := 4) Z dX9_empty_29 (by decide) ?_
        refine r_iload_n Z dX9_empty_30 rfl (lv_at hl 2 rfl) ?_
        refine r_imul Z dX9_empty_31 ?_
        refine r_iload_n Z dX9_empty_32 rfl (lv_at hl 1 rfl) ?_
        refine r_iadd Z dX9_empty_33 ?_
        refine r_iconst (v := 0) Z dX9_empty_34 (by decide) ?_
        obtain ⟨hi4, hF⟩ := ck_some hF
        obtain ⟨M5, eM5, hF⟩ := nm_some hF
        refine r_iastore Z (shp_lt (sh_9_14 ho) (by decide)) (fun _ _ => ce_116 (sh_9_14 ho)) hi4 dX9_empty_35 ?_
        rw [← eM5]
        obtain ⟨t6, et6, hF⟩ := nm_some hF
        refine r_iinc (j := 2) Z t6 [(2, .int t6), (0, .ref (ad o)), (1, .int v1)] dX9_empty_36 hl rfl (by rw [et6]; rfl) (by decide) rfl (fun ls hl => ?_)
        refine r_goto Z 9 dX9_empty_39 (by decide) ?_
        exact ih9 v1 t6 M5 ls (lv_sub hl [1, 2, 0] rfl) hF
  unfold f_X9_empty at hF
  refine r_aload_n Z dX9_empty_0 rfl (lv_at hl 0 rfl) ?_
  refine g_9_13 Z ho wm_619 dX9_empty_1 ?_
  refine r_iload_n Z dX9_empty_4 rfl (lv_at hl 1 rfl) ?_
  refine r_iconst (v := 0) Z dX9_empty_5 (by decide) ?_
  obtain ⟨hi7, hF⟩ := ck_some hF
  obtain ⟨M8, eM8, hF⟩ := nm_some hF
  refine r_iastore Z (shp_lt (sh_9_13 ho) (by decide)) (fun _ _ => ce_104 (sh_9_13 ho)) hi7 dX9_empty_6 ?_
  rw [← eM8]
  refine r_iconst (v := 0) Z dX9_empty_7 (by decide) ?_
  refine r_istore_n Z [(2, .int 0), (0, .ref (ad o)), (1, .int x1)] dX9_empty_8 rfl hl (by decide) rfl (fun ls hl => ?_)
  exact L9 _ x1 0 M8 ls (lv_sub hl [1, 2, 0] rfl) hF

theorem dX9_weightAt_0 : decode cX9_weightAt 0 = .ok (.lconst 1, 1) := by decide +kernel
theorem dX9_weightAt_1 : decode cX9_weightAt 1 = .ok (.lstore_n 3, 1) := by decide +kernel
theorem dX9_weightAt_2 : decode cX9_weightAt 2 = .ok (.iconst 0, 1) := by decide +kernel
theorem dX9_weightAt_3 : decode cX9_weightAt 3 = .ok (.istore 5, 2) := by decide +kernel
theorem dX9_weightAt_5 : decode cX9_weightAt 5 = .ok (.iload 5, 2) := by decide +kernel
theorem dX9_weightAt_7 : decode cX9_weightAt 7 = .ok (.iload_n 2, 1) := by decide +kernel
theorem dX9_weightAt_8 : decode cX9_weightAt 8 = .ok (.if_icmp .ge 17, 3) := by decide +kernel
theorem dX9_weightAt_11 : decode cX9_weightAt 11 = .ok (.lload_n 3, 1) := by decide +kernel
theorem dX9_weightAt_12 : decode cX9_weightAt 12 = .ok (.aload_n 0, 1) := by decide +kernel
theorem dX9_weightAt_13 : decode cX9_weightAt 13 = .ok (.iload_n 1, 1) := by decide +kernel
theorem dX9_weightAt_14 : decode cX9_weightAt 14 = .ok (.invokevirtual 173, 3) := by decide +kernel
theorem dX9_weightAt_17 : decode cX9_weightAt 17 = .ok (.lmul, 1) := by decide +kernel
theorem dX9_weightAt_18 : decode cX9_weightAt 18 = .ok (.lstore_n 3, 1) := by decide +kernel
theorem dX9_weightAt_19 : decode cX9_weightAt 19 = .ok (.iinc 5 1, 3) := by decide +kernel
theorem dX9_weightAt_22 : decode cX9_weightAt 22 = .ok (.goto (-17), 3) := by decide +kernel
theorem dX9_weightAt_25 : decode cX9_weightAt 25 = .ok (.aload_n 0, 1) := by decide +kernel
theorem dX9_weightAt_26 : decode cX9_weightAt 26 = .ok (.getfield 30, 3) := by decide +kernel
theorem dX9_weightAt_29 : decode cX9_weightAt 29 = .ok (.iload_n 1, 1) := by decide +kernel
theorem dX9_weightAt_30 : decode cX9_weightAt 30 = .ok (.iaload, 1) := by decide +kernel
theorem dX9_weightAt_31 : decode cX9_weightAt 31 = .ok (.iconst 3, 1) := by decide +kernel
theorem dX9_weightAt_32 : decode cX9_weightAt 32 = .ok (.if_icmp .ne 37, 3) := by decide +kernel
theorem dX9_weightAt_35 : decode cX9_weightAt 35 = .ok (.lload_n 3, 1) := by decide +kernel
theorem dX9_weightAt_36 : decode cX9_weightAt 36 = .ok (.iload_n 2, 1) := by decide +kernel
theorem dX9_weightAt_37 : decode cX9_weightAt 37 = .ok (.iconst 2, 1) := by decide +kernel
theorem dX9_weightAt_38 : decode cX9_weightAt 38 = .ok (.if_icmp .ge 8, 3) := by decide +kernel
theorem dX9_weightAt_41 : decode cX9_weightAt 41 = .ok (.bipush 24, 2) := by decide +kernel
theorem dX9_weightAt_43 : decode cX9_weightAt 43 = .ok (.goto 23, 3) := by decide +kernel
theorem dX9_weightAt_46 : decode cX9_weightAt 46 = .ok (.iload_n 2, 1) := by decide +kernel
theorem dX9_weightAt_47 : decode cX9_weightAt 47 = .ok (.iconst 2, 1) := by decide +kernel
theorem dX9_weightAt_48 : decode cX9_weightAt 48 = .ok (.if_icmp .ne 8, 3) := by decide +kernel
theorem dX9_weightAt_51 : decode cX9_weightAt 51 = .ok (.bipush 12, 2) := by decide +kernel
theorem dX9_weightAt_53 : decode cX9_weightAt 53 = .ok (.goto 13, 3) := by decide +kernel
theorem dX9_weightAt_56 : decode cX9_weightAt 56 = .ok (.iload_n 2, 1) := by decide +kernel
theorem dX9_weightAt_57 : decode cX9_weightAt 57 = .ok (.iconst 3, 1) := by decide +kernel
theorem dX9_weightAt_58 : decode cX9_weightAt 58 = .ok (.if_icmp .ne 7, 3) := by decide +kernel
theorem dX9_weightAt_61 : decode cX9_weightAt 61 = .ok (.iconst 4, 1) := by decide +kernel
theorem dX9_weightAt_62 : decode cX9_weightAt 62 = .ok (.goto 4, 3) := by decide +kernel
theorem dX9_weightAt_65 : decode cX9_weightAt 65 = .ok (.iconst 1, 1) := by decide +kernel
theorem dX9_weightAt_66 : decode cX9_weightAt 66 = .ok (.i2l, 1) := by decide +kernel
theorem dX9_weightAt_67 : decode cX9_weightAt 67 = .ok (.lmul, 1) := by decide +kernel
theorem dX9_weightAt_68 : decode cX9_weightAt 68 = .ok (.lreturn, 1) := by decide +kernel
theorem dX9_weightAt_69 : decode cX9_weightAt 69 = .ok (.aload_n 0, 1) := by decide +kernel
theorem dX9_weightAt_70 : decode cX9_weightAt 70 = .ok (.getfield 30, 3) := by decide +kernel
theorem dX9_weightAt_73 : decode cX9_weightAt 73 = .ok (.iload_n 1, 1) := by decide +kernel
theorem dX9_weightAt_74 : decode cX9_weightAt 74 = .ok (.iaload, 1) := by decide +kernel
theorem dX9_weightAt_75 : decode cX9_weightAt 75 = .ok (.ifCond .ne 46, 3) := by decide +kernel
theorem dX9_weightAt_78 : decode cX9_weightAt 78 = .ok (.aload_n 0, 1) := by decide +kernel
theorem dX9_weightAt_79 : decode cX9_weightAt 79 = .ok (.getfield 36, 3) := by decide +kernel
theorem dX9_weightAt_82 : decode cX9_weightAt 82 = .ok (.iload_n 1, 1) := by decide +kernel
theorem dX9_weightAt_83 : decode cX9_weightAt 83 = .ok (.iaload, 1) := by decide +kernel
theorem dX9_weightAt_84 : decode cX9_weightAt 84 = .ok (.iconst 2, 1) := by decide +kernel
theorem dX9_weightAt_85 : decode cX9_weightAt 85 = .ok (.if_icmp .ne 36, 3) := by decide +kernel
theorem dX9_weightAt_88 : decode cX9_weightAt 88 = .ok (.lload_n 3, 1) := by decide +kernel
theorem dX9_weightAt_89 : decode cX9_weightAt 89 = .ok (.iload_n 2, 1) := by decide +kernel
theorem dX9_weightAt_90 : decode cX9_weightAt 90 = .ok (.iconst 2, 1) := by decide +kernel
theorem dX9_weightAt_91 : decode cX9_weightAt 91 = .ok (.if_icmp .ge 8, 3) := by decide +kernel
theorem dX9_weightAt_94 : decode cX9_weightAt 94 = .ok (.bipush 8, 2) := by decide +kernel
theorem dX9_weightAt_96 : decode cX9_weightAt 96 = .ok (.goto 22, 3) := by decide +kernel
theorem dX9_weightAt_99 : decode cX9_weightAt 99 = .ok (.iload_n 2, 1) := by decide +kernel
theorem dX9_weightAt_100 : decode cX9_weightAt 100 = .ok (.iconst 2, 1) := by decide +kernel
theorem dX9_weightAt_101 : decode cX9_weightAt 101 = .ok (.if_icmp .ne 7, 3) := by decide +kernel
theorem dX9_weightAt_104 : decode cX9_weightAt 104 = .ok (.iconst 4, 1) := by decide +kernel
theorem dX9_weightAt_105 : decode cX9_weightAt 105 = .ok (.goto 13, 3) := by decide +kernel
theorem dX9_weightAt_108 : decode cX9_weightAt 108 = .ok (.iload_n 2, 1) := by decide +kernel
theorem dX9_weightAt_109 : decode cX9_weightAt 109 = .ok (.iconst 3, 1) := by decide +kernel
theorem dX9_weightAt_110 : decode cX9_weightAt 110 = .ok (.if_icmp .ne 7, 3) := by decide +kernel
theorem dX9_weightAt_113 : decode cX9_weightAt 113 = .ok (.iconst 2, 1) := by decide +kernel
theorem dX9_weightAt_114 : decode cX9_weightAt 114 = .ok (.goto 4, 3) := by decide +kernel
theorem dX9_weightAt_117 : decode cX9_weightAt 117 = .ok (.iconst 1, 1) := by decide +kernel
theorem dX9_weightAt_118 : decode cX9_weightAt 118 = .ok (.i2l, 1) := by decide +kernel
theorem dX9_weightAt_119 : decode cX9_weightAt 119 = .ok (.lmul, 1) := by decide +kernel
theorem dX9_weightAt_120 : decode cX9_weightAt 120 = .ok (.lreturn, 1) := by decide +kernel
theorem dX9_weightAt_121 : decode cX9_weightAt 121 = .ok (.lload_n 3, 1) := by decide +kernel
theorem dX9_weightAt_122 : decode cX9_weightAt 122 = .ok (.lreturn, 1) := by decide +kernel
theorem cv_X9_weightAt : wn_cV yX9_weightAt cX9_weightAt 6 (some .long) RX9 2 := ⟨wm_753, wm_761, wm_762, wm_637, by decide +kernel⟩
abbrev rm_X9_weightAt : Room := rmz 1 21
set_option maxHeartbeats 4000000 in
set_option maxRecDepth 100000 in
theorem c_X9_weightAt {ad : Nat → Nat} {o : Nat} {x1 : Int32} {x2 : Int32} {M : Mm} {q : Int64 × Mm} (ho : shp o = 9) (hF : f_X9_weightAt o x1 x2 M = some q) : KL ad yX9_weightAt cX9_weightAt 6 (some .long) rm_X9_weightAt [.ref (ad o), .int x1, .int x2] M q.1 q.2 := by
  refine wn_enterL (own := RX9) (by decide) rfl (Nat.le_of_ble_eq_true rfl) (fun X ls Z hQ hl => ?_)
  have hl : lv_has ls 6 [(0, .ref (ad o)), (1, .int x1), (2, .int x2)] := hl
  have L66 : ∀ (s0 : Int64) (s1 : Int32) (M : Mm) (ls : Array Slot), lv_has ls 6 [] → f_X9_weightAt_b66 o s0 s1 M = some q → G ad X M 66 ls [.int s1, .long s0] := by
    intro s0 s1 M ls hl hF
    unfold f_X9_weightAt_b66 at hF
    refine r_i2l Z dX9_weightAt_66 ?_
    refine r_lmul Z dX9_weightAt_67 ?_
    exact r_lret Z hQ hF dX9_weightAt_68
  have L118 : ∀ (s0 : Int64) (s1 : Int32) (M : Mm) (ls : Array Slot), lv_has ls 6 [] → f_X9_weightAt_b118 o s0 s1 M = some q → G ad X M 118 ls [.int s1, .long s0] := by
    intro s0 s1 M ls hl hF
    unfold f_X9_weightAt_b118 at hF
    refine r_i2l Z dX9_weightAt_118 ?_
    refine r_lmul Z dX9_weightAt_119 ?_
    exact r_lret Z hQ hF dX9_weightAt_120
  have L5 : ∀ (n5 : Nat) (v1 : Int32) (v2 : Int32) (v3 : Int64) (v5 : Int32) (M : Mm) (ls : Array Slot), lv_has ls 6 [(0, .ref (ad o)), (1, .int v1), (2, .int v2), (3, .long v3), (5, .int v5)] → f_X9_weightAt_b5 o n5 v1 v2 v3 v5 M = some q → G ad X M 5 ls [] := by
    intro n5
    induction n5 with
    | zero =>
      intro v1 v2 v3 v5 M ls hl hF
      cases hF
    | succ n5 ih5 =>
      intro v1 v2 v3 v5 M ls hl hF
      replace hF : f_X9_weightAt_b5B (f_X9_weightAt_b5 o n5) o v1 v2 v3 v5 M = some q := hF
      unfold f_X9_weightAt_b5B at hF
      refine r_iload Z dX9_weightAt_5 (lv_at hl 4 rfl) ?_
      refine r_iload_n Z dX9_weightAt_7 rfl (lv_at hl 2 rfl) ?_
      refine r_icmp_ge Z 25 dX9_weightAt_8 (by decide) (fun hc1 => ?_) (fun hc1 => ?_)
      · replace hF := if_some hc1 hF
        refine r_aload_n Z dX9_weightAt_25 rfl (lv_at hl 0 rfl) ?_
        refine g_9_9 Z ho wm_615 dX9_weightAt_26 ?_
        refine r_iload_n Z dX9_weightAt_29 rfl (lv_at hl 1 rfl) ?_
        obtain ⟨hi2, hF⟩ := ck_some hF
        refine r_iaload Z (shp_lt (sh_9_9 ho) (by decide)) (fun _ _ => ce_104 (sh_9_9 ho)) hi2 dX9_weightAt_30 ?_
        refine r_iconst (v := 3) Z dX9_weightAt_31 (by decide) ?_
        refine r_icmp_ne Z 69 dX9_weightAt_32 (by decide) (fun hc3 => ?_) (fun hc3 => ?_)
        · replace hF := nif_some hc3 hF
          refine r_aload_n Z dX9_weightAt_69 rfl (lv_at hl 0 rfl) ?_
          refine g_9_9 Z ho wm_615 dX9_weightAt_70 ?_
          refine r_iload_n Z dX9_weightAt_73 rfl (lv_at hl 1 rfl) ?_
          obtain ⟨hi4, hF⟩ := ck_some hF
          refine r_iaload Z (shp_lt (sh_9_9 ho) (by decide)) (fun _ _ => ce_104 (sh_9_9 ho)) hi4 dX9_weightAt_74 ?_
          refine r_if_ne Z 121 dX9_weightAt_75 (by decide) (fun hc5 => ?_) (fun hc5 => ?_)
          · replace hF := nif_some hc5 hF
            refine r_lload_n Z dX9_weightAt_121 rfl (lv_at hl 3 rfl) ?_
            exact r_lret Z hQ hF dX9_weightAt_122
          · replace hF := if_some hc5 hF
            refine r_aload_n Z dX9_weightAt_78 rfl (lv_at hl 0 rfl) ?_
            refine g_9_11 Z ho wm_617 dX9_weightAt_79 ?_
            refine r_iload_n Z dX9_weightAt_82 rfl (lv_at hl 1 rfl) ?_
            obtain ⟨hi6, hF⟩ := ck_some hF
            refine r_iaload Z (shp_lt (sh_9_11 ho) (by decide)) (fun _ _ => ce_104 (sh_9_11 ho)) hi6 dX9_weightAt_83 ?_
            refine r_iconst (v := 2) Z dX9_weightAt_84 (by decide) ?_
            refine r_icmp_ne Z 121 dX9_weightAt_85 (by decide) (fun hc7 => ?_) (fun hc7 => ?_)
            · replace hF := nif_some hc7 hF
              refine r_lload_n Z dX9_weightAt_121 rfl (lv_at hl 3 rfl) ?_
              exact r_lret Z hQ hF dX9_weightAt_122
            · replace hF := if_some hc7 hF
              refine r_lload_n Z dX9_weightAt_88 rfl (lv_at hl 3 rfl) ?_
              refine r_iload_n Z dX9_weightAt_89 rfl (lv_at hl 2 rfl) ?_
              refine r_iconst (v := 2) Z dX9_weightAt_90 (by decide) ?_
              refine r_icmp_ge Z 99 dX9_weightAt_91 (by decide) (fun hc8 => ?_) (fun hc8 => ?_)
              · replace hF := if_some hc8 hF
                refine r_iload_n Z dX9_weightAt_99 rfl (lv_at hl 2 rfl) ?_
                refine r_iconst (v := 2) Z dX9_weightAt_100 (by decide) ?_
                refine r_icmp_ne Z 108 dX9_weightAt_101 (by decide) (fun hc9 => ?_) (fun hc9 => ?_)
                · replace hF := nif_some hc9 hF
                  refine r_iload_n Z dX9_weightAt_108 rfl (lv_at hl 2 rfl) ?_
                  refine r_iconst (v := 3) Z dX9_weightAt_109 (by decide) ?_
                  refine r_icmp_ne Z 117 dX9_weightAt_110 (by decide) (fun hc10 => ?_) (fun hc10 => ?_)
                  · replace hF := nif_some hc10 hF
                    refine r_iconst (v := 1) Z dX9_weightAt_117 (by decide) ?_
                    exact L118 v3 1 M ls (lv_sub hl [] rfl) hF
                  · replace hF := if_some hc10 hF
                    refine r_iconst (v := 2) Z dX9_weightAt_113 (by decide) ?_
                    refine r_goto Z 118 dX9_weightAt_114 (by decide) ?_
                    exact L118 v3 2 M ls (lv_sub hl [] rfl) hF
                · replace hF := if_some hc9 hF
                  refine r_iconst (v := 4) Z dX9_weightAt_104 (by decide) ?_
                  refine r_goto Z 118 dX9_weightAt_105 (by decide) ?_
                  exact L118 v3 4 M ls (lv_sub hl [] rfl) hF
              · replace hF := nif_some hc8 hF
                refine r_bipush (v := 8) Z dX9_weightAt_94 (by decide) ?_
                refine r_goto Z 118 dX9_weightAt_96 (by decide) ?_
                exact L118 v3 8 M ls (lv_sub hl [] rfl) hF
        · replace hF := if_some hc3 hF
          refine r_lload_n Z dX9_weightAt_35 rfl (lv_at hl 3 rfl) ?_
          refine r_iload_n Z dX9_weightAt_36 rfl (lv_at hl 2 rfl) ?_
          refine r_iconst (v := 2) Z dX9_weightAt_37 (by decide) ?_
          refine r_icmp_ge Z 46 dX9_weightAt_38 (by decide) (fun hc11 => ?_) (fun hc11 => ?_)
          · replace hF := if_some hc11 hF
            refine r_iload_n Z dX9_weightAt_46 rfl (lv_at hl 2 rfl) ?_
            refine r_iconst (v := 2) Z dX9_weightAt_47 (by decide) ?_
            refine r_icmp_ne Z 56 dX9_weightAt_48 (by decide) (fun hc12 => ?_) (fun hc12 => ?_)
            · replace hF := nif_some hc12 hF
              refine r_iload_n Z dX9_weightAt_56 rfl (lv_at hl 2 rfl) ?_
              refine r_iconst (v := 3) Z dX9_weightAt_57 (by decide) ?_
              refine r_icmp_ne Z 65 dX9_weightAt_58 (by decide) (fun hc13 => ?_) (fun hc13 => ?_)
              · replace hF := nif_some hc13 hF
                refine r_iconst (v := 1) Z dX9_weightAt_65 (by decide) ?_
                exact L66 v3 1 M ls (lv_sub hl [] rfl) hF
              · replace hF := if_some hc13 hF
                refine r_iconst (v := 4) Z dX9_weightAt_61 (by decide) ?_
                refine r_goto Z 66 dX9_weightAt_62 (by decide) ?_
                exact L66 v3 4 M ls (lv_sub hl [] rfl) hF
            · replace hF := if_some hc12 hF
              refine r_bipush (v := 12) Z dX9_weightAt_51 (by decide) ?_
              refine r_goto Z 66 dX9_weightAt_53 (by decide) ?_
              exact L66 v3 12 M ls (lv_sub hl [] rfl) hF
          · replace hF := nif_some hc11 hF
            refine r_bipush (v := 24) Z dX9_weightAt_41 (by decide) ?_
            refine r_goto Z 66 dX9_weightAt_43 (by decide) ?_
            exact L66 v3 24 M ls (lv_sub hl [] rfl) hF
      · replace hF := nif_some hc1 hF
        refine r_lload_n Z dX9_weightAt_11 rfl (lv_at hl 3 rfl) ?_
        refine r_aload_n Z dX9_weightAt_12 rfl (lv_at hl 0 rfl) ?_
        refine r_iload_n Z dX9_weightAt_13 rfl (lv_at hl 1 rfl) ?_
        obtain ⟨q14, hq14, hF⟩ := bd_some hF
        refine r_invVl [.long v3] Z (c_X9_part ho hq14) cv_X9_part rfl (shp_lt ho (by decide)) (fun _ _ => ⟨_, ce_9 ho⟩) wm_754 rfl rfl ⟨Nat.le_of_ble_eq_true rfl, Nat.le_of_ble_eq_true rfl⟩ rfl hl.1 rfl (Nat.le_of_ble_eq_true rfl) dX9_weightAt_14 ?_
        refine r_lmul Z dX9_weightAt_17 ?_
        obtain ⟨t15, et15, hF⟩ := nm_some hF
        rw [← et15]
        refine r_lstore_n Z [(3, .long t15), (0, .ref (ad o)), (1, .int v1), (2, .int v2), (5, .int v5)] dX9_weightAt_18 rfl hl (by decide) rfl (fun ls hl => ?_)
        obtain ⟨t16, et16, hF⟩ := nm_some hF
        refine r_iinc (j := 4) Z t16 [(5, .int t16), (3, .long t15), (0, .ref (ad o)), (1, .int v1), (2, .int v2)] dX9_weightAt_19 hl rfl (by rw [et16]; rfl) (by decide) rfl (fun ls hl => ?_)
        refine r_goto Z 5 dX9_weightAt_22 (by decide) ?_
        exact ih5 v1 v2 t15 t16 q14.2 ls (lv_sub hl [2, 3, 4, 1, 0] rfl) hF
  unfold f_X9_weightAt at hF
  refine r_lconst (v := 1) Z dX9_weightAt_0 (by decide) ?_
  refine r_lstore_n Z [(3, .long 1), (0, .ref (ad o)), (1, .int x1), (2, .int x2)] dX9_weightAt_1 rfl hl (by decide) rfl (fun ls hl => ?_)
  refine r_iconst (v := 0) Z dX9_weightAt_2 (by decide) ?_
  refine r_istore Z [(5, .int 0), (3, .long 1), (0, .ref (ad o)), (1, .int x1), (2, .int x2)] dX9_weightAt_3 hl (by decide) rfl (fun ls hl => ?_)
  exact L5 _ x1 x2 1 0 M ls (lv_sub hl [2, 3, 4, 1, 0] rfl) hF
theorem dX9_weight_0 : decode cX9_weight 0 = .ok (.lconst 1, 1) := by decide +kernel
theorem dX9_weight_1 : decode cX9_weight 1 = .ok (.lstore_n 1, 1) := by decide +kernel
theorem dX9_weight_2 : decode cX9_weight 2 = .ok (.iconst 0, 1) := by decide +kernel
theorem dX9_weight_3 : decode cX9_weight 3 = .ok (.istore_n 3, 1) := by decide +kernel
theorem dX9_weight_4 : decode cX9_weight 4 = .ok (.iload_n 3, 1) := by decide +kernel
theorem dX9_weight_5 : decode cX9_weight 5 = .ok (.iconst 4, 1) := by decide +kernel
theorem dX9_weight_6 : decode cX9_weight 6 = .ok (.if_icmp .ge 36, 3) := by decide +kernel
theorem dX9_weight_9 : decode cX9_weight 9 = .ok (.lload_n 1, 1) := by decide +kernel
theorem dX9_weight_10 : decode cX9_weight 10 = .ok (.aload_n 0, 1) := by decide +kernel
theorem dX9_weight_11 : decode cX9_weight 11 = .ok (.getfield 26, 3) := by decide +kernel
theorem dX9_weight_14 : decode cX9_weight 14 = .ok (.iload_n 3, 1) := by decide +kernel
theorem dX9_weight_15 : decode cX9_weight 15 = .ok (.baload, 1) := by decide +kernel
theorem dX9_weight_16 : decode cX9_weight 16 = .ok (.ifCond .eq 17, 3) := by decide +kernel
theorem dX9_weight_19 : decode cX9_weight 19 = .ok (.aload_n 0, 1) := by decide +kernel
theorem dX9_weight_20 : decode cX9_weight 20 = .ok (.iload_n 3, 1) := by decide +kernel
theorem dX9_weight_21 : decode cX9_weight 21 = .ok (.aload_n 0, 1) := by decide +kernel
theorem dX9_weight_22 : decode cX9_weight 22 = .ok (.getfield 61, 3) := by decide +kernel
theorem dX9_weight_25 : decode cX9_weight 25 = .ok (.iload_n 3, 1) := by decide +kernel
theorem dX9_weight_26 : decode cX9_weight 26 = .ok (.iaload, 1) := by decide +kernel
theorem dX9_weight_27 : decode cX9_weight 27 = .ok (.invokevirtual 179, 3) := by decide +kernel
theorem dX9_weight_30 : decode cX9_weight 30 = .ok (.goto 4, 3) := by decide +kernel
theorem dX9_weight_33 : decode cX9_weight 33 = .ok (.lconst 1, 1) := by decide +kernel
theorem dX9_weight_34 : decode cX9_weight 34 = .ok (.lmul, 1) := by decide +kernel
theorem dX9_weight_35 : decode cX9_weight 35 = .ok (.lstore_n 1, 1) := by decide +kernel
theorem dX9_weight_36 : decode cX9_weight 36 = .ok (.iinc 3 1, 3) := by decide +kernel
theorem dX9_weight_39 : decode cX9_weight 39 = .ok (.goto (-35), 3) := by decide +kernel
theorem dX9_weight_42 : decode cX9_weight 42 = .ok (.lload_n 1, 1) := by decide +kernel
theorem dX9_weight_43 : decode cX9_weight 43 = .ok (.lreturn, 1) := by decide +kernel
theorem cv_X9_weight : wn_cV yX9_weight cX9_weight 4 (some .long) RX9 0 := ⟨wm_759, wm_768, wm_769, wm_637, by decide +kernel⟩
abbrev rm_X9_weight : Room := rmz 2 46
set_option maxHeartbeats 4000000 in
set_option maxRecDepth 100000 in
theorem c_X9_weight {ad : Nat → Nat} {o : Nat} {M : Mm} {q : Int64 × Mm} (ho : shp o = 9) (hF : f_X9_weight o M = some q) : KL ad yX9_weight cX9_weight 4 (some .long) rm_X9_weight [.ref (ad o)] M q.1 q.2 := by
  refine wn_enterL (own := RX9) (by decide) rfl (Nat.le_of_ble_eq_true rfl) (fun X ls Z hQ hl => ?_)
  have hl : lv_has ls 4 [(0, .ref (ad o))] := hl
  have L4 : ∀ (n4 : Nat) (v1 : Int64) (v3 : Int32) (M : Mm) (ls : Array Slot), lv_has ls 4 [(0, .ref (ad o)), (1, .long v1), (3, .int v3)] → f_X9_weight_b4 o n4 v1 v3 M = some q → G ad X M 4 ls [] := by
    intro n4
    induction n4 with
    | zero =>
      intro v1 v3 M ls hl hF
      cases hF
    | succ n4 ih4 =>
      have L34 : ∀ (v3 : Int32) (s0 : Int64) (s1 : Int64) (M : Mm) (ls : Array Slot), lv_has ls 4 [(0, .ref (ad o)), (3, .int v3)] → f_X9_weight_b34 (f_X9_weight_b4 o n4) o v3 s0 s1 M = some q → G ad X M 34 ls [.long s1, .long s0] := by
        intro v3 s0 s1 M ls hl hF
        unfold f_X9_weight_b34 at hF
        refine r_lmul Z dX9_weight_34 ?_
        obtain ⟨t1, et1, hF⟩ := nm_some hF
        rw [← et1]
        refine r_lstore_n Z [(1, .long t1), (0, .ref (ad o)), (3, .int v3)] dX9_weight_35 rfl hl (by decide) rfl (fun ls hl => ?_)
        obtain ⟨t2, et2, hF⟩ := nm_some hF
        refine r_iinc (j := 2) Z t2 [(3, .int t2), (1, .long t1), (0, .ref (ad o))] dX9_weight_36 hl rfl (by rw [et2]; rfl) (by decide) rfl (fun ls hl => ?_)
        refine r_goto Z 4 dX9_weight_39 (by decide) ?_
        exact ih4 t1 t2 M ls (lv_sub hl [2, 1, 0] rfl) hF
      intro v1 v3 M ls hl hF
      replace hF : f_X9_weight_b4B (f_X9_weight_b4 o n4) o v1 v3 M = some q := hF
      unfold f_X9_weight_b4B at hF
      refine r_iload_n Z dX9_weight_4 rfl (lv_at hl 2 rfl) ?_
      refine r_iconst (v := 4) Z dX9_weight_5 (by decide) ?_
      refine r_icmp_ge Z 42 dX9_weight_6 (by decide) (fun hc3 => ?_) (fun hc3 => ?_)
      · replace hF := if_some hc3 hF
        refine r_lload_n Z dX9_weight_42 rfl (lv_at hl 1 rfl) ?_
        exact r_lret Z hQ hF dX9_weight_43
      · replace hF := nif_some hc3 hF
        refine r_lload_n Z dX9_weight_9 rfl (lv_at hl 1 rfl) ?_
        refine r_aload_n Z dX9_weight_10 rfl (lv_at hl 0 rfl) ?_
        refine g_9_8 Z ho wm_614 dX9_weight_11 ?_
        refine r_iload_n Z dX9_weight_14 rfl (lv_at hl 2 rfl) ?_
        obtain ⟨hi4, hF⟩ := ck_some hF
        refine r_zaload Z (shp_lt (sh_9_8 ho) (by decide)) (fun _ _ => ce_2004 (sh_9_8 ho)) hi4 dX9_weight_15 ?_
        refine r_if_eq Z 33 dX9_weight_16 (by decide) (fun hc5 => ?_) (fun hc5 => ?_)
        · replace hF := if_some hc5 hF
          refine r_lconst (v := 1) Z dX9_weight_33 (by decide) ?_
          exact L34 v3 v1 1 M ls (lv_sub hl [0, 2] rfl) hF
        · replace hF := nif_some hc5 hF
          refine r_aload_n Z dX9_weight_19 rfl (lv_at hl 0 rfl) ?_
          refine r_iload_n Z dX9_weight_20 rfl (lv_at hl 2 rfl) ?_
          refine r_aload_n Z dX9_weight_21 rfl (lv_at hl 0 rfl) ?_
          refine g_9_21 Z ho wm_625 dX9_weight_22 ?_
          refine r_iload_n Z dX9_weight_25 rfl (lv_at hl 2 rfl) ?_
          obtain ⟨hi6, hF⟩ := ck_some hF
          refine r_iaload Z (shp_lt (sh_9_21 ho) (by decide)) (fun _ _ => ce_104 (sh_9_21 ho)) hi6 dX9_weight_26 ?_
          obtain ⟨q7, hq7, hF⟩ := bd_some hF
          refine r_invVl [.long v1] Z (c_X9_weightAt ho hq7) cv_X9_weightAt rfl (shp_lt ho (by decide)) (fun _ _ => ⟨_, ce_9 ho⟩) wm_760 rfl rfl ⟨Nat.le_of_ble_eq_true rfl, Nat.le_of_ble_eq_true rfl⟩ rfl hl.1 rfl (Nat.le_of_ble_eq_true rfl) dX9_weight_27 ?_
          refine r_goto Z 34 dX9_weight_30 (by decide) ?_
          exact L34 v3 v1 q7.1 q7.2 ls (lv_sub hl [0, 2] rfl) hF
  unfold f_X9_weight at hF
  refine r_lconst (v := 1) Z dX9_weight_0 (by decide) ?_
  refine r_lstore_n Z [(1, .long 1), (0, .ref (ad o))] dX9_weight_1 rfl hl (by decide) rfl (fun ls hl => ?_)
  refine r_iconst (v := 0) Z dX9_weight_2 (by decide) ?_
  refine r_istore_n Z [(3, .int 0), (1, .long 1), (0, .ref (ad o))] dX9_weight_3 rfl hl (by decide) rfl (fun ls hl => ?_)
  exact L4 _ 1 0 M ls (lv_sub hl [2, 1, 0] rfl) hF
theorem dX9_balance_0 : decode cX9_balance 0 = .ok (.iload_n 1, 1) := by decide +kernel
theorem dX9_balance_1 : decode cX9_balance 1 = .ok (.invokestatic 192, 3) := by decide +kernel
theorem dX9_balance_4 : decode cX9_balance 4 = .ok (.ifCond .ne 5, 3) := by decide +kernel
theorem dX9_balance_7 : decode cX9_balance 7 = .ok (.iconst (-1), 1) := by decide +kernel
theorem dX9_balance_8 : decode cX9_balance 8 = .ok (.ireturn, 1) := by decide +kernel
theorem dX9_balance_9 : decode cX9_balance 9 = .ok (.aload_n 0, 1) := by decide +kernel
theorem dX9_balance_10 : decode cX9_balance 10 = .ok (.invokevirtual 164, 3) := by decide +kernel
theorem dX9_balance_13 : decode cX9_balance 13 = .ok (.ifCond .ne 6, 3) := by decide +kernel
theorem dX9_balance_16 : decode cX9_balance 16 = .ok (.bipush (-4), 2) := by decide +kernel
theorem dX9_balance_18 : decode cX9_balance 18 = .ok (.ireturn, 1) := by decide +kernel
theorem dX9_balance_19 : decode cX9_balance 19 = .ok (.aload_n 0, 1) := by decide +kernel
theorem dX9_balance_20 : decode cX9_balance 20 = .ok (.invokevirtual 167, 3) := by decide +kernel
theorem dX9_balance_23 : decode cX9_balance 23 = .ok (.iconst 0, 1) := by decide +kernel
theorem dX9_balance_24 : decode cX9_balance 24 = .ok (.istore_n 2, 1) := by decide +kernel
theorem dX9_balance_25 : decode cX9_balance 25 = .ok (.aload_n 0, 1) := by decide +kernel
theorem dX9_balance_26 : decode cX9_balance 26 = .ok (.iconst 0, 1) := by decide +kernel
theorem dX9_balance_27 : decode cX9_balance 27 = .ok (.putfield 176, 3) := by decide +kernel
theorem dX9_balance_30 : decode cX9_balance 30 = .ok (.aload_n 0, 1) := by decide +kernel
theorem dX9_balance_31 : decode cX9_balance 31 = .ok (.iload_n 1, 1) := by decide +kernel
theorem dX9_balance_32 : decode cX9_balance 32 = .ok (.invokevirtual 182, 3) := by decide +kernel
theorem dX9_balance_35 : decode cX9_balance 35 = .ok (.ifCond .eq 202, 3) := by decide +kernel
theorem dX9_balance_38 : decode cX9_balance 38 = .ok (.lconst 0, 1) := by decide +kernel
theorem dX9_balance_39 : decode cX9_balance 39 = .ok (.lstore_n 3, 1) := by decide +kernel
theorem dX9_balance_40 : decode cX9_balance 40 = .ok (.lconst 0, 1) := by decide +kernel
theorem dX9_balance_41 : decode cX9_balance 41 = .ok (.lstore 5, 2) := by decide +kernel
theorem dX9_balance_43 : decode cX9_balance 43 = .ok (.iconst 0, 1) := by decide +kernel
theorem dX9_balance_44 : decode cX9_balance 44 = .ok (.istore 7, 2) := by decide +kernel
theorem dX9_balance_46 : decode cX9_balance 46 = .ok (.iload 7, 2) := by decide +kernel
theorem dX9_balance_48 : decode cX9_balance 48 = .ok (.iconst 4, 1) := by decide +kernel
theorem dX9_balance_49 : decode cX9_balance 49 = .ok (.if_icmp .ge 170, 3) := by decide +kernel
theorem dX9_balance_52 : decode cX9_balance 52 = .ok (.lload_n 3, 1) := by decide +kernel
theorem dX9_balance_53 : decode cX9_balance 53 = .ok (.aload_n 0, 1) := by decide +kernel
theorem dX9_balance_54 : decode cX9_balance 54 = .ok (.getfield 26, 3) := by decide +kernel
theorem dX9_balance_57 : decode cX9_balance 57 = .ok (.iload 7, 2) := by decide +kernel
theorem dX9_balance_59 : decode cX9_balance 59 = .ok (.baload, 1) := by decide +kernel
theorem dX9_balance_60 : decode cX9_balance 60 = .ok (.ifCond .eq 29, 3) := by decide +kernel
theorem dX9_balance_63 : decode cX9_balance 63 = .ok (.ldc2_w 141, 3) := by decide +kernel
theorem dX9_balance_66 : decode cX9_balance 66 = .ok (.aload_n 0, 1) := by decide +kernel
theorem dX9_balance_67 : decode cX9_balance 67 = .ok (.iload 7, 2) := by decide +kernel
theorem dX9_balance_69 : decode cX9_balance 69 = .ok (.aload_n 0, 1) := by decide +kernel
theorem dX9_balance_70 : decode cX9_balance 70 = .ok (.getfield 61, 3) := by decide +kernel
theorem dX9_balance_73 : decode cX9_balance 73 = .ok (.iload 7, 2) := by decide +kernel
theorem dX9_balance_75 : decode cX9_balance 75 = .ok (.iaload, 1) := by decide +kernel
theorem dX9_balance_76 : decode cX9_balance 76 = .ok (.invokevirtual 204, 3) := by decide +kernel
theorem dX9_balance_79 : decode cX9_balance 79 = .ok (.i2l, 1) := by decide +kernel
theorem dX9_balance_80 : decode cX9_balance 80 = .ok (.lmul, 1) := by decide +kernel
theorem dX9_balance_81 : decode cX9_balance 81 = .ok (.aload_n 0, 1) := by decide +kernel
theorem dX9_balance_82 : decode cX9_balance 82 = .ok (.invokevirtual 185, 3) := by decide +kernel
theorem dX9_balance_85 : decode cX9_balance 85 = .ok (.lmul, 1) := by decide +kernel
theorem dX9_balance_86 : decode cX9_balance 86 = .ok (.goto 4, 3) := by decide +kernel
theorem dX9_balance_89 : decode cX9_balance 89 = .ok (.lconst 0, 1) := by decide +kernel
theorem dX9_balance_90 : decode cX9_balance 90 = .ok (.ladd, 1) := by decide +kernel
theorem dX9_balance_91 : decode cX9_balance 91 = .ok (.lstore_n 3, 1) := by decide +kernel
theorem dX9_balance_92 : decode cX9_balance 92 = .ok (.iconst 0, 1) := by decide +kernel
theorem dX9_balance_93 : decode cX9_balance 93 = .ok (.istore 8, 2) := by decide +kernel
theorem dX9_balance_95 : decode cX9_balance 95 = .ok (.iload 8, 2) := by decide +kernel
theorem dX9_balance_97 : decode cX9_balance 97 = .ok (.iconst 4, 1) := by decide +kernel
theorem dX9_balance_98 : decode cX9_balance 98 = .ok (.if_icmp .ge 115, 3) := by decide +kernel
theorem dX9_balance_101 : decode cX9_balance 101 = .ok (.aload_n 0, 1) := by decide +kernel
theorem dX9_balance_102 : decode cX9_balance 102 = .ok (.getfield 45, 3) := by decide +kernel
theorem dX9_balance_105 : decode cX9_balance 105 = .ok (.iconst 4, 1) := by decide +kernel
theorem dX9_balance_106 : decode cX9_balance 106 = .ok (.iload 7, 2) := by decide +kernel
theorem dX9_balance_108 : decode cX9_balance 108 = .ok (.imul, 1) := by decide +kernel
theorem dX9_balance_109 : decode cX9_balance 109 = .ok (.iload 8, 2) := by decide +kernel
theorem dX9_balance_111 : decode cX9_balance 111 = .ok (.iadd, 1) := by decide +kernel
theorem dX9_balance_112 : decode cX9_balance 112 = .ok (.iaload, 1) := by decide +kernel
theorem dX9_balance_113 : decode cX9_balance 113 = .ok (.ifCond .le 94, 3) := by decide +kernel
theorem dX9_balance_116 : decode cX9_balance 116 = .ok (.aload_n 0, 1) := by decide +kernel
theorem dX9_balance_117 : decode cX9_balance 117 = .ok (.getfield 61, 3) := by decide +kernel
theorem dX9_balance_120 : decode cX9_balance 120 = .ok (.iload 8, 2) := by decide +kernel
theorem dX9_balance_122 : decode cX9_balance 122 = .ok (.iaload, 1) := by decide +kernel
theorem dX9_balance_123 : decode cX9_balance 123 = .ok (.ifCond .le 84, 3) := by decide +kernel
theorem dX9_balance_126 : decode cX9_balance 126 = .ok (.aload_n 0, 1) := by decide +kernel
theorem dX9_balance_127 : decode cX9_balance 127 = .ok (.getfield 61, 3) := by decide +kernel
theorem dX9_balance_130 : decode cX9_balance 130 = .ok (.iload 8, 2) := by decide +kernel
theorem dX9_balance_132 : decode cX9_balance 132 = .ok (.dup2, 1) := by decide +kernel
theorem dX9_balance_133 : decode cX9_balance 133 = .ok (.iaload, 1) := by decide +kernel
theorem dX9_balance_134 : decode cX9_balance 134 = .ok (.iconst 1, 1) := by decide +kernel
theorem dX9_balance_135 : decode cX9_balance 135 = .ok (.isub, 1) := by decide +kernel
theorem dX9_balance_136 : decode cX9_balance 136 = .ok (.iastore, 1) := by decide +kernel
theorem dX9_balance_137 : decode cX9_balance 137 = .ok (.aload_n 0, 1) := by decide +kernel
theorem dX9_balance_138 : decode cX9_balance 138 = .ok (.getfield 61, 3) := by decide +kernel
theorem dX9_balance_141 : decode cX9_balance 141 = .ok (.iload 7, 2) := by decide +kernel
theorem dX9_balance_143 : decode cX9_balance 143 = .ok (.dup2, 1) := by decide +kernel
theorem dX9_balance_144 : decode cX9_balance 144 = .ok (.iaload, 1) := by decide +kernel
theorem dX9_balance_145 : decode cX9_balance 145 = .ok (.iconst 1, 1) := by decide +kernel
theorem dX9_balance_146 : decode cX9_balance 146 = .ok (.iadd, 1) := by decide +kernel
theorem dX9_balance_147 : decode cX9_balance 147 = .ok (.iastore, 1) := by decide +kernel
theorem dX9_balance_148 : decode cX9_balance 148 = .ok (.lload 5, 2) := by decide +kernel
theorem dX9_balance_150 : decode cX9_balance 150 = .ok (.aload_n 0, 1) := by decide +kernel
theorem dX9_balance_151 : decode cX9_balance 151 = .ok (.getfield 45, 3) := by decide +kernel
theorem dX9_balance_154 : decode cX9_balance 154 = .ok (.iconst 4, 1) := by decide +kernel
theorem dX9_balance_155 : decode cX9_balance 155 = .ok (.iload 7, 2) := by decide +kernel
theorem dX9_balance_157 : decode cX9_balance 157 = .ok (.imul, 1) := by decide +kernel
theorem dX9_balance_158 : decode cX9_balance 158 = .ok (.iload 8, 2) := by decide +kernel
theorem dX9_balance_160 : decode cX9_balance 160 = .ok (.iadd, 1) := by decide +kernel
theorem dX9_balance_161 : decode cX9_balance 161 = .ok (.iaload, 1) := by decide +kernel
theorem dX9_balance_162 : decode cX9_balance 162 = .ok (.aload_n 0, 1) := by decide +kernel
theorem dX9_balance_163 : decode cX9_balance 163 = .ok (.iload 7, 2) := by decide +kernel
theorem dX9_balance_165 : decode cX9_balance 165 = .ok (.aload_n 0, 1) := by decide +kernel
theorem dX9_balance_166 : decode cX9_balance 166 = .ok (.getfield 61, 3) := by decide +kernel
theorem dX9_balance_169 : decode cX9_balance 169 = .ok (.iload 7, 2) := by decide +kernel
theorem dX9_balance_171 : decode cX9_balance 171 = .ok (.iaload, 1) := by decide +kernel
theorem dX9_balance_172 : decode cX9_balance 172 = .ok (.invokevirtual 204, 3) := by decide +kernel
theorem dX9_balance_175 : decode cX9_balance 175 = .ok (.imul, 1) := by decide +kernel
theorem dX9_balance_176 : decode cX9_balance 176 = .ok (.i2l, 1) := by decide +kernel
theorem dX9_balance_177 : decode cX9_balance 177 = .ok (.aload_n 0, 1) := by decide +kernel
theorem dX9_balance_178 : decode cX9_balance 178 = .ok (.invokevirtual 185, 3) := by decide +kernel
theorem dX9_balance_181 : decode cX9_balance 181 = .ok (.lmul, 1) := by decide +kernel
theorem dX9_balance_182 : decode cX9_balance 182 = .ok (.ladd, 1) := by decide +kernel
theorem dX9_balance_183 : decode cX9_balance 183 = .ok (.lstore 5, 2) := by decide +kernel
theorem dX9_balance_185 : decode cX9_balance 185 = .ok (.aload_n 0, 1) := by decide +kernel
theorem dX9_balance_186 : decode cX9_balance 186 = .ok (.getfield 61, 3) := by decide +kernel
theorem dX9_balance_189 : decode cX9_balance 189 = .ok (.iload 7, 2) := by decide +kernel
theorem dX9_balance_191 : decode cX9_balance 191 = .ok (.dup2, 1) := by decide +kernel
theorem dX9_balance_192 : decode cX9_balance 192 = .ok (.iaload, 1) := by decide +kernel
theorem dX9_balance_193 : decode cX9_balance 193 = .ok (.iconst 1, 1) := by decide +kernel
theorem dX9_balance_194 : decode cX9_balance 194 = .ok (.isub, 1) := by decide +kernel
theorem dX9_balance_195 : decode cX9_balance 195 = .ok (.iastore, 1) := by decide +kernel
theorem dX9_balance_196 : decode cX9_balance 196 = .ok (.aload_n 0, 1) := by decide +kernel
theorem dX9_balance_197 : decode cX9_balance 197 = .ok (.getfield 61, 3) := by decide +kernel
theorem dX9_balance_200 : decode cX9_balance 200 = .ok (.iload 8, 2) := by decide +kernel
theorem dX9_balance_202 : decode cX9_balance 202 = .ok (.dup2, 1) := by decide +kernel
theorem dX9_balance_203 : decode cX9_balance 203 = .ok (.iaload, 1) := by decide +kernel
theorem dX9_balance_204 : decode cX9_balance 204 = .ok (.iconst 1, 1) := by decide +kernel
theorem dX9_balance_205 : decode cX9_balance 205 = .ok (.iadd, 1) := by decide +kernel
theorem dX9_balance_206 : decode cX9_balance 206 = .ok (.iastore, 1) := by decide +kernel
theorem dX9_balance_207 : decode cX9_balance 207 = .ok (.iinc 8 1, 3) := by decide +kernel
theorem dX9_balance_210 : decode cX9_balance 210 = .ok (.goto (-115), 3) := by decide +kernel
theorem dX9_balance_213 : decode cX9_balance 213 = .ok (.iinc 7 1, 3) := by decide +kernel
theorem dX9_balance_216 : decode cX9_balance 216 = .ok (.goto (-170), 3) := by decide +kernel
theorem dX9_balance_219 : decode cX9_balance 219 = .ok (.iload_n 2, 1) := by decide +kernel
theorem dX9_balance_220 : decode cX9_balance 220 = .ok (.lload_n 3, 1) := by decide +kernel
theorem dX9_balance_221 : decode cX9_balance 221 = .ok (.lload 5, 2) := by decide +kernel
theorem dX9_balance_223 : decode cX9_balance 223 = .ok (.lcmp, 1) := by decide +kernel
theorem dX9_balance_224 : decode cX9_balance 224 = .ok (.ifCond .ne 7, 3) := by decide +kernel
theorem dX9_balance_227 : decode cX9_balance 227 = .ok (.iconst 1, 1) := by decide +kernel
theorem dX9_balance_228 : decode cX9_balance 228 = .ok (.goto 4, 3) := by decide +kernel
theorem dX9_balance_231 : decode cX9_balance 231 = .ok (.iconst 0, 1) := by decide +kernel
theorem dX9_balance_232 : decode cX9_balance 232 = .ok (.iadd, 1) := by decide +kernel
theorem dX9_balance_233 : decode cX9_balance 233 = .ok (.istore_n 2, 1) := by decide +kernel
theorem dX9_balance_234 : decode cX9_balance 234 = .ok (.goto (-204), 3) := by decide +kernel
theorem dX9_balance_237 : decode cX9_balance 237 = .ok (.iload_n 2, 1) := by decide +kernel
theorem dX9_balance_238 : decode cX9_balance 238 = .ok (.ireturn, 1) := by decide +kernel
theorem cv_X9_balance : wn_cV yX9_balance cX9_balance 9 (some .int) RX9 1 := ⟨wm_795, wm_1030, wm_1031, wm_637, by decide +kernel⟩
abbrev rm_X9_balance : Room := rmz 3 78
set_option maxHeartbeats 4000000 in
set_option maxRecDepth 100000 in
theorem c_X9_balance {ad : Nat → Nat} {o : Nat} {x1 : Int32} {M : Mm} {q : Int32 × Mm} (ho : shp o = 9) (hF : f_X9_balance o x1 M = some q) : KI ad yX9_balance cX9_balance 9 (some .int) rm_X9_balance [.ref (ad o), .int x1] M q.1 q.2 := by
  refine wn_enterI (own := RX9) (by decide) rfl (Nat.le_of_ble_eq_true rfl) (fun X ls Z hQ hl => ?_)
  have hl : lv_has ls 9 [(0, .ref (ad o)), (1, .int x1)] := hl
  have L30 : ∀ (n30 : Nat) (v1 : Int32) (v2 : Int32) (M : Mm) (ls : Array Slot), lv_has ls 9 [(0, .ref (ad o)), (1, .int v1), (2, .int v2)] → f_X9_balance_b30 o n30 v1 v2 M = some q → G ad X M 30 ls [] := by
    intro n30
    induction n30 with
    | zero =>
      intro v1 v2 M ls hl hF
      cases hF
    | succ n30 ih30 =>
      have L46 : ∀ (n46 : Nat) (v1 : Int32) (v2 : Int32) (v3 : Int64) (v5 : Int64) (v7 : Int32) (M : Mm) (ls : Array Slot), lv_has ls 9 [(0, .ref (ad o)), (1, .int v1), (2, .int v2), (3, .long v3), (5, .long v5), (7, .int v7)] → f_X9_balance_b46 (f_X9_balance_b30 o n30) o n46 v1 v2 v3 v5 v7 M = some q → G ad X M 46 ls [] := by
        intro n46
        induction n46 with
        | zero =>
          intro v1 v2 v3 v5 v7 M ls hl hF
          cases hF
        | succ n46 ih46 =>
          have L95 : ∀ (n95 : Nat) (v1 : Int32) (v2 : Int32) (v3 : Int64) (v5 : Int64) (v7 : Int32) (v8 : Int32) (M : Mm) (ls : Array Slot), lv_has ls 9 [(0, .ref (ad o)), (1, .int v1), (2, .int v2), (3, .long v3), (5, .long v5), (7, .int v7), (8, .int v8)] → f_X9_balance_b95 (f_X9_balance_b30 o n30) (f_X9_balance_b46 (f_X9_balance_b30 o n30) o n46) o n95 v1 v2 v3 v5 v7 v8 M = some q → G ad X M 95 ls [] := by
            intro n95
            induction n95 with
            | zero =>
              intro v1 v2 v3 v5 v7 v8 M ls hl hF
              cases hF
            | succ n95 ih95 =>
              intro v1 v2 v3 v5 v7 v8 M ls hl hF
              replace hF : f_X9_balance_b95B (f_X9_balance_b30 o n30) (f_X9_balance_b46 (f_X9_balance_b30 o n30) o n46) (f_X9_balance_b95 (f_X9_balance_b30 o n30) (f_X9_balance_b46 (f_X9_balance_b30 o n30) o n46) o n95) o v1 v2 v3 v5 v7 v8 M = some q := hF
              unfold f_X9_balance_b95B at hF
              refine r_iload Z dX9_balance_95 (lv_at hl 6 rfl) ?_
              refine r_iconst (v := 4) Z dX9_balance_97 (by decide) ?_
              refine r_icmp_ge Z 213 dX9_balance_98 (by decide) (fun hc1 => ?_) (fun hc1 => ?_)
              · replace hF := if_some hc1 hF
                obtain ⟨t2, et2, hF⟩ := nm_some hF
                refine r_iinc (j := 5) Z t2 [(7, .int t2), (0, .ref (ad o)), (1, .int v1), (2, .int v2), (3, .long v3), (5, .long v5), (8, .int v8)] dX9_balance_213 hl rfl (by rw [et2]; rfl) (by decide) rfl (fun ls hl => ?_)
                refine r_goto Z 46 dX9_balance_216 (by decide) ?_
                exact ih46 v1 v2 v3 v5 t2 M ls (lv_sub hl [1, 2, 3, 4, 5, 0] rfl) hF
              · replace hF := nif_some hc1 hF
                refine r_aload_n Z dX9_balance_101 rfl (lv_at hl 0 rfl) ?_
                refine g_9_14 Z ho wm_620 dX9_balance_102 ?_
                refine r_iconst (v := 4) Z dX9_balance_105 (by decide) ?_
                refine r_iload Z dX9_balance_106 (lv_at hl 5 rfl) ?_
                refine r_imul Z dX9_balance_108 ?_
                refine r_iload Z dX9_balance_109 (lv_at hl 6 rfl) ?_
                refine r_iadd Z dX9_balance_111 ?_
                obtain ⟨hi3, hF⟩ := ck_some hF
                refine r_iaload Z (shp_lt (sh_9_14 ho) (by decide)) (fun _ _ => ce_116 (sh_9_14 ho)) hi3 dX9_balance_112 ?_
                refine r_if_le Z 207 dX9_balance_113 (by decide) (fun hc4 => ?_) (fun hc4 => ?_)
                · replace hF := if_some hc4 hF
                  obtain ⟨t5, et5, hF⟩ := nm_some hF
                  refine r_iinc (j := 6) Z t5 [(8, .int t5), (0, .ref (ad o)), (1, .int v1), (2, .int v2), (3, .long v3), (5, .long v5), (7, .int v7)] dX9_balance_207 hl rfl (by rw [et5]; rfl) (by decide) rfl (fun ls hl => ?_)
                  refine r_goto Z 95 dX9_balance_210 (by decide) ?_
                  exact ih95 v1 v2 v3 v5 v7 t5 M ls (lv_sub hl [1, 2, 3, 4, 5, 6, 0] rfl) hF
                · replace hF := nif_some hc4 hF
                  refine r_aload_n Z dX9_balance_116 rfl (lv_at hl 0 rfl) ?_
                  refine g_9_21 Z ho wm_625 dX9_balance_117 ?_
                  refine r_iload Z dX9_balance_120 (lv_at hl 6 rfl) ?_
                  obtain ⟨hi6, hF⟩ := ck_some hF
                  refine r_iaload Z (shp_lt (sh_9_21 ho) (by decide)) (fun _ _ => ce_104 (sh_9_21 ho)) hi6 dX9_balance_122 ?_
                  refine r_if_le Z 207 dX9_balance_123 (by decide) (fun hc7 => ?_) (fun hc7 => ?_)
                  · replace hF := if_some hc7 hF
                    obtain ⟨t8, et8, hF⟩ := nm_some hF
                    refine r_iinc (j := 6) Z t8 [(8, .int t8), (0, .ref (ad o)), (1, .int v1), (2, .int v2), (3, .long v3), (5, .long v5), (7, .int v7)] dX9_balance_207 hl rfl (by rw [et8]; rfl) (by decide) rfl (fun ls hl => ?_)
                    refine r_goto Z 95 dX9_balance_210 (by decide) ?_
                    exact ih95 v1 v2 v3 v5 v7 t8 M ls (lv_sub hl [1, 2, 3, 4, 5, 6, 0] rfl) hF
                  · replace hF := nif_some hc7 hF
                    refine r_aload_n Z dX9_balance_126 rfl (lv_at hl 0 rfl) ?_
                    refine g_9_21 Z ho wm_625 dX9_balance_127 ?_
                    refine r_iload Z dX9_balance_130 (lv_at hl 6 rfl) ?_
                    refine r_dup2 Z dX9_balance_132 rfl rfl ?_
                    obtain ⟨hi9, hF⟩ := ck_some hF
                    refine r_iaload Z (shp_lt (sh_9_21 ho) (by decide)) (fun _ _ => ce_104 (sh_9_21 ho)) hi9 dX9_balance_133 ?_
                    refine r_iconst (v := 1) Z dX9_balance_134 (by decide) ?_
                    refine r_isub Z dX9_balance_135 ?_
                    obtain ⟨hi10, hF⟩ := ck_some hF
                    obtain ⟨M11, eM11, hF⟩ := nm_some hF
                    refine r_iastore Z (shp_lt (sh_9_21 ho) (by decide)) (fun _ _ => ce_104 (sh_9_21 ho)) hi10 dX9_balance_136 ?_
                    rw [← eM11]
                    refine r_aload_n Z dX9_balance_137 rfl (lv_at hl 0 rfl) ?_
                    refine g_9_21 Z ho wm_625 dX9_balance_138 ?_
                    refine r_iload Z dX9_balance_141 (lv_at hl 5 rfl) ?_
                    refine r_dup2 Z dX9_balance_143 rfl rfl ?_
                    obtain ⟨hi12, hF⟩ := ck_some hF
                    refine r_iaload Z (shp_lt (sh_9_21 ho) (by decide)) (fun _ _ => ce_104 (sh_9_21 ho)) hi12 dX9_balance_144 ?_
                    refine r_iconst (v := 1) Z dX9_balance_145 (by decide) ?_
                    refine r_iadd Z dX9_balance_146 ?_
                    obtain ⟨hi13, hF⟩ := ck_some hF
                    obtain ⟨M14, eM14, hF⟩ := nm_some hF
                    refine r_iastore Z (shp_lt (sh_9_21 ho) (by decide)) (fun _ _ => ce_104 (sh_9_21 ho)) hi13 dX9_balance_147 ?_
                    rw [← eM14]
                    refine r_lload Z dX9_balance_148 (lv_at hl 4 rfl) ?_
                    refine r_aload_n Z dX9_balance_150 rfl (lv_at hl 0 rfl) ?_
                    refine g_9_14 Z ho wm_620 dX9_balance_151 ?_
                    refine r_iconst (v := 4) Z dX9_balance_154 (by decide) ?_
                    refine r_iload Z dX9_balance_155 (lv_at hl 5 rfl) ?_
                    refine r_imul Z dX9_balance_157 ?_
                    refine r_iload Z dX9_balance_158 (lv_at hl 6 rfl) ?_
                    refine r_iadd Z dX9_balance_160 ?_
                    obtain ⟨hi15, hF⟩ := ck_some hF
                    refine r_iaload Z (shp_lt (sh_9_14 ho) (by decide)) (fun _ _ => ce_116 (sh_9_14 ho)) hi15 dX9_balance_161 ?_
                    refine r_aload_n Z dX9_balance_162 rfl (lv_at hl 0 rfl) ?_
                    refine r_iload Z dX9_balance_163 (lv_at hl 5 rfl) ?_
                    refine r_aload_n Z dX9_balance_165 rfl (lv_at hl 0 rfl) ?_
                    refine g_9_21 Z ho wm_625 dX9_balance_166 ?_
                    refine r_iload Z dX9_balance_169 (lv_at hl 5 rfl) ?_
                    obtain ⟨hi16, hF⟩ := ck_some hF
                    refine r_iaload Z (shp_lt (sh_9_21 ho) (by decide)) (fun _ _ => ce_104 (sh_9_21 ho)) hi16 dX9_balance_171 ?_
                    obtain ⟨q17, hq17, hF⟩ := bd_some hF
                    refine r_invVi [.int (mI M14 (fld o 14) (Int32.toNatClampNeg ((4 * v7) + v8))), .long v5] Z (c_X9_sends ho hq17) cv_X9_sends rfl (shp_lt ho (by decide)) (fun _ _ => ⟨_, ce_9 ho⟩) wm_792 rfl rfl ⟨Nat.le_of_ble_eq_true rfl, Nat.le_of_ble_eq_true rfl⟩ rfl hl.1 rfl (Nat.le_of_ble_eq_true rfl) dX9_balance_172 ?_
                    refine r_imul Z dX9_balance_175 ?_
                    refine r_i2l Z dX9_balance_176 ?_
                    refine r_aload_n Z dX9_balance_177 rfl (lv_at hl 0 rfl) ?_
                    obtain ⟨q18, hq18, hF⟩ := bd_some hF
                    refine r_invVl [.long (Int32.toInt64 ((mI M14 (fld o 14) (Int32.toNatClampNeg ((4 * v7) + v8))) * q17.1)), .long v5] Z (c_X9_weight ho hq18) cv_X9_weight rfl (shp_lt ho (by decide)) (fun _ _ => ⟨_, ce_9 ho⟩) wm_767 rfl rfl ⟨Nat.le_of_ble_eq_true rfl, Nat.le_of_ble_eq_true rfl⟩ rfl hl.1 rfl (Nat.le_of_ble_eq_true rfl) dX9_balance_178 ?_
                    refine r_lmul Z dX9_balance_181 ?_
                    refine r_ladd Z dX9_balance_182 ?_
                    obtain ⟨t19, et19, hF⟩ := nm_some hF
                    rw [← et19]
                    refine r_lstore Z [(5, .long t19), (0, .ref (ad o)), (1, .int v1), (2, .int v2), (3, .long v3), (7, .int v7), (8, .int v8)] dX9_balance_183 hl (by decide) rfl (fun ls hl => ?_)
                    refine r_aload_n Z dX9_balance_185 rfl (lv_at hl 1 rfl) ?_
                    refine g_9_21 Z ho wm_625 dX9_balance_186 ?_
                    refine r_iload Z dX9_balance_189 (lv_at hl 5 rfl) ?_
                    refine r_dup2 Z dX9_balance_191 rfl rfl ?_
                    obtain ⟨hi20, hF⟩ := ck_some hF
                    refine r_iaload Z (shp_lt (sh_9_21 ho) (by decide)) (fun _ _ => ce_104 (sh_9_21 ho)) hi20 dX9_balance_192 ?_
                    refine r_iconst (v := 1) Z dX9_balance_193 (by decide) ?_
                    refine r_isub Z dX9_balance_194 ?_
                    obtain ⟨hi21, hF⟩ := ck_some hF
                    obtain ⟨M22, eM22, hF⟩ := nm_some hF
                    refine r_iastore Z (shp_lt (sh_9_21 ho) (by decide)) (fun _ _ => ce_104 (sh_9_21 ho)) hi21 dX9_balance_195 ?_
                    rw [← eM22]
                    refine r_aload_n Z dX9_balance_196 rfl (lv_at hl 1 rfl) ?_
                    refine g_9_21 Z ho wm_625 dX9_balance_197 ?_
                    refine r_iload Z dX9_balance_200 (lv_at hl 6 rfl) ?_
                    refine r_dup2 Z dX9_balance_202 rfl rfl ?_
                    obtain ⟨hi23, hF⟩ := ck_some hF
                    refine r_iaload Z (shp_lt (sh_9_21 ho) (by decide)) (fun _ _ => ce_104 (sh_9_21 ho)) hi23 dX9_balance_203 ?_
                    refine r_iconst (v := 1) Z dX9_balance_204 (by decide) ?_
                    refine r_iadd Z dX9_balance_205 ?_
                    obtain ⟨hi24, hF⟩ := ck_some hF
                    obtain ⟨M25, eM25, hF⟩ := nm_some hF
                    refine r_iastore Z (shp_lt (sh_9_21 ho) (by decide)) (fun _ _ => ce_104 (sh_9_21 ho)) hi24 dX9_balance_206 ?_
                    rw [← eM25]
                    obtain ⟨t26, et26, hF⟩ := nm_some hF
                    refine r_iinc (j := 6) Z t26 [(8, .int t26), (5, .long t19), (0, .ref (ad o)), (1, .int v1), (2, .int v2), (3, .long v3), (7, .int v7)] dX9_balance_207 hl rfl (by rw [et26]; rfl) (by decide) rfl (fun ls hl => ?_)
                    refine r_goto Z 95 dX9_balance_210 (by decide) ?_
                    exact ih95 v1 v2 v3 t19 v7 t26 M25 ls (lv_sub hl [2, 3, 4, 5, 1, 6, 0] rfl) hF
          have L90 : ∀ (v1 : Int32) (v2 : Int32) (v5 : Int64) (v7 : Int32) (s0 : Int64) (s1 : Int64) (M : Mm) (ls : Array Slot), lv_has ls 9 [(0, .ref (ad o)), (1, .int v1), (2, .int v2), (5, .long v5), (7, .int v7)] → f_X9_balance_b90 (f_X9_balance_b30 o n30) (f_X9_balance_b46 (f_X9_balance_b30 o n30) o n46) o v1 v2 v5 v7 s0 s1 M = some q → G ad X M 90 ls [.long s1, .long s0] := by
            intro v1 v2 v5 v7 s0 s1 M ls hl hF
            unfold f_X9_balance_b90 at hF
            refine r_ladd Z dX9_balance_90 ?_
            obtain ⟨t27, et27, hF⟩ := nm_some hF
            rw [← et27]
            refine r_lstore_n Z [(3, .long t27), (0, .ref (ad o)), (1, .int v1), (2, .int v2), (5, .long v5), (7, .int v7)] dX9_balance_91 rfl hl (by decide) rfl (fun ls hl => ?_)
            refine r_iconst (v := 0) Z dX9_balance_92 (by decide) ?_
            refine r_istore Z [(8, .int 0), (3, .long t27), (0, .ref (ad o)), (1, .int v1), (2, .int v2), (5, .long v5), (7, .int v7)] dX9_balance_93 hl (by decide) rfl (fun ls hl => ?_)
            exact L95 _ v1 v2 t27 v5 v7 0 M ls (lv_sub hl [2, 3, 4, 1, 5, 6, 0] rfl) hF
          intro v1 v2 v3 v5 v7 M ls hl hF
          replace hF : f_X9_balance_b46B (f_X9_balance_b30 o n30) (f_X9_balance_b46 (f_X9_balance_b30 o n30) o n46) o v1 v2 v3 v5 v7 M = some q := hF
          unfold f_X9_balance_b46B at hF
          refine r_iload Z dX9_balance_46 (lv_at hl 5 rfl) ?_
          refine r_iconst (v := 4) Z dX9_balance_48 (by decide) ?_
          refine r_icmp_ge Z 219 dX9_balance_49 (by decide) (fun hc28 => ?_) (fun hc28 => ?_)
          · replace hF := if_some hc28 hF
            refine r_iload_n Z dX9_balance_219 rfl (lv_at hl 2 rfl) ?_
            refine r_lload_n Z dX9_balance_220 rfl (lv_at hl 3 rfl) ?_
            refine r_lload Z dX9_balance_221 (lv_at hl 4 rfl) ?_
            refine r_lcmp Z dX9_balance_223 ?_
            refine r_if_ne Z 231 dX9_balance_224 (by decide) (fun hc29 => ?_) (fun hc29 => ?_)
            · replace hF := nif_some hc29 hF
              refine r_iconst (v := 0) Z dX9_balance_231 (by decide) ?_
              refine r_iadd Z dX9_balance_232 ?_
              obtain ⟨t30, et30, hF⟩ := nm_some hF
              rw [← et30]
              refine r_istore_n Z [(2, .int t30), (0, .ref (ad o)), (1, .int v1), (3, .long v3), (5, .long v5), (7, .int v7)] dX9_balance_233 rfl hl (by decide) rfl (fun ls hl => ?_)
              refine r_goto Z 30 dX9_balance_234 (by decide) ?_
              exact ih30 v1 t30 M ls (lv_sub hl [1, 2, 0] rfl) hF
            · replace hF := if_some hc29 hF
              refine r_iconst (v := 1) Z dX9_balance_227 (by decide) ?_
              refine r_goto Z 232 dX9_balance_228 (by decide) ?_
              refine r_iadd Z dX9_balance_232 ?_
              obtain ⟨t31, et31, hF⟩ := nm_some hF
              rw [← et31]
              refine r_istore_n Z [(2, .int t31), (0, .ref (ad o)), (1, .int v1), (3, .long v3), (5, .long v5), (7, .int v7)] dX9_balance_233 rfl hl (by decide) rfl (fun ls hl => ?_)
              refine r_goto Z 30 dX9_balance_234 (by decide) ?_
              exact ih30 v1 t31 M ls (lv_sub hl [1, 2, 0] rfl) hF
          · replace hF := nif_some hc28 hF
            refine r_lload_n Z dX9_balance_52 rfl (lv_at hl 3 rfl) ?_
            refine r_aload_n Z dX9_balance_53 rfl (lv_at hl 0 rfl) ?_
            refine g_9_8 Z ho wm_614 dX9_balance_54 ?_
            refine r_iload Z dX9_balance_57 (lv_at hl 5 rfl) ?_
            obtain ⟨hi32, hF⟩ := ck_some hF
            refine r_zaload Z (shp_lt (sh_9_8 ho) (by decide)) (fun _ _ => ce_2004 (sh_9_8 ho)) hi32 dX9_balance_59 ?_
            refine r_if_eq Z 89 dX9_balance_60 (by decide) (fun hc33 => ?_) (fun hc33 => ?_)
            · replace hF := if_some hc33 hF
              refine r_lconst (v := 0) Z dX9_balance_89 (by decide) ?_
              exact L90 v1 v2 v5 v7 v3 0 M ls (lv_sub hl [0, 1, 2, 4, 5] rfl) hF
            · replace hF := nif_some hc33 hF
              refine r_ldc2 Z wm_707 dX9_balance_63 ?_
              refine r_aload_n Z dX9_balance_66 rfl (lv_at hl 0 rfl) ?_
              refine r_iload Z dX9_balance_67 (lv_at hl 5 rfl) ?_
              refine r_aload_n Z dX9_balance_69 rfl (lv_at hl 0 rfl) ?_
              refine g_9_21 Z ho wm_625 dX9_balance_70 ?_
              refine r_iload Z dX9_balance_73 (lv_at hl 5 rfl) ?_
              obtain ⟨hi34, hF⟩ := ck_some hF
              refine r_iaload Z (shp_lt (sh_9_21 ho) (by decide)) (fun _ _ => ce_104 (sh_9_21 ho)) hi34 dX9_balance_75 ?_
              obtain ⟨q35, hq35, hF⟩ := bd_some hF
              refine r_invVi [.long 4, .long v3] Z (c_X9_sends ho hq35) cv_X9_sends rfl (shp_lt ho (by decide)) (fun _ _ => ⟨_, ce_9 ho⟩) wm_792 rfl rfl ⟨Nat.le_of_ble_eq_true rfl, Nat.le_of_ble_eq_true rfl⟩ rfl hl.1 rfl (Nat.le_of_ble_eq_true rfl) dX9_balance_76 ?_
              refine r_i2l Z dX9_balance_79 ?_
              refine r_lmul Z dX9_balance_80 ?_
              refine r_aload_n Z dX9_balance_81 rfl (lv_at hl 0 rfl) ?_
              obtain ⟨q36, hq36, hF⟩ := bd_some hF
              refine r_invVl [.long (4 * (Int32.toInt64 q35.1)), .long v3] Z (c_X9_weight ho hq36) cv_X9_weight rfl (shp_lt ho (by decide)) (fun _ _ => ⟨_, ce_9 ho⟩) wm_767 rfl rfl ⟨Nat.le_of_ble_eq_true rfl, Nat.le_of_ble_eq_true rfl⟩ rfl hl.1 rfl (Nat.le_of_ble_eq_true rfl) dX9_balance_82 ?_
              refine r_lmul Z dX9_balance_85 ?_
              refine r_goto Z 90 dX9_balance_86 (by decide) ?_
              exact L90 v1 v2 v5 v7 v3 ((4 * (Int32.toInt64 q35.1)) * q36.1) q36.2 ls (lv_sub hl [0, 1, 2, 4, 5] rfl) hF
      intro v1 v2 M ls hl hF
      replace hF : f_X9_balance_b30B (f_X9_balance_b30 o n30) o v1 v2 M = some q := hF
      unfold f_X9_balance_b30B at hF
      refine r_aload_n Z dX9_balance_30 rfl (lv_at hl 0 rfl) ?_
      refine r_iload_n Z dX9_balance_31 rfl (lv_at hl 1 rfl) ?_
      obtain ⟨q37, hq37, hF⟩ := bd_some hF
      refine r_invVi [] Z (c_X9_nextState ho hq37) cv_X9_nextState rfl (shp_lt ho (by decide)) (fun _ _ => ⟨_, ce_9 ho⟩) wm_764 rfl rfl ⟨Nat.le_of_ble_eq_true rfl, Nat.le_of_ble_eq_true rfl⟩ rfl hl.1 rfl (Nat.le_of_ble_eq_true rfl) dX9_balance_32 ?_
      refine r_if_eq Z 237 dX9_balance_35 (by decide) (fun hc38 => ?_) (fun hc38 => ?_)
      · replace hF := if_some hc38 hF
        refine r_iload_n Z dX9_balance_237 rfl (lv_at hl 2 rfl) ?_
        exact r_iret Z hQ hF dX9_balance_238
      · replace hF := nif_some hc38 hF
        refine r_lconst (v := 0) Z dX9_balance_38 (by decide) ?_
        refine r_lstore_n Z [(3, .long 0), (0, .ref (ad o)), (1, .int v1), (2, .int v2)] dX9_balance_39 rfl hl (by decide) rfl (fun ls hl => ?_)
        refine r_lconst (v := 0) Z dX9_balance_40 (by decide) ?_
        refine r_lstore Z [(5, .long 0), (3, .long 0), (0, .ref (ad o)), (1, .int v1), (2, .int v2)] dX9_balance_41 hl (by decide) rfl (fun ls hl => ?_)
        refine r_iconst (v := 0) Z dX9_balance_43 (by decide) ?_
        refine r_istore Z [(7, .int 0), (5, .long 0), (3, .long 0), (0, .ref (ad o)), (1, .int v1), (2, .int v2)] dX9_balance_44 hl (by decide) rfl (fun ls hl => ?_)
        exact L46 _ v1 v2 0 0 0 q37.2 ls (lv_sub hl [3, 4, 5, 2, 1, 0] rfl) hF
  unfold f_X9_balance at hF
  refine r_iload_n Z dX9_balance_0 rfl (lv_at hl 1 rfl) ?_
  obtain ⟨q39, hq39, hF⟩ := bd_some hF
  refine r_invSi [] Z (c_X9_isMany hq39) cv_X9_isMany wm_776 rfl rfl ⟨Nat.le_of_ble_eq_true rfl, Nat.le_of_ble_eq_true rfl⟩ rfl hl.1 rfl (Nat.le_of_ble_eq_true rfl) dX9_balance_1 ?_
  refine r_if_ne Z 9 dX9_balance_4 (by decide) (fun hc40 => ?_) (fun hc40 => ?_)
  · replace hF := nif_some hc40 hF
    refine r_aload_n Z dX9_balance_9 rfl (lv_at hl 0 rfl) ?_
    obtain ⟨q41, hq41, hF⟩ := bd_some hF
    refine r_invVi [] Z (c_X9_isClosed ho hq41) cv_X9_isClosed rfl (shp_lt ho (by decide)) (fun _ _ => ⟨_, ce_9 ho⟩) wm_740 rfl rfl ⟨Nat.le_of_ble_eq_true rfl, Nat.le_of_ble_eq_true rfl⟩ rfl hl.1 rfl (Nat.le_of_ble_eq_true rfl) dX9_balance_10 ?_
    refine r_if_ne Z 19 dX9_balance_13 (by decide) (fun hc42 => ?_) (fun hc42 => ?_)
    · replace hF := nif_some hc42 hF
      refine r_aload_n Z dX9_balance_19 rfl (lv_at hl 0 rfl) ?_
      obtain ⟨M43, hM43, hF⟩ := bd_some hF
      refine r_invVv [] Z (c_X9_setVisits ho hM43) cv_X9_setVisits rfl (shp_lt ho (by decide)) (fun _ _ => ⟨_, ce_9 ho⟩) wm_744 rfl rfl ⟨Nat.le_of_ble_eq_true rfl, Nat.le_of_ble_eq_true rfl⟩ rfl hl.1 rfl (Nat.le_of_ble_eq_true rfl) dX9_balance_20 ?_
      refine r_iconst (v := 0) Z dX9_balance_23 (by decide) ?_
      refine r_istore_n Z [(2, .int 0), (0, .ref (ad o)), (1, .int x1)] dX9_balance_24 rfl hl (by decide) rfl (fun ls hl => ?_)
      refine r_aload_n Z dX9_balance_25 rfl (lv_at hl 1 rfl) ?_
      refine r_iconst (v := 0) Z dX9_balance_26 (by decide) ?_
      obtain ⟨M44, eM44, hF⟩ := nm_some hF
      refine p_9_22 Z ho wm_758 dX9_balance_27 ?_
      rw [← eM44]
      exact L30 _ x1 0 M44 ls (lv_sub hl [1, 2, 0] rfl) hF
    · replace hF := if_some hc42 hF
      refine r_bipush (v := (-4)) Z dX9_balance_16 (by decide) ?_
      exact r_iret Z hQ hF dX9_balance_18
  · replace hF := if_some hc40 hF
    refine r_iconst (v := (-1)) Z dX9_balance_7 (by decide) ?_
    exact r_iret Z hQ hF dX9_balance_8
theorem dX9_bears_0 : decode cX9_bears 0 = .ok (.aload_n 0, 1) := by decide +kernel
theorem dX9_bears_1 : decode cX9_bears 1 = .ok (.getfield 30, 3) := by decide +kernel
theorem dX9_bears_4 : decode cX9_bears 4 = .ok (.iload_n 1, 1) := by decide +kernel
theorem dX9_bears_5 : decode cX9_bears 5 = .ok (.iaload, 1) := by decide +kernel
theorem dX9_bears_6 : decode cX9_bears 6 = .ok (.iconst 3, 1) := by decide +kernel
theorem dX9_bears_7 : decode cX9_bears 7 = .ok (.if_icmp .ne 12, 3) := by decide +kernel
theorem dX9_bears_10 : decode cX9_bears 10 = .ok (.aload_n 0, 1) := by decide +kernel
theorem dX9_bears_11 : decode cX9_bears 11 = .ok (.getfield 33, 3) := by decide +kernel
theorem dX9_bears_14 : decode cX9_bears 14 = .ok (.iload_n 1, 1) := by decide +kernel
theorem dX9_bears_15 : decode cX9_bears 15 = .ok (.iaload, 1) := by decide +kernel
theorem dX9_bears_16 : decode cX9_bears 16 = .ok (.goto 16, 3) := by decide +kernel
theorem dX9_bears_19 : decode cX9_bears 19 = .ok (.aload_n 0, 1) := by decide +kernel
theorem dX9_bears_20 : decode cX9_bears 20 = .ok (.getfield 33, 3) := by decide +kernel
theorem dX9_bears_23 : decode cX9_bears 23 = .ok (.iload_n 1, 1) := by decide +kernel
theorem dX9_bears_24 : decode cX9_bears 24 = .ok (.iaload, 1) := by decide +kernel
theorem dX9_bears_25 : decode cX9_bears 25 = .ok (.aload_n 0, 1) := by decide +kernel
theorem dX9_bears_26 : decode cX9_bears 26 = .ok (.getfield 36, 3) := by decide +kernel
theorem dX9_bears_29 : decode cX9_bears 29 = .ok (.iload_n 1, 1) := by decide +kernel
theorem dX9_bears_30 : decode cX9_bears 30 = .ok (.iaload, 1) := by decide +kernel
theorem dX9_bears_31 : decode cX9_bears 31 = .ok (.imul, 1) := by decide +kernel
theorem dX9_bears_32 : decode cX9_bears 32 = .ok (.ireturn, 1) := by decide +kernel
theorem cv_X9_bears : wn_cV yX9_bears cX9_bears 2 (some .int) RX9 1 := ⟨wm_723, wm_726, wm_727, wm_637, by decide +kernel⟩
abbrev rm_X9_bears : Room := rmz 0 0
set_option maxHeartbeats 4000000 in
set_option maxRecDepth 100000 in
theorem c_X9_bears {ad : Nat → Nat} {o : Nat} {x1 : Int32} {M : Mm} {q : Int32 × Mm} (ho : shp o = 9) (hF : f_X9_bears o x1 M = some q) : KI ad yX9_bears cX9_bears 2 (some .int) rm_X9_bears [.ref (ad o), .int x1] M q.1 q.2 := by
  refine wn_enterI (own := RX9) (by decide) rfl (Nat.le_of_ble_eq_true rfl) (fun X ls Z hQ hl => ?_)
  have hl : lv_has ls 2 [(0, .ref (ad o)), (1, .int x1)] := hl
  unfold f_X9_bears at hF
  refine r_aload_n Z dX9_bears_0 rfl (lv_at hl 0 rfl) ?_
  refine g_9_9 Z ho wm_615 dX9_bears_1 ?_
  refine r_iload_n Z dX9_bears_4 rfl (lv_at hl 1 rfl) ?_
  obtain ⟨hi1, hF⟩ := ck_some hF
  refine r_iaload Z (shp_lt (sh_9_9 ho) (by decide)) (fun _ _ => ce_104 (sh_9_9 ho)) hi1 dX9_bears_5 ?_
  refine r_iconst (v := 3) Z dX9_bears_6 (by decide) ?_
  refine r_icmp_ne Z 19 dX9_bears_7 (by decide) (fun hc2 => ?_) (fun hc2 => ?_)
  · replace hF := nif_some hc2 hF
    refine r_aload_n Z dX9_bears_19 rfl (lv_at hl 0 rfl) ?_
    refine g_9_10 Z ho wm_616 dX9_bears_20 ?_
    refine r_iload_n Z dX9_bears_23 rfl (lv_at hl 1 rfl) ?_
    obtain ⟨hi3, hF⟩ := ck_some hF
    refine r_iaload Z (shp_lt (sh_9_10 ho) (by decide)) (fun _ _ => ce_104 (sh_9_10 ho)) hi3 dX9_bears_24 ?_
    refine r_aload_n Z dX9_bears_25 rfl (lv_at hl 0 rfl) ?_
    refine g_9_11 Z ho wm_617 dX9_bears_26 ?_
    refine r_iload_n Z dX9_bears_29 rfl (lv_at hl 1 rfl) ?_
    obtain ⟨hi4, hF⟩ := ck_some hF
    refine r_iaload Z (shp_lt (sh_9_11 ho) (by decide)) (fun _ _ => ce_104 (sh_9_11 ho)) hi4 dX9_bears_30 ?_
    refine r_imul Z dX9_bears_31 ?_
    exact r_iret Z hQ hF dX9_bears_32
  · replace hF := if_some hc2 hF
    refine r_aload_n Z dX9_bears_10 rfl (lv_at hl 0 rfl) ?_
    refine g_9_10 Z ho wm_616 dX9_bears_11 ?_
    refine r_iload_n Z dX9_bears_14 rfl (lv_at hl 1 rfl) ?_
    obtain ⟨hi5, hF⟩ := ck_some hF
    refine r_iaload Z (shp_lt (sh_9_10 ho) (by decide)) (fun _ _ => ce_104 (sh_9_10 ho)) hi5 dX9_bears_15 ?_
    refine r_goto Z 32 dX9_bears_16 (by decide) ?_
    exact r_iret Z hQ hF dX9_bears_32
theorem dX9_sumOf_0 : decode cX9_sumOf 0 = .ok (.lconst 0, 1) := by decide +kernel
theorem dX9_sumOf_1 : decode cX9_sumOf 1 = .ok (.lstore_n 3, 1) := by decide +kernel
theorem dX9_sumOf_2 : decode cX9_sumOf 2 = .ok (.aload_n 0, 1) := by decide +kernel
theorem dX9_sumOf_3 : decode cX9_sumOf 3 = .ok (.iconst 0, 1) := by decide +kernel
theorem dX9_sumOf_4 : decode cX9_sumOf 4 = .ok (.putfield 176, 3) := by decide +kernel
theorem dX9_sumOf_7 : decode cX9_sumOf 7 = .ok (.aload_n 0, 1) := by decide +kernel
theorem dX9_sumOf_8 : decode cX9_sumOf 8 = .ok (.iload_n 1, 1) := by decide +kernel
theorem dX9_sumOf_9 : decode cX9_sumOf 9 = .ok (.invokevirtual 182, 3) := by decide +kernel
theorem dX9_sumOf_12 : decode cX9_sumOf 12 = .ok (.ifCond .eq 29, 3) := by decide +kernel
theorem dX9_sumOf_15 : decode cX9_sumOf 15 = .ok (.lload_n 3, 1) := by decide +kernel
theorem dX9_sumOf_16 : decode cX9_sumOf 16 = .ok (.aload_n 0, 1) := by decide +kernel
theorem dX9_sumOf_17 : decode cX9_sumOf 17 = .ok (.invokevirtual 185, 3) := by decide +kernel
theorem dX9_sumOf_20 : decode cX9_sumOf 20 = .ok (.iload_n 2, 1) := by decide +kernel
theorem dX9_sumOf_21 : decode cX9_sumOf 21 = .ok (.ifCond .ge 7, 3) := by decide +kernel
theorem dX9_sumOf_24 : decode cX9_sumOf 24 = .ok (.iconst 1, 1) := by decide +kernel
theorem dX9_sumOf_25 : decode cX9_sumOf 25 = .ok (.goto 9, 3) := by decide +kernel
theorem dX9_sumOf_28 : decode cX9_sumOf 28 = .ok (.aload_n 0, 1) := by decide +kernel
theorem dX9_sumOf_29 : decode cX9_sumOf 29 = .ok (.getfield 61, 3) := by decide +kernel
theorem dX9_sumOf_32 : decode cX9_sumOf 32 = .ok (.iload_n 2, 1) := by decide +kernel
theorem dX9_sumOf_33 : decode cX9_sumOf 33 = .ok (.iaload, 1) := by decide +kernel
theorem dX9_sumOf_34 : decode cX9_sumOf 34 = .ok (.i2l, 1) := by decide +kernel
theorem dX9_sumOf_35 : decode cX9_sumOf 35 = .ok (.lmul, 1) := by decide +kernel
theorem dX9_sumOf_36 : decode cX9_sumOf 36 = .ok (.ladd, 1) := by decide +kernel
theorem dX9_sumOf_37 : decode cX9_sumOf 37 = .ok (.lstore_n 3, 1) := by decide +kernel
theorem dX9_sumOf_38 : decode cX9_sumOf 38 = .ok (.goto (-31), 3) := by decide +kernel
theorem dX9_sumOf_41 : decode cX9_sumOf 41 = .ok (.lload_n 3, 1) := by decide +kernel
theorem dX9_sumOf_42 : decode cX9_sumOf 42 = .ok (.lreturn, 1) := by decide +kernel
theorem cv_X9_sumOf : wn_cV yX9_sumOf cX9_sumOf 5 (some .long) RX9 2 := ⟨wm_763, wm_771, wm_772, wm_637, by decide +kernel⟩
abbrev rm_X9_sumOf : Room := rmz 3 69
set_option maxHeartbeats 4000000 in
set_option maxRecDepth 100000 in
theorem c_X9_sumOf {ad : Nat → Nat} {o : Nat} {x1 : Int32} {x2 : Int32} {M : Mm} {q : Int64 × Mm} (ho : shp o = 9) (hF : f_X9_sumOf o x1 x2 M = some q) : KL ad yX9_sumOf cX9_sumOf 5 (some .long) rm_X9_sumOf [.ref (ad o), .int x1, .int x2] M q.1 q.2 := by
  refine wn_enterL (own := RX9) (by decide) rfl (Nat.le_of_ble_eq_true rfl) (fun X ls Z hQ hl => ?_)
  have hl : lv_has ls 5 [(0, .ref (ad o)), (1, .int x1), (2, .int x2)] := hl
  have L7 : ∀ (n7 : Nat) (v1 : Int32) (v2 : Int32) (v3 : Int64) (M : Mm) (ls : Array Slot), lv_has ls 5 [(0, .ref (ad o)), (1, .int v1), (2, .int v2), (3, .long v3)] → f_X9_sumOf_b7 o n7 v1 v2 v3 M = some q → G ad X M 7 ls [] := by
    intro n7
    induction n7 with
    | zero =>
      intro v1 v2 v3 M ls hl hF
      cases hF
    | succ n7 ih7 =>
      have L34 : ∀ (v1 : Int32) (v2 : Int32) (s0 : Int64) (s1 : Int64) (s2 : Int32) (M : Mm) (ls : Array Slot), lv_has ls 5 [(0, .ref (ad o)), (1, .int v1), (2, .int v2)] → f_X9_sumOf_b34 (f_X9_sumOf_b7 o n7) o v1 v2 s0 s1 s2 M = some q → G ad X M 34 ls [.int s2, .long s1, .long s0] := by
        intro v1 v2 s0 s1 s2 M ls hl hF
        unfold f_X9_sumOf_b34 at hF
        refine r_i2l Z dX9_sumOf_34 ?_
        refine r_lmul Z dX9_sumOf_35 ?_
        refine r_ladd Z dX9_sumOf_36 ?_
        obtain ⟨t1, et1, hF⟩ := nm_some hF
        rw [← et1]
        refine r_lstore_n Z [(3, .long t1), (0, .ref (ad o)), (1, .int v1), (2, .int v2)] dX9_sumOf_37 rfl hl (by decide) rfl (fun ls hl => ?_)
        refine r_goto Z 7 dX9_sumOf_38 (by decide) ?_
        exact ih7 v1 v2 t1 M ls (lv_sub hl [1, 2, 3, 0] rfl) hF
      intro v1 v2 v3 M ls hl hF
      replace hF : f_X9_sumOf_b7B (f_X9_sumOf_b7 o n7) o v1 v2 v3 M = some q := hF
      unfold f_X9_sumOf_b7B at hF
      refine r_aload_n Z dX9_sumOf_7 rfl (lv_at hl 0 rfl) ?_
      refine r_iload_n Z dX9_sumOf_8 rfl (lv_at hl 1 rfl) ?_
      obtain ⟨q2, hq2, hF⟩ := bd_some hF
      refine r_invVi [] Z (c_X9_nextState ho hq2) cv_X9_nextState rfl (shp_lt ho (by decide)) (fun _ _ => ⟨_, ce_9 ho⟩) wm_764 rfl rfl ⟨Nat.le_of_ble_eq_true rfl, Nat.le_of_ble_eq_true rfl⟩ rfl hl.1 rfl (Nat.le_of_ble_eq_true rfl) dX9_sumOf_9 ?_
      refine r_if_eq Z 41 dX9_sumOf_12 (by decide) (fun hc3 => ?_) (fun hc3 => ?_)
      · replace hF := if_some hc3 hF
        refine r_lload_n Z dX9_sumOf_41 rfl (lv_at hl 3 rfl) ?_
        exact r_lret Z hQ hF dX9_sumOf_42
      · replace hF := nif_some hc3 hF
        refine r_lload_n Z dX9_sumOf_15 rfl (lv_at hl 3 rfl) ?_
        refine r_aload_n Z dX9_sumOf_16 rfl (lv_at hl 0 rfl) ?_
        obtain ⟨q4, hq4, hF⟩ := bd_some hF
        refine r_invVl [.long v3] Z (c_X9_weight ho hq4) cv_X9_weight rfl (shp_lt ho (by decide)) (fun _ _ => ⟨_, ce_9 ho⟩) wm_767 rfl rfl ⟨Nat.le_of_ble_eq_true rfl, Nat.le_of_ble_eq_true rfl⟩ rfl hl.1 rfl (Nat.le_of_ble_eq_true rfl) dX9_sumOf_17 ?_
        refine r_iload_n Z dX9_sumOf_20 rfl (lv_at hl 2 rfl) ?_
        refine r_if_ge Z 28 dX9_sumOf_21 (by decide) (fun hc5 => ?_) (fun hc5 => ?_)
        · replace hF := if_some hc5 hF
          refine r_aload_n Z dX9_sumOf_28 rfl (lv_at hl 0 rfl) ?_
          refine g_9_21 Z ho wm_625 dX9_sumOf_29 ?_
          refine r_iload_n Z dX9_sumOf_32 rfl (lv_at hl 2 rfl) ?_
          obtain ⟨hi6, hF⟩ := ck_some hF
          refine r_iaload Z (shp_lt (sh_9_21 ho) (by decide)) (fun _ _ => ce_104 (sh_9_21 ho)) hi6 dX9_sumOf_33 ?_
          exact L34 v1 v2 v3 q4.1 (mI q4.2 (fld o 21) (Int32.toNatClampNeg v2)) q4.2 ls (lv_sub hl [0, 1, 2] rfl) hF
        · replace hF := nif_some hc5 hF
          refine r_iconst (v := 1) Z dX9_sumOf_24 (by decide) ?_
          refine r_goto Z 34 dX9_sumOf_25 (by decide) ?_
          exact L34 v1 v2 v3 q4.1 1 q4.2 ls (lv_sub hl [0, 1, 2] rfl) hF
  unfold f_X9_sumOf at hF
  refine r_lconst (v := 0) Z dX9_sumOf_0 (by decide) ?_
  refine r_lstore_n Z [(3, .long 0), (0, .ref (ad o)), (1, .int x1), (2, .int x2)] dX9_sumOf_1 rfl hl (by decide) rfl (fun ls hl => ?_)
  refine r_aload_n Z dX9_sumOf_2 rfl (lv_at hl 1 rfl) ?_
  refine r_iconst (v := 0) Z dX9_sumOf_3 (by decide) ?_
  obtain ⟨M7, eM7, hF⟩ := nm_some hF
  refine p_9_22 Z ho wm_758 dX9_sumOf_4 ?_
  rw [← eM7]
  exact L7 _ x1 x2 0 M7 ls (lv_sub hl [1, 2, 3, 0] rfl) hF
theorem dX9_isAbove_0 : decode cX9_isAbove 0 = .ok (.lload_n 0, 1) := by decide +kernel
theorem dX9_isAbove_1 : decode cX9_isAbove 1 = .ok (.lstore 8, 2) := by decide +kernel
theorem dX9_isAbove_3 : decode cX9_isAbove 3 = .ok (.lload_n 2, 1) := by decide +kernel
theorem dX9_isAbove_4 : decode cX9_isAbove 4 = .ok (.lstore 10, 2) := by decide +kernel
theorem dX9_isAbove_6 : decode cX9_isAbove 6 = .ok (.lload 4, 2) := by decide +kernel
theorem dX9_isAbove_8 : decode cX9_isAbove 8 = .ok (.lstore 12, 2) := by decide +kernel
theorem dX9_isAbove_10 : decode cX9_isAbove 10 = .ok (.lload 6, 2) := by decide +kernel
theorem dX9_isAbove_12 : decode cX9_isAbove 12 = .ok (.lstore 14, 2) := by decide +kernel
theorem dX9_isAbove_14 : decode cX9_isAbove 14 = .ok (.iconst 0, 1) := by decide +kernel
theorem dX9_isAbove_15 : decode cX9_isAbove 15 = .ok (.istore 16, 2) := by decide +kernel
theorem dX9_isAbove_17 : decode cX9_isAbove 17 = .ok (.lload 8, 2) := by decide +kernel
theorem dX9_isAbove_19 : decode cX9_isAbove 19 = .ok (.lload 10, 2) := by decide +kernel
theorem dX9_isAbove_21 : decode cX9_isAbove 21 = .ok (.ldiv, 1) := by decide +kernel
theorem dX9_isAbove_22 : decode cX9_isAbove 22 = .ok (.lstore 17, 2) := by decide +kernel
theorem dX9_isAbove_24 : decode cX9_isAbove 24 = .ok (.lload 12, 2) := by decide +kernel
theorem dX9_isAbove_26 : decode cX9_isAbove 26 = .ok (.lload 14, 2) := by decide +kernel
theorem dX9_isAbove_28 : decode cX9_isAbove 28 = .ok (.ldiv, 1) := by decide +kernel
theorem dX9_isAbove_29 : decode cX9_isAbove 29 = .ok (.lstore 19, 2) := by decide +kernel
theorem dX9_isAbove_31 : decode cX9_isAbove 31 = .ok (.lload 17, 2) := by decide +kernel
theorem dX9_isAbove_33 : decode cX9_isAbove 33 = .ok (.lload 19, 2) := by decide +kernel
theorem dX9_isAbove_35 : decode cX9_isAbove 35 = .ok (.lcmp, 1) := by decide +kernel
theorem dX9_isAbove_36 : decode cX9_isAbove 36 = .ok (.ifCond .eq 27, 3) := by decide +kernel
theorem dX9_isAbove_39 : decode cX9_isAbove 39 = .ok (.lload 17, 2) := by decide +kernel
theorem dX9_isAbove_41 : decode cX9_isAbove 41 = .ok (.lload 19, 2) := by decide +kernel
theorem dX9_isAbove_43 : decode cX9_isAbove 43 = .ok (.lcmp, 1) := by decide +kernel
theorem dX9_isAbove_44 : decode cX9_isAbove 44 = .ok (.ifCond .le 7, 3) := by decide +kernel
theorem dX9_isAbove_47 : decode cX9_isAbove 47 = .ok (.iconst 1, 1) := by decide +kernel
theorem dX9_isAbove_48 : decode cX9_isAbove 48 = .ok (.goto 4, 3) := by decide +kernel
theorem dX9_isAbove_51 : decode cX9_isAbove 51 = .ok (.iconst 0, 1) := by decide +kernel
theorem dX9_isAbove_52 : decode cX9_isAbove 52 = .ok (.iload 16, 2) := by decide +kernel
theorem dX9_isAbove_54 : decode cX9_isAbove 54 = .ok (.if_icmp .eq 7, 3) := by decide +kernel
theorem dX9_isAbove_57 : decode cX9_isAbove 57 = .ok (.iconst 1, 1) := by decide +kernel
theorem dX9_isAbove_58 : decode cX9_isAbove 58 = .ok (.goto 4, 3) := by decide +kernel
theorem dX9_isAbove_61 : decode cX9_isAbove 61 = .ok (.iconst 0, 1) := by decide +kernel
theorem dX9_isAbove_62 : decode cX9_isAbove 62 = .ok (.ireturn, 1) := by decide +kernel
theorem dX9_isAbove_63 : decode cX9_isAbove 63 = .ok (.lload 8, 2) := by decide +kernel
theorem dX9_isAbove_65 : decode cX9_isAbove 65 = .ok (.lload 10, 2) := by decide +kernel
theorem dX9_isAbove_67 : decode cX9_isAbove 67 = .ok (.lrem, 1) := by decide +kernel
theorem dX9_isAbove_68 : decode cX9_isAbove 68 = .ok (.lstore 8, 2) := by decide +kernel
theorem dX9_isAbove_70 : decode cX9_isAbove 70 = .ok (.lload 12, 2) := by decide +kernel
theorem dX9_isAbove_72 : decode cX9_isAbove 72 = .ok (.lload 14, 2) := by decide +kernel
theorem dX9_isAbove_74 : decode cX9_isAbove 74 = .ok (.lrem, 1) := by decide +kernel
theorem dX9_isAbove_75 : decode cX9_isAbove 75 = .ok (.lstore 12, 2) := by decide +kernel
theorem dX9_isAbove_77 : decode cX9_isAbove 77 = .ok (.lload 8, 2) := by decide +kernel
theorem dX9_isAbove_79 : decode cX9_isAbove 79 = .ok (.lconst 0, 1) := by decide +kernel
theorem dX9_isAbove_80 : decode cX9_isAbove 80 = .ok (.lcmp, 1) := by decide +kernel
theorem dX9_isAbove_81 : decode cX9_isAbove 81 = .ok (.ifCond .eq 10, 3) := by decide +kernel
theorem dX9_isAbove_84 : decode cX9_isAbove 84 = .ok (.lload 12, 2) := by decide +kernel
theorem dX9_isAbove_86 : decode cX9_isAbove 86 = .ok (.lconst 0, 1) := by decide +kernel
theorem dX9_isAbove_87 : decode cX9_isAbove 87 = .ok (.lcmp, 1) := by decide +kernel
theorem dX9_isAbove_88 : decode cX9_isAbove 88 = .ok (.ifCond .ne 34, 3) := by decide +kernel
theorem dX9_isAbove_91 : decode cX9_isAbove 91 = .ok (.lload 8, 2) := by decide +kernel
theorem dX9_isAbove_93 : decode cX9_isAbove 93 = .ok (.lload 12, 2) := by decide +kernel
theorem dX9_isAbove_95 : decode cX9_isAbove 95 = .ok (.lcmp, 1) := by decide +kernel
theorem dX9_isAbove_96 : decode cX9_isAbove 96 = .ok (.ifCond .eq 24, 3) := by decide +kernel
theorem dX9_isAbove_99 : decode cX9_isAbove 99 = .ok (.lload 8, 2) := by decide +kernel
theorem dX9_isAbove_101 : decode cX9_isAbove 101 = .ok (.lconst 0, 1) := by decide +kernel
theorem dX9_isAbove_102 : decode cX9_isAbove 102 = .ok (.lcmp, 1) := by decide +kernel
theorem dX9_isAbove_103 : decode cX9_isAbove 103 = .ok (.ifCond .eq 7, 3) := by decide +kernel
theorem dX9_isAbove_106 : decode cX9_isAbove 106 = .ok (.iconst 1, 1) := by decide +kernel
theorem dX9_isAbove_107 : decode cX9_isAbove 107 = .ok (.goto 4, 3) := by decide +kernel
theorem dX9_isAbove_110 : decode cX9_isAbove 110 = .ok (.iconst 0, 1) := by decide +kernel
theorem dX9_isAbove_111 : decode cX9_isAbove 111 = .ok (.iload 16, 2) := by decide +kernel
theorem dX9_isAbove_113 : decode cX9_isAbove 113 = .ok (.if_icmp .eq 7, 3) := by decide +kernel
theorem dX9_isAbove_116 : decode cX9_isAbove 116 = .ok (.iconst 1, 1) := by decide +kernel
theorem dX9_isAbove_117 : decode cX9_isAbove 117 = .ok (.goto 4, 3) := by decide +kernel
theorem dX9_isAbove_120 : decode cX9_isAbove 120 = .ok (.iconst 0, 1) := by decide +kernel
theorem dX9_isAbove_121 : decode cX9_isAbove 121 = .ok (.ireturn, 1) := by decide +kernel
theorem dX9_isAbove_122 : decode cX9_isAbove 122 = .ok (.lload 8, 2) := by decide +kernel
theorem dX9_isAbove_124 : decode cX9_isAbove 124 = .ok (.lstore 21, 2) := by decide +kernel
theorem dX9_isAbove_126 : decode cX9_isAbove 126 = .ok (.lload 10, 2) := by decide +kernel
theorem dX9_isAbove_128 : decode cX9_isAbove 128 = .ok (.lstore 8, 2) := by decide +kernel
theorem dX9_isAbove_130 : decode cX9_isAbove 130 = .ok (.lload 21, 2) := by decide +kernel
theorem dX9_isAbove_132 : decode cX9_isAbove 132 = .ok (.lstore 10, 2) := by decide +kernel
theorem dX9_isAbove_134 : decode cX9_isAbove 134 = .ok (.lload 12, 2) := by decide +kernel
theorem dX9_isAbove_136 : decode cX9_isAbove 136 = .ok (.lstore 21, 2) := by decide +kernel
theorem dX9_isAbove_138 : decode cX9_isAbove 138 = .ok (.lload 14, 2) := by decide +kernel
theorem dX9_isAbove_140 : decode cX9_isAbove 140 = .ok (.lstore 12, 2) := by decide +kernel
theorem dX9_isAbove_142 : decode cX9_isAbove 142 = .ok (.lload 21, 2) := by decide +kernel
theorem dX9_isAbove_144 : decode cX9_isAbove 144 = .ok (.lstore 14, 2) := by decide +kernel
theorem dX9_isAbove_146 : decode cX9_isAbove 146 = .ok (.iload 16, 2) := by decide +kernel
theorem dX9_isAbove_148 : decode cX9_isAbove 148 = .ok (.ifCond .ne 7, 3) := by decide +kernel
theorem dX9_isAbove_151 : decode cX9_isAbove 151 = .ok (.iconst 1, 1) := by decide +kernel
theorem dX9_isAbove_152 : decode cX9_isAbove 152 = .ok (.goto 4, 3) := by decide +kernel
theorem dX9_isAbove_155 : decode cX9_isAbove 155 = .ok (.iconst 0, 1) := by decide +kernel
theorem dX9_isAbove_156 : decode cX9_isAbove 156 = .ok (.istore 16, 2) := by decide +kernel
theorem dX9_isAbove_158 : decode cX9_isAbove 158 = .ok (.goto (-141), 3) := by decide +kernel
theorem cv_X9_isAbove : wn_cS yX9_isAbove cX9_isAbove 23 (some .boolean) 4 := ⟨wm_787, wm_789, wm_637, by decide +kernel⟩
abbrev rm_X9_isAbove : Room := rmz 0 0
set_option maxHeartbeats 4000000 in
set_option maxRecDepth 100000 in
theorem c_X9_isAbove {ad : Nat → Nat} {x1 : Int64} {x2 : Int64} {x3 : Int64} {x4 : Int64} {M : Mm} {q : Int32 × Mm} (hF : f_X9_isAbove x1 x2 x3 x4 M = some q) : KI ad yX9_isAbove cX9_isAbove 23 (some .boolean) rm_X9_isAbove [.long x1, .long x2, .long x3, .long x4] M q.1 q.2 := by
  refine wn_enterI (own := RX9) (by decide) rfl (Nat.le_of_ble_eq_true rfl) (fun X ls Z hQ hl => ?_)
  have hl : lv_has ls 23 [(0, .long x1), (2, .long x2), (4, .long x3), (6, .long x4)] := hl
  have L52 : ∀ (v16 : Int32) (s0 : Int32) (M : Mm) (ls : Array Slot), lv_has ls 23 [(16, .int v16)] → f_X9_isAbove_b52 v16 s0 M = some q → G ad X M 52 ls [.int s0] := by
    intro v16 s0 M ls hl hF
    unfold f_X9_isAbove_b52 at hF
    refine r_iload Z dX9_isAbove_52 (lv_at hl 0 rfl) ?_
    refine r_icmp_eq Z 61 dX9_isAbove_54 (by decide) (fun hc1 => ?_) (fun hc1 => ?_)
    · replace hF := if_some hc1 hF
      refine r_iconst (v := 0) Z dX9_isAbove_61 (by decide) ?_
      exact r_zret Z hQ (by decide) hF dX9_isAbove_62
    · replace hF := nif_some hc1 hF
      refine r_iconst (v := 1) Z dX9_isAbove_57 (by decide) ?_
      refine r_goto Z 62 dX9_isAbove_58 (by decide) ?_
      exact r_zret Z hQ (by decide) hF dX9_isAbove_62
  have L111 : ∀ (v16 : Int32) (s0 : Int32) (M : Mm) (ls : Array Slot), lv_has ls 23 [(16, .int v16)] → f_X9_isAbove_b111 v16 s0 M = some q → G ad X M 111 ls [.int s0] := by
    intro v16 s0 M ls hl hF
    unfold f_X9_isAbove_b111 at hF
    refine r_iload Z dX9_isAbove_111 (lv_at hl 0 rfl) ?_
    refine r_icmp_eq Z 120 dX9_isAbove_113 (by decide) (fun hc2 => ?_) (fun hc2 => ?_)
    · replace hF := if_some hc2 hF
      refine r_iconst (v := 0) Z dX9_isAbove_120 (by decide) ?_
      exact r_zret Z hQ (by decide) hF dX9_isAbove_121
    · replace hF := nif_some hc2 hF
      refine r_iconst (v := 1) Z dX9_isAbove_116 (by decide) ?_
      refine r_goto Z 121 dX9_isAbove_117 (by decide) ?_
      exact r_zret Z hQ (by decide) hF dX9_isAbove_121
  have L91 : ∀ (v8 : Int64) (v12 : Int64) (v16 : Int32) (M : Mm) (ls : Array Slot), lv_has ls 23 [(8, .long v8), (12, .long v12), (16, .int v16)] → f_X9_isAbove_b91 v8 v12 v16 M = some q → G ad X M 91 ls [] := by
    intro v8 v12 v16 M ls hl hF
    unfold f_X9_isAbove_b91 at hF
    refine r_lload Z dX9_isAbove_91 (lv_at hl 0 rfl) ?_
    refine r_lload Z dX9_isAbove_93 (lv_at hl 1 rfl) ?_
    refine r_lcmp Z dX9_isAbove_95 ?_
    refine r_if_eq Z 120 dX9_isAbove_96 (by decide) (fun hc3 => ?_) (fun hc3 => ?_)
    · replace hF := if_some hc3 hF
      refine r_iconst (v := 0) Z dX9_isAbove_120 (by decide) ?_
      exact r_zret Z hQ (by decide) hF dX9_isAbove_121
    · replace hF := nif_some hc3 hF
      refine r_lload Z dX9_isAbove_99 (lv_at hl 0 rfl) ?_
      refine r_lconst (v := 0) Z dX9_isAbove_101 (by decide) ?_
      refine r_lcmp Z dX9_isAbove_102 ?_
      refine r_if_eq Z 110 dX9_isAbove_103 (by decide) (fun hc4 => ?_) (fun hc4 => ?_)
      · replace hF := if_some hc4 hF
        refine r_iconst (v := 0) Z dX9_isAbove_110 (by decide) ?_
        exact L111 v16 0 M ls (lv_sub hl [2] rfl) hF
      · replace hF := nif_some hc4 hF
        refine r_iconst (v := 1) Z dX9_isAbove_106 (by decide) ?_
        refine r_goto Z 111 dX9_isAbove_107 (by decide) ?_
        exact L111 v16 1 M ls (lv_sub hl [2] rfl) hF
  have L17 : ∀ (n17 : Nat) (v8 : Int64) (v10 : Int64) (v12 : Int64) (v14 : Int64) (v16 : Int32) (M : Mm) (ls : Array Slot), lv_has ls 23 [(8, .long v8), (10, .long v10), (12, .long v12), (14, .long v14), (16, .int v16)] → f_X9_isAbove_b17 n17 v8 v10 v12 v14 v16 M = some q → G ad X M 17 ls [] := by
    intro n17
    induction n17 with
    | zero =>
      intro v8 v10 v12 v14 v16 M ls hl hF
      cases hF
    | succ n17 ih17 =>
      intro v8 v10 v12 v14 v16 M ls hl hF
      replace hF : f_X9_isAbove_b17B (f_X9_isAbove_b17 n17) v8 v10 v12 v14 v16 M = some q := hF
      unfold f_X9_isAbove_b17B at hF
      refine r_lload Z dX9_isAbove_17 (lv_at hl 0 rfl) ?_
      refine r_lload Z dX9_isAbove_19 (lv_at hl 1 rfl) ?_
      obtain ⟨hd5, hF⟩ := dvJ_some hF
      refine r_ldiv Z dX9_isAbove_21 hd5 ?_
      obtain ⟨t6, et6, hF⟩ := nm_some hF
      rw [← et6]
      refine r_lstore Z [(17, .long t6), (8, .long v8), (10, .long v10), (12, .long v12), (14, .long v14), (16, .int v16)] dX9_isAbove_22 hl (by decide) rfl (fun ls hl => ?_)
      refine r_lload Z dX9_isAbove_24 (lv_at hl 3 rfl) ?_
      refine r_lload Z dX9_isAbove_26 (lv_at hl 4 rfl) ?_
      obtain ⟨hd7, hF⟩ := dvJ_some hF
      refine r_ldiv Z dX9_isAbove_28 hd7 ?_
      obtain ⟨t8, et8, hF⟩ := nm_some hF
      rw [← et8]
      refine r_lstore Z [(19, .long t8), (17, .long t6), (8, .long v8), (10, .long v10), (12, .long v12), (14, .long v14), (16, .int v16)] dX9_isAbove_29 hl (by decide) rfl (fun ls hl => ?_)
      refine r_lload Z dX9_isAbove_31 (lv_at hl 1 rfl) ?_
      refine r_lload Z dX9_isAbove_33 (lv_at hl 0 rfl) ?_
      refine r_lcmp Z dX9_isAbove_35 ?_
      refine r_if_eq Z 63 dX9_isAbove_36 (by decide) (fun hc9 => ?_) (fun hc9 => ?_)
      · replace hF := if_some hc9 hF
        refine r_lload Z dX9_isAbove_63 (lv_at hl 2 rfl) ?_
        refine r_lload Z dX9_isAbove_65 (lv_at hl 3 rfl) ?_
        obtain ⟨hd10, hF⟩ := dvJ_some hF
        refine r_lrem Z dX9_isAbove_67 hd10 ?_
        obtain ⟨t11, et11, hF⟩ := nm_some hF
        rw [← et11]
        refine r_lstore Z [(8, .long t11), (19, .long t8), (17, .long t6), (10, .long v10), (12, .long v12), (14, .long v14), (16, .int v16)] dX9_isAbove_68 hl (by decide) rfl (fun ls hl => ?_)
        refine r_lload Z dX9_isAbove_70 (lv_at hl 4 rfl) ?_
        refine r_lload Z dX9_isAbove_72 (lv_at hl 5 rfl) ?_
        obtain ⟨hd12, hF⟩ := dvJ_some hF
        refine r_lrem Z dX9_isAbove_74 hd12 ?_
        obtain ⟨t13, et13, hF⟩ := nm_some hF
        rw [← et13]
        refine r_lstore Z [(12, .long t13), (8, .long t11), (19, .long t8), (17, .long t6), (10, .long v10), (14, .long v14), (16, .int v16)] dX9_isAbove_75 hl (by decide) rfl (fun ls hl => ?_)
        refine r_lload Z dX9_isAbove_77 (lv_at hl 1 rfl) ?_
        refine r_lconst (v := 0) Z dX9_isAbove_79 (by decide) ?_
        refine r_lcmp Z dX9_isAbove_80 ?_
        refine r_if_eq Z 91 dX9_isAbove_81 (by decide) (fun hc14 => ?_) (fun hc14 => ?_)
        · replace hF := if_some hc14 hF
          exact L91 t11 t13 v16 M ls (lv_sub hl [1, 0, 6] rfl) hF
        · replace hF := nif_some hc14 hF
          refine r_lload Z dX9_isAbove_84 (lv_at hl 0 rfl) ?_
          refine r_lconst (v := 0) Z dX9_isAbove_86 (by decide) ?_
          refine r_lcmp Z dX9_isAbove_87 ?_
          refine r_if_ne Z 122 dX9_isAbove_88 (by decide) (fun hc15 => ?_) (fun hc15 => ?_)
          · replace hF := nif_some hc15 hF
            refine r_lload Z dX9_isAbove_122 (lv_at hl 1 rfl) ?_
            refine r_lstore Z [(21, .long t11), (12, .long t13), (8, .long t11), (19, .long t8), (17, .long t6), (10, .long v10), (14, .long v14), (16, .int v16)] dX9_isAbove_124 hl (by decide) rfl (fun ls hl => ?_)
            refine r_lload Z dX9_isAbove_126 (lv_at hl 5 rfl) ?_
            refine r_lstore Z [(8, .long v10), (21, .long t11), (12, .long t13), (19, .long t8), (17, .long t6), (10, .long v10), (14, .long v14), (16, .int v16)] dX9_isAbove_128 hl (by decide) rfl (fun ls hl => ?_)
            refine r_lload Z dX9_isAbove_130 (lv_at hl 1 rfl) ?_
            refine r_lstore Z [(10, .long t11), (8, .long v10), (21, .long t11), (12, .long t13), (19, .long t8), (17, .long t6), (14, .long v14), (16, .int v16)] dX9_isAbove_132 hl (by decide) rfl (fun ls hl => ?_)
            refine r_lload Z dX9_isAbove_134 (lv_at hl 3 rfl) ?_
            refine r_lstore Z [(21, .long t13), (10, .long t11), (8, .long v10), (12, .long t13), (19, .long t8), (17, .long t6), (14, .long v14), (16, .int v16)] dX9_isAbove_136 hl (by decide) rfl (fun ls hl => ?_)
            refine r_lload Z dX9_isAbove_138 (lv_at hl 6 rfl) ?_
            refine r_lstore Z [(12, .long v14), (21, .long t13), (10, .long t11), (8, .long v10), (19, .long t8), (17, .long t6), (14, .long v14), (16, .int v16)] dX9_isAbove_140 hl (by decide) rfl (fun ls hl => ?_)
            refine r_lload Z dX9_isAbove_142 (lv_at hl 1 rfl) ?_
            refine r_lstore Z [(14, .long t13), (12, .long v14), (21, .long t13), (10, .long t11), (8, .long v10), (19, .long t8), (17, .long t6), (16, .int v16)] dX9_isAbove_144 hl (by decide) rfl (fun ls hl => ?_)
            refine r_iload Z dX9_isAbove_146 (lv_at hl 7 rfl) ?_
            refine r_if_ne Z 155 dX9_isAbove_148 (by decide) (fun hc16 => ?_) (fun hc16 => ?_)
            · replace hF := nif_some hc16 hF
              refine r_iconst (v := 0) Z dX9_isAbove_155 (by decide) ?_
              refine r_istore Z [(16, .int 0), (14, .long t13), (12, .long v14), (21, .long t13), (10, .long t11), (8, .long v10), (19, .long t8), (17, .long t6)] dX9_isAbove_156 hl (by decide) rfl (fun ls hl => ?_)
              refine r_goto Z 17 dX9_isAbove_158 (by decide) ?_
              exact ih17 v10 t11 v14 t13 0 M ls (lv_sub hl [5, 4, 2, 1, 0] rfl) hF
            · replace hF := if_some hc16 hF
              refine r_iconst (v := 1) Z dX9_isAbove_151 (by decide) ?_
              refine r_goto Z 156 dX9_isAbove_152 (by decide) ?_
              refine r_istore Z [(16, .int 1), (14, .long t13), (12, .long v14), (21, .long t13), (10, .long t11), (8, .long v10), (19, .long t8), (17, .long t6)] dX9_isAbove_156 hl (by decide) rfl (fun ls hl => ?_)
              refine r_goto Z 17 dX9_isAbove_158 (by decide) ?_
              exact ih17 v10 t11 v14 t13 1 M ls (lv_sub hl [5, 4, 2, 1, 0] rfl) hF
          · replace hF := if_some hc15 hF
            exact L91 t11 t13 v16 M ls (lv_sub hl [1, 0, 6] rfl) hF
      · replace hF := nif_some hc9 hF
        refine r_lload Z dX9_isAbove_39 (lv_at hl 1 rfl) ?_
        refine r_lload Z dX9_isAbove_41 (lv_at hl 0 rfl) ?_
        refine r_lcmp Z dX9_isAbove_43 ?_
        refine r_if_le Z 51 dX9_isAbove_44 (by decide) (fun hc17 => ?_) (fun hc17 => ?_)
        · replace hF := if_some hc17 hF
          refine r_iconst (v := 0) Z dX9_isAbove_51 (by decide) ?_
          exact L52 v16 0 M ls (lv_sub hl [6] rfl) hF
        · replace hF := nif_some hc17 hF
          refine r_iconst (v := 1) Z dX9_isAbove_47 (by decide) ?_
          refine r_goto Z 52 dX9_isAbove_48 (by decide) ?_
          exact L52 v16 1 M ls (lv_sub hl [6] rfl) hF
  unfold f_X9_isAbove at hF
  refine r_lload_n Z dX9_isAbove_0 rfl (lv_at hl 0 rfl) ?_
  refine r_lstore Z [(8, .long x1), (0, .long x1), (2, .long x2), (4, .long x3), (6, .long x4)] dX9_isAbove_1 hl (by decide) rfl (fun ls hl => ?_)
  refine r_lload_n Z dX9_isAbove_3 rfl (lv_at hl 2 rfl) ?_
  refine r_lstore Z [(10, .long x2), (8, .long x1), (0, .long x1), (2, .long x2), (4, .long x3), (6, .long x4)] dX9_isAbove_4 hl (by decide) rfl (fun ls hl => ?_)
  refine r_lload Z dX9_isAbove_6 (lv_at hl 4 rfl) ?_
  refine r_lstore Z [(12, .long x3), (10, .long x2), (8, .long x1), (0, .long x1), (2, .long x2), (4, .long x3), (6, .long x4)] dX9_isAbove_8 hl (by decide) rfl (fun ls hl => ?_)
  refine r_lload Z dX9_isAbove_10 (lv_at hl 6 rfl) ?_
  refine r_lstore Z [(14, .long x4), (12, .long x3), (10, .long x2), (8, .long x1), (0, .long x1), (2, .long x2), (4, .long x3), (6, .long x4)] dX9_isAbove_12 hl (by decide) rfl (fun ls hl => ?_)
  refine r_iconst (v := 0) Z dX9_isAbove_14 (by decide) ?_
  refine r_istore Z [(16, .int 0), (14, .long x4), (12, .long x3), (10, .long x2), (8, .long x1), (0, .long x1), (2, .long x2), (4, .long x3), (6, .long x4)] dX9_isAbove_15 hl (by decide) rfl (fun ls hl => ?_)
  exact L17 _ x1 x2 x3 x4 0 M ls (lv_sub hl [4, 3, 2, 1, 0] rfl) hF
theorem dX9_share_0 : decode cX9_share 0 = .ok (.lload_n 3, 1) := by decide +kernel
theorem dX9_share_1 : decode cX9_share 1 = .ok (.lconst 0, 1) := by decide +kernel
theorem dX9_share_2 : decode cX9_share 2 = .ok (.lcmp, 1) := by decide +kernel
theorem dX9_share_3 : decode cX9_share 3 = .ok (.ifCond .ge 12, 3) := by decide +kernel
theorem dX9_share_6 : decode cX9_share 6 = .ok (.lload_n 1, 1) := by decide +kernel
theorem dX9_share_7 : decode cX9_share 7 = .ok (.lload_n 3, 1) := by decide +kernel
theorem dX9_share_8 : decode cX9_share 8 = .ok (.invokestatic 74, 3) := by decide +kernel
theorem dX9_share_11 : decode cX9_share 11 = .ok (.lneg, 1) := by decide +kernel
theorem dX9_share_12 : decode cX9_share 12 = .ok (.goto 8, 3) := by decide +kernel
theorem dX9_share_15 : decode cX9_share 15 = .ok (.lload_n 1, 1) := by decide +kernel
theorem dX9_share_16 : decode cX9_share 16 = .ok (.lload_n 3, 1) := by decide +kernel
theorem dX9_share_17 : decode cX9_share 17 = .ok (.invokestatic 74, 3) := by decide +kernel
theorem dX9_share_20 : decode cX9_share 20 = .ok (.lstore 6, 2) := by decide +kernel
theorem dX9_share_22 : decode cX9_share 22 = .ok (.aload_n 0, 1) := by decide +kernel
theorem dX9_share_23 : decode cX9_share 23 = .ok (.lload_n 1, 1) := by decide +kernel
theorem dX9_share_24 : decode cX9_share 24 = .ok (.lload 6, 2) := by decide +kernel
theorem dX9_share_26 : decode cX9_share 26 = .ok (.ldiv, 1) := by decide +kernel
theorem dX9_share_27 : decode cX9_share 27 = .ok (.putfield 78, 3) := by decide +kernel
theorem dX9_share_30 : decode cX9_share 30 = .ok (.aload_n 0, 1) := by decide +kernel
theorem dX9_share_31 : decode cX9_share 31 = .ok (.lload_n 3, 1) := by decide +kernel
theorem dX9_share_32 : decode cX9_share 32 = .ok (.lload 6, 2) := by decide +kernel
theorem dX9_share_34 : decode cX9_share 34 = .ok (.ldiv, 1) := by decide +kernel
theorem dX9_share_35 : decode cX9_share 35 = .ok (.putfield 13, 3) := by decide +kernel
theorem dX9_share_38 : decode cX9_share 38 = .ok (.iload 5, 2) := by decide +kernel
theorem dX9_share_40 : decode cX9_share 40 = .ok (.ireturn, 1) := by decide +kernel
theorem cv_X9_share : wn_cV yX9_share cX9_share 8 (some .int) RX9 3 := ⟨wm_633, wm_720, wm_721, wm_637, by decide +kernel⟩
abbrev rm_X9_share : Room := rmz 1 29
set_option maxHeartbeats 4000000 in
set_option maxRecDepth 100000 in
theorem c_X9_share {ad : Nat → Nat} {o : Nat} {x1 : Int64} {x2 : Int64} {x3 : Int32} {M : Mm} {q : Int32 × Mm} (ho : shp o = 9) (hF : f_X9_share o x1 x2 x3 M = some q) : KI ad yX9_share cX9_share 8 (some .int) rm_X9_share [.ref (ad o), .long x1, .long x2, .int x3] M q.1 q.2 := by
  refine wn_enterI (own := RX9) (by decide) rfl (Nat.le_of_ble_eq_true rfl) (fun X ls Z hQ hl => ?_)
  have hl : lv_has ls 8 [(0, .ref (ad o)), (1, .long x1), (3, .long x2), (5, .int x3)] := hl
  have L20 : ∀ (v1 : Int64) (v3 : Int64) (v5 : Int32) (s0 : Int64) (M : Mm) (ls : Array Slot), lv_has ls 8 [(0, .ref (ad o)), (1, .long v1), (3, .long v3), (5, .int v5)] → f_X9_share_b20 o v1 v3 v5 s0 M = some q → G ad X M 20 ls [.long s0] := by
    intro v1 v3 v5 s0 M ls hl hF
    unfold f_X9_share_b20 at hF
    refine r_lstore Z [(6, .long s0), (0, .ref (ad o)), (1, .long v1), (3, .long v3), (5, .int v5)] dX9_share_20 hl (by decide) rfl (fun ls hl => ?_)
    refine r_aload_n Z dX9_share_22 rfl (lv_at hl 1 rfl) ?_
    refine r_lload_n Z dX9_share_23 rfl (lv_at hl 2 rfl) ?_
    refine r_lload Z dX9_share_24 (lv_at hl 0 rfl) ?_
    obtain ⟨hd1, hF⟩ := dvJ_some hF
    refine r_ldiv Z dX9_share_26 hd1 ?_
    obtain ⟨M2, eM2, hF⟩ := nm_some hF
    refine p_9_3 Z ho wm_634 dX9_share_27 ?_
    rw [← eM2]
    refine r_aload_n Z dX9_share_30 rfl (lv_at hl 1 rfl) ?_
    refine r_lload_n Z dX9_share_31 rfl (lv_at hl 3 rfl) ?_
    refine r_lload Z dX9_share_32 (lv_at hl 0 rfl) ?_
    obtain ⟨hd3, hF⟩ := dvJ_some hF
    refine r_ldiv Z dX9_share_34 hd3 ?_
    obtain ⟨M4, eM4, hF⟩ := nm_some hF
    refine p_9_4 Z ho wm_609 dX9_share_35 ?_
    rw [← eM4]
    refine r_iload Z dX9_share_38 (lv_at hl 4 rfl) ?_
    exact r_iret Z hQ hF dX9_share_40
  unfold f_X9_share at hF
  refine r_lload_n Z dX9_share_0 rfl (lv_at hl 2 rfl) ?_
  refine r_lconst (v := 0) Z dX9_share_1 (by decide) ?_
  refine r_lcmp Z dX9_share_2 ?_
  refine r_if_ge Z 15 dX9_share_3 (by decide) (fun hc5 => ?_) (fun hc5 => ?_)
  · replace hF := if_some hc5 hF
    refine r_lload_n Z dX9_share_15 rfl (lv_at hl 1 rfl) ?_
    refine r_lload_n Z dX9_share_16 rfl (lv_at hl 2 rfl) ?_
    obtain ⟨q6, hq6, hF⟩ := bd_some hF
    refine r_invSl [] Z (c_X9_divisor hq6) cv_X9_divisor wm_635 rfl rfl ⟨Nat.le_of_ble_eq_true rfl, Nat.le_of_ble_eq_true rfl⟩ rfl hl.1 rfl (Nat.le_of_ble_eq_true rfl) dX9_share_17 ?_
    exact L20 x1 x2 x3 q6.1 q6.2 ls (lv_sub hl [0, 1, 2, 3] rfl) hF
  · replace hF := nif_some hc5 hF
    refine r_lload_n Z dX9_share_6 rfl (lv_at hl 1 rfl) ?_
    refine r_lload_n Z dX9_share_7 rfl (lv_at hl 2 rfl) ?_
    obtain ⟨q7, hq7, hF⟩ := bd_some hF
    refine r_invSl [] Z (c_X9_divisor hq7) cv_X9_divisor wm_635 rfl rfl ⟨Nat.le_of_ble_eq_true rfl, Nat.le_of_ble_eq_true rfl⟩ rfl hl.1 rfl (Nat.le_of_ble_eq_true rfl) dX9_share_8 ?_
    refine r_lneg Z dX9_share_11 ?_
    refine r_goto Z 20 dX9_share_12 (by decide) ?_
    exact L20 x1 x2 x3 (-q7.1) q7.2 ls (lv_sub hl [0, 1, 2, 3] rfl) hF
theorem dX9_best_0 : decode cX9_best 0 = .ok (.iload_n 1, 1) := by decide +kernel
theorem dX9_best_1 : decode cX9_best 1 = .ok (.invokestatic 192, 3) := by decide +kernel
theorem dX9_best_4 : decode cX9_best 4 = .ok (.ifCond .ne 5, 3) := by decide +kernel
theorem dX9_best_7 : decode cX9_best 7 = .ok (.iconst (-1), 1) := by decide +kernel
theorem dX9_best_8 : decode cX9_best 8 = .ok (.ireturn, 1) := by decide +kernel
theorem dX9_best_9 : decode cX9_best 9 = .ok (.aload_n 0, 1) := by decide +kernel
theorem dX9_best_10 : decode cX9_best 10 = .ok (.invokevirtual 164, 3) := by decide +kernel
theorem dX9_best_13 : decode cX9_best 13 = .ok (.ifCond .ne 6, 3) := by decide +kernel
theorem dX9_best_16 : decode cX9_best 16 = .ok (.bipush (-4), 2) := by decide +kernel
theorem dX9_best_18 : decode cX9_best 18 = .ok (.ireturn, 1) := by decide +kernel
theorem dX9_best_19 : decode cX9_best 19 = .ok (.aload_n 0, 1) := by decide +kernel
theorem dX9_best_20 : decode cX9_best 20 = .ok (.invokevirtual 167, 3) := by decide +kernel
theorem dX9_best_23 : decode cX9_best 23 = .ok (.iconst 0, 1) := by decide +kernel
theorem dX9_best_24 : decode cX9_best 24 = .ok (.istore_n 2, 1) := by decide +kernel
theorem dX9_best_25 : decode cX9_best 25 = .ok (.aload_n 0, 1) := by decide +kernel
theorem dX9_best_26 : decode cX9_best 26 = .ok (.getfield 26, 3) := by decide +kernel
theorem dX9_best_29 : decode cX9_best 29 = .ok (.iload_n 2, 1) := by decide +kernel
theorem dX9_best_30 : decode cX9_best 30 = .ok (.baload, 1) := by decide +kernel
theorem dX9_best_31 : decode cX9_best 31 = .ok (.ifCond .ne 9, 3) := by decide +kernel
theorem dX9_best_34 : decode cX9_best 34 = .ok (.iinc 2 1, 3) := by decide +kernel
theorem dX9_best_37 : decode cX9_best 37 = .ok (.goto (-12), 3) := by decide +kernel
theorem dX9_best_40 : decode cX9_best 40 = .ok (.bipush (-9), 2) := by decide +kernel
theorem dX9_best_42 : decode cX9_best 42 = .ok (.istore_n 3, 1) := by decide +kernel
theorem dX9_best_43 : decode cX9_best 43 = .ok (.lconst 0, 1) := by decide +kernel
theorem dX9_best_44 : decode cX9_best 44 = .ok (.lstore 4, 2) := by decide +kernel
theorem dX9_best_46 : decode cX9_best 46 = .ok (.lconst 1, 1) := by decide +kernel
theorem dX9_best_47 : decode cX9_best 47 = .ok (.lstore 6, 2) := by decide +kernel
theorem dX9_best_49 : decode cX9_best 49 = .ok (.iconst 0, 1) := by decide +kernel
theorem dX9_best_50 : decode cX9_best 50 = .ok (.istore 8, 2) := by decide +kernel
theorem dX9_best_52 : decode cX9_best 52 = .ok (.iload 8, 2) := by decide +kernel
theorem dX9_best_54 : decode cX9_best 54 = .ok (.iconst 4, 1) := by decide +kernel
theorem dX9_best_55 : decode cX9_best 55 = .ok (.if_icmp .ge 116, 3) := by decide +kernel
theorem dX9_best_58 : decode cX9_best 58 = .ok (.aload_n 0, 1) := by decide +kernel
theorem dX9_best_59 : decode cX9_best 59 = .ok (.getfield 26, 3) := by decide +kernel
theorem dX9_best_62 : decode cX9_best 62 = .ok (.iload 8, 2) := by decide +kernel
theorem dX9_best_64 : decode cX9_best 64 = .ok (.baload, 1) := by decide +kernel
theorem dX9_best_65 : decode cX9_best 65 = .ok (.ifCond .eq 100, 3) := by decide +kernel
theorem dX9_best_68 : decode cX9_best 68 = .ok (.aload_n 0, 1) := by decide +kernel
theorem dX9_best_69 : decode cX9_best 69 = .ok (.getfield 30, 3) := by decide +kernel
theorem dX9_best_72 : decode cX9_best 72 = .ok (.iload 8, 2) := by decide +kernel
theorem dX9_best_74 : decode cX9_best 74 = .ok (.iaload, 1) := by decide +kernel
theorem dX9_best_75 : decode cX9_best 75 = .ok (.ifCond .ne 90, 3) := by decide +kernel
theorem dX9_best_78 : decode cX9_best 78 = .ok (.aload_n 0, 1) := by decide +kernel
theorem dX9_best_79 : decode cX9_best 79 = .ok (.getfield 36, 3) := by decide +kernel
theorem dX9_best_82 : decode cX9_best 82 = .ok (.iload 8, 2) := by decide +kernel
theorem dX9_best_84 : decode cX9_best 84 = .ok (.iaload, 1) := by decide +kernel
theorem dX9_best_85 : decode cX9_best 85 = .ok (.iconst 1, 1) := by decide +kernel
theorem dX9_best_86 : decode cX9_best 86 = .ok (.if_icmp .ne 79, 3) := by decide +kernel
theorem dX9_best_89 : decode cX9_best 89 = .ok (.aload_n 0, 1) := by decide +kernel
theorem dX9_best_90 : decode cX9_best 90 = .ok (.getfield 36, 3) := by decide +kernel
theorem dX9_best_93 : decode cX9_best 93 = .ok (.iload 8, 2) := by decide +kernel
theorem dX9_best_95 : decode cX9_best 95 = .ok (.iconst 2, 1) := by decide +kernel
theorem dX9_best_96 : decode cX9_best 96 = .ok (.iastore, 1) := by decide +kernel
theorem dX9_best_97 : decode cX9_best 97 = .ok (.aload_n 0, 1) := by decide +kernel
theorem dX9_best_98 : decode cX9_best 98 = .ok (.getfield 58, 3) := by decide +kernel
theorem dX9_best_101 : decode cX9_best 101 = .ok (.iload_n 2, 1) := by decide +kernel
theorem dX9_best_102 : decode cX9_best 102 = .ok (.laload, 1) := by decide +kernel
theorem dX9_best_103 : decode cX9_best 103 = .ok (.ldc2_w 195, 3) := by decide +kernel
theorem dX9_best_106 : decode cX9_best 106 = .ok (.lmul, 1) := by decide +kernel
theorem dX9_best_107 : decode cX9_best 107 = .ok (.aload_n 0, 1) := by decide +kernel
theorem dX9_best_108 : decode cX9_best 108 = .ok (.iload_n 1, 1) := by decide +kernel
theorem dX9_best_109 : decode cX9_best 109 = .ok (.iconst 1, 1) := by decide +kernel
theorem dX9_best_110 : decode cX9_best 110 = .ok (.isub, 1) := by decide +kernel
theorem dX9_best_111 : decode cX9_best 111 = .ok (.bipush (-9), 2) := by decide +kernel
theorem dX9_best_113 : decode cX9_best 113 = .ok (.invokevirtual 189, 3) := by decide +kernel
theorem dX9_best_116 : decode cX9_best 116 = .ok (.lmul, 1) := by decide +kernel
theorem dX9_best_117 : decode cX9_best 117 = .ok (.lstore 9, 2) := by decide +kernel
theorem dX9_best_119 : decode cX9_best 119 = .ok (.aload_n 0, 1) := by decide +kernel
theorem dX9_best_120 : decode cX9_best 120 = .ok (.iload_n 1, 1) := by decide +kernel
theorem dX9_best_121 : decode cX9_best 121 = .ok (.bipush (-9), 2) := by decide +kernel
theorem dX9_best_123 : decode cX9_best 123 = .ok (.invokevirtual 189, 3) := by decide +kernel
theorem dX9_best_126 : decode cX9_best 126 = .ok (.lstore 11, 2) := by decide +kernel
theorem dX9_best_128 : decode cX9_best 128 = .ok (.aload_n 0, 1) := by decide +kernel
theorem dX9_best_129 : decode cX9_best 129 = .ok (.getfield 36, 3) := by decide +kernel
theorem dX9_best_132 : decode cX9_best 132 = .ok (.iload 8, 2) := by decide +kernel
theorem dX9_best_134 : decode cX9_best 134 = .ok (.iconst 1, 1) := by decide +kernel
theorem dX9_best_135 : decode cX9_best 135 = .ok (.iastore, 1) := by decide +kernel
theorem dX9_best_136 : decode cX9_best 136 = .ok (.iload_n 3, 1) := by decide +kernel
theorem dX9_best_137 : decode cX9_best 137 = .ok (.ifCond .lt 17, 3) := by decide +kernel
theorem dX9_best_140 : decode cX9_best 140 = .ok (.lload 9, 2) := by decide +kernel
theorem dX9_best_142 : decode cX9_best 142 = .ok (.lload 11, 2) := by decide +kernel
theorem dX9_best_144 : decode cX9_best 144 = .ok (.lload 4, 2) := by decide +kernel
theorem dX9_best_146 : decode cX9_best 146 = .ok (.lload 6, 2) := by decide +kernel
theorem dX9_best_148 : decode cX9_best 148 = .ok (.invokestatic 200, 3) := by decide +kernel
theorem dX9_best_151 : decode cX9_best 151 = .ok (.ifCond .eq 14, 3) := by decide +kernel
theorem dX9_best_154 : decode cX9_best 154 = .ok (.iload 8, 2) := by decide +kernel
theorem dX9_best_156 : decode cX9_best 156 = .ok (.istore_n 3, 1) := by decide +kernel
theorem dX9_best_157 : decode cX9_best 157 = .ok (.lload 9, 2) := by decide +kernel
theorem dX9_best_159 : decode cX9_best 159 = .ok (.lstore 4, 2) := by decide +kernel
theorem dX9_best_161 : decode cX9_best 161 = .ok (.lload 11, 2) := by decide +kernel
theorem dX9_best_163 : decode cX9_best 163 = .ok (.lstore 6, 2) := by decide +kernel
theorem dX9_best_165 : decode cX9_best 165 = .ok (.iinc 8 1, 3) := by decide +kernel
theorem dX9_best_168 : decode cX9_best 168 = .ok (.goto (-116), 3) := by decide +kernel
theorem dX9_best_171 : decode cX9_best 171 = .ok (.iload_n 3, 1) := by decide +kernel
theorem dX9_best_172 : decode cX9_best 172 = .ok (.ifCond .ge 8, 3) := by decide +kernel
theorem dX9_best_175 : decode cX9_best 175 = .ok (.bipush (-9), 2) := by decide +kernel
theorem dX9_best_177 : decode cX9_best 177 = .ok (.goto 12, 3) := by decide +kernel
theorem dX9_best_180 : decode cX9_best 180 = .ok (.aload_n 0, 1) := by decide +kernel
theorem dX9_best_181 : decode cX9_best 181 = .ok (.lload 4, 2) := by decide +kernel
theorem dX9_best_183 : decode cX9_best 183 = .ok (.lload 6, 2) := by decide +kernel
theorem dX9_best_185 : decode cX9_best 185 = .ok (.iload_n 3, 1) := by decide +kernel
theorem dX9_best_186 : decode cX9_best 186 = .ok (.invokevirtual 149, 3) := by decide +kernel
theorem dX9_best_189 : decode cX9_best 189 = .ok (.ireturn, 1) := by decide +kernel
theorem cv_X9_best : wn_cV yX9_best cX9_best 13 (some .int) RX9 1 := ⟨wm_790, wm_1024, wm_1025, wm_637, by decide +kernel⟩
abbrev rm_X9_best : Room := rmz 4 93
set_option maxHeartbeats 4000000 in
set_option maxRecDepth 100000 in
theorem c_X9_best {ad : Nat → Nat} {o : Nat} {x1 : Int32} {M : Mm} {q : Int32 × Mm} (ho : shp o = 9) (hF : f_X9_best o x1 M = some q) : KI ad yX9_best cX9_best 13 (some .int) rm_X9_best [.ref (ad o), .int x1] M q.1 q.2 := by
  refine wn_enterI (own := RX9) (by decide) rfl (Nat.le_of_ble_eq_true rfl) (fun X ls Z hQ hl => ?_)
  have hl : lv_has ls 13 [(0, .ref (ad o)), (1, .int x1)] := hl
  have L52 : ∀ (n52 : Nat) (v1 : Int32) (v2 : Int32) (v3 : Int32) (v4 : Int64) (v6 : Int64) (v8 : Int32) (M : Mm) (ls : Array Slot), lv_has ls 13 [(0, .ref (ad o)), (1, .int v1), (2, .int v2), (3, .int v3), (4, .long v4), (6, .long v6), (8, .int v8)] → f_X9_best_b52 o n52 v1 v2 v3 v4 v6 v8 M = some q → G ad X M 52 ls [] := by
    intro n52
    induction n52 with
    | zero =>
      intro v1 v2 v3 v4 v6 v8 M ls hl hF
      cases hF
    | succ n52 ih52 =>
      have L154 : ∀ (v1 : Int32) (v2 : Int32) (v8 : Int32) (v9 : Int64) (v11 : Int64) (M : Mm) (ls : Array Slot), lv_has ls 13 [(0, .ref (ad o)), (1, .int v1), (2, .int v2), (8, .int v8), (9, .long v9), (11, .long v11)] → f_X9_best_b154 (f_X9_best_b52 o n52) o v1 v2 v8 v9 v11 M = some q → G ad X M 154 ls [] := by
        intro v1 v2 v8 v9 v11 M ls hl hF
        unfold f_X9_best_b154 at hF
        refine r_iload Z dX9_best_154 (lv_at hl 3 rfl) ?_
        refine r_istore_n Z [(3, .int v8), (0, .ref (ad o)), (1, .int v1), (2, .int v2), (8, .int v8), (9, .long v9), (11, .long v11)] dX9_best_156 rfl hl (by decide) rfl (fun ls hl => ?_)
        refine r_lload Z dX9_best_157 (lv_at hl 5 rfl) ?_
        refine r_lstore Z [(4, .long v9), (3, .int v8), (0, .ref (ad o)), (1, .int v1), (2, .int v2), (8, .int v8), (9, .long v9), (11, .long v11)] dX9_best_159 hl (by decide) rfl (fun ls hl => ?_)
        refine r_lload Z dX9_best_161 (lv_at hl 7 rfl) ?_
        refine r_lstore Z [(6, .long v11), (4, .long v9), (3, .int v8), (0, .ref (ad o)), (1, .int v1), (2, .int v2), (8, .int v8), (9, .long v9), (11, .long v11)] dX9_best_163 hl (by decide) rfl (fun ls hl => ?_)
        obtain ⟨t1, et1, hF⟩ := nm_some hF
        refine r_iinc (j := 6) Z t1 [(8, .int t1), (6, .long v11), (4, .long v9), (3, .int v8), (0, .ref (ad o)), (1, .int v1), (2, .int v2), (9, .long v9), (11, .long v11)] dX9_best_165 hl rfl (by rw [et1]; rfl) (by decide) rfl (fun ls hl => ?_)
        refine r_goto Z 52 dX9_best_168 (by decide) ?_
        exact ih52 v1 v2 v8 v9 v11 t1 M ls (lv_sub hl [4, 5, 6, 3, 2, 1, 0] rfl) hF
      intro v1 v2 v3 v4 v6 v8 M ls hl hF
      replace hF : f_X9_best_b52B (f_X9_best_b52 o n52) o v1 v2 v3 v4 v6 v8 M = some q := hF
      unfold f_X9_best_b52B at hF
      refine r_iload Z dX9_best_52 (lv_at hl 6 rfl) ?_
      refine r_iconst (v := 4) Z dX9_best_54 (by decide) ?_
      refine r_icmp_ge Z 171 dX9_best_55 (by decide) (fun hc2 => ?_) (fun hc2 => ?_)
      · replace hF := if_some hc2 hF
        refine r_iload_n Z dX9_best_171 rfl (lv_at hl 3 rfl) ?_
        refine r_if_ge Z 180 dX9_best_172 (by decide) (fun hc3 => ?_) (fun hc3 => ?_)
        · replace hF := if_some hc3 hF
          refine r_aload_n Z dX9_best_180 rfl (lv_at hl 0 rfl) ?_
          refine r_lload Z dX9_best_181 (lv_at hl 4 rfl) ?_
          refine r_lload Z dX9_best_183 (lv_at hl 5 rfl) ?_
          refine r_iload_n Z dX9_best_185 rfl (lv_at hl 3 rfl) ?_
          obtain ⟨q4, hq4, hF⟩ := bd_some hF
          refine r_invVi [] Z (c_X9_share ho hq4) cv_X9_share rfl (shp_lt ho (by decide)) (fun _ _ => ⟨_, ce_9 ho⟩) wm_719 rfl rfl ⟨Nat.le_of_ble_eq_true rfl, Nat.le_of_ble_eq_true rfl⟩ rfl hl.1 rfl (Nat.le_of_ble_eq_true rfl) dX9_best_186 ?_
          exact r_iret Z hQ hF dX9_best_189
        · replace hF := nif_some hc3 hF
          refine r_bipush (v := (-9)) Z dX9_best_175 (by decide) ?_
          refine r_goto Z 189 dX9_best_177 (by decide) ?_
          exact r_iret Z hQ hF dX9_best_189
      · replace hF := nif_some hc2 hF
        refine r_aload_n Z dX9_best_58 rfl (lv_at hl 0 rfl) ?_
        refine g_9_8 Z ho wm_614 dX9_best_59 ?_
        refine r_iload Z dX9_best_62 (lv_at hl 6 rfl) ?_
        obtain ⟨hi5, hF⟩ := ck_some hF
        refine r_zaload Z (shp_lt (sh_9_8 ho) (by decide)) (fun _ _ => ce_2004 (sh_9_8 ho)) hi5 dX9_best_64 ?_
        refine r_if_eq Z 165 dX9_best_65 (by decide) (fun hc6 => ?_) (fun hc6 => ?_)
        · replace hF := if_some hc6 hF
          obtain ⟨t7, et7, hF⟩ := nm_some hF
          refine r_iinc (j := 6) Z t7 [(8, .int t7), (0, .ref (ad o)), (1, .int v1), (2, .int v2), (3, .int v3), (4, .long v4), (6, .long v6)] dX9_best_165 hl rfl (by rw [et7]; rfl) (by decide) rfl (fun ls hl => ?_)
          refine r_goto Z 52 dX9_best_168 (by decide) ?_
          exact ih52 v1 v2 v3 v4 v6 t7 M ls (lv_sub hl [1, 2, 3, 4, 5, 6, 0] rfl) hF
        · replace hF := nif_some hc6 hF
          refine r_aload_n Z dX9_best_68 rfl (lv_at hl 0 rfl) ?_
          refine g_9_9 Z ho wm_615 dX9_best_69 ?_
          refine r_iload Z dX9_best_72 (lv_at hl 6 rfl) ?_
          obtain ⟨hi8, hF⟩ := ck_some hF
          refine r_iaload Z (shp_lt (sh_9_9 ho) (by decide)) (fun _ _ => ce_104 (sh_9_9 ho)) hi8 dX9_best_74 ?_
          refine r_if_ne Z 165 dX9_best_75 (by decide) (fun hc9 => ?_) (fun hc9 => ?_)
          · replace hF := nif_some hc9 hF
            obtain ⟨t10, et10, hF⟩ := nm_some hF
            refine r_iinc (j := 6) Z t10 [(8, .int t10), (0, .ref (ad o)), (1, .int v1), (2, .int v2), (3, .int v3), (4, .long v4), (6, .long v6)] dX9_best_165 hl rfl (by rw [et10]; rfl) (by decide) rfl (fun ls hl => ?_)
            refine r_goto Z 52 dX9_best_168 (by decide) ?_
            exact ih52 v1 v2 v3 v4 v6 t10 M ls (lv_sub hl [1, 2, 3, 4, 5, 6, 0] rfl) hF
          · replace hF := if_some hc9 hF
            refine r_aload_n Z dX9_best_78 rfl (lv_at hl 0 rfl) ?_
            refine g_9_11 Z ho wm_617 dX9_best_79 ?_
            refine r_iload Z dX9_best_82 (lv_at hl 6 rfl) ?_
            obtain ⟨hi11, hF⟩ := ck_some hF
            refine r_iaload Z (shp_lt (sh_9_11 ho) (by decide)) (fun _ _ => ce_104 (sh_9_11 ho)) hi11 dX9_best_84 ?_
            refine r_iconst (v := 1) Z dX9_best_85 (by decide) ?_
            refine r_icmp_ne Z 165 dX9_best_86 (by decide) (fun hc12 => ?_) (fun hc12 => ?_)
            · replace hF := nif_some hc12 hF
              obtain ⟨t13, et13, hF⟩ := nm_some hF
              refine r_iinc (j := 6) Z t13 [(8, .int t13), (0, .ref (ad o)), (1, .int v1), (2, .int v2), (3, .int v3), (4, .long v4), (6, .long v6)] dX9_best_165 hl rfl (by rw [et13]; rfl) (by decide) rfl (fun ls hl => ?_)
              refine r_goto Z 52 dX9_best_168 (by decide) ?_
              exact ih52 v1 v2 v3 v4 v6 t13 M ls (lv_sub hl [1, 2, 3, 4, 5, 6, 0] rfl) hF
            · replace hF := if_some hc12 hF
              refine r_aload_n Z dX9_best_89 rfl (lv_at hl 0 rfl) ?_
              refine g_9_11 Z ho wm_617 dX9_best_90 ?_
              refine r_iload Z dX9_best_93 (lv_at hl 6 rfl) ?_
              refine r_iconst (v := 2) Z dX9_best_95 (by decide) ?_
              obtain ⟨hi14, hF⟩ := ck_some hF
              obtain ⟨M15, eM15, hF⟩ := nm_some hF
              refine r_iastore Z (shp_lt (sh_9_11 ho) (by decide)) (fun _ _ => ce_104 (sh_9_11 ho)) hi14 dX9_best_96 ?_
              rw [← eM15]
              refine r_aload_n Z dX9_best_97 rfl (lv_at hl 0 rfl) ?_
              refine g_9_20 Z ho wm_624 dX9_best_98 ?_
              refine r_iload_n Z dX9_best_101 rfl (lv_at hl 2 rfl) ?_
              obtain ⟨hi16, hF⟩ := ck_some hF
              refine r_laload Z (shp_lt (sh_9_20 ho) (by decide)) (fun _ _ => ce_1004 (sh_9_20 ho)) hi16 dX9_best_102 ?_
              refine r_ldc2 Z wm_775 dX9_best_103 ?_
              refine r_lmul Z dX9_best_106 ?_
              refine r_aload_n Z dX9_best_107 rfl (lv_at hl 0 rfl) ?_
              refine r_iload_n Z dX9_best_108 rfl (lv_at hl 1 rfl) ?_
              refine r_iconst (v := 1) Z dX9_best_109 (by decide) ?_
              refine r_isub Z dX9_best_110 ?_
              refine r_bipush (v := (-9)) Z dX9_best_111 (by decide) ?_
              obtain ⟨q17, hq17, hF⟩ := bd_some hF
              refine r_invVl [.long ((mJ M15 (fld o 20) (Int32.toNatClampNeg v2)) * 12)] Z (c_X9_sumOf ho hq17) cv_X9_sumOf rfl (shp_lt ho (by decide)) (fun _ _ => ⟨_, ce_9 ho⟩) wm_770 rfl rfl ⟨Nat.le_of_ble_eq_true rfl, Nat.le_of_ble_eq_true rfl⟩ rfl hl.1 rfl (Nat.le_of_ble_eq_true rfl) dX9_best_113 ?_
              refine r_lmul Z dX9_best_116 ?_
              obtain ⟨t18, et18, hF⟩ := nm_some hF
              rw [← et18]
              refine r_lstore Z [(9, .long t18), (0, .ref (ad o)), (1, .int v1), (2, .int v2), (3, .int v3), (4, .long v4), (6, .long v6), (8, .int v8)] dX9_best_117 hl (by decide) rfl (fun ls hl => ?_)
              refine r_aload_n Z dX9_best_119 rfl (lv_at hl 1 rfl) ?_
              refine r_iload_n Z dX9_best_120 rfl (lv_at hl 2 rfl) ?_
              refine r_bipush (v := (-9)) Z dX9_best_121 (by decide) ?_
              obtain ⟨q19, hq19, hF⟩ := bd_some hF
              refine r_invVl [] Z (c_X9_sumOf ho hq19) cv_X9_sumOf rfl (shp_lt ho (by decide)) (fun _ _ => ⟨_, ce_9 ho⟩) wm_770 rfl rfl ⟨Nat.le_of_ble_eq_true rfl, Nat.le_of_ble_eq_true rfl⟩ rfl hl.1 rfl (Nat.le_of_ble_eq_true rfl) dX9_best_123 ?_
              refine r_lstore Z [(11, .long q19.1), (9, .long t18), (0, .ref (ad o)), (1, .int v1), (2, .int v2), (3, .int v3), (4, .long v4), (6, .long v6), (8, .int v8)] dX9_best_126 hl (by decide) rfl (fun ls hl => ?_)
              refine r_aload_n Z dX9_best_128 rfl (lv_at hl 2 rfl) ?_
              refine g_9_11 Z ho wm_617 dX9_best_129 ?_
              refine r_iload Z dX9_best_132 (lv_at hl 8 rfl) ?_
              refine r_iconst (v := 1) Z dX9_best_134 (by decide) ?_
              obtain ⟨hi20, hF⟩ := ck_some hF
              obtain ⟨M21, eM21, hF⟩ := nm_some hF
              refine r_iastore Z (shp_lt (sh_9_11 ho) (by decide)) (fun _ _ => ce_104 (sh_9_11 ho)) hi20 dX9_best_135 ?_
              rw [← eM21]
              refine r_iload_n Z dX9_best_136 rfl (lv_at hl 5 rfl) ?_
              refine r_if_lt Z 154 dX9_best_137 (by decide) (fun hc22 => ?_) (fun hc22 => ?_)
              · replace hF := if_some hc22 hF
                exact L154 v1 v2 v8 t18 q19.1 M21 ls (lv_sub hl [2, 3, 4, 8, 1, 0] rfl) hF
              · replace hF := nif_some hc22 hF
                refine r_lload Z dX9_best_140 (lv_at hl 1 rfl) ?_
                refine r_lload Z dX9_best_142 (lv_at hl 0 rfl) ?_
                refine r_lload Z dX9_best_144 (lv_at hl 6 rfl) ?_
                refine r_lload Z dX9_best_146 (lv_at hl 7 rfl) ?_
                obtain ⟨q23, hq23, hF⟩ := bd_some hF
                refine r_invSi [] Z (c_X9_isAbove hq23) cv_X9_isAbove wm_788 rfl rfl ⟨Nat.le_of_ble_eq_true rfl, Nat.le_of_ble_eq_true rfl⟩ rfl hl.1 rfl (Nat.le_of_ble_eq_true rfl) dX9_best_148 ?_
                refine r_if_eq Z 165 dX9_best_151 (by decide) (fun hc24 => ?_) (fun hc24 => ?_)
                · replace hF := if_some hc24 hF
                  obtain ⟨t25, et25, hF⟩ := nm_some hF
                  refine r_iinc (j := 8) Z t25 [(8, .int t25), (11, .long q19.1), (9, .long t18), (0, .ref (ad o)), (1, .int v1), (2, .int v2), (3, .int v3), (4, .long v4), (6, .long v6)] dX9_best_165 hl rfl (by rw [et25]; rfl) (by decide) rfl (fun ls hl => ?_)
                  refine r_goto Z 52 dX9_best_168 (by decide) ?_
                  exact ih52 v1 v2 v3 v4 v6 t25 q23.2 ls (lv_sub hl [3, 4, 5, 6, 7, 8, 0] rfl) hF
                · replace hF := nif_some hc24 hF
                  exact L154 v1 v2 v8 t18 q19.1 q23.2 ls (lv_sub hl [2, 3, 4, 8, 1, 0] rfl) hF
  have L25 : ∀ (n25 : Nat) (v1 : Int32) (v2 : Int32) (M : Mm) (ls : Array Slot), lv_has ls 13 [(0, .ref (ad o)), (1, .int v1), (2, .int v2)] → f_X9_best_b25 o n25 v1 v2 M = some q → G ad X M 25 ls [] := by
    intro n25
    induction n25 with
    | zero =>
      intro v1 v2 M ls hl hF
      cases hF
    | succ n25 ih25 =>
      intro v1 v2 M ls hl hF
      replace hF : f_X9_best_b25B (f_X9_best_b25 o n25) o v1 v2 M = some q := hF
      unfold f_X9_best_b25B at hF
      refine r_aload_n Z dX9_best_25 rfl (lv_at hl 0 rfl) ?_
      refine g_9_8 Z ho wm_614 dX9_best_26 ?_
      refine r_iload_n Z dX9_best_29 rfl (lv_at hl 2 rfl) ?_
      obtain ⟨hi26, hF⟩ := ck_some hF
      refine r_zaload Z (shp_lt (sh_9_8 ho) (by decide)) (fun _ _ => ce_2004 (sh_9_8 ho)) hi26 dX9_best_30 ?_
      refine r_if_ne Z 40 dX9_best_31 (by decide) (fun hc27 => ?_) (fun hc27 => ?_)
      · replace hF := nif_some hc27 hF
        refine r_bipush (v := (-9)) Z dX9_best_40 (by decide) ?_
        refine r_istore_n Z [(3, .int (-9)), (0, .ref (ad o)), (1, .int v1), (2, .int v2)] dX9_best_42 rfl hl (by decide) rfl (fun ls hl => ?_)
        refine r_lconst (v := 0) Z dX9_best_43 (by decide) ?_
        refine r_lstore Z [(4, .long 0), (3, .int (-9)), (0, .ref (ad o)), (1, .int v1), (2, .int v2)] dX9_best_44 hl (by decide) rfl (fun ls hl => ?_)
        refine r_lconst (v := 1) Z dX9_best_46 (by decide) ?_
        refine r_lstore Z [(6, .long 1), (4, .long 0), (3, .int (-9)), (0, .ref (ad o)), (1, .int v1), (2, .int v2)] dX9_best_47 hl (by decide) rfl (fun ls hl => ?_)
        refine r_iconst (v := 0) Z dX9_best_49 (by decide) ?_
        refine r_istore Z [(8, .int 0), (6, .long 1), (4, .long 0), (3, .int (-9)), (0, .ref (ad o)), (1, .int v1), (2, .int v2)] dX9_best_50 hl (by decide) rfl (fun ls hl => ?_)
        exact L52 _ v1 v2 (-9) 0 1 0 M ls (lv_sub hl [4, 5, 6, 3, 2, 1, 0] rfl) hF
      · replace hF := if_some hc27 hF
        obtain ⟨t28, et28, hF⟩ := nm_some hF
        refine r_iinc (j := 2) Z t28 [(2, .int t28), (0, .ref (ad o)), (1, .int v1)] dX9_best_34 hl rfl (by rw [et28]; rfl) (by decide) rfl (fun ls hl => ?_)
        refine r_goto Z 25 dX9_best_37 (by decide) ?_
        exact ih25 v1 t28 M ls (lv_sub hl [1, 2, 0] rfl) hF
  unfold f_X9_best at hF
  refine r_iload_n Z dX9_best_0 rfl (lv_at hl 1 rfl) ?_
  obtain ⟨q29, hq29, hF⟩ := bd_some hF
  refine r_invSi [] Z (c_X9_isMany hq29) cv_X9_isMany wm_776 rfl rfl ⟨Nat.le_of_ble_eq_true rfl, Nat.le_of_ble_eq_true rfl⟩ rfl hl.1 rfl (Nat.le_of_ble_eq_true rfl) dX9_best_1 ?_
  refine r_if_ne Z 9 dX9_best_4 (by decide) (fun hc30 => ?_) (fun hc30 => ?_)
  · replace hF := nif_some hc30 hF
    refine r_aload_n Z dX9_best_9 rfl (lv_at hl 0 rfl) ?_
    obtain ⟨q31, hq31, hF⟩ := bd_some hF
    refine r_invVi [] Z (c_X9_isClosed ho hq31) cv_X9_isClosed rfl (shp_lt ho (by decide)) (fun _ _ => ⟨_, ce_9 ho⟩) wm_740 rfl rfl ⟨Nat.le_of_ble_eq_true rfl, Nat.le_of_ble_eq_true rfl⟩ rfl hl.1 rfl (Nat.le_of_ble_eq_true rfl) dX9_best_10 ?_
    refine r_if_ne Z 19 dX9_best_13 (by decide) (fun hc32 => ?_) (fun hc32 => ?_)
    · replace hF := nif_some hc32 hF
      refine r_aload_n Z dX9_best_19 rfl (lv_at hl 0 rfl) ?_
      obtain ⟨M33, hM33, hF⟩ := bd_some hF
      refine r_invVv [] Z (c_X9_setVisits ho hM33) cv_X9_setVisits rfl (shp_lt ho (by decide)) (fun _ _ => ⟨_, ce_9 ho⟩) wm_744 rfl rfl ⟨Nat.le_of_ble_eq_true rfl, Nat.le_of_ble_eq_true rfl⟩ rfl hl.1 rfl (Nat.le_of_ble_eq_true rfl) dX9_best_20 ?_
      refine r_iconst (v := 0) Z dX9_best_23 (by decide) ?_
      refine r_istore_n Z [(2, .int 0), (0, .ref (ad o)), (1, .int x1)] dX9_best_24 rfl hl (by decide) rfl (fun ls hl => ?_)
      exact L25 _ x1 0 M33 ls (lv_sub hl [1, 2, 0] rfl) hF
    · replace hF := if_some hc32 hF
      refine r_bipush (v := (-4)) Z dX9_best_16 (by decide) ?_
      exact r_iret Z hQ hF dX9_best_18
  · replace hF := if_some hc30 hF
    refine r_iconst (v := (-1)) Z dX9_best_7 (by decide) ?_
    exact r_iret Z hQ hF dX9_best_8
theorem dX9_narrowOf_0 : decode cX9_narrowOf 0 = .ok (.bipush (-9), 2) := by decide +kernel
theorem dX9_narrowOf_2 : decode cX9_narrowOf 2 = .ok (.istore_n 1, 1) := by decide +kernel
theorem dX9_narrowOf_3 : decode cX9_narrowOf 3 = .ok (.iconst 0, 1) := by decide +kernel
theorem dX9_narrowOf_4 : decode cX9_narrowOf 4 = .ok (.istore_n 2, 1) := by decide +kernel
theorem dX9_narrowOf_5 : decode cX9_narrowOf 5 = .ok (.iload_n 2, 1) := by decide +kernel
theorem dX9_narrowOf_6 : decode cX9_narrowOf 6 = .ok (.iconst 4, 1) := by decide +kernel
theorem dX9_narrowOf_7 : decode cX9_narrowOf 7 = .ok (.if_icmp .ge 64, 3) := by decide +kernel
theorem dX9_narrowOf_10 : decode cX9_narrowOf 10 = .ok (.aload_n 0, 1) := by decide +kernel
theorem dX9_narrowOf_11 : decode cX9_narrowOf 11 = .ok (.getfield 26, 3) := by decide +kernel
theorem dX9_narrowOf_14 : decode cX9_narrowOf 14 = .ok (.iload_n 2, 1) := by decide +kernel
theorem dX9_narrowOf_15 : decode cX9_narrowOf 15 = .ok (.baload, 1) := by decide +kernel
theorem dX9_narrowOf_16 : decode cX9_narrowOf 16 = .ok (.ifCond .eq 49, 3) := by decide +kernel
theorem dX9_narrowOf_19 : decode cX9_narrowOf 19 = .ok (.aload_n 0, 1) := by decide +kernel
theorem dX9_narrowOf_20 : decode cX9_narrowOf 20 = .ok (.getfield 30, 3) := by decide +kernel
theorem dX9_narrowOf_23 : decode cX9_narrowOf 23 = .ok (.iload_n 2, 1) := by decide +kernel
theorem dX9_narrowOf_24 : decode cX9_narrowOf 24 = .ok (.iaload, 1) := by decide +kernel
theorem dX9_narrowOf_25 : decode cX9_narrowOf 25 = .ok (.iconst 3, 1) := by decide +kernel
theorem dX9_narrowOf_26 : decode cX9_narrowOf 26 = .ok (.if_icmp .eq 39, 3) := by decide +kernel
theorem dX9_narrowOf_29 : decode cX9_narrowOf 29 = .ok (.iload_n 1, 1) := by decide +kernel
theorem dX9_narrowOf_30 : decode cX9_narrowOf 30 = .ok (.ifCond .lt 33, 3) := by decide +kernel
theorem dX9_narrowOf_33 : decode cX9_narrowOf 33 = .ok (.aload_n 0, 1) := by decide +kernel
theorem dX9_narrowOf_34 : decode cX9_narrowOf 34 = .ok (.iload_n 2, 1) := by decide +kernel
theorem dX9_narrowOf_35 : decode cX9_narrowOf 35 = .ok (.invokevirtual 173, 3) := by decide +kernel
theorem dX9_narrowOf_38 : decode cX9_narrowOf 38 = .ok (.aload_n 0, 1) := by decide +kernel
theorem dX9_narrowOf_39 : decode cX9_narrowOf 39 = .ok (.getfield 36, 3) := by decide +kernel
theorem dX9_narrowOf_42 : decode cX9_narrowOf 42 = .ok (.iload_n 1, 1) := by decide +kernel
theorem dX9_narrowOf_43 : decode cX9_narrowOf 43 = .ok (.iaload, 1) := by decide +kernel
theorem dX9_narrowOf_44 : decode cX9_narrowOf 44 = .ok (.i2l, 1) := by decide +kernel
theorem dX9_narrowOf_45 : decode cX9_narrowOf 45 = .ok (.lmul, 1) := by decide +kernel
theorem dX9_narrowOf_46 : decode cX9_narrowOf 46 = .ok (.aload_n 0, 1) := by decide +kernel
theorem dX9_narrowOf_47 : decode cX9_narrowOf 47 = .ok (.iload_n 1, 1) := by decide +kernel
theorem dX9_narrowOf_48 : decode cX9_narrowOf 48 = .ok (.invokevirtual 173, 3) := by decide +kernel
theorem dX9_narrowOf_51 : decode cX9_narrowOf 51 = .ok (.aload_n 0, 1) := by decide +kernel
theorem dX9_narrowOf_52 : decode cX9_narrowOf 52 = .ok (.getfield 36, 3) := by decide +kernel
theorem dX9_narrowOf_55 : decode cX9_narrowOf 55 = .ok (.iload_n 2, 1) := by decide +kernel
theorem dX9_narrowOf_56 : decode cX9_narrowOf 56 = .ok (.iaload, 1) := by decide +kernel
theorem dX9_narrowOf_57 : decode cX9_narrowOf 57 = .ok (.i2l, 1) := by decide +kernel
theorem dX9_narrowOf_58 : decode cX9_narrowOf 58 = .ok (.lmul, 1) := by decide +kernel
theorem dX9_narrowOf_59 : decode cX9_narrowOf 59 = .ok (.lcmp, 1) := by decide +kernel
theorem dX9_narrowOf_60 : decode cX9_narrowOf 60 = .ok (.ifCond .le 5, 3) := by decide +kernel
theorem dX9_narrowOf_63 : decode cX9_narrowOf 63 = .ok (.iload_n 2, 1) := by decide +kernel
theorem dX9_narrowOf_64 : decode cX9_narrowOf 64 = .ok (.istore_n 1, 1) := by decide +kernel
theorem dX9_narrowOf_65 : decode cX9_narrowOf 65 = .ok (.iinc 2 1, 3) := by decide +kernel
theorem dX9_narrowOf_68 : decode cX9_narrowOf 68 = .ok (.goto (-63), 3) := by decide +kernel
theorem dX9_narrowOf_71 : decode cX9_narrowOf 71 = .ok (.iload_n 1, 1) := by decide +kernel
theorem dX9_narrowOf_72 : decode cX9_narrowOf 72 = .ok (.ireturn, 1) := by decide +kernel
theorem cv_X9_narrowOf : wn_cV yX9_narrowOf cX9_narrowOf 3 (some .int) RX9 0 := ⟨wm_781, wm_783, wm_784, wm_637, by decide +kernel⟩
abbrev rm_X9_narrowOf : Room := rmz 1 21
set_option maxHeartbeats 4000000 in
set_option maxRecDepth 100000 in
theorem c_X9_narrowOf {ad : Nat → Nat} {o : Nat} {M : Mm} {q : Int32 × Mm} (ho : shp o = 9) (hF : f_X9_narrowOf o M = some q) : KI ad yX9_narrowOf cX9_narrowOf 3 (some .int) rm_X9_narrowOf [.ref (ad o)] M q.1 q.2 := by
  refine wn_enterI (own := RX9) (by decide) rfl (Nat.le_of_ble_eq_true rfl) (fun X ls Z hQ hl => ?_)
  have hl : lv_has ls 3 [(0, .ref (ad o))] := hl
  have L5 : ∀ (n5 : Nat) (v1 : Int32) (v2 : Int32) (M : Mm) (ls : Array Slot), lv_has ls 3 [(0, .ref (ad o)), (1, .int v1), (2, .int v2)] → f_X9_narrowOf_b5 o n5 v1 v2 M = some q → G ad X M 5 ls [] := by
    intro n5
    induction n5 with
    | zero =>
      intro v1 v2 M ls hl hF
      cases hF
    | succ n5 ih5 =>
      intro v1 v2 M ls hl hF
      replace hF : f_X9_narrowOf_b5B (f_X9_narrowOf_b5 o n5) o v1 v2 M = some q := hF
      unfold f_X9_narrowOf_b5B at hF
      refine r_iload_n Z dX9_narrowOf_5 rfl (lv_at hl 2 rfl) ?_
      refine r_iconst (v := 4) Z dX9_narrowOf_6 (by decide) ?_
      refine r_icmp_ge Z 71 dX9_narrowOf_7 (by decide) (fun hc1 => ?_) (fun hc1 => ?_)
      · replace hF := if_some hc1 hF
        refine r_iload_n Z dX9_narrowOf_71 rfl (lv_at hl 1 rfl) ?_
        exact r_iret Z hQ hF dX9_narrowOf_72
      · replace hF := nif_some hc1 hF
        refine r_aload_n Z dX9_narrowOf_10 rfl (lv_at hl 0 rfl) ?_
        refine g_9_8 Z ho wm_614 dX9_narrowOf_11 ?_
        refine r_iload_n Z dX9_narrowOf_14 rfl (lv_at hl 2 rfl) ?_
        obtain ⟨hi2, hF⟩ := ck_some hF
        refine r_zaload Z (shp_lt (sh_9_8 ho) (by decide)) (fun _ _ => ce_2004 (sh_9_8 ho)) hi2 dX9_narrowOf_15 ?_
        refine r_if_eq Z 65 dX9_narrowOf_16 (by decide) (fun hc3 => ?_) (fun hc3 => ?_)
        · replace hF := if_some hc3 hF
          obtain ⟨t4, et4, hF⟩ := nm_some hF
          refine r_iinc (j := 2) Z t4 [(2, .int t4), (0, .ref (ad o)), (1, .int v1)] dX9_narrowOf_65 hl rfl (by rw [et4]; rfl) (by decide) rfl (fun ls hl => ?_)
          refine r_goto Z 5 dX9_narrowOf_68 (by decide) ?_
          exact ih5 v1 t4 M ls (lv_sub hl [1, 2, 0] rfl) hF
        · replace hF := nif_some hc3 hF
          refine r_aload_n Z dX9_narrowOf_19 rfl (lv_at hl 0 rfl) ?_
          refine g_9_9 Z ho wm_615 dX9_narrowOf_20 ?_
          refine r_iload_n Z dX9_narrowOf_23 rfl (lv_at hl 2 rfl) ?_
          obtain ⟨hi5, hF⟩ := ck_some hF
          refine r_iaload Z (shp_lt (sh_9_9 ho) (by decide)) (fun _ _ => ce_104 (sh_9_9 ho)) hi5 dX9_narrowOf_24 ?_
          refine r_iconst (v := 3) Z dX9_narrowOf_25 (by decide) ?_
          refine r_icmp_eq Z 65 dX9_narrowOf_26 (by decide) (fun hc6 => ?_) (fun hc6 => ?_)
          · replace hF := if_some hc6 hF
            obtain ⟨t7, et7, hF⟩ := nm_some hF
            refine r_iinc (j := 2) Z t7 [(2, .int t7), (0, .ref (ad o)), (1, .int v1)] dX9_narrowOf_65 hl rfl (by rw [et7]; rfl) (by decide) rfl (fun ls hl => ?_)
            refine r_goto Z 5 dX9_narrowOf_68 (by decide) ?_
            exact ih5 v1 t7 M ls (lv_sub hl [1, 2, 0] rfl) hF
          · replace hF := nif_some hc6 hF
            refine r_iload_n Z dX9_narrowOf_29 rfl (lv_at hl 1 rfl) ?_
            refine r_if_lt Z 63 dX9_narrowOf_30 (by decide) (fun hc8 => ?_) (fun hc8 => ?_)
            · replace hF := if_some hc8 hF
              refine r_iload_n Z dX9_narrowOf_63 rfl (lv_at hl 2 rfl) ?_
              refine r_istore_n Z [(1, .int v2), (0, .ref (ad o)), (2, .int v2)] dX9_narrowOf_64 rfl hl (by decide) rfl (fun ls hl => ?_)
              obtain ⟨t9, et9, hF⟩ := nm_some hF
              refine r_iinc (j := 2) Z t9 [(2, .int t9), (1, .int v2), (0, .ref (ad o))] dX9_narrowOf_65 hl rfl (by rw [et9]; rfl) (by decide) rfl (fun ls hl => ?_)
              refine r_goto Z 5 dX9_narrowOf_68 (by decide) ?_
              exact ih5 v2 t9 M ls (lv_sub hl [2, 1, 0] rfl) hF
            · replace hF := nif_some hc8 hF
              refine r_aload_n Z dX9_narrowOf_33 rfl (lv_at hl 0 rfl) ?_
              refine r_iload_n Z dX9_narrowOf_34 rfl (lv_at hl 2 rfl) ?_
              obtain ⟨q10, hq10, hF⟩ := bd_some hF
              refine r_invVl [] Z (c_X9_part ho hq10) cv_X9_part rfl (shp_lt ho (by decide)) (fun _ _ => ⟨_, ce_9 ho⟩) wm_754 rfl rfl ⟨Nat.le_of_ble_eq_true rfl, Nat.le_of_ble_eq_true rfl⟩ rfl hl.1 rfl (Nat.le_of_ble_eq_true rfl) dX9_narrowOf_35 ?_
              refine r_aload_n Z dX9_narrowOf_38 rfl (lv_at hl 0 rfl) ?_
              refine g_9_11 Z ho wm_617 dX9_narrowOf_39 ?_
              refine r_iload_n Z dX9_narrowOf_42 rfl (lv_at hl 1 rfl) ?_
              obtain ⟨hi11, hF⟩ := ck_some hF
              refine r_iaload Z (shp_lt (sh_9_11 ho) (by decide)) (fun _ _ => ce_104 (sh_9_11 ho)) hi11 dX9_narrowOf_43 ?_
              refine r_i2l Z dX9_narrowOf_44 ?_
              refine r_lmul Z dX9_narrowOf_45 ?_
              refine r_aload_n Z dX9_narrowOf_46 rfl (lv_at hl 0 rfl) ?_
              refine r_iload_n Z dX9_narrowOf_47 rfl (lv_at hl 1 rfl) ?_
              obtain ⟨q12, hq12, hF⟩ := bd_some hF
              refine r_invVl [.long (q10.1 * (Int32.toInt64 (mI q10.2 (fld o 11) (Int32.toNatClampNeg v1))))] Z (c_X9_part ho hq12) cv_X9_part rfl (shp_lt ho (by decide)) (fun _ _ => ⟨_, ce_9 ho⟩) wm_754 rfl rfl ⟨Nat.le_of_ble_eq_true rfl, Nat.le_of_ble_eq_true rfl⟩ rfl hl.1 rfl (Nat.le_of_ble_eq_true rfl) dX9_narrowOf_48 ?_
              refine r_aload_n Z dX9_narrowOf_51 rfl (lv_at hl 0 rfl) ?_
              refine g_9_11 Z ho wm_617 dX9_narrowOf_52 ?_
              refine r_iload_n Z dX9_narrowOf_55 rfl (lv_at hl 2 rfl) ?_
              obtain ⟨hi13, hF⟩ := ck_some hF
              refine r_iaload Z (shp_lt (sh_9_11 ho) (by decide)) (fun _ _ => ce_104 (sh_9_11 ho)) hi13 dX9_narrowOf_56 ?_
              refine r_i2l Z dX9_narrowOf_57 ?_
              refine r_lmul Z dX9_narrowOf_58 ?_
              refine r_lcmp Z dX9_narrowOf_59 ?_
              refine r_if_le Z 65 dX9_narrowOf_60 (by decide) (fun hc14 => ?_) (fun hc14 => ?_)
              · replace hF := if_some hc14 hF
                obtain ⟨t15, et15, hF⟩ := nm_some hF
                refine r_iinc (j := 2) Z t15 [(2, .int t15), (0, .ref (ad o)), (1, .int v1)] dX9_narrowOf_65 hl rfl (by rw [et15]; rfl) (by decide) rfl (fun ls hl => ?_)
                refine r_goto Z 5 dX9_narrowOf_68 (by decide) ?_
                exact ih5 v1 t15 q12.2 ls (lv_sub hl [1, 2, 0] rfl) hF
              · replace hF := nif_some hc14 hF
                refine r_iload_n Z dX9_narrowOf_63 rfl (lv_at hl 2 rfl) ?_
                refine r_istore_n Z [(1, .int v2), (0, .ref (ad o)), (2, .int v2)] dX9_narrowOf_64 rfl hl (by decide) rfl (fun ls hl => ?_)
                obtain ⟨t16, et16, hF⟩ := nm_some hF
                refine r_iinc (j := 2) Z t16 [(2, .int t16), (1, .int v2), (0, .ref (ad o))] dX9_narrowOf_65 hl rfl (by rw [et16]; rfl) (by decide) rfl (fun ls hl => ?_)
                refine r_goto Z 5 dX9_narrowOf_68 (by decide) ?_
                exact ih5 v2 t16 q12.2 ls (lv_sub hl [2, 1, 0] rfl) hF
  unfold f_X9_narrowOf at hF
  refine r_bipush (v := (-9)) Z dX9_narrowOf_0 (by decide) ?_
  refine r_istore_n Z [(1, .int (-9)), (0, .ref (ad o))] dX9_narrowOf_2 rfl hl (by decide) rfl (fun ls hl => ?_)
  refine r_iconst (v := 0) Z dX9_narrowOf_3 (by decide) ?_
  refine r_istore_n Z [(2, .int 0), (1, .int (-9)), (0, .ref (ad o))] dX9_narrowOf_4 rfl hl (by decide) rfl (fun ls hl => ?_)
  exact L5 _ (-9) 0 M ls (lv_sub hl [2, 1, 0] rfl) hF

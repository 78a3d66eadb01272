theorem dX8_isRate_0 : decode cX8_isRate 0 = .ok (.iload_n 0, 1) := by decide +kernel
theorem dX8_isRate_1 : decode cX8_isRate 1 = .ok (.iconst 1, 1) := by decide +kernel
theorem dX8_isRate_2 : decode cX8_isRate 2 = .ok (.if_icmp .eq 30, 3) := by decide +kernel
theorem dX8_isRate_5 : decode cX8_isRate 5 = .ok (.iload_n 0, 1) := by decide +kernel
theorem dX8_isRate_6 : decode cX8_isRate 6 = .ok (.iconst 2, 1) := by decide +kernel
theorem dX8_isRate_7 : decode cX8_isRate 7 = .ok (.if_icmp .eq 25, 3) := by decide +kernel
theorem dX8_isRate_10 : decode cX8_isRate 10 = .ok (.iload_n 0, 1) := by decide +kernel
theorem dX8_isRate_11 : decode cX8_isRate 11 = .ok (.iconst 3, 1) := by decide +kernel
theorem dX8_isRate_12 : decode cX8_isRate 12 = .ok (.if_icmp .eq 20, 3) := by decide +kernel
theorem dX8_isRate_15 : decode cX8_isRate 15 = .ok (.iload_n 0, 1) := by decide +kernel
theorem dX8_isRate_16 : decode cX8_isRate 16 = .ok (.iconst 4, 1) := by decide +kernel
theorem dX8_isRate_17 : decode cX8_isRate 17 = .ok (.if_icmp .eq 15, 3) := by decide +kernel
theorem dX8_isRate_20 : decode cX8_isRate 20 = .ok (.iload_n 0, 1) := by decide +kernel
theorem dX8_isRate_21 : decode cX8_isRate 21 = .ok (.bipush 6, 2) := by decide +kernel
theorem dX8_isRate_23 : decode cX8_isRate 23 = .ok (.if_icmp .eq 9, 3) := by decide +kernel
theorem dX8_isRate_26 : decode cX8_isRate 26 = .ok (.iload_n 0, 1) := by decide +kernel
theorem dX8_isRate_27 : decode cX8_isRate 27 = .ok (.bipush 12, 2) := by decide +kernel
theorem dX8_isRate_29 : decode cX8_isRate 29 = .ok (.if_icmp .ne 7, 3) := by decide +kernel
theorem dX8_isRate_32 : decode cX8_isRate 32 = .ok (.iconst 1, 1) := by decide +kernel
theorem dX8_isRate_33 : decode cX8_isRate 33 = .ok (.goto 4, 3) := by decide +kernel
theorem dX8_isRate_36 : decode cX8_isRate 36 = .ok (.iconst 0, 1) := by decide +kernel
theorem dX8_isRate_37 : decode cX8_isRate 37 = .ok (.ireturn, 1) := by decide +kernel
theorem cv_X8_isRate : wn_cS yX8_isRate cX8_isRate 1 (some .boolean) 1 := ⟨wm_417, wm_421, wm_377, by decide +kernel⟩
abbrev rm_X8_isRate : Room := rmz 0 0
set_option maxHeartbeats 4000000 in
set_option maxRecDepth 100000 in
theorem c_X8_isRate {ad : Nat → Nat} {x1 : Int32} {M : Mm} {q : Int32 × Mm} (hF : f_X8_isRate x1 M = some q) : KI ad yX8_isRate cX8_isRate 1 (some .boolean) rm_X8_isRate [.int x1] M q.1 q.2 := by
  refine wn_enterI (own := RX8) (by decide) rfl (Nat.le_of_ble_eq_true rfl) (fun X ls Z hQ hl => ?_)
  have hl : lv_has ls 1 [(0, .int x1)] := hl
  have L32 : ∀ (M : Mm) (ls : Array Slot), lv_has ls 1 [] → f_X8_isRate_b32 M = some q → G ad X M 32 ls [] := by
    intro M ls hl hF
    unfold f_X8_isRate_b32 at hF
    refine r_iconst (v := 1) Z dX8_isRate_32 (by decide) ?_
    refine r_goto Z 37 dX8_isRate_33 (by decide) ?_
    exact r_zret Z hQ (by decide) hF dX8_isRate_37
  unfold f_X8_isRate at hF
  refine r_iload_n Z dX8_isRate_0 rfl (lv_at hl 0 rfl) ?_
  refine r_iconst (v := 1) Z dX8_isRate_1 (by decide) ?_
  refine r_icmp_eq Z 32 dX8_isRate_2 (by decide) (fun hc1 => ?_) (fun hc1 => ?_)
  · replace hF := if_some hc1 hF
    exact L32 M ls (lv_sub hl [] rfl) hF
  · replace hF := nif_some hc1 hF
    refine r_iload_n Z dX8_isRate_5 rfl (lv_at hl 0 rfl) ?_
    refine r_iconst (v := 2) Z dX8_isRate_6 (by decide) ?_
    refine r_icmp_eq Z 32 dX8_isRate_7 (by decide) (fun hc2 => ?_) (fun hc2 => ?_)
    · replace hF := if_some hc2 hF
      exact L32 M ls (lv_sub hl [] rfl) hF
    · replace hF := nif_some hc2 hF
      refine r_iload_n Z dX8_isRate_10 rfl (lv_at hl 0 rfl) ?_
      refine r_iconst (v := 3) Z dX8_isRate_11 (by decide) ?_
      refine r_icmp_eq Z 32 dX8_isRate_12 (by decide) (fun hc3 => ?_) (fun hc3 => ?_)
      · replace hF := if_some hc3 hF
        exact L32 M ls (lv_sub hl [] rfl) hF
      · replace hF := nif_some hc3 hF
        refine r_iload_n Z dX8_isRate_15 rfl (lv_at hl 0 rfl) ?_
        refine r_iconst (v := 4) Z dX8_isRate_16 (by decide) ?_
        refine r_icmp_eq Z 32 dX8_isRate_17 (by decide) (fun hc4 => ?_) (fun hc4 => ?_)
        · replace hF := if_some hc4 hF
          exact L32 M ls (lv_sub hl [] rfl) hF
        · replace hF := nif_some hc4 hF
          refine r_iload_n Z dX8_isRate_20 rfl (lv_at hl 0 rfl) ?_
          refine r_bipush (v := 6) Z dX8_isRate_21 (by decide) ?_
          refine r_icmp_eq Z 32 dX8_isRate_23 (by decide) (fun hc5 => ?_) (fun hc5 => ?_)
          · replace hF := if_some hc5 hF
            exact L32 M ls (lv_sub hl [] rfl) hF
          · replace hF := nif_some hc5 hF
            refine r_iload_n Z dX8_isRate_26 rfl (lv_at hl 0 rfl) ?_
            refine r_bipush (v := 12) Z dX8_isRate_27 (by decide) ?_
            refine r_icmp_ne Z 36 dX8_isRate_29 (by decide) (fun hc6 => ?_) (fun hc6 => ?_)
            · replace hF := nif_some hc6 hF
              refine r_iconst (v := 0) Z dX8_isRate_36 (by decide) ?_
              exact r_zret Z hQ (by decide) hF dX8_isRate_37
            · replace hF := if_some hc6 hF
              exact L32 M ls (lv_sub hl [] rfl) hF
theorem dX8_judge_0 : decode cX8_judge 0 = .ok (.iload_n 1, 1) := by decide +kernel
theorem dX8_judge_1 : decode cX8_judge 1 = .ok (.invokestatic 62, 3) := by decide +kernel
theorem dX8_judge_4 : decode cX8_judge 4 = .ok (.ifCond .eq 10, 3) := by decide +kernel
theorem dX8_judge_7 : decode cX8_judge 7 = .ok (.iload_n 2, 1) := by decide +kernel
theorem dX8_judge_8 : decode cX8_judge 8 = .ok (.invokestatic 62, 3) := by decide +kernel
theorem dX8_judge_11 : decode cX8_judge 11 = .ok (.ifCond .ne 5, 3) := by decide +kernel
theorem dX8_judge_14 : decode cX8_judge 14 = .ok (.iconst (-1), 1) := by decide +kernel
theorem dX8_judge_15 : decode cX8_judge 15 = .ok (.ireturn, 1) := by decide +kernel
theorem dX8_judge_16 : decode cX8_judge 16 = .ok (.aload_n 0, 1) := by decide +kernel
theorem dX8_judge_17 : decode cX8_judge 17 = .ok (.getfield 11, 3) := by decide +kernel
theorem dX8_judge_20 : decode cX8_judge 20 = .ok (.iload_n 1, 1) := by decide +kernel
theorem dX8_judge_21 : decode cX8_judge 21 = .ok (.aaload, 1) := by decide +kernel
theorem dX8_judge_22 : decode cX8_judge 22 = .ok (.astore_n 3, 1) := by decide +kernel
theorem dX8_judge_23 : decode cX8_judge 23 = .ok (.aload_n 0, 1) := by decide +kernel
theorem dX8_judge_24 : decode cX8_judge 24 = .ok (.getfield 11, 3) := by decide +kernel
theorem dX8_judge_27 : decode cX8_judge 27 = .ok (.iload_n 2, 1) := by decide +kernel
theorem dX8_judge_28 : decode cX8_judge 28 = .ok (.aaload, 1) := by decide +kernel
theorem dX8_judge_29 : decode cX8_judge 29 = .ok (.astore 4, 2) := by decide +kernel
theorem dX8_judge_31 : decode cX8_judge 31 = .ok (.aload_n 3, 1) := by decide +kernel
theorem dX8_judge_32 : decode cX8_judge 32 = .ok (.invokevirtual 74, 3) := by decide +kernel
theorem dX8_judge_35 : decode cX8_judge 35 = .ok (.ifCond .eq 11, 3) := by decide +kernel
theorem dX8_judge_38 : decode cX8_judge 38 = .ok (.aload 4, 2) := by decide +kernel
theorem dX8_judge_40 : decode cX8_judge 40 = .ok (.invokevirtual 74, 3) := by decide +kernel
theorem dX8_judge_43 : decode cX8_judge 43 = .ok (.ifCond .ne 9, 3) := by decide +kernel
theorem dX8_judge_46 : decode cX8_judge 46 = .ok (.aload_n 0, 1) := by decide +kernel
theorem dX8_judge_47 : decode cX8_judge 47 = .ok (.iconst 1, 1) := by decide +kernel
theorem dX8_judge_48 : decode cX8_judge 48 = .ok (.invokevirtual 66, 3) := by decide +kernel
theorem dX8_judge_51 : decode cX8_judge 51 = .ok (.ireturn, 1) := by decide +kernel
theorem dX8_judge_52 : decode cX8_judge 52 = .ok (.aload_n 3, 1) := by decide +kernel
theorem dX8_judge_53 : decode cX8_judge 53 = .ok (.invokevirtual 271, 3) := by decide +kernel
theorem dX8_judge_56 : decode cX8_judge 56 = .ok (.istore 5, 2) := by decide +kernel
theorem dX8_judge_58 : decode cX8_judge 58 = .ok (.iload 5, 2) := by decide +kernel
theorem dX8_judge_60 : decode cX8_judge 60 = .ok (.ifCond .eq 13, 3) := by decide +kernel
theorem dX8_judge_63 : decode cX8_judge 63 = .ok (.aload 4, 2) := by decide +kernel
theorem dX8_judge_65 : decode cX8_judge 65 = .ok (.getfield 99, 3) := by decide +kernel
theorem dX8_judge_68 : decode cX8_judge 68 = .ok (.iload 5, 2) := by decide +kernel
theorem dX8_judge_70 : decode cX8_judge 70 = .ok (.if_icmp .eq 9, 3) := by decide +kernel
theorem dX8_judge_73 : decode cX8_judge 73 = .ok (.aload_n 0, 1) := by decide +kernel
theorem dX8_judge_74 : decode cX8_judge 74 = .ok (.iconst 5, 1) := by decide +kernel
theorem dX8_judge_75 : decode cX8_judge 75 = .ok (.invokevirtual 66, 3) := by decide +kernel
theorem dX8_judge_78 : decode cX8_judge 78 = .ok (.ireturn, 1) := by decide +kernel
theorem dX8_judge_79 : decode cX8_judge 79 = .ok (.aload_n 3, 1) := by decide +kernel
theorem dX8_judge_80 : decode cX8_judge 80 = .ok (.iload 5, 2) := by decide +kernel
theorem dX8_judge_82 : decode cX8_judge 82 = .ok (.invokevirtual 274, 3) := by decide +kernel
theorem dX8_judge_85 : decode cX8_judge 85 = .ok (.ifCond .eq 15, 3) := by decide +kernel
theorem dX8_judge_88 : decode cX8_judge 88 = .ok (.aload 4, 2) := by decide +kernel
theorem dX8_judge_90 : decode cX8_judge 90 = .ok (.iconst 0, 1) := by decide +kernel
theorem dX8_judge_91 : decode cX8_judge 91 = .ok (.ldc_w 277, 3) := by decide +kernel
theorem dX8_judge_94 : decode cX8_judge 94 = .ok (.invokevirtual 278, 3) := by decide +kernel
theorem dX8_judge_97 : decode cX8_judge 97 = .ok (.ifCond .ne 9, 3) := by decide +kernel
theorem dX8_judge_100 : decode cX8_judge 100 = .ok (.aload_n 0, 1) := by decide +kernel
theorem dX8_judge_101 : decode cX8_judge 101 = .ok (.iconst 3, 1) := by decide +kernel
theorem dX8_judge_102 : decode cX8_judge 102 = .ok (.invokevirtual 66, 3) := by decide +kernel
theorem dX8_judge_105 : decode cX8_judge 105 = .ok (.ireturn, 1) := by decide +kernel
theorem dX8_judge_106 : decode cX8_judge 106 = .ok (.aload 4, 2) := by decide +kernel
theorem dX8_judge_108 : decode cX8_judge 108 = .ok (.invokevirtual 102, 3) := by decide +kernel
theorem dX8_judge_111 : decode cX8_judge 111 = .ok (.lconst 0, 1) := by decide +kernel
theorem dX8_judge_112 : decode cX8_judge 112 = .ok (.lcmp, 1) := by decide +kernel
theorem dX8_judge_113 : decode cX8_judge 113 = .ok (.ifCond .ne 6, 3) := by decide +kernel
theorem dX8_judge_116 : decode cX8_judge 116 = .ok (.iload 5, 2) := by decide +kernel
theorem dX8_judge_118 : decode cX8_judge 118 = .ok (.ireturn, 1) := by decide +kernel
theorem dX8_judge_119 : decode cX8_judge 119 = .ok (.aload_n 0, 1) := by decide +kernel
theorem dX8_judge_120 : decode cX8_judge 120 = .ok (.getfield 32, 3) := by decide +kernel
theorem dX8_judge_123 : decode cX8_judge 123 = .ok (.aload_n 3, 1) := by decide +kernel
theorem dX8_judge_124 : decode cX8_judge 124 = .ok (.invokevirtual 258, 3) := by decide +kernel
theorem dX8_judge_127 : decode cX8_judge 127 = .ok (.aload_n 0, 1) := by decide +kernel
theorem dX8_judge_128 : decode cX8_judge 128 = .ok (.getfield 32, 3) := by decide +kernel
theorem dX8_judge_131 : decode cX8_judge 131 = .ok (.aload 4, 2) := by decide +kernel
theorem dX8_judge_133 : decode cX8_judge 133 = .ok (.invokevirtual 281, 3) := by decide +kernel
theorem dX8_judge_136 : decode cX8_judge 136 = .ok (.ireturn, 1) := by decide +kernel
theorem cv_X8_judge : wn_cV yX8_judge cX8_judge 6 (some .int) RX8 2 := ⟨wm_563, wm_1057, wm_1058, wm_377, by decide +kernel⟩
abbrev rm_X8_judge : Room := rmz 3 67
set_option maxHeartbeats 4000000 in
set_option maxRecDepth 100000 in
theorem c_X8_judge {ad : Nat → Nat} {o : Nat} {x1 : Int32} {x2 : Int32} {M : Mm} {q : Int32 × Mm} (ho : shp o = 8) (hF : f_X8_judge o x1 x2 M = some q) : KI ad yX8_judge cX8_judge 6 (some .int) rm_X8_judge [.ref (ad o), .int x1, .int x2] M q.1 q.2 := by
  refine wn_enterI (own := RX8) (by decide) rfl (Nat.le_of_ble_eq_true rfl) (fun X ls Z hQ hl => ?_)
  have hl : lv_has ls 6 [(0, .ref (ad o)), (1, .int x1), (2, .int x2)] := hl
  have L46 : ∀ (M : Mm) (ls : Array Slot), lv_has ls 6 [(0, .ref (ad o))] → f_X8_judge_b46 o M = some q → G ad X M 46 ls [] := by
    intro M ls hl hF
    unfold f_X8_judge_b46 at hF
    refine r_aload_n Z dX8_judge_46 rfl (lv_at hl 0 rfl) ?_
    refine r_iconst (v := 1) Z dX8_judge_47 (by decide) ?_
    obtain ⟨q1, hq1, hF⟩ := bd_some hF
    refine r_invVi [] Z (c_X8_refuse ho hq1) cv_X8_refuse rfl (shp_lt ho (by decide)) (fun _ _ => ⟨_, ce_8 ho⟩) wm_378 rfl rfl ⟨Nat.le_of_ble_eq_true rfl, Nat.le_of_ble_eq_true rfl⟩ rfl hl.1 rfl (Nat.le_of_ble_eq_true rfl) dX8_judge_48 ?_
    exact r_iret Z hQ hF dX8_judge_51
  have L73 : ∀ (M : Mm) (ls : Array Slot), lv_has ls 6 [(0, .ref (ad o))] → f_X8_judge_b73 o M = some q → G ad X M 73 ls [] := by
    intro M ls hl hF
    unfold f_X8_judge_b73 at hF
    refine r_aload_n Z dX8_judge_73 rfl (lv_at hl 0 rfl) ?_
    refine r_iconst (v := 5) Z dX8_judge_74 (by decide) ?_
    obtain ⟨q2, hq2, hF⟩ := bd_some hF
    refine r_invVi [] Z (c_X8_refuse ho hq2) cv_X8_refuse rfl (shp_lt ho (by decide)) (fun _ _ => ⟨_, ce_8 ho⟩) wm_378 rfl rfl ⟨Nat.le_of_ble_eq_true rfl, Nat.le_of_ble_eq_true rfl⟩ rfl hl.1 rfl (Nat.le_of_ble_eq_true rfl) dX8_judge_75 ?_
    exact r_iret Z hQ hF dX8_judge_78
  have L100 : ∀ (M : Mm) (ls : Array Slot), lv_has ls 6 [(0, .ref (ad o))] → f_X8_judge_b100 o M = some q → G ad X M 100 ls [] := by
    intro M ls hl hF
    unfold f_X8_judge_b100 at hF
    refine r_aload_n Z dX8_judge_100 rfl (lv_at hl 0 rfl) ?_
    refine r_iconst (v := 3) Z dX8_judge_101 (by decide) ?_
    obtain ⟨q3, hq3, hF⟩ := bd_some hF
    refine r_invVi [] Z (c_X8_refuse ho hq3) cv_X8_refuse rfl (shp_lt ho (by decide)) (fun _ _ => ⟨_, ce_8 ho⟩) wm_378 rfl rfl ⟨Nat.le_of_ble_eq_true rfl, Nat.le_of_ble_eq_true rfl⟩ rfl hl.1 rfl (Nat.le_of_ble_eq_true rfl) dX8_judge_102 ?_
    exact r_iret Z hQ hF dX8_judge_105
  unfold f_X8_judge at hF
  refine r_iload_n Z dX8_judge_0 rfl (lv_at hl 1 rfl) ?_
  obtain ⟨q4, hq4, hF⟩ := bd_some hF
  refine r_invSi [] Z (c_X8_isRowNumber hq4) cv_X8_isRowNumber wm_375 rfl rfl ⟨Nat.le_of_ble_eq_true rfl, Nat.le_of_ble_eq_true rfl⟩ rfl hl.1 rfl (Nat.le_of_ble_eq_true rfl) dX8_judge_1 ?_
  refine r_if_eq Z 14 dX8_judge_4 (by decide) (fun hc5 => ?_) (fun hc5 => ?_)
  · replace hF := if_some hc5 hF
    refine r_iconst (v := (-1)) Z dX8_judge_14 (by decide) ?_
    exact r_iret Z hQ hF dX8_judge_15
  · replace hF := nif_some hc5 hF
    refine r_iload_n Z dX8_judge_7 rfl (lv_at hl 2 rfl) ?_
    obtain ⟨q6, hq6, hF⟩ := bd_some hF
    refine r_invSi [] Z (c_X8_isRowNumber hq6) cv_X8_isRowNumber wm_375 rfl rfl ⟨Nat.le_of_ble_eq_true rfl, Nat.le_of_ble_eq_true rfl⟩ rfl hl.1 rfl (Nat.le_of_ble_eq_true rfl) dX8_judge_8 ?_
    refine r_if_ne Z 16 dX8_judge_11 (by decide) (fun hc7 => ?_) (fun hc7 => ?_)
    · replace hF := nif_some hc7 hF
      refine r_aload_n Z dX8_judge_16 rfl (lv_at hl 0 rfl) ?_
      refine g_8_0 Z ho wm_348 dX8_judge_17 ?_
      refine r_iload_n Z dX8_judge_20 rfl (lv_at hl 1 rfl) ?_
      obtain ⟨hi8, hF⟩ := ck_some hF
      refine r_aald14 Z (sh_8_0 ho) hi8 dX8_judge_21 ?_
      refine r_astore_n Z [(3, .ref (ad (elm (fld o 0) (Int32.toNatClampNeg x1)))), (0, .ref (ad o)), (1, .int x1), (2, .int x2)] dX8_judge_22 rfl hl (by decide) rfl (fun ls hl => ?_)
      refine r_aload_n Z dX8_judge_23 rfl (lv_at hl 1 rfl) ?_
      refine g_8_0 Z ho wm_348 dX8_judge_24 ?_
      refine r_iload_n Z dX8_judge_27 rfl (lv_at hl 3 rfl) ?_
      obtain ⟨hi9, hF⟩ := ck_some hF
      refine r_aald14 Z (sh_8_0 ho) hi9 dX8_judge_28 ?_
      refine r_astore Z [(4, .ref (ad (elm (fld o 0) (Int32.toNatClampNeg x2)))), (3, .ref (ad (elm (fld o 0) (Int32.toNatClampNeg x1)))), (0, .ref (ad o)), (1, .int x1), (2, .int x2)] dX8_judge_29 hl (by decide) rfl (fun ls hl => ?_)
      refine r_aload_n Z dX8_judge_31 rfl (lv_at hl 1 rfl) ?_
      obtain ⟨q10, hq10, hF⟩ := bd_some hF
      refine r_invVi [] Z (c_X6_isThere (se_14 (sh_8_0 ho) hi8) hq10) cv_X6_isThere rfl (shp_lt (se_14 (sh_8_0 ho) hi8) (by decide)) (fun _ _ => ⟨_, ce_6 (se_14 (sh_8_0 ho) hi8)⟩) wm_385 rfl rfl ⟨Nat.le_of_ble_eq_true rfl, Nat.le_of_ble_eq_true rfl⟩ rfl hl.1 rfl (Nat.le_of_ble_eq_true rfl) dX8_judge_32 ?_
      refine r_if_eq Z 46 dX8_judge_35 (by decide) (fun hc11 => ?_) (fun hc11 => ?_)
      · replace hF := if_some hc11 hF
        exact L46 q10.2 ls (lv_sub hl [2] rfl) hF
      · replace hF := nif_some hc11 hF
        refine r_aload Z dX8_judge_38 (lv_at hl 0 rfl) ?_
        obtain ⟨q12, hq12, hF⟩ := bd_some hF
        refine r_invVi [] Z (c_X6_isThere (se_14 (sh_8_0 ho) hi9) hq12) cv_X6_isThere rfl (shp_lt (se_14 (sh_8_0 ho) hi9) (by decide)) (fun _ _ => ⟨_, ce_6 (se_14 (sh_8_0 ho) hi9)⟩) wm_385 rfl rfl ⟨Nat.le_of_ble_eq_true rfl, Nat.le_of_ble_eq_true rfl⟩ rfl hl.1 rfl (Nat.le_of_ble_eq_true rfl) dX8_judge_40 ?_
        refine r_if_ne Z 52 dX8_judge_43 (by decide) (fun hc13 => ?_) (fun hc13 => ?_)
        · replace hF := nif_some hc13 hF
          refine r_aload_n Z dX8_judge_52 rfl (lv_at hl 1 rfl) ?_
          obtain ⟨q14, hq14, hF⟩ := bd_some hF
          refine r_invVi [] Z (c_X6_side (se_14 (sh_8_0 ho) hi8) hq14) cv_X6_side rfl (shp_lt (se_14 (sh_8_0 ho) hi8) (by decide)) (fun _ _ => ⟨_, ce_6 (se_14 (sh_8_0 ho) hi8)⟩) wm_535 rfl rfl ⟨Nat.le_of_ble_eq_true rfl, Nat.le_of_ble_eq_true rfl⟩ rfl hl.1 rfl (Nat.le_of_ble_eq_true rfl) dX8_judge_53 ?_
          refine r_istore Z [(5, .int q14.1), (4, .ref (ad (elm (fld o 0) (Int32.toNatClampNeg x2)))), (3, .ref (ad (elm (fld o 0) (Int32.toNatClampNeg x1)))), (0, .ref (ad o)), (1, .int x1), (2, .int x2)] dX8_judge_56 hl (by decide) rfl (fun ls hl => ?_)
          refine r_iload Z dX8_judge_58 (lv_at hl 0 rfl) ?_
          refine r_if_eq Z 73 dX8_judge_60 (by decide) (fun hc15 => ?_) (fun hc15 => ?_)
          · replace hF := if_some hc15 hF
            exact L73 q14.2 ls (lv_sub hl [3] rfl) hF
          · replace hF := nif_some hc15 hF
            refine r_aload Z dX8_judge_63 (lv_at hl 1 rfl) ?_
            refine g_6_1 Z (se_14 (sh_8_0 ho) hi9) wm_403 dX8_judge_65 ?_
            refine r_iload Z dX8_judge_68 (lv_at hl 0 rfl) ?_
            refine r_icmp_eq Z 79 dX8_judge_70 (by decide) (fun hc16 => ?_) (fun hc16 => ?_)
            · replace hF := if_some hc16 hF
              refine r_aload_n Z dX8_judge_79 rfl (lv_at hl 2 rfl) ?_
              refine r_iload Z dX8_judge_80 (lv_at hl 0 rfl) ?_
              obtain ⟨q17, hq17, hF⟩ := bd_some hF
              refine r_invVi [] Z (c_X6_holdsRates (se_14 (sh_8_0 ho) hi8) hq17) cv_X6_holdsRates rfl (shp_lt (se_14 (sh_8_0 ho) hi8) (by decide)) (fun _ _ => ⟨_, ce_6 (se_14 (sh_8_0 ho) hi8)⟩) wm_536 rfl rfl ⟨Nat.le_of_ble_eq_true rfl, Nat.le_of_ble_eq_true rfl⟩ rfl hl.1 rfl (Nat.le_of_ble_eq_true rfl) dX8_judge_82 ?_
              refine r_if_eq Z 100 dX8_judge_85 (by decide) (fun hc18 => ?_) (fun hc18 => ?_)
              · replace hF := if_some hc18 hF
                exact L100 q17.2 ls (lv_sub hl [3] rfl) hF
              · replace hF := nif_some hc18 hF
                refine r_aload Z dX8_judge_88 (lv_at hl 1 rfl) ?_
                refine r_iconst (v := 0) Z dX8_judge_90 (by decide) ?_
                refine r_ldcw Z wm_556 dX8_judge_91 ?_
                obtain ⟨q19, hq19, hF⟩ := bd_some hF
                refine r_invVi [] Z (c_X6_isWithin (se_14 (sh_8_0 ho) hi9) hq19) cv_X6_isWithin rfl (shp_lt (se_14 (sh_8_0 ho) hi9) (by decide)) (fun _ _ => ⟨_, ce_6 (se_14 (sh_8_0 ho) hi9)⟩) wm_557 rfl rfl ⟨Nat.le_of_ble_eq_true rfl, Nat.le_of_ble_eq_true rfl⟩ rfl hl.1 rfl (Nat.le_of_ble_eq_true rfl) dX8_judge_94 ?_
                refine r_if_ne Z 106 dX8_judge_97 (by decide) (fun hc20 => ?_) (fun hc20 => ?_)
                · replace hF := nif_some hc20 hF
                  refine r_aload Z dX8_judge_106 (lv_at hl 1 rfl) ?_
                  obtain ⟨q21, hq21, hF⟩ := bd_some hF
                  refine r_invVl [] Z (c_X6_sum (se_14 (sh_8_0 ho) hi9) hq21) cv_X6_sum rfl (shp_lt (se_14 (sh_8_0 ho) hi9) (by decide)) (fun _ _ => ⟨_, ce_6 (se_14 (sh_8_0 ho) hi9)⟩) wm_404 rfl rfl ⟨Nat.le_of_ble_eq_true rfl, Nat.le_of_ble_eq_true rfl⟩ rfl hl.1 rfl (Nat.le_of_ble_eq_true rfl) dX8_judge_108 ?_
                  refine r_lconst (v := 0) Z dX8_judge_111 (by decide) ?_
                  refine r_lcmp Z dX8_judge_112 ?_
                  refine r_if_ne Z 119 dX8_judge_113 (by decide) (fun hc22 => ?_) (fun hc22 => ?_)
                  · replace hF := nif_some hc22 hF
                    refine r_aload_n Z dX8_judge_119 rfl (lv_at hl 3 rfl) ?_
                    refine g_8_3 Z ho wm_356 dX8_judge_120 ?_
                    refine r_aload_n Z dX8_judge_123 rfl (lv_at hl 2 rfl) ?_
                    obtain ⟨M23, hM23, hF⟩ := bd_some hF
                    refine r_invVv [] Z (c_X0_load (sh_8_3 ho) (se_14 (sh_8_0 ho) hi8) hM23) cv_X0_load rfl (shp_lt (sh_8_3 ho) (by decide)) (fun _ _ => ⟨_, ce_0 (sh_8_3 ho)⟩) wm_544 rfl rfl ⟨Nat.le_of_ble_eq_true rfl, Nat.le_of_ble_eq_true rfl⟩ rfl hl.1 rfl (Nat.le_of_ble_eq_true rfl) dX8_judge_124 ?_
                    refine r_aload_n Z dX8_judge_127 rfl (lv_at hl 3 rfl) ?_
                    refine g_8_3 Z ho wm_356 dX8_judge_128 ?_
                    refine r_aload Z dX8_judge_131 (lv_at hl 1 rfl) ?_
                    obtain ⟨q24, hq24, hF⟩ := bd_some hF
                    refine r_invVi [] Z (c_X0_firstUneven (sh_8_3 ho) (se_14 (sh_8_0 ho) hi9) hq24) cv_X0_firstUneven rfl (shp_lt (sh_8_3 ho) (by decide)) (fun _ _ => ⟨_, ce_0 (sh_8_3 ho)⟩) wm_560 rfl rfl ⟨Nat.le_of_ble_eq_true rfl, Nat.le_of_ble_eq_true rfl⟩ rfl hl.1 rfl (Nat.le_of_ble_eq_true rfl) dX8_judge_133 ?_
                    exact r_iret Z hQ hF dX8_judge_136
                  · replace hF := if_some hc22 hF
                    refine r_iload Z dX8_judge_116 (lv_at hl 0 rfl) ?_
                    exact r_iret Z hQ hF dX8_judge_118
                · replace hF := if_some hc20 hF
                  exact L100 q19.2 ls (lv_sub hl [3] rfl) hF
            · replace hF := nif_some hc16 hF
              exact L73 q14.2 ls (lv_sub hl [3] rfl) hF
        · replace hF := if_some hc13 hF
          exact L46 q12.2 ls (lv_sub hl [2] rfl) hF
    · replace hF := if_some hc7 hF
      refine r_iconst (v := (-1)) Z dX8_judge_14 (by decide) ?_
      exact r_iret Z hQ hF dX8_judge_15
theorem dX8_judgeChain_0 : decode cX8_judgeChain 0 = .ok (.iload_n 1, 1) := by decide +kernel
theorem dX8_judgeChain_1 : decode cX8_judgeChain 1 = .ok (.invokestatic 62, 3) := by decide +kernel
theorem dX8_judgeChain_4 : decode cX8_judgeChain 4 = .ok (.ifCond .ne 5, 3) := by decide +kernel
theorem dX8_judgeChain_7 : decode cX8_judgeChain 7 = .ok (.iconst (-1), 1) := by decide +kernel
theorem dX8_judgeChain_8 : decode cX8_judgeChain 8 = .ok (.ireturn, 1) := by decide +kernel
theorem dX8_judgeChain_9 : decode cX8_judgeChain 9 = .ok (.aload_n 0, 1) := by decide +kernel
theorem dX8_judgeChain_10 : decode cX8_judgeChain 10 = .ok (.getfield 11, 3) := by decide +kernel
theorem dX8_judgeChain_13 : decode cX8_judgeChain 13 = .ok (.iload_n 1, 1) := by decide +kernel
theorem dX8_judgeChain_14 : decode cX8_judgeChain 14 = .ok (.aaload, 1) := by decide +kernel
theorem dX8_judgeChain_15 : decode cX8_judgeChain 15 = .ok (.invokevirtual 74, 3) := by decide +kernel
theorem dX8_judgeChain_18 : decode cX8_judgeChain 18 = .ok (.ifCond .ne 9, 3) := by decide +kernel
theorem dX8_judgeChain_21 : decode cX8_judgeChain 21 = .ok (.aload_n 0, 1) := by decide +kernel
theorem dX8_judgeChain_22 : decode cX8_judgeChain 22 = .ok (.iconst 1, 1) := by decide +kernel
theorem dX8_judgeChain_23 : decode cX8_judgeChain 23 = .ok (.invokevirtual 66, 3) := by decide +kernel
theorem dX8_judgeChain_26 : decode cX8_judgeChain 26 = .ok (.ireturn, 1) := by decide +kernel
theorem dX8_judgeChain_27 : decode cX8_judgeChain 27 = .ok (.aload_n 0, 1) := by decide +kernel
theorem dX8_judgeChain_28 : decode cX8_judgeChain 28 = .ok (.getfield 11, 3) := by decide +kernel
theorem dX8_judgeChain_31 : decode cX8_judgeChain 31 = .ok (.iload_n 1, 1) := by decide +kernel
theorem dX8_judgeChain_32 : decode cX8_judgeChain 32 = .ok (.aaload, 1) := by decide +kernel
theorem dX8_judgeChain_33 : decode cX8_judgeChain 33 = .ok (.invokevirtual 271, 3) := by decide +kernel
theorem dX8_judgeChain_36 : decode cX8_judgeChain 36 = .ok (.istore_n 2, 1) := by decide +kernel
theorem dX8_judgeChain_37 : decode cX8_judgeChain 37 = .ok (.iload_n 2, 1) := by decide +kernel
theorem dX8_judgeChain_38 : decode cX8_judgeChain 38 = .ok (.ifCond .ne 9, 3) := by decide +kernel
theorem dX8_judgeChain_41 : decode cX8_judgeChain 41 = .ok (.aload_n 0, 1) := by decide +kernel
theorem dX8_judgeChain_42 : decode cX8_judgeChain 42 = .ok (.iconst 5, 1) := by decide +kernel
theorem dX8_judgeChain_43 : decode cX8_judgeChain 43 = .ok (.invokevirtual 66, 3) := by decide +kernel
theorem dX8_judgeChain_46 : decode cX8_judgeChain 46 = .ok (.ireturn, 1) := by decide +kernel
theorem dX8_judgeChain_47 : decode cX8_judgeChain 47 = .ok (.aload_n 0, 1) := by decide +kernel
theorem dX8_judgeChain_48 : decode cX8_judgeChain 48 = .ok (.getfield 11, 3) := by decide +kernel
theorem dX8_judgeChain_51 : decode cX8_judgeChain 51 = .ok (.iload_n 1, 1) := by decide +kernel
theorem dX8_judgeChain_52 : decode cX8_judgeChain 52 = .ok (.aaload, 1) := by decide +kernel
theorem dX8_judgeChain_53 : decode cX8_judgeChain 53 = .ok (.iload_n 2, 1) := by decide +kernel
theorem dX8_judgeChain_54 : decode cX8_judgeChain 54 = .ok (.invokevirtual 274, 3) := by decide +kernel
theorem dX8_judgeChain_57 : decode cX8_judgeChain 57 = .ok (.ifCond .eq 7, 3) := by decide +kernel
theorem dX8_judgeChain_60 : decode cX8_judgeChain 60 = .ok (.iconst 0, 1) := by decide +kernel
theorem dX8_judgeChain_61 : decode cX8_judgeChain 61 = .ok (.goto 8, 3) := by decide +kernel
theorem dX8_judgeChain_64 : decode cX8_judgeChain 64 = .ok (.aload_n 0, 1) := by decide +kernel
theorem dX8_judgeChain_65 : decode cX8_judgeChain 65 = .ok (.iconst 3, 1) := by decide +kernel
theorem dX8_judgeChain_66 : decode cX8_judgeChain 66 = .ok (.invokevirtual 66, 3) := by decide +kernel
theorem dX8_judgeChain_69 : decode cX8_judgeChain 69 = .ok (.ireturn, 1) := by decide +kernel
theorem cv_X8_judgeChain : wn_cV yX8_judgeChain cX8_judgeChain 3 (some .int) RX8 1 := ⟨wm_539, wm_542, wm_543, wm_377, by decide +kernel⟩
abbrev rm_X8_judgeChain : Room := rmz 3 66
set_option maxHeartbeats 4000000 in
set_option maxRecDepth 100000 in
theorem c_X8_judgeChain {ad : Nat → Nat} {o : Nat} {x1 : Int32} {M : Mm} {q : Int32 × Mm} (ho : shp o = 8) (hF : f_X8_judgeChain o x1 M = some q) : KI ad yX8_judgeChain cX8_judgeChain 3 (some .int) rm_X8_judgeChain [.ref (ad o), .int x1] M q.1 q.2 := by
  refine wn_enterI (own := RX8) (by decide) rfl (Nat.le_of_ble_eq_true rfl) (fun X ls Z hQ hl => ?_)
  have hl : lv_has ls 3 [(0, .ref (ad o)), (1, .int x1)] := hl
  unfold f_X8_judgeChain at hF
  refine r_iload_n Z dX8_judgeChain_0 rfl (lv_at hl 1 rfl) ?_
  obtain ⟨q1, hq1, hF⟩ := bd_some hF
  refine r_invSi [] Z (c_X8_isRowNumber hq1) cv_X8_isRowNumber wm_375 rfl rfl ⟨Nat.le_of_ble_eq_true rfl, Nat.le_of_ble_eq_true rfl⟩ rfl hl.1 rfl (Nat.le_of_ble_eq_true rfl) dX8_judgeChain_1 ?_
  refine r_if_ne Z 9 dX8_judgeChain_4 (by decide) (fun hc2 => ?_) (fun hc2 => ?_)
  · replace hF := nif_some hc2 hF
    refine r_aload_n Z dX8_judgeChain_9 rfl (lv_at hl 0 rfl) ?_
    refine g_8_0 Z ho wm_348 dX8_judgeChain_10 ?_
    refine r_iload_n Z dX8_judgeChain_13 rfl (lv_at hl 1 rfl) ?_
    obtain ⟨hi3, hF⟩ := ck_some hF
    refine r_aald14 Z (sh_8_0 ho) hi3 dX8_judgeChain_14 ?_
    obtain ⟨q4, hq4, hF⟩ := bd_some hF
    refine r_invVi [] Z (c_X6_isThere (se_14 (sh_8_0 ho) hi3) hq4) cv_X6_isThere rfl (shp_lt (se_14 (sh_8_0 ho) hi3) (by decide)) (fun _ _ => ⟨_, ce_6 (se_14 (sh_8_0 ho) hi3)⟩) wm_385 rfl rfl ⟨Nat.le_of_ble_eq_true rfl, Nat.le_of_ble_eq_true rfl⟩ rfl hl.1 rfl (Nat.le_of_ble_eq_true rfl) dX8_judgeChain_15 ?_
    refine r_if_ne Z 27 dX8_judgeChain_18 (by decide) (fun hc5 => ?_) (fun hc5 => ?_)
    · replace hF := nif_some hc5 hF
      refine r_aload_n Z dX8_judgeChain_27 rfl (lv_at hl 0 rfl) ?_
      refine g_8_0 Z ho wm_348 dX8_judgeChain_28 ?_
      refine r_iload_n Z dX8_judgeChain_31 rfl (lv_at hl 1 rfl) ?_
      obtain ⟨hi6, hF⟩ := ck_some hF
      refine r_aald14 Z (sh_8_0 ho) hi6 dX8_judgeChain_32 ?_
      obtain ⟨q7, hq7, hF⟩ := bd_some hF
      refine r_invVi [] Z (c_X6_side (se_14 (sh_8_0 ho) hi6) hq7) cv_X6_side rfl (shp_lt (se_14 (sh_8_0 ho) hi6) (by decide)) (fun _ _ => ⟨_, ce_6 (se_14 (sh_8_0 ho) hi6)⟩) wm_535 rfl rfl ⟨Nat.le_of_ble_eq_true rfl, Nat.le_of_ble_eq_true rfl⟩ rfl hl.1 rfl (Nat.le_of_ble_eq_true rfl) dX8_judgeChain_33 ?_
      refine r_istore_n Z [(2, .int q7.1), (0, .ref (ad o)), (1, .int x1)] dX8_judgeChain_36 rfl hl (by decide) rfl (fun ls hl => ?_)
      refine r_iload_n Z dX8_judgeChain_37 rfl (lv_at hl 0 rfl) ?_
      refine r_if_ne Z 47 dX8_judgeChain_38 (by decide) (fun hc8 => ?_) (fun hc8 => ?_)
      · replace hF := nif_some hc8 hF
        refine r_aload_n Z dX8_judgeChain_47 rfl (lv_at hl 1 rfl) ?_
        refine g_8_0 Z ho wm_348 dX8_judgeChain_48 ?_
        refine r_iload_n Z dX8_judgeChain_51 rfl (lv_at hl 2 rfl) ?_
        obtain ⟨hi9, hF⟩ := ck_some hF
        refine r_aald14 Z (sh_8_0 ho) hi9 dX8_judgeChain_52 ?_
        refine r_iload_n Z dX8_judgeChain_53 rfl (lv_at hl 0 rfl) ?_
        obtain ⟨q10, hq10, hF⟩ := bd_some hF
        refine r_invVi [] Z (c_X6_holdsRates (se_14 (sh_8_0 ho) hi9) hq10) cv_X6_holdsRates rfl (shp_lt (se_14 (sh_8_0 ho) hi9) (by decide)) (fun _ _ => ⟨_, ce_6 (se_14 (sh_8_0 ho) hi9)⟩) wm_536 rfl rfl ⟨Nat.le_of_ble_eq_true rfl, Nat.le_of_ble_eq_true rfl⟩ rfl hl.1 rfl (Nat.le_of_ble_eq_true rfl) dX8_judgeChain_54 ?_
        refine r_if_eq Z 64 dX8_judgeChain_57 (by decide) (fun hc11 => ?_) (fun hc11 => ?_)
        · replace hF := if_some hc11 hF
          refine r_aload_n Z dX8_judgeChain_64 rfl (lv_at hl 1 rfl) ?_
          refine r_iconst (v := 3) Z dX8_judgeChain_65 (by decide) ?_
          obtain ⟨q12, hq12, hF⟩ := bd_some hF
          refine r_invVi [] Z (c_X8_refuse ho hq12) cv_X8_refuse rfl (shp_lt ho (by decide)) (fun _ _ => ⟨_, ce_8 ho⟩) wm_378 rfl rfl ⟨Nat.le_of_ble_eq_true rfl, Nat.le_of_ble_eq_true rfl⟩ rfl hl.1 rfl (Nat.le_of_ble_eq_true rfl) dX8_judgeChain_66 ?_
          exact r_iret Z hQ hF dX8_judgeChain_69
        · replace hF := nif_some hc11 hF
          refine r_iconst (v := 0) Z dX8_judgeChain_60 (by decide) ?_
          refine r_goto Z 69 dX8_judgeChain_61 (by decide) ?_
          exact r_iret Z hQ hF dX8_judgeChain_69
      · replace hF := if_some hc8 hF
        refine r_aload_n Z dX8_judgeChain_41 rfl (lv_at hl 1 rfl) ?_
        refine r_iconst (v := 5) Z dX8_judgeChain_42 (by decide) ?_
        obtain ⟨q13, hq13, hF⟩ := bd_some hF
        refine r_invVi [] Z (c_X8_refuse ho hq13) cv_X8_refuse rfl (shp_lt ho (by decide)) (fun _ _ => ⟨_, ce_8 ho⟩) wm_378 rfl rfl ⟨Nat.le_of_ble_eq_true rfl, Nat.le_of_ble_eq_true rfl⟩ rfl hl.1 rfl (Nat.le_of_ble_eq_true rfl) dX8_judgeChain_43 ?_
        exact r_iret Z hQ hF dX8_judgeChain_46
    · replace hF := if_some hc5 hF
      refine r_aload_n Z dX8_judgeChain_21 rfl (lv_at hl 0 rfl) ?_
      refine r_iconst (v := 1) Z dX8_judgeChain_22 (by decide) ?_
      obtain ⟨q14, hq14, hF⟩ := bd_some hF
      refine r_invVi [] Z (c_X8_refuse ho hq14) cv_X8_refuse rfl (shp_lt ho (by decide)) (fun _ _ => ⟨_, ce_8 ho⟩) wm_378 rfl rfl ⟨Nat.le_of_ble_eq_true rfl, Nat.le_of_ble_eq_true rfl⟩ rfl hl.1 rfl (Nat.le_of_ble_eq_true rfl) dX8_judgeChain_23 ?_
      exact r_iret Z hQ hF dX8_judgeChain_26
  · replace hF := if_some hc2 hF
    refine r_iconst (v := (-1)) Z dX8_judgeChain_7 (by decide) ?_
    exact r_iret Z hQ hF dX8_judgeChain_8
theorem dX8_judgeRun_0 : decode cX8_judgeRun 0 = .ok (.iload_n 1, 1) := by decide +kernel
theorem dX8_judgeRun_1 : decode cX8_judgeRun 1 = .ok (.invokestatic 106, 3) := by decide +kernel
theorem dX8_judgeRun_4 : decode cX8_judgeRun 4 = .ok (.ifCond .eq 17, 3) := by decide +kernel
theorem dX8_judgeRun_7 : decode cX8_judgeRun 7 = .ok (.iload_n 2, 1) := by decide +kernel
theorem dX8_judgeRun_8 : decode cX8_judgeRun 8 = .ok (.invokestatic 62, 3) := by decide +kernel
theorem dX8_judgeRun_11 : decode cX8_judgeRun 11 = .ok (.ifCond .eq 10, 3) := by decide +kernel
theorem dX8_judgeRun_14 : decode cX8_judgeRun 14 = .ok (.iload_n 3, 1) := by decide +kernel
theorem dX8_judgeRun_15 : decode cX8_judgeRun 15 = .ok (.invokestatic 62, 3) := by decide +kernel
theorem dX8_judgeRun_18 : decode cX8_judgeRun 18 = .ok (.ifCond .ne 5, 3) := by decide +kernel
theorem dX8_judgeRun_21 : decode cX8_judgeRun 21 = .ok (.iconst (-1), 1) := by decide +kernel
theorem dX8_judgeRun_22 : decode cX8_judgeRun 22 = .ok (.ireturn, 1) := by decide +kernel
theorem dX8_judgeRun_23 : decode cX8_judgeRun 23 = .ok (.aload_n 0, 1) := by decide +kernel
theorem dX8_judgeRun_24 : decode cX8_judgeRun 24 = .ok (.getfield 18, 3) := by decide +kernel
theorem dX8_judgeRun_27 : decode cX8_judgeRun 27 = .ok (.iload_n 1, 1) := by decide +kernel
theorem dX8_judgeRun_28 : decode cX8_judgeRun 28 = .ok (.invokevirtual 109, 3) := by decide +kernel
theorem dX8_judgeRun_31 : decode cX8_judgeRun 31 = .ok (.ifCond .eq 27, 3) := by decide +kernel
theorem dX8_judgeRun_34 : decode cX8_judgeRun 34 = .ok (.aload_n 0, 1) := by decide +kernel
theorem dX8_judgeRun_35 : decode cX8_judgeRun 35 = .ok (.getfield 11, 3) := by decide +kernel
theorem dX8_judgeRun_38 : decode cX8_judgeRun 38 = .ok (.iload_n 2, 1) := by decide +kernel
theorem dX8_judgeRun_39 : decode cX8_judgeRun 39 = .ok (.aaload, 1) := by decide +kernel
theorem dX8_judgeRun_40 : decode cX8_judgeRun 40 = .ok (.invokevirtual 74, 3) := by decide +kernel
theorem dX8_judgeRun_43 : decode cX8_judgeRun 43 = .ok (.ifCond .eq 15, 3) := by decide +kernel
theorem dX8_judgeRun_46 : decode cX8_judgeRun 46 = .ok (.aload_n 0, 1) := by decide +kernel
theorem dX8_judgeRun_47 : decode cX8_judgeRun 47 = .ok (.getfield 11, 3) := by decide +kernel
theorem dX8_judgeRun_50 : decode cX8_judgeRun 50 = .ok (.iload_n 3, 1) := by decide +kernel
theorem dX8_judgeRun_51 : decode cX8_judgeRun 51 = .ok (.aaload, 1) := by decide +kernel
theorem dX8_judgeRun_52 : decode cX8_judgeRun 52 = .ok (.invokevirtual 74, 3) := by decide +kernel
theorem dX8_judgeRun_55 : decode cX8_judgeRun 55 = .ok (.ifCond .ne 9, 3) := by decide +kernel
theorem dX8_judgeRun_58 : decode cX8_judgeRun 58 = .ok (.aload_n 0, 1) := by decide +kernel
theorem dX8_judgeRun_59 : decode cX8_judgeRun 59 = .ok (.iconst 1, 1) := by decide +kernel
theorem dX8_judgeRun_60 : decode cX8_judgeRun 60 = .ok (.invokevirtual 66, 3) := by decide +kernel
theorem dX8_judgeRun_63 : decode cX8_judgeRun 63 = .ok (.ireturn, 1) := by decide +kernel
theorem dX8_judgeRun_64 : decode cX8_judgeRun 64 = .ok (.aload_n 0, 1) := by decide +kernel
theorem dX8_judgeRun_65 : decode cX8_judgeRun 65 = .ok (.getfield 11, 3) := by decide +kernel
theorem dX8_judgeRun_68 : decode cX8_judgeRun 68 = .ok (.iload_n 2, 1) := by decide +kernel
theorem dX8_judgeRun_69 : decode cX8_judgeRun 69 = .ok (.aaload, 1) := by decide +kernel
theorem dX8_judgeRun_70 : decode cX8_judgeRun 70 = .ok (.getfield 99, 3) := by decide +kernel
theorem dX8_judgeRun_73 : decode cX8_judgeRun 73 = .ok (.aload_n 0, 1) := by decide +kernel
theorem dX8_judgeRun_74 : decode cX8_judgeRun 74 = .ok (.getfield 11, 3) := by decide +kernel
theorem dX8_judgeRun_77 : decode cX8_judgeRun 77 = .ok (.iload_n 3, 1) := by decide +kernel
theorem dX8_judgeRun_78 : decode cX8_judgeRun 78 = .ok (.aaload, 1) := by decide +kernel
theorem dX8_judgeRun_79 : decode cX8_judgeRun 79 = .ok (.getfield 99, 3) := by decide +kernel
theorem dX8_judgeRun_82 : decode cX8_judgeRun 82 = .ok (.if_icmp .eq 9, 3) := by decide +kernel
theorem dX8_judgeRun_85 : decode cX8_judgeRun 85 = .ok (.aload_n 0, 1) := by decide +kernel
theorem dX8_judgeRun_86 : decode cX8_judgeRun 86 = .ok (.iconst 5, 1) := by decide +kernel
theorem dX8_judgeRun_87 : decode cX8_judgeRun 87 = .ok (.invokevirtual 66, 3) := by decide +kernel
theorem dX8_judgeRun_90 : decode cX8_judgeRun 90 = .ok (.ireturn, 1) := by decide +kernel
theorem dX8_judgeRun_91 : decode cX8_judgeRun 91 = .ok (.aload_n 0, 1) := by decide +kernel
theorem dX8_judgeRun_92 : decode cX8_judgeRun 92 = .ok (.getfield 18, 3) := by decide +kernel
theorem dX8_judgeRun_95 : decode cX8_judgeRun 95 = .ok (.getfield 116, 3) := by decide +kernel
theorem dX8_judgeRun_98 : decode cX8_judgeRun 98 = .ok (.iload_n 1, 1) := by decide +kernel
theorem dX8_judgeRun_99 : decode cX8_judgeRun 99 = .ok (.aaload, 1) := by decide +kernel
theorem dX8_judgeRun_100 : decode cX8_judgeRun 100 = .ok (.getfield 125, 3) := by decide +kernel
theorem dX8_judgeRun_103 : decode cX8_judgeRun 103 = .ok (.ifCond .ne 51, 3) := by decide +kernel
theorem dX8_judgeRun_106 : decode cX8_judgeRun 106 = .ok (.aload_n 0, 1) := by decide +kernel
theorem dX8_judgeRun_107 : decode cX8_judgeRun 107 = .ok (.getfield 11, 3) := by decide +kernel
theorem dX8_judgeRun_110 : decode cX8_judgeRun 110 = .ok (.iload_n 2, 1) := by decide +kernel
theorem dX8_judgeRun_111 : decode cX8_judgeRun 111 = .ok (.aaload, 1) := by decide +kernel
theorem dX8_judgeRun_112 : decode cX8_judgeRun 112 = .ok (.iconst 0, 1) := by decide +kernel
theorem dX8_judgeRun_113 : decode cX8_judgeRun 113 = .ok (.ldc_w 316, 3) := by decide +kernel
theorem dX8_judgeRun_116 : decode cX8_judgeRun 116 = .ok (.invokevirtual 278, 3) := by decide +kernel
theorem dX8_judgeRun_119 : decode cX8_judgeRun 119 = .ok (.ifCond .eq 35, 3) := by decide +kernel
theorem dX8_judgeRun_122 : decode cX8_judgeRun 122 = .ok (.aload_n 0, 1) := by decide +kernel
theorem dX8_judgeRun_123 : decode cX8_judgeRun 123 = .ok (.getfield 11, 3) := by decide +kernel
theorem dX8_judgeRun_126 : decode cX8_judgeRun 126 = .ok (.iload_n 2, 1) := by decide +kernel
theorem dX8_judgeRun_127 : decode cX8_judgeRun 127 = .ok (.aaload, 1) := by decide +kernel
theorem dX8_judgeRun_128 : decode cX8_judgeRun 128 = .ok (.invokevirtual 317, 3) := by decide +kernel
theorem dX8_judgeRun_131 : decode cX8_judgeRun 131 = .ok (.ifCond .eq 23, 3) := by decide +kernel
theorem dX8_judgeRun_134 : decode cX8_judgeRun 134 = .ok (.aload_n 0, 1) := by decide +kernel
theorem dX8_judgeRun_135 : decode cX8_judgeRun 135 = .ok (.getfield 11, 3) := by decide +kernel
theorem dX8_judgeRun_138 : decode cX8_judgeRun 138 = .ok (.iload_n 3, 1) := by decide +kernel
theorem dX8_judgeRun_139 : decode cX8_judgeRun 139 = .ok (.aaload, 1) := by decide +kernel
theorem dX8_judgeRun_140 : decode cX8_judgeRun 140 = .ok (.iconst 1, 1) := by decide +kernel
theorem dX8_judgeRun_141 : decode cX8_judgeRun 141 = .ok (.sipush 1000, 3) := by decide +kernel
theorem dX8_judgeRun_144 : decode cX8_judgeRun 144 = .ok (.invokevirtual 278, 3) := by decide +kernel
theorem dX8_judgeRun_147 : decode cX8_judgeRun 147 = .ok (.ifCond .eq 7, 3) := by decide +kernel
theorem dX8_judgeRun_150 : decode cX8_judgeRun 150 = .ok (.iconst 1, 1) := by decide +kernel
theorem dX8_judgeRun_151 : decode cX8_judgeRun 151 = .ok (.goto 4, 3) := by decide +kernel
theorem dX8_judgeRun_154 : decode cX8_judgeRun 154 = .ok (.iconst 0, 1) := by decide +kernel
theorem dX8_judgeRun_155 : decode cX8_judgeRun 155 = .ok (.istore 4, 2) := by decide +kernel
theorem dX8_judgeRun_157 : decode cX8_judgeRun 157 = .ok (.iload 4, 2) := by decide +kernel
theorem dX8_judgeRun_159 : decode cX8_judgeRun 159 = .ok (.ifCond .eq 7, 3) := by decide +kernel
theorem dX8_judgeRun_162 : decode cX8_judgeRun 162 = .ok (.iconst 0, 1) := by decide +kernel
theorem dX8_judgeRun_163 : decode cX8_judgeRun 163 = .ok (.goto 8, 3) := by decide +kernel
theorem dX8_judgeRun_166 : decode cX8_judgeRun 166 = .ok (.aload_n 0, 1) := by decide +kernel
theorem dX8_judgeRun_167 : decode cX8_judgeRun 167 = .ok (.iconst 3, 1) := by decide +kernel
theorem dX8_judgeRun_168 : decode cX8_judgeRun 168 = .ok (.invokevirtual 66, 3) := by decide +kernel
theorem dX8_judgeRun_171 : decode cX8_judgeRun 171 = .ok (.ireturn, 1) := by decide +kernel
theorem cv_X8_judgeRun : wn_cV yX8_judgeRun cX8_judgeRun 5 (some .int) RX8 3 := ⟨wm_568, wm_570, wm_571, wm_377, by decide +kernel⟩
abbrev rm_X8_judgeRun : Room := rmz 3 65
set_option maxHeartbeats 4000000 in
set_option maxRecDepth 100000 in
theorem c_X8_judgeRun {ad : Nat → Nat} {o : Nat} {x1 : Int32} {x2 : Int32} {x3 : Int32} {M : Mm} {q : Int32 × Mm} (ho : shp o = 8) (hF : f_X8_judgeRun o x1 x2 x3 M = some q) : KI ad yX8_judgeRun cX8_judgeRun 5 (some .int) rm_X8_judgeRun [.ref (ad o), .int x1, .int x2, .int x3] M q.1 q.2 := by
  refine wn_enterI (own := RX8) (by decide) rfl (Nat.le_of_ble_eq_true rfl) (fun X ls Z hQ hl => ?_)
  have hl : lv_has ls 5 [(0, .ref (ad o)), (1, .int x1), (2, .int x2), (3, .int x3)] := hl
  have L58 : ∀ (M : Mm) (ls : Array Slot), lv_has ls 5 [(0, .ref (ad o))] → f_X8_judgeRun_b58 o M = some q → G ad X M 58 ls [] := by
    intro M ls hl hF
    unfold f_X8_judgeRun_b58 at hF
    refine r_aload_n Z dX8_judgeRun_58 rfl (lv_at hl 0 rfl) ?_
    refine r_iconst (v := 1) Z dX8_judgeRun_59 (by decide) ?_
    obtain ⟨q1, hq1, hF⟩ := bd_some hF
    refine r_invVi [] Z (c_X8_refuse ho hq1) cv_X8_refuse rfl (shp_lt ho (by decide)) (fun _ _ => ⟨_, ce_8 ho⟩) wm_378 rfl rfl ⟨Nat.le_of_ble_eq_true rfl, Nat.le_of_ble_eq_true rfl⟩ rfl hl.1 rfl (Nat.le_of_ble_eq_true rfl) dX8_judgeRun_60 ?_
    exact r_iret Z hQ hF dX8_judgeRun_63
  have L155 : ∀ (s0 : Int32) (M : Mm) (ls : Array Slot), lv_has ls 5 [(0, .ref (ad o))] → f_X8_judgeRun_b155 o s0 M = some q → G ad X M 155 ls [.int s0] := by
    intro s0 M ls hl hF
    unfold f_X8_judgeRun_b155 at hF
    refine r_istore Z [(4, .int s0), (0, .ref (ad o))] dX8_judgeRun_155 hl (by decide) rfl (fun ls hl => ?_)
    refine r_iload Z dX8_judgeRun_157 (lv_at hl 0 rfl) ?_
    refine r_if_eq Z 166 dX8_judgeRun_159 (by decide) (fun hc2 => ?_) (fun hc2 => ?_)
    · replace hF := if_some hc2 hF
      refine r_aload_n Z dX8_judgeRun_166 rfl (lv_at hl 1 rfl) ?_
      refine r_iconst (v := 3) Z dX8_judgeRun_167 (by decide) ?_
      obtain ⟨q3, hq3, hF⟩ := bd_some hF
      refine r_invVi [] Z (c_X8_refuse ho hq3) cv_X8_refuse rfl (shp_lt ho (by decide)) (fun _ _ => ⟨_, ce_8 ho⟩) wm_378 rfl rfl ⟨Nat.le_of_ble_eq_true rfl, Nat.le_of_ble_eq_true rfl⟩ rfl hl.1 rfl (Nat.le_of_ble_eq_true rfl) dX8_judgeRun_168 ?_
      exact r_iret Z hQ hF dX8_judgeRun_171
    · replace hF := nif_some hc2 hF
      refine r_iconst (v := 0) Z dX8_judgeRun_162 (by decide) ?_
      refine r_goto Z 171 dX8_judgeRun_163 (by decide) ?_
      exact r_iret Z hQ hF dX8_judgeRun_171
  have L154 : ∀ (M : Mm) (ls : Array Slot), lv_has ls 5 [(0, .ref (ad o))] → f_X8_judgeRun_b154 o M = some q → G ad X M 154 ls [] := by
    intro M ls hl hF
    unfold f_X8_judgeRun_b154 at hF
    refine r_iconst (v := 0) Z dX8_judgeRun_154 (by decide) ?_
    exact L155 0 M ls (lv_sub hl [0] rfl) hF
  unfold f_X8_judgeRun at hF
  refine r_iload_n Z dX8_judgeRun_0 rfl (lv_at hl 1 rfl) ?_
  obtain ⟨q4, hq4, hF⟩ := bd_some hF
  refine r_invSi [] Z (c_X8_isCounterNumber hq4) cv_X8_isCounterNumber wm_409 rfl rfl ⟨Nat.le_of_ble_eq_true rfl, Nat.le_of_ble_eq_true rfl⟩ rfl hl.1 rfl (Nat.le_of_ble_eq_true rfl) dX8_judgeRun_1 ?_
  refine r_if_eq Z 21 dX8_judgeRun_4 (by decide) (fun hc5 => ?_) (fun hc5 => ?_)
  · replace hF := if_some hc5 hF
    refine r_iconst (v := (-1)) Z dX8_judgeRun_21 (by decide) ?_
    exact r_iret Z hQ hF dX8_judgeRun_22
  · replace hF := nif_some hc5 hF
    refine r_iload_n Z dX8_judgeRun_7 rfl (lv_at hl 2 rfl) ?_
    obtain ⟨q6, hq6, hF⟩ := bd_some hF
    refine r_invSi [] Z (c_X8_isRowNumber hq6) cv_X8_isRowNumber wm_375 rfl rfl ⟨Nat.le_of_ble_eq_true rfl, Nat.le_of_ble_eq_true rfl⟩ rfl hl.1 rfl (Nat.le_of_ble_eq_true rfl) dX8_judgeRun_8 ?_
    refine r_if_eq Z 21 dX8_judgeRun_11 (by decide) (fun hc7 => ?_) (fun hc7 => ?_)
    · replace hF := if_some hc7 hF
      refine r_iconst (v := (-1)) Z dX8_judgeRun_21 (by decide) ?_
      exact r_iret Z hQ hF dX8_judgeRun_22
    · replace hF := nif_some hc7 hF
      refine r_iload_n Z dX8_judgeRun_14 rfl (lv_at hl 3 rfl) ?_
      obtain ⟨q8, hq8, hF⟩ := bd_some hF
      refine r_invSi [] Z (c_X8_isRowNumber hq8) cv_X8_isRowNumber wm_375 rfl rfl ⟨Nat.le_of_ble_eq_true rfl, Nat.le_of_ble_eq_true rfl⟩ rfl hl.1 rfl (Nat.le_of_ble_eq_true rfl) dX8_judgeRun_15 ?_
      refine r_if_ne Z 23 dX8_judgeRun_18 (by decide) (fun hc9 => ?_) (fun hc9 => ?_)
      · replace hF := nif_some hc9 hF
        refine r_aload_n Z dX8_judgeRun_23 rfl (lv_at hl 0 rfl) ?_
        refine g_8_1 Z ho wm_351 dX8_judgeRun_24 ?_
        refine r_iload_n Z dX8_judgeRun_27 rfl (lv_at hl 1 rfl) ?_
        obtain ⟨q10, hq10, hF⟩ := bd_some hF
        refine r_invVi [] Z (c_X4_has (sh_8_1 ho) hq10) cv_X4_has rfl (shp_lt (sh_8_1 ho) (by decide)) (fun _ _ => ⟨_, ce_4 (sh_8_1 ho)⟩) wm_411 rfl rfl ⟨Nat.le_of_ble_eq_true rfl, Nat.le_of_ble_eq_true rfl⟩ rfl hl.1 rfl (Nat.le_of_ble_eq_true rfl) dX8_judgeRun_28 ?_
        refine r_if_eq Z 58 dX8_judgeRun_31 (by decide) (fun hc11 => ?_) (fun hc11 => ?_)
        · replace hF := if_some hc11 hF
          exact L58 q10.2 ls (lv_sub hl [0] rfl) hF
        · replace hF := nif_some hc11 hF
          refine r_aload_n Z dX8_judgeRun_34 rfl (lv_at hl 0 rfl) ?_
          refine g_8_0 Z ho wm_348 dX8_judgeRun_35 ?_
          refine r_iload_n Z dX8_judgeRun_38 rfl (lv_at hl 2 rfl) ?_
          obtain ⟨hi12, hF⟩ := ck_some hF
          refine r_aald14 Z (sh_8_0 ho) hi12 dX8_judgeRun_39 ?_
          obtain ⟨q13, hq13, hF⟩ := bd_some hF
          refine r_invVi [] Z (c_X6_isThere (se_14 (sh_8_0 ho) hi12) hq13) cv_X6_isThere rfl (shp_lt (se_14 (sh_8_0 ho) hi12) (by decide)) (fun _ _ => ⟨_, ce_6 (se_14 (sh_8_0 ho) hi12)⟩) wm_385 rfl rfl ⟨Nat.le_of_ble_eq_true rfl, Nat.le_of_ble_eq_true rfl⟩ rfl hl.1 rfl (Nat.le_of_ble_eq_true rfl) dX8_judgeRun_40 ?_
          refine r_if_eq Z 58 dX8_judgeRun_43 (by decide) (fun hc14 => ?_) (fun hc14 => ?_)
          · replace hF := if_some hc14 hF
            exact L58 q13.2 ls (lv_sub hl [0] rfl) hF
          · replace hF := nif_some hc14 hF
            refine r_aload_n Z dX8_judgeRun_46 rfl (lv_at hl 0 rfl) ?_
            refine g_8_0 Z ho wm_348 dX8_judgeRun_47 ?_
            refine r_iload_n Z dX8_judgeRun_50 rfl (lv_at hl 3 rfl) ?_
            obtain ⟨hi15, hF⟩ := ck_some hF
            refine r_aald14 Z (sh_8_0 ho) hi15 dX8_judgeRun_51 ?_
            obtain ⟨q16, hq16, hF⟩ := bd_some hF
            refine r_invVi [] Z (c_X6_isThere (se_14 (sh_8_0 ho) hi15) hq16) cv_X6_isThere rfl (shp_lt (se_14 (sh_8_0 ho) hi15) (by decide)) (fun _ _ => ⟨_, ce_6 (se_14 (sh_8_0 ho) hi15)⟩) wm_385 rfl rfl ⟨Nat.le_of_ble_eq_true rfl, Nat.le_of_ble_eq_true rfl⟩ rfl hl.1 rfl (Nat.le_of_ble_eq_true rfl) dX8_judgeRun_52 ?_
            refine r_if_ne Z 64 dX8_judgeRun_55 (by decide) (fun hc17 => ?_) (fun hc17 => ?_)
            · replace hF := nif_some hc17 hF
              refine r_aload_n Z dX8_judgeRun_64 rfl (lv_at hl 0 rfl) ?_
              refine g_8_0 Z ho wm_348 dX8_judgeRun_65 ?_
              refine r_iload_n Z dX8_judgeRun_68 rfl (lv_at hl 2 rfl) ?_
              obtain ⟨hi18, hF⟩ := ck_some hF
              refine r_aald14 Z (sh_8_0 ho) hi18 dX8_judgeRun_69 ?_
              refine g_6_1 Z (se_14 (sh_8_0 ho) hi18) wm_403 dX8_judgeRun_70 ?_
              refine r_aload_n Z dX8_judgeRun_73 rfl (lv_at hl 0 rfl) ?_
              refine g_8_0 Z ho wm_348 dX8_judgeRun_74 ?_
              refine r_iload_n Z dX8_judgeRun_77 rfl (lv_at hl 3 rfl) ?_
              obtain ⟨hi19, hF⟩ := ck_some hF
              refine r_aald14 Z (sh_8_0 ho) hi19 dX8_judgeRun_78 ?_
              refine g_6_1 Z (se_14 (sh_8_0 ho) hi19) wm_403 dX8_judgeRun_79 ?_
              refine r_icmp_eq Z 91 dX8_judgeRun_82 (by decide) (fun hc20 => ?_) (fun hc20 => ?_)
              · replace hF := if_some hc20 hF
                refine r_aload_n Z dX8_judgeRun_91 rfl (lv_at hl 0 rfl) ?_
                refine g_8_1 Z ho wm_351 dX8_judgeRun_92 ?_
                refine g_4_0 Z (sh_8_1 ho) wm_418 dX8_judgeRun_95 ?_
                refine r_iload_n Z dX8_judgeRun_98 rfl (lv_at hl 1 rfl) ?_
                obtain ⟨hi21, hF⟩ := ck_some hF
                refine r_aald13 Z (sh_4_0 (sh_8_1 ho)) hi21 dX8_judgeRun_99 ?_
                refine g_1_1 Z (se_13 (sh_4_0 (sh_8_1 ho)) hi21) wm_423 dX8_judgeRun_100 ?_
                refine r_if_ne Z 154 dX8_judgeRun_103 (by decide) (fun hc22 => ?_) (fun hc22 => ?_)
                · replace hF := nif_some hc22 hF
                  exact L154 q16.2 ls (lv_sub hl [0] rfl) hF
                · replace hF := if_some hc22 hF
                  refine r_aload_n Z dX8_judgeRun_106 rfl (lv_at hl 0 rfl) ?_
                  refine g_8_0 Z ho wm_348 dX8_judgeRun_107 ?_
                  refine r_iload_n Z dX8_judgeRun_110 rfl (lv_at hl 2 rfl) ?_
                  obtain ⟨hi23, hF⟩ := ck_some hF
                  refine r_aald14 Z (sh_8_0 ho) hi23 dX8_judgeRun_111 ?_
                  refine r_iconst (v := 0) Z dX8_judgeRun_112 (by decide) ?_
                  refine r_ldcw Z wm_564 dX8_judgeRun_113 ?_
                  obtain ⟨q24, hq24, hF⟩ := bd_some hF
                  refine r_invVi [] Z (c_X6_isWithin (se_14 (sh_8_0 ho) hi23) hq24) cv_X6_isWithin rfl (shp_lt (se_14 (sh_8_0 ho) hi23) (by decide)) (fun _ _ => ⟨_, ce_6 (se_14 (sh_8_0 ho) hi23)⟩) wm_557 rfl rfl ⟨Nat.le_of_ble_eq_true rfl, Nat.le_of_ble_eq_true rfl⟩ rfl hl.1 rfl (Nat.le_of_ble_eq_true rfl) dX8_judgeRun_116 ?_
                  refine r_if_eq Z 154 dX8_judgeRun_119 (by decide) (fun hc25 => ?_) (fun hc25 => ?_)
                  · replace hF := if_some hc25 hF
                    exact L154 q24.2 ls (lv_sub hl [0] rfl) hF
                  · replace hF := nif_some hc25 hF
                    refine r_aload_n Z dX8_judgeRun_122 rfl (lv_at hl 0 rfl) ?_
                    refine g_8_0 Z ho wm_348 dX8_judgeRun_123 ?_
                    refine r_iload_n Z dX8_judgeRun_126 rfl (lv_at hl 2 rfl) ?_
                    obtain ⟨hi26, hF⟩ := ck_some hF
                    refine r_aald14 Z (sh_8_0 ho) hi26 dX8_judgeRun_127 ?_
                    obtain ⟨q27, hq27, hF⟩ := bd_some hF
                    refine r_invVi [] Z (c_X6_isRising (se_14 (sh_8_0 ho) hi26) hq27) cv_X6_isRising rfl (shp_lt (se_14 (sh_8_0 ho) hi26) (by decide)) (fun _ _ => ⟨_, ce_6 (se_14 (sh_8_0 ho) hi26)⟩) wm_565 rfl rfl ⟨Nat.le_of_ble_eq_true rfl, Nat.le_of_ble_eq_true rfl⟩ rfl hl.1 rfl (Nat.le_of_ble_eq_true rfl) dX8_judgeRun_128 ?_
                    refine r_if_eq Z 154 dX8_judgeRun_131 (by decide) (fun hc28 => ?_) (fun hc28 => ?_)
                    · replace hF := if_some hc28 hF
                      exact L154 q27.2 ls (lv_sub hl [0] rfl) hF
                    · replace hF := nif_some hc28 hF
                      refine r_aload_n Z dX8_judgeRun_134 rfl (lv_at hl 0 rfl) ?_
                      refine g_8_0 Z ho wm_348 dX8_judgeRun_135 ?_
                      refine r_iload_n Z dX8_judgeRun_138 rfl (lv_at hl 3 rfl) ?_
                      obtain ⟨hi29, hF⟩ := ck_some hF
                      refine r_aald14 Z (sh_8_0 ho) hi29 dX8_judgeRun_139 ?_
                      refine r_iconst (v := 1) Z dX8_judgeRun_140 (by decide) ?_
                      refine r_sipush (v := 1000) Z dX8_judgeRun_141 (by decide) ?_
                      obtain ⟨q30, hq30, hF⟩ := bd_some hF
                      refine r_invVi [] Z (c_X6_isWithin (se_14 (sh_8_0 ho) hi29) hq30) cv_X6_isWithin rfl (shp_lt (se_14 (sh_8_0 ho) hi29) (by decide)) (fun _ _ => ⟨_, ce_6 (se_14 (sh_8_0 ho) hi29)⟩) wm_557 rfl rfl ⟨Nat.le_of_ble_eq_true rfl, Nat.le_of_ble_eq_true rfl⟩ rfl hl.1 rfl (Nat.le_of_ble_eq_true rfl) dX8_judgeRun_144 ?_
                      refine r_if_eq Z 154 dX8_judgeRun_147 (by decide) (fun hc31 => ?_) (fun hc31 => ?_)
                      · replace hF := if_some hc31 hF
                        exact L154 q30.2 ls (lv_sub hl [0] rfl) hF
                      · replace hF := nif_some hc31 hF
                        refine r_iconst (v := 1) Z dX8_judgeRun_150 (by decide) ?_
                        refine r_goto Z 155 dX8_judgeRun_151 (by decide) ?_
                        exact L155 1 q30.2 ls (lv_sub hl [0] rfl) hF
              · replace hF := nif_some hc20 hF
                refine r_aload_n Z dX8_judgeRun_85 rfl (lv_at hl 0 rfl) ?_
                refine r_iconst (v := 5) Z dX8_judgeRun_86 (by decide) ?_
                obtain ⟨q32, hq32, hF⟩ := bd_some hF
                refine r_invVi [] Z (c_X8_refuse ho hq32) cv_X8_refuse rfl (shp_lt ho (by decide)) (fun _ _ => ⟨_, ce_8 ho⟩) wm_378 rfl rfl ⟨Nat.le_of_ble_eq_true rfl, Nat.le_of_ble_eq_true rfl⟩ rfl hl.1 rfl (Nat.le_of_ble_eq_true rfl) dX8_judgeRun_87 ?_
                exact r_iret Z hQ hF dX8_judgeRun_90
            · replace hF := if_some hc17 hF
              exact L58 q16.2 ls (lv_sub hl [0] rfl) hF
      · replace hF := if_some hc9 hF
        refine r_iconst (v := (-1)) Z dX8_judgeRun_21 (by decide) ?_
        exact r_iret Z hQ hF dX8_judgeRun_22
theorem dX8_kept_0 : decode cX8_kept 0 = .ok (.aload_n 0, 1) := by decide +kernel
theorem dX8_kept_1 : decode cX8_kept 1 = .ok (.getfield 18, 3) := by decide +kernel
theorem dX8_kept_4 : decode cX8_kept 4 = .ok (.invokevirtual 159, 3) := by decide +kernel
theorem dX8_kept_7 : decode cX8_kept 7 = .ok (.ireturn, 1) := by decide +kernel
theorem cv_X8_kept : wn_cV yX8_kept cX8_kept 1 (some .int) RX8 0 := ⟨wm_448, wm_949, wm_950, wm_377, by decide +kernel⟩
abbrev rm_X8_kept : Room := rmz 4 87
set_option maxHeartbeats 4000000 in
set_option maxRecDepth 100000 in
theorem c_X8_kept {ad : Nat → Nat} {o : Nat} {M : Mm} {q : Int32 × Mm} (ho : shp o = 8) (hF : f_X8_kept o M = some q) : KI ad yX8_kept cX8_kept 1 (some .int) rm_X8_kept [.ref (ad o)] M q.1 q.2 := by
  refine wn_enterI (own := RX8) (by decide) rfl (Nat.le_of_ble_eq_true rfl) (fun X ls Z hQ hl => ?_)
  have hl : lv_has ls 1 [(0, .ref (ad o))] := hl
  unfold f_X8_kept at hF
  refine r_aload_n Z dX8_kept_0 rfl (lv_at hl 0 rfl) ?_
  refine g_8_1 Z ho wm_351 dX8_kept_1 ?_
  obtain ⟨q1, hq1, hF⟩ := bd_some hF
  refine r_invVi [] Z (c_X4_keptBits (sh_8_1 ho) hq1) cv_X4_keptBits rfl (shp_lt (sh_8_1 ho) (by decide)) (fun _ _ => ⟨_, ce_4 (sh_8_1 ho)⟩) wm_445 rfl rfl ⟨Nat.le_of_ble_eq_true rfl, Nat.le_of_ble_eq_true rfl⟩ rfl hl.1 rfl (Nat.le_of_ble_eq_true rfl) dX8_kept_4 ?_
  exact r_iret Z hQ hF dX8_kept_7
theorem dX8_lasting_0 : decode cX8_lasting 0 = .ok (.aload_n 0, 1) := by decide +kernel
theorem dX8_lasting_1 : decode cX8_lasting 1 = .ok (.iload_n 1, 1) := by decide +kernel
theorem dX8_lasting_2 : decode cX8_lasting 2 = .ok (.invokevirtual 255, 3) := by decide +kernel
theorem dX8_lasting_5 : decode cX8_lasting 5 = .ok (.istore_n 3, 1) := by decide +kernel
theorem dX8_lasting_6 : decode cX8_lasting 6 = .ok (.iload_n 3, 1) := by decide +kernel
theorem dX8_lasting_7 : decode cX8_lasting 7 = .ok (.ifCond .eq 5, 3) := by decide +kernel
theorem dX8_lasting_10 : decode cX8_lasting 10 = .ok (.iload_n 3, 1) := by decide +kernel
theorem dX8_lasting_11 : decode cX8_lasting 11 = .ok (.ireturn, 1) := by decide +kernel
theorem dX8_lasting_12 : decode cX8_lasting 12 = .ok (.aload_n 0, 1) := by decide +kernel
theorem dX8_lasting_13 : decode cX8_lasting 13 = .ok (.getfield 32, 3) := by decide +kernel
theorem dX8_lasting_16 : decode cX8_lasting 16 = .ok (.aload_n 0, 1) := by decide +kernel
theorem dX8_lasting_17 : decode cX8_lasting 17 = .ok (.getfield 11, 3) := by decide +kernel
theorem dX8_lasting_20 : decode cX8_lasting 20 = .ok (.iload_n 1, 1) := by decide +kernel
theorem dX8_lasting_21 : decode cX8_lasting 21 = .ok (.aaload, 1) := by decide +kernel
theorem dX8_lasting_22 : decode cX8_lasting 22 = .ok (.invokevirtual 258, 3) := by decide +kernel
theorem dX8_lasting_25 : decode cX8_lasting 25 = .ok (.iload_n 2, 1) := by decide +kernel
theorem dX8_lasting_26 : decode cX8_lasting 26 = .ok (.ifCond .lt 14, 3) := by decide +kernel
theorem dX8_lasting_29 : decode cX8_lasting 29 = .ok (.iload_n 2, 1) := by decide +kernel
theorem dX8_lasting_30 : decode cX8_lasting 30 = .ok (.aload_n 0, 1) := by decide +kernel
theorem dX8_lasting_31 : decode cX8_lasting 31 = .ok (.getfield 32, 3) := by decide +kernel
theorem dX8_lasting_34 : decode cX8_lasting 34 = .ok (.getfield 261, 3) := by decide +kernel
theorem dX8_lasting_37 : decode cX8_lasting 37 = .ok (.if_icmp .lt 9, 3) := by decide +kernel
theorem dX8_lasting_40 : decode cX8_lasting 40 = .ok (.aload_n 0, 1) := by decide +kernel
theorem dX8_lasting_41 : decode cX8_lasting 41 = .ok (.iconst 2, 1) := by decide +kernel
theorem dX8_lasting_42 : decode cX8_lasting 42 = .ok (.invokevirtual 66, 3) := by decide +kernel
theorem dX8_lasting_45 : decode cX8_lasting 45 = .ok (.ireturn, 1) := by decide +kernel
theorem dX8_lasting_46 : decode cX8_lasting 46 = .ok (.aload_n 0, 1) := by decide +kernel
theorem dX8_lasting_47 : decode cX8_lasting 47 = .ok (.getfield 32, 3) := by decide +kernel
theorem dX8_lasting_50 : decode cX8_lasting 50 = .ok (.invokevirtual 262, 3) := by decide +kernel
theorem dX8_lasting_53 : decode cX8_lasting 53 = .ok (.iconst 1, 1) := by decide +kernel
theorem dX8_lasting_54 : decode cX8_lasting 54 = .ok (.if_icmp .eq 6, 3) := by decide +kernel
theorem dX8_lasting_57 : decode cX8_lasting 57 = .ok (.bipush (-4), 2) := by decide +kernel
theorem dX8_lasting_59 : decode cX8_lasting 59 = .ok (.ireturn, 1) := by decide +kernel
theorem dX8_lasting_60 : decode cX8_lasting 60 = .ok (.aload_n 0, 1) := by decide +kernel
theorem dX8_lasting_61 : decode cX8_lasting 61 = .ok (.getfield 32, 3) := by decide +kernel
theorem dX8_lasting_64 : decode cX8_lasting 64 = .ok (.iload_n 2, 1) := by decide +kernel
theorem dX8_lasting_65 : decode cX8_lasting 65 = .ok (.aload_n 0, 1) := by decide +kernel
theorem dX8_lasting_66 : decode cX8_lasting 66 = .ok (.getfield 46, 3) := by decide +kernel
theorem dX8_lasting_69 : decode cX8_lasting 69 = .ok (.invokevirtual 265, 3) := by decide +kernel
theorem dX8_lasting_72 : decode cX8_lasting 72 = .ok (.iconst 1, 1) := by decide +kernel
theorem dX8_lasting_73 : decode cX8_lasting 73 = .ok (.ireturn, 1) := by decide +kernel
theorem cv_X8_lasting : wn_cV yX8_lasting cX8_lasting 4 (some .int) RX8 2 := ⟨wm_553, wm_1045, wm_1046, wm_377, by decide +kernel⟩
abbrev rm_X8_lasting : Room := rmz 4 105
set_option maxHeartbeats 4000000 in
set_option maxRecDepth 100000 in
theorem c_X8_lasting {ad : Nat → Nat} {o : Nat} {x1 : Int32} {x2 : Int32} {M : Mm} {q : Int32 × Mm} (ho : shp o = 8) (hF : f_X8_lasting o x1 x2 M = some q) : KI ad yX8_lasting cX8_lasting 4 (some .int) rm_X8_lasting [.ref (ad o), .int x1, .int x2] M q.1 q.2 := by
  refine wn_enterI (own := RX8) (by decide) rfl (Nat.le_of_ble_eq_true rfl) (fun X ls Z hQ hl => ?_)
  have hl : lv_has ls 4 [(0, .ref (ad o)), (1, .int x1), (2, .int x2)] := hl
  have L40 : ∀ (M : Mm) (ls : Array Slot), lv_has ls 4 [(0, .ref (ad o))] → f_X8_lasting_b40 o M = some q → G ad X M 40 ls [] := by
    intro M ls hl hF
    unfold f_X8_lasting_b40 at hF
    refine r_aload_n Z dX8_lasting_40 rfl (lv_at hl 0 rfl) ?_
    refine r_iconst (v := 2) Z dX8_lasting_41 (by decide) ?_
    obtain ⟨q1, hq1, hF⟩ := bd_some hF
    refine r_invVi [] Z (c_X8_refuse ho hq1) cv_X8_refuse rfl (shp_lt ho (by decide)) (fun _ _ => ⟨_, ce_8 ho⟩) wm_378 rfl rfl ⟨Nat.le_of_ble_eq_true rfl, Nat.le_of_ble_eq_true rfl⟩ rfl hl.1 rfl (Nat.le_of_ble_eq_true rfl) dX8_lasting_42 ?_
    exact r_iret Z hQ hF dX8_lasting_45
  unfold f_X8_lasting at hF
  refine r_aload_n Z dX8_lasting_0 rfl (lv_at hl 0 rfl) ?_
  refine r_iload_n Z dX8_lasting_1 rfl (lv_at hl 1 rfl) ?_
  obtain ⟨q2, hq2, hF⟩ := bd_some hF
  refine r_invVi [] Z (c_X8_judgeChain ho hq2) cv_X8_judgeChain rfl (shp_lt ho (by decide)) (fun _ _ => ⟨_, ce_8 ho⟩) wm_541 rfl rfl ⟨Nat.le_of_ble_eq_true rfl, Nat.le_of_ble_eq_true rfl⟩ rfl hl.1 rfl (Nat.le_of_ble_eq_true rfl) dX8_lasting_2 ?_
  refine r_istore_n Z [(3, .int q2.1), (0, .ref (ad o)), (1, .int x1), (2, .int x2)] dX8_lasting_5 rfl hl (by decide) rfl (fun ls hl => ?_)
  refine r_iload_n Z dX8_lasting_6 rfl (lv_at hl 0 rfl) ?_
  refine r_if_eq Z 12 dX8_lasting_7 (by decide) (fun hc3 => ?_) (fun hc3 => ?_)
  · replace hF := if_some hc3 hF
    refine r_aload_n Z dX8_lasting_12 rfl (lv_at hl 1 rfl) ?_
    refine g_8_3 Z ho wm_356 dX8_lasting_13 ?_
    refine r_aload_n Z dX8_lasting_16 rfl (lv_at hl 1 rfl) ?_
    refine g_8_0 Z ho wm_348 dX8_lasting_17 ?_
    refine r_iload_n Z dX8_lasting_20 rfl (lv_at hl 2 rfl) ?_
    obtain ⟨hi4, hF⟩ := ck_some hF
    refine r_aald14 Z (sh_8_0 ho) hi4 dX8_lasting_21 ?_
    obtain ⟨M5, hM5, hF⟩ := bd_some hF
    refine r_invVv [] Z (c_X0_load (sh_8_3 ho) (se_14 (sh_8_0 ho) hi4) hM5) cv_X0_load rfl (shp_lt (sh_8_3 ho) (by decide)) (fun _ _ => ⟨_, ce_0 (sh_8_3 ho)⟩) wm_544 rfl rfl ⟨Nat.le_of_ble_eq_true rfl, Nat.le_of_ble_eq_true rfl⟩ rfl hl.1 rfl (Nat.le_of_ble_eq_true rfl) dX8_lasting_22 ?_
    refine r_iload_n Z dX8_lasting_25 rfl (lv_at hl 3 rfl) ?_
    refine r_if_lt Z 40 dX8_lasting_26 (by decide) (fun hc6 => ?_) (fun hc6 => ?_)
    · replace hF := if_some hc6 hF
      exact L40 M5 ls (lv_sub hl [1] rfl) hF
    · replace hF := nif_some hc6 hF
      refine r_iload_n Z dX8_lasting_29 rfl (lv_at hl 3 rfl) ?_
      refine r_aload_n Z dX8_lasting_30 rfl (lv_at hl 1 rfl) ?_
      refine g_8_3 Z ho wm_356 dX8_lasting_31 ?_
      refine g_0_3 Z (sh_8_3 ho) wm_540 dX8_lasting_34 ?_
      refine r_icmp_lt Z 46 dX8_lasting_37 (by decide) (fun hc7 => ?_) (fun hc7 => ?_)
      · replace hF := if_some hc7 hF
        refine r_aload_n Z dX8_lasting_46 rfl (lv_at hl 1 rfl) ?_
        refine g_8_3 Z ho wm_356 dX8_lasting_47 ?_
        obtain ⟨q8, hq8, hF⟩ := bd_some hF
        refine r_invVi [] Z (c_X0_partsThere (sh_8_3 ho) hq8) cv_X0_partsThere rfl (shp_lt (sh_8_3 ho) (by decide)) (fun _ _ => ⟨_, ce_0 (sh_8_3 ho)⟩) wm_547 rfl rfl ⟨Nat.le_of_ble_eq_true rfl, Nat.le_of_ble_eq_true rfl⟩ rfl hl.1 rfl (Nat.le_of_ble_eq_true rfl) dX8_lasting_50 ?_
        refine r_iconst (v := 1) Z dX8_lasting_53 (by decide) ?_
        refine r_icmp_eq Z 60 dX8_lasting_54 (by decide) (fun hc9 => ?_) (fun hc9 => ?_)
        · replace hF := if_some hc9 hF
          refine r_aload_n Z dX8_lasting_60 rfl (lv_at hl 1 rfl) ?_
          refine g_8_3 Z ho wm_356 dX8_lasting_61 ?_
          refine r_iload_n Z dX8_lasting_64 rfl (lv_at hl 3 rfl) ?_
          refine r_aload_n Z dX8_lasting_65 rfl (lv_at hl 1 rfl) ?_
          refine g_8_5 Z ho wm_362 dX8_lasting_66 ?_
          obtain ⟨M10, hM10, hF⟩ := bd_some hF
          refine r_invVv [] Z (c_X0_tellLasting (sh_8_3 ho) (sh_8_5 ho) hM10) cv_X0_tellLasting rfl (shp_lt (sh_8_3 ho) (by decide)) (fun _ _ => ⟨_, ce_0 (sh_8_3 ho)⟩) wm_550 rfl rfl ⟨Nat.le_of_ble_eq_true rfl, Nat.le_of_ble_eq_true rfl⟩ rfl hl.1 rfl (Nat.le_of_ble_eq_true rfl) dX8_lasting_69 ?_
          refine r_iconst (v := 1) Z dX8_lasting_72 (by decide) ?_
          exact r_iret Z hQ hF dX8_lasting_73
        · replace hF := nif_some hc9 hF
          refine r_bipush (v := (-4)) Z dX8_lasting_57 (by decide) ?_
          exact r_iret Z hQ hF dX8_lasting_59
      · replace hF := nif_some hc7 hF
        exact L40 M5 ls (lv_sub hl [1] rfl) hF
  · replace hF := nif_some hc3 hF
    refine r_iload_n Z dX8_lasting_10 rfl (lv_at hl 0 rfl) ?_
    exact r_iret Z hQ hF dX8_lasting_11
theorem dX8_lay_0 : decode cX8_lay 0 = .ok (.iload_n 1, 1) := by decide +kernel
theorem dX8_lay_1 : decode cX8_lay 1 = .ok (.invokestatic 62, 3) := by decide +kernel
theorem dX8_lay_4 : decode cX8_lay 4 = .ok (.ifCond .ne 5, 3) := by decide +kernel
theorem dX8_lay_7 : decode cX8_lay 7 = .ok (.iconst (-1), 1) := by decide +kernel
theorem dX8_lay_8 : decode cX8_lay 8 = .ok (.ireturn, 1) := by decide +kernel
theorem dX8_lay_9 : decode cX8_lay 9 = .ok (.aload_n 0, 1) := by decide +kernel
theorem dX8_lay_10 : decode cX8_lay 10 = .ok (.getfield 11, 3) := by decide +kernel
theorem dX8_lay_13 : decode cX8_lay 13 = .ok (.iload_n 1, 1) := by decide +kernel
theorem dX8_lay_14 : decode cX8_lay 14 = .ok (.aaload, 1) := by decide +kernel
theorem dX8_lay_15 : decode cX8_lay 15 = .ok (.invokevirtual 74, 3) := by decide +kernel
theorem dX8_lay_18 : decode cX8_lay 18 = .ok (.ifCond .ne 9, 3) := by decide +kernel
theorem dX8_lay_21 : decode cX8_lay 21 = .ok (.aload_n 0, 1) := by decide +kernel
theorem dX8_lay_22 : decode cX8_lay 22 = .ok (.iconst 1, 1) := by decide +kernel
theorem dX8_lay_23 : decode cX8_lay 23 = .ok (.invokevirtual 66, 3) := by decide +kernel
theorem dX8_lay_26 : decode cX8_lay 26 = .ok (.ireturn, 1) := by decide +kernel
theorem dX8_lay_27 : decode cX8_lay 27 = .ok (.aload_n 0, 1) := by decide +kernel
theorem dX8_lay_28 : decode cX8_lay 28 = .ok (.getfield 11, 3) := by decide +kernel
theorem dX8_lay_31 : decode cX8_lay 31 = .ok (.iload_n 1, 1) := by decide +kernel
theorem dX8_lay_32 : decode cX8_lay 32 = .ok (.aaload, 1) := by decide +kernel
theorem dX8_lay_33 : decode cX8_lay 33 = .ok (.iload_n 2, 1) := by decide +kernel
theorem dX8_lay_34 : decode cX8_lay 34 = .ok (.invokevirtual 78, 3) := by decide +kernel
theorem dX8_lay_37 : decode cX8_lay 37 = .ok (.ifCond .ne 9, 3) := by decide +kernel
theorem dX8_lay_40 : decode cX8_lay 40 = .ok (.aload_n 0, 1) := by decide +kernel
theorem dX8_lay_41 : decode cX8_lay 41 = .ok (.iconst 2, 1) := by decide +kernel
theorem dX8_lay_42 : decode cX8_lay 42 = .ok (.invokevirtual 66, 3) := by decide +kernel
theorem dX8_lay_45 : decode cX8_lay 45 = .ok (.ireturn, 1) := by decide +kernel
theorem dX8_lay_46 : decode cX8_lay 46 = .ok (.aload_n 0, 1) := by decide +kernel
theorem dX8_lay_47 : decode cX8_lay 47 = .ok (.aload_n 0, 1) := by decide +kernel
theorem dX8_lay_48 : decode cX8_lay 48 = .ok (.getfield 11, 3) := by decide +kernel
theorem dX8_lay_51 : decode cX8_lay 51 = .ok (.iload_n 1, 1) := by decide +kernel
theorem dX8_lay_52 : decode cX8_lay 52 = .ok (.aaload, 1) := by decide +kernel
theorem dX8_lay_53 : decode cX8_lay 53 = .ok (.iload_n 2, 1) := by decide +kernel
theorem dX8_lay_54 : decode cX8_lay 54 = .ok (.invokevirtual 81, 3) := by decide +kernel
theorem dX8_lay_57 : decode cX8_lay 57 = .ok (.putfield 58, 3) := by decide +kernel
theorem dX8_lay_60 : decode cX8_lay 60 = .ok (.aload_n 0, 1) := by decide +kernel
theorem dX8_lay_61 : decode cX8_lay 61 = .ok (.getfield 11, 3) := by decide +kernel
theorem dX8_lay_64 : decode cX8_lay 64 = .ok (.iload_n 1, 1) := by decide +kernel
theorem dX8_lay_65 : decode cX8_lay 65 = .ok (.aaload, 1) := by decide +kernel
theorem dX8_lay_66 : decode cX8_lay 66 = .ok (.iload_n 2, 1) := by decide +kernel
theorem dX8_lay_67 : decode cX8_lay 67 = .ok (.iload_n 3, 1) := by decide +kernel
theorem dX8_lay_68 : decode cX8_lay 68 = .ok (.invokevirtual 84, 3) := by decide +kernel
theorem dX8_lay_71 : decode cX8_lay 71 = .ok (.iconst 1, 1) := by decide +kernel
theorem dX8_lay_72 : decode cX8_lay 72 = .ok (.ireturn, 1) := by decide +kernel
theorem cv_X8_lay : wn_cV yX8_lay cX8_lay 4 (some .int) RX8 3 := ⟨wm_393, wm_865, wm_866, wm_377, by decide +kernel⟩
abbrev rm_X8_lay : Room := rmz 2 43
set_option maxHeartbeats 4000000 in
set_option maxRecDepth 100000 in
theorem c_X8_lay {ad : Nat → Nat} {o : Nat} {x1 : Int32} {x2 : Int32} {x3 : Int32} {M : Mm} {q : Int32 × Mm} (ho : shp o = 8) (hF : f_X8_lay o x1 x2 x3 M = some q) : KI ad yX8_lay cX8_lay 4 (some .int) rm_X8_lay [.ref (ad o), .int x1, .int x2, .int x3] M q.1 q.2 := by
  refine wn_enterI (own := RX8) (by decide) rfl (Nat.le_of_ble_eq_true rfl) (fun X ls Z hQ hl => ?_)
  have hl : lv_has ls 4 [(0, .ref (ad o)), (1, .int x1), (2, .int x2), (3, .int x3)] := hl
  unfold f_X8_lay at hF
  refine r_iload_n Z dX8_lay_0 rfl (lv_at hl 1 rfl) ?_
  obtain ⟨q1, hq1, hF⟩ := bd_some hF
  refine r_invSi [] Z (c_X8_isRowNumber hq1) cv_X8_isRowNumber wm_375 rfl rfl ⟨Nat.le_of_ble_eq_true rfl, Nat.le_of_ble_eq_true rfl⟩ rfl hl.1 rfl (Nat.le_of_ble_eq_true rfl) dX8_lay_1 ?_
  refine r_if_ne Z 9 dX8_lay_4 (by decide) (fun hc2 => ?_) (fun hc2 => ?_)
  · replace hF := nif_some hc2 hF
    refine r_aload_n Z dX8_lay_9 rfl (lv_at hl 0 rfl) ?_
    refine g_8_0 Z ho wm_348 dX8_lay_10 ?_
    refine r_iload_n Z dX8_lay_13 rfl (lv_at hl 1 rfl) ?_
    obtain ⟨hi3, hF⟩ := ck_some hF
    refine r_aald14 Z (sh_8_0 ho) hi3 dX8_lay_14 ?_
    obtain ⟨q4, hq4, hF⟩ := bd_some hF
    refine r_invVi [] Z (c_X6_isThere (se_14 (sh_8_0 ho) hi3) hq4) cv_X6_isThere rfl (shp_lt (se_14 (sh_8_0 ho) hi3) (by decide)) (fun _ _ => ⟨_, ce_6 (se_14 (sh_8_0 ho) hi3)⟩) wm_385 rfl rfl ⟨Nat.le_of_ble_eq_true rfl, Nat.le_of_ble_eq_true rfl⟩ rfl hl.1 rfl (Nat.le_of_ble_eq_true rfl) dX8_lay_15 ?_
    refine r_if_ne Z 27 dX8_lay_18 (by decide) (fun hc5 => ?_) (fun hc5 => ?_)
    · replace hF := nif_some hc5 hF
      refine r_aload_n Z dX8_lay_27 rfl (lv_at hl 0 rfl) ?_
      refine g_8_0 Z ho wm_348 dX8_lay_28 ?_
      refine r_iload_n Z dX8_lay_31 rfl (lv_at hl 1 rfl) ?_
      obtain ⟨hi6, hF⟩ := ck_some hF
      refine r_aald14 Z (sh_8_0 ho) hi6 dX8_lay_32 ?_
      refine r_iload_n Z dX8_lay_33 rfl (lv_at hl 2 rfl) ?_
      obtain ⟨q7, hq7, hF⟩ := bd_some hF
      refine r_invVi [] Z (c_X6_has (se_14 (sh_8_0 ho) hi6) hq7) cv_X6_has rfl (shp_lt (se_14 (sh_8_0 ho) hi6) (by decide)) (fun _ _ => ⟨_, ce_6 (se_14 (sh_8_0 ho) hi6)⟩) wm_388 rfl rfl ⟨Nat.le_of_ble_eq_true rfl, Nat.le_of_ble_eq_true rfl⟩ rfl hl.1 rfl (Nat.le_of_ble_eq_true rfl) dX8_lay_34 ?_
      refine r_if_ne Z 46 dX8_lay_37 (by decide) (fun hc8 => ?_) (fun hc8 => ?_)
      · replace hF := nif_some hc8 hF
        refine r_aload_n Z dX8_lay_46 rfl (lv_at hl 0 rfl) ?_
        refine r_aload_n Z dX8_lay_47 rfl (lv_at hl 0 rfl) ?_
        refine g_8_0 Z ho wm_348 dX8_lay_48 ?_
        refine r_iload_n Z dX8_lay_51 rfl (lv_at hl 1 rfl) ?_
        obtain ⟨hi9, hF⟩ := ck_some hF
        refine r_aald14 Z (sh_8_0 ho) hi9 dX8_lay_52 ?_
        refine r_iload_n Z dX8_lay_53 rfl (lv_at hl 2 rfl) ?_
        obtain ⟨q10, hq10, hF⟩ := bd_some hF
        refine r_invVi [.ref (ad o)] Z (c_X6_at (se_14 (sh_8_0 ho) hi9) hq10) cv_X6_at rfl (shp_lt (se_14 (sh_8_0 ho) hi9) (by decide)) (fun _ _ => ⟨_, ce_6 (se_14 (sh_8_0 ho) hi9)⟩) wm_389 rfl rfl ⟨Nat.le_of_ble_eq_true rfl, Nat.le_of_ble_eq_true rfl⟩ rfl hl.1 rfl (Nat.le_of_ble_eq_true rfl) dX8_lay_54 ?_
        obtain ⟨M11, eM11, hF⟩ := nm_some hF
        refine p_8_8 Z ho wm_365 dX8_lay_57 ?_
        rw [← eM11]
        refine r_aload_n Z dX8_lay_60 rfl (lv_at hl 0 rfl) ?_
        refine g_8_0 Z ho wm_348 dX8_lay_61 ?_
        refine r_iload_n Z dX8_lay_64 rfl (lv_at hl 1 rfl) ?_
        obtain ⟨hi12, hF⟩ := ck_some hF
        refine r_aald14 Z (sh_8_0 ho) hi12 dX8_lay_65 ?_
        refine r_iload_n Z dX8_lay_66 rfl (lv_at hl 2 rfl) ?_
        refine r_iload_n Z dX8_lay_67 rfl (lv_at hl 3 rfl) ?_
        obtain ⟨M13, hM13, hF⟩ := bd_some hF
        refine r_invVv [] Z (c_X6_put (se_14 (sh_8_0 ho) hi12) hM13) cv_X6_put rfl (shp_lt (se_14 (sh_8_0 ho) hi12) (by decide)) (fun _ _ => ⟨_, ce_6 (se_14 (sh_8_0 ho) hi12)⟩) wm_390 rfl rfl ⟨Nat.le_of_ble_eq_true rfl, Nat.le_of_ble_eq_true rfl⟩ rfl hl.1 rfl (Nat.le_of_ble_eq_true rfl) dX8_lay_68 ?_
        refine r_iconst (v := 1) Z dX8_lay_71 (by decide) ?_
        exact r_iret Z hQ hF dX8_lay_72
      · replace hF := if_some hc8 hF
        refine r_aload_n Z dX8_lay_40 rfl (lv_at hl 0 rfl) ?_
        refine r_iconst (v := 2) Z dX8_lay_41 (by decide) ?_
        obtain ⟨q14, hq14, hF⟩ := bd_some hF
        refine r_invVi [] Z (c_X8_refuse ho hq14) cv_X8_refuse rfl (shp_lt ho (by decide)) (fun _ _ => ⟨_, ce_8 ho⟩) wm_378 rfl rfl ⟨Nat.le_of_ble_eq_true rfl, Nat.le_of_ble_eq_true rfl⟩ rfl hl.1 rfl (Nat.le_of_ble_eq_true rfl) dX8_lay_42 ?_
        exact r_iret Z hQ hF dX8_lay_45
    · replace hF := if_some hc5 hF
      refine r_aload_n Z dX8_lay_21 rfl (lv_at hl 0 rfl) ?_
      refine r_iconst (v := 1) Z dX8_lay_22 (by decide) ?_
      obtain ⟨q15, hq15, hF⟩ := bd_some hF
      refine r_invVi [] Z (c_X8_refuse ho hq15) cv_X8_refuse rfl (shp_lt ho (by decide)) (fun _ _ => ⟨_, ce_8 ho⟩) wm_378 rfl rfl ⟨Nat.le_of_ble_eq_true rfl, Nat.le_of_ble_eq_true rfl⟩ rfl hl.1 rfl (Nat.le_of_ble_eq_true rfl) dX8_lay_23 ?_
      exact r_iret Z hQ hF dX8_lay_26
  · replace hF := if_some hc2 hF
    refine r_iconst (v := (-1)) Z dX8_lay_7 (by decide) ?_
    exact r_iret Z hQ hF dX8_lay_8
theorem dX8_lower_0 : decode cX8_lower 0 = .ok (.aload_n 0, 1) := by decide +kernel
theorem dX8_lower_1 : decode cX8_lower 1 = .ok (.getfield 46, 3) := by decide +kernel
theorem dX8_lower_4 : decode cX8_lower 4 = .ok (.getfield 188, 3) := by decide +kernel
theorem dX8_lower_7 : decode cX8_lower 7 = .ok (.lreturn, 1) := by decide +kernel
theorem cv_X8_lower : wn_cV yX8_lower cX8_lower 1 (some .long) RX8 0 := ⟨wm_582, wm_1087, wm_1088, wm_377, by decide +kernel⟩
abbrev rm_X8_lower : Room := rmz 0 0
set_option maxHeartbeats 4000000 in
set_option maxRecDepth 100000 in
theorem c_X8_lower {ad : Nat → Nat} {o : Nat} {M : Mm} {q : Int64 × Mm} (ho : shp o = 8) (hF : f_X8_lower o M = some q) : KL ad yX8_lower cX8_lower 1 (some .long) rm_X8_lower [.ref (ad o)] M q.1 q.2 := by
  refine wn_enterL (own := RX8) (by decide) rfl (Nat.le_of_ble_eq_true rfl) (fun X ls Z hQ hl => ?_)
  have hl : lv_has ls 1 [(0, .ref (ad o))] := hl
  unfold f_X8_lower at hF
  refine r_aload_n Z dX8_lower_0 rfl (lv_at hl 0 rfl) ?_
  refine g_8_5 Z ho wm_362 dX8_lower_1 ?_
  refine g_2_1 Z (sh_8_5 ho) wm_467 dX8_lower_4 ?_
  exact r_lret Z hQ hF dX8_lower_7
theorem dX8_mark_0 : decode cX8_mark 0 = .ok (.iload_n 1, 1) := by decide +kernel
theorem dX8_mark_1 : decode cX8_mark 1 = .ok (.invokestatic 106, 3) := by decide +kernel
theorem dX8_mark_4 : decode cX8_mark 4 = .ok (.ifCond .eq 12, 3) := by decide +kernel
theorem dX8_mark_7 : decode cX8_mark 7 = .ok (.iload_n 2, 1) := by decide +kernel
theorem dX8_mark_8 : decode cX8_mark 8 = .ok (.ifCond .le 8, 3) := by decide +kernel
theorem dX8_mark_11 : decode cX8_mark 11 = .ok (.iload_n 2, 1) := by decide +kernel
theorem dX8_mark_12 : decode cX8_mark 12 = .ok (.iconst 5, 1) := by decide +kernel
theorem dX8_mark_13 : decode cX8_mark 13 = .ok (.if_icmp .le 5, 3) := by decide +kernel
theorem dX8_mark_16 : decode cX8_mark 16 = .ok (.iconst (-1), 1) := by decide +kernel
theorem dX8_mark_17 : decode cX8_mark 17 = .ok (.ireturn, 1) := by decide +kernel
theorem dX8_mark_18 : decode cX8_mark 18 = .ok (.aload_n 0, 1) := by decide +kernel
theorem dX8_mark_19 : decode cX8_mark 19 = .ok (.getfield 18, 3) := by decide +kernel
theorem dX8_mark_22 : decode cX8_mark 22 = .ok (.iload_n 1, 1) := by decide +kernel
theorem dX8_mark_23 : decode cX8_mark 23 = .ok (.invokevirtual 109, 3) := by decide +kernel
theorem dX8_mark_26 : decode cX8_mark 26 = .ok (.ifCond .ne 9, 3) := by decide +kernel
theorem dX8_mark_29 : decode cX8_mark 29 = .ok (.aload_n 0, 1) := by decide +kernel
theorem dX8_mark_30 : decode cX8_mark 30 = .ok (.iconst 1, 1) := by decide +kernel
theorem dX8_mark_31 : decode cX8_mark 31 = .ok (.invokevirtual 66, 3) := by decide +kernel
theorem dX8_mark_34 : decode cX8_mark 34 = .ok (.ireturn, 1) := by decide +kernel
theorem dX8_mark_35 : decode cX8_mark 35 = .ok (.aload_n 0, 1) := by decide +kernel
theorem dX8_mark_36 : decode cX8_mark 36 = .ok (.getfield 18, 3) := by decide +kernel
theorem dX8_mark_39 : decode cX8_mark 39 = .ok (.getfield 116, 3) := by decide +kernel
theorem dX8_mark_42 : decode cX8_mark 42 = .ok (.iload_n 1, 1) := by decide +kernel
theorem dX8_mark_43 : decode cX8_mark 43 = .ok (.aaload, 1) := by decide +kernel
theorem dX8_mark_44 : decode cX8_mark 44 = .ok (.iload_n 2, 1) := by decide +kernel
theorem dX8_mark_45 : decode cX8_mark 45 = .ok (.invokevirtual 147, 3) := by decide +kernel
theorem dX8_mark_48 : decode cX8_mark 48 = .ok (.ifCond .ne 9, 3) := by decide +kernel
theorem dX8_mark_51 : decode cX8_mark 51 = .ok (.aload_n 0, 1) := by decide +kernel
theorem dX8_mark_52 : decode cX8_mark 52 = .ok (.iconst 3, 1) := by decide +kernel
theorem dX8_mark_53 : decode cX8_mark 53 = .ok (.invokevirtual 66, 3) := by decide +kernel
theorem dX8_mark_56 : decode cX8_mark 56 = .ok (.ireturn, 1) := by decide +kernel
theorem dX8_mark_57 : decode cX8_mark 57 = .ok (.iload_n 2, 1) := by decide +kernel
theorem dX8_mark_58 : decode cX8_mark 58 = .ok (.iconst 2, 1) := by decide +kernel
theorem dX8_mark_59 : decode cX8_mark 59 = .ok (.if_icmp .ne 14, 3) := by decide +kernel
theorem dX8_mark_62 : decode cX8_mark 62 = .ok (.aload_n 0, 1) := by decide +kernel
theorem dX8_mark_63 : decode cX8_mark 63 = .ok (.getfield 18, 3) := by decide +kernel
theorem dX8_mark_66 : decode cX8_mark 66 = .ok (.iload_n 1, 1) := by decide +kernel
theorem dX8_mark_67 : decode cX8_mark 67 = .ok (.invokevirtual 150, 3) := by decide +kernel
theorem dX8_mark_70 : decode cX8_mark 70 = .ok (.goto 16, 3) := by decide +kernel
theorem dX8_mark_73 : decode cX8_mark 73 = .ok (.aload_n 0, 1) := by decide +kernel
theorem dX8_mark_74 : decode cX8_mark 74 = .ok (.getfield 18, 3) := by decide +kernel
theorem dX8_mark_77 : decode cX8_mark 77 = .ok (.getfield 116, 3) := by decide +kernel
theorem dX8_mark_80 : decode cX8_mark 80 = .ok (.iload_n 1, 1) := by decide +kernel
theorem dX8_mark_81 : decode cX8_mark 81 = .ok (.aaload, 1) := by decide +kernel
theorem dX8_mark_82 : decode cX8_mark 82 = .ok (.iload_n 2, 1) := by decide +kernel
theorem dX8_mark_83 : decode cX8_mark 83 = .ok (.invokevirtual 153, 3) := by decide +kernel
theorem dX8_mark_86 : decode cX8_mark 86 = .ok (.ireturn, 1) := by decide +kernel
theorem cv_X8_mark : wn_cV yX8_mark cX8_mark 3 (some .int) RX8 2 := ⟨wm_442, wm_937, wm_938, wm_377, by decide +kernel⟩
abbrev rm_X8_mark : Room := rmz 3 64
set_option maxHeartbeats 4000000 in
set_option maxRecDepth 100000 in
theorem c_X8_mark {ad : Nat → Nat} {o : Nat} {x1 : Int32} {x2 : Int32} {M : Mm} {q : Int32 × Mm} (ho : shp o = 8) (hF : f_X8_mark o x1 x2 M = some q) : KI ad yX8_mark cX8_mark 3 (some .int) rm_X8_mark [.ref (ad o), .int x1, .int x2] M q.1 q.2 := by
  refine wn_enterI (own := RX8) (by decide) rfl (Nat.le_of_ble_eq_true rfl) (fun X ls Z hQ hl => ?_)
  have hl : lv_has ls 3 [(0, .ref (ad o)), (1, .int x1), (2, .int x2)] := hl
  unfold f_X8_mark at hF
  refine r_iload_n Z dX8_mark_0 rfl (lv_at hl 1 rfl) ?_
  obtain ⟨q1, hq1, hF⟩ := bd_some hF
  refine r_invSi [] Z (c_X8_isCounterNumber hq1) cv_X8_isCounterNumber wm_409 rfl rfl ⟨Nat.le_of_ble_eq_true rfl, Nat.le_of_ble_eq_true rfl⟩ rfl hl.1 rfl (Nat.le_of_ble_eq_true rfl) dX8_mark_1 ?_
  refine r_if_eq Z 16 dX8_mark_4 (by decide) (fun hc2 => ?_) (fun hc2 => ?_)
  · replace hF := if_some hc2 hF
    refine r_iconst (v := (-1)) Z dX8_mark_16 (by decide) ?_
    exact r_iret Z hQ hF dX8_mark_17
  · replace hF := nif_some hc2 hF
    refine r_iload_n Z dX8_mark_7 rfl (lv_at hl 2 rfl) ?_
    refine r_if_le Z 16 dX8_mark_8 (by decide) (fun hc3 => ?_) (fun hc3 => ?_)
    · replace hF := if_some hc3 hF
      refine r_iconst (v := (-1)) Z dX8_mark_16 (by decide) ?_
      exact r_iret Z hQ hF dX8_mark_17
    · replace hF := nif_some hc3 hF
      refine r_iload_n Z dX8_mark_11 rfl (lv_at hl 2 rfl) ?_
      refine r_iconst (v := 5) Z dX8_mark_12 (by decide) ?_
      refine r_icmp_le Z 18 dX8_mark_13 (by decide) (fun hc4 => ?_) (fun hc4 => ?_)
      · replace hF := if_some hc4 hF
        refine r_aload_n Z dX8_mark_18 rfl (lv_at hl 0 rfl) ?_
        refine g_8_1 Z ho wm_351 dX8_mark_19 ?_
        refine r_iload_n Z dX8_mark_22 rfl (lv_at hl 1 rfl) ?_
        obtain ⟨q5, hq5, hF⟩ := bd_some hF
        refine r_invVi [] Z (c_X4_has (sh_8_1 ho) hq5) cv_X4_has rfl (shp_lt (sh_8_1 ho) (by decide)) (fun _ _ => ⟨_, ce_4 (sh_8_1 ho)⟩) wm_411 rfl rfl ⟨Nat.le_of_ble_eq_true rfl, Nat.le_of_ble_eq_true rfl⟩ rfl hl.1 rfl (Nat.le_of_ble_eq_true rfl) dX8_mark_23 ?_
        refine r_if_ne Z 35 dX8_mark_26 (by decide) (fun hc6 => ?_) (fun hc6 => ?_)
        · replace hF := nif_some hc6 hF
          refine r_aload_n Z dX8_mark_35 rfl (lv_at hl 0 rfl) ?_
          refine g_8_1 Z ho wm_351 dX8_mark_36 ?_
          refine g_4_0 Z (sh_8_1 ho) wm_418 dX8_mark_39 ?_
          refine r_iload_n Z dX8_mark_42 rfl (lv_at hl 1 rfl) ?_
          obtain ⟨hi7, hF⟩ := ck_some hF
          refine r_aald13 Z (sh_4_0 (sh_8_1 ho)) hi7 dX8_mark_43 ?_
          refine r_iload_n Z dX8_mark_44 rfl (lv_at hl 2 rfl) ?_
          obtain ⟨q8, hq8, hF⟩ := bd_some hF
          refine r_invVi [] Z (c_X1_isOf (se_13 (sh_4_0 (sh_8_1 ho)) hi7) hq8) cv_X1_isOf rfl (shp_lt (se_13 (sh_4_0 (sh_8_1 ho)) hi7) (by decide)) (fun _ _ => ⟨_, ce_1 (se_13 (sh_4_0 (sh_8_1 ho)) hi7)⟩) wm_435 rfl rfl ⟨Nat.le_of_ble_eq_true rfl, Nat.le_of_ble_eq_true rfl⟩ rfl hl.1 rfl (Nat.le_of_ble_eq_true rfl) dX8_mark_45 ?_
          refine r_if_ne Z 57 dX8_mark_48 (by decide) (fun hc9 => ?_) (fun hc9 => ?_)
          · replace hF := nif_some hc9 hF
            refine r_iload_n Z dX8_mark_57 rfl (lv_at hl 2 rfl) ?_
            refine r_iconst (v := 2) Z dX8_mark_58 (by decide) ?_
            refine r_icmp_ne Z 73 dX8_mark_59 (by decide) (fun hc10 => ?_) (fun hc10 => ?_)
            · replace hF := nif_some hc10 hF
              refine r_aload_n Z dX8_mark_73 rfl (lv_at hl 0 rfl) ?_
              refine g_8_1 Z ho wm_351 dX8_mark_74 ?_
              refine g_4_0 Z (sh_8_1 ho) wm_418 dX8_mark_77 ?_
              refine r_iload_n Z dX8_mark_80 rfl (lv_at hl 1 rfl) ?_
              obtain ⟨hi11, hF⟩ := ck_some hF
              refine r_aald13 Z (sh_4_0 (sh_8_1 ho)) hi11 dX8_mark_81 ?_
              refine r_iload_n Z dX8_mark_82 rfl (lv_at hl 2 rfl) ?_
              obtain ⟨q12, hq12, hF⟩ := bd_some hF
              refine r_invVi [] Z (c_X1_markOf (se_13 (sh_4_0 (sh_8_1 ho)) hi11) hq12) cv_X1_markOf rfl (shp_lt (se_13 (sh_4_0 (sh_8_1 ho)) hi11) (by decide)) (fun _ _ => ⟨_, ce_1 (se_13 (sh_4_0 (sh_8_1 ho)) hi11)⟩) wm_439 rfl rfl ⟨Nat.le_of_ble_eq_true rfl, Nat.le_of_ble_eq_true rfl⟩ rfl hl.1 rfl (Nat.le_of_ble_eq_true rfl) dX8_mark_83 ?_
              exact r_iret Z hQ hF dX8_mark_86
            · replace hF := if_some hc10 hF
              refine r_aload_n Z dX8_mark_62 rfl (lv_at hl 0 rfl) ?_
              refine g_8_1 Z ho wm_351 dX8_mark_63 ?_
              refine r_iload_n Z dX8_mark_66 rfl (lv_at hl 1 rfl) ?_
              obtain ⟨q13, hq13, hF⟩ := bd_some hF
              refine r_invVi [] Z (c_X4_leadingTo (sh_8_1 ho) hq13) cv_X4_leadingTo rfl (shp_lt (sh_8_1 ho) (by decide)) (fun _ _ => ⟨_, ce_4 (sh_8_1 ho)⟩) wm_438 rfl rfl ⟨Nat.le_of_ble_eq_true rfl, Nat.le_of_ble_eq_true rfl⟩ rfl hl.1 rfl (Nat.le_of_ble_eq_true rfl) dX8_mark_67 ?_
              refine r_goto Z 86 dX8_mark_70 (by decide) ?_
              exact r_iret Z hQ hF dX8_mark_86
          · replace hF := if_some hc9 hF
            refine r_aload_n Z dX8_mark_51 rfl (lv_at hl 0 rfl) ?_
            refine r_iconst (v := 3) Z dX8_mark_52 (by decide) ?_
            obtain ⟨q14, hq14, hF⟩ := bd_some hF
            refine r_invVi [] Z (c_X8_refuse ho hq14) cv_X8_refuse rfl (shp_lt ho (by decide)) (fun _ _ => ⟨_, ce_8 ho⟩) wm_378 rfl rfl ⟨Nat.le_of_ble_eq_true rfl, Nat.le_of_ble_eq_true rfl⟩ rfl hl.1 rfl (Nat.le_of_ble_eq_true rfl) dX8_mark_53 ?_
            exact r_iret Z hQ hF dX8_mark_56
        · replace hF := if_some hc6 hF
          refine r_aload_n Z dX8_mark_29 rfl (lv_at hl 0 rfl) ?_
          refine r_iconst (v := 1) Z dX8_mark_30 (by decide) ?_
          obtain ⟨q15, hq15, hF⟩ := bd_some hF
          refine r_invVi [] Z (c_X8_refuse ho hq15) cv_X8_refuse rfl (shp_lt ho (by decide)) (fun _ _ => ⟨_, ce_8 ho⟩) wm_378 rfl rfl ⟨Nat.le_of_ble_eq_true rfl, Nat.le_of_ble_eq_true rfl⟩ rfl hl.1 rfl (Nat.le_of_ble_eq_true rfl) dX8_mark_31 ?_
          exact r_iret Z hQ hF dX8_mark_34
      · replace hF := nif_some hc4 hF
        refine r_iconst (v := (-1)) Z dX8_mark_16 (by decide) ?_
        exact r_iret Z hQ hF dX8_mark_17
theorem dX8_mean_0 : decode cX8_mean 0 = .ok (.aload_n 0, 1) := by decide +kernel
theorem dX8_mean_1 : decode cX8_mean 1 = .ok (.iload_n 1, 1) := by decide +kernel
theorem dX8_mean_2 : decode cX8_mean 2 = .ok (.invokevirtual 162, 3) := by decide +kernel
theorem dX8_mean_5 : decode cX8_mean 5 = .ok (.istore_n 3, 1) := by decide +kernel
theorem dX8_mean_6 : decode cX8_mean 6 = .ok (.iload_n 3, 1) := by decide +kernel
theorem dX8_mean_7 : decode cX8_mean 7 = .ok (.ifCond .eq 5, 3) := by decide +kernel
theorem dX8_mean_10 : decode cX8_mean 10 = .ok (.iload_n 3, 1) := by decide +kernel
theorem dX8_mean_11 : decode cX8_mean 11 = .ok (.ireturn, 1) := by decide +kernel
theorem dX8_mean_12 : decode cX8_mean 12 = .ok (.aload_n 0, 1) := by decide +kernel
theorem dX8_mean_13 : decode cX8_mean 13 = .ok (.getfield 18, 3) := by decide +kernel
theorem dX8_mean_16 : decode cX8_mean 16 = .ok (.invokevirtual 156, 3) := by decide +kernel
theorem dX8_mean_19 : decode cX8_mean 19 = .ok (.ifCond .ne 6, 3) := by decide +kernel
theorem dX8_mean_22 : decode cX8_mean 22 = .ok (.bipush (-4), 2) := by decide +kernel
theorem dX8_mean_24 : decode cX8_mean 24 = .ok (.ireturn, 1) := by decide +kernel
theorem dX8_mean_25 : decode cX8_mean 25 = .ok (.aload_n 0, 1) := by decide +kernel
theorem dX8_mean_26 : decode cX8_mean 26 = .ok (.getfield 18, 3) := by decide +kernel
theorem dX8_mean_29 : decode cX8_mean 29 = .ok (.iload_n 1, 1) := by decide +kernel
theorem dX8_mean_30 : decode cX8_mean 30 = .ok (.invokevirtual 165, 3) := by decide +kernel
theorem dX8_mean_33 : decode cX8_mean 33 = .ok (.aload_n 0, 1) := by decide +kernel
theorem dX8_mean_34 : decode cX8_mean 34 = .ok (.getfield 18, 3) := by decide +kernel
theorem dX8_mean_37 : decode cX8_mean 37 = .ok (.iload_n 1, 1) := by decide +kernel
theorem dX8_mean_38 : decode cX8_mean 38 = .ok (.invokevirtual 177, 3) := by decide +kernel
theorem dX8_mean_41 : decode cX8_mean 41 = .ok (.ifCond .eq 6, 3) := by decide +kernel
theorem dX8_mean_44 : decode cX8_mean 44 = .ok (.bipush (-4), 2) := by decide +kernel
theorem dX8_mean_46 : decode cX8_mean 46 = .ok (.ireturn, 1) := by decide +kernel
theorem dX8_mean_47 : decode cX8_mean 47 = .ok (.aload_n 0, 1) := by decide +kernel
theorem dX8_mean_48 : decode cX8_mean 48 = .ok (.getfield 18, 3) := by decide +kernel
theorem dX8_mean_51 : decode cX8_mean 51 = .ok (.getfield 168, 3) := by decide +kernel
theorem dX8_mean_54 : decode cX8_mean 54 = .ok (.astore 4, 2) := by decide +kernel
theorem dX8_mean_56 : decode cX8_mean 56 = .ok (.iload_n 2, 1) := by decide +kernel
theorem dX8_mean_57 : decode cX8_mean 57 = .ok (.ifCond .eq 19, 3) := by decide +kernel
theorem dX8_mean_60 : decode cX8_mean 60 = .ok (.aload 4, 2) := by decide +kernel
theorem dX8_mean_62 : decode cX8_mean 62 = .ok (.getfield 180, 3) := by decide +kernel
theorem dX8_mean_65 : decode cX8_mean 65 = .ok (.lconst 0, 1) := by decide +kernel
theorem dX8_mean_66 : decode cX8_mean 66 = .ok (.lcmp, 1) := by decide +kernel
theorem dX8_mean_67 : decode cX8_mean 67 = .ok (.ifCond .ne 9, 3) := by decide +kernel
theorem dX8_mean_70 : decode cX8_mean 70 = .ok (.aload_n 0, 1) := by decide +kernel
theorem dX8_mean_71 : decode cX8_mean 71 = .ok (.iconst 4, 1) := by decide +kernel
theorem dX8_mean_72 : decode cX8_mean 72 = .ok (.invokevirtual 66, 3) := by decide +kernel
theorem dX8_mean_75 : decode cX8_mean 75 = .ok (.ireturn, 1) := by decide +kernel
theorem dX8_mean_76 : decode cX8_mean 76 = .ok (.aload_n 0, 1) := by decide +kernel
theorem dX8_mean_77 : decode cX8_mean 77 = .ok (.getfield 18, 3) := by decide +kernel
theorem dX8_mean_80 : decode cX8_mean 80 = .ok (.iload_n 1, 1) := by decide +kernel
theorem dX8_mean_81 : decode cX8_mean 81 = .ok (.aload_n 0, 1) := by decide +kernel
theorem dX8_mean_82 : decode cX8_mean 82 = .ok (.getfield 46, 3) := by decide +kernel
theorem dX8_mean_85 : decode cX8_mean 85 = .ok (.invokevirtual 184, 3) := by decide +kernel
theorem dX8_mean_88 : decode cX8_mean 88 = .ok (.iload_n 2, 1) := by decide +kernel
theorem dX8_mean_89 : decode cX8_mean 89 = .ok (.ifCond .eq 36, 3) := by decide +kernel
theorem dX8_mean_92 : decode cX8_mean 92 = .ok (.aload_n 0, 1) := by decide +kernel
theorem dX8_mean_93 : decode cX8_mean 93 = .ok (.getfield 46, 3) := by decide +kernel
theorem dX8_mean_96 : decode cX8_mean 96 = .ok (.aload_n 0, 1) := by decide +kernel
theorem dX8_mean_97 : decode cX8_mean 97 = .ok (.getfield 46, 3) := by decide +kernel
theorem dX8_mean_100 : decode cX8_mean 100 = .ok (.getfield 180, 3) := by decide +kernel
theorem dX8_mean_103 : decode cX8_mean 103 = .ok (.aload 4, 2) := by decide +kernel
theorem dX8_mean_105 : decode cX8_mean 105 = .ok (.getfield 188, 3) := by decide +kernel
theorem dX8_mean_108 : decode cX8_mean 108 = .ok (.lmul, 1) := by decide +kernel
theorem dX8_mean_109 : decode cX8_mean 109 = .ok (.aload_n 0, 1) := by decide +kernel
theorem dX8_mean_110 : decode cX8_mean 110 = .ok (.getfield 46, 3) := by decide +kernel
theorem dX8_mean_113 : decode cX8_mean 113 = .ok (.getfield 188, 3) := by decide +kernel
theorem dX8_mean_116 : decode cX8_mean 116 = .ok (.aload 4, 2) := by decide +kernel
theorem dX8_mean_118 : decode cX8_mean 118 = .ok (.getfield 180, 3) := by decide +kernel
theorem dX8_mean_121 : decode cX8_mean 121 = .ok (.lmul, 1) := by decide +kernel
theorem dX8_mean_122 : decode cX8_mean 122 = .ok (.invokevirtual 191, 3) := by decide +kernel
theorem dX8_mean_125 : decode cX8_mean 125 = .ok (.iconst 1, 1) := by decide +kernel
theorem dX8_mean_126 : decode cX8_mean 126 = .ok (.ireturn, 1) := by decide +kernel
theorem cv_X8_mean : wn_cV yX8_mean cX8_mean 5 (some .int) RX8 2 := ⟨wm_472, wm_967, wm_968, wm_377, by decide +kernel⟩
abbrev rm_X8_mean : Room := rmz 5 108
set_option maxHeartbeats 4000000 in
set_option maxRecDepth 100000 in
theorem c_X8_mean {ad : Nat → Nat} {o : Nat} {x1 : Int32} {x2 : Int32} {M : Mm} {q : Int32 × Mm} (ho : shp o = 8) (hF : f_X8_mean o x1 x2 M = some q) : KI ad yX8_mean cX8_mean 5 (some .int) rm_X8_mean [.ref (ad o), .int x1, .int x2] M q.1 q.2 := by
  refine wn_enterI (own := RX8) (by decide) rfl (Nat.le_of_ble_eq_true rfl) (fun X ls Z hQ hl => ?_)
  have hl : lv_has ls 5 [(0, .ref (ad o)), (1, .int x1), (2, .int x2)] := hl
  have L76 : ∀ (v1 : Int32) (v2 : Int32) (v4 : Nat) (M : Mm) (ls : Array Slot), shp v4 = 2 → lv_has ls 5 [(0, .ref (ad o)), (1, .int v1), (2, .int v2), (4, .ref (ad v4))] → f_X8_mean_b76 o v1 v2 v4 M = some q → G ad X M 76 ls [] := by
    intro v1 v2 v4 M ls hv4 hl hF
    unfold f_X8_mean_b76 at hF
    refine r_aload_n Z dX8_mean_76 rfl (lv_at hl 0 rfl) ?_
    refine g_8_1 Z ho wm_351 dX8_mean_77 ?_
    refine r_iload_n Z dX8_mean_80 rfl (lv_at hl 1 rfl) ?_
    refine r_aload_n Z dX8_mean_81 rfl (lv_at hl 0 rfl) ?_
    refine g_8_5 Z ho wm_362 dX8_mean_82 ?_
    obtain ⟨M1, hM1, hF⟩ := bd_some hF
    refine r_invVv [] Z (c_X4_workOutMean (sh_8_1 ho) (sh_8_5 ho) hM1) cv_X4_workOutMean rfl (shp_lt (sh_8_1 ho) (by decide)) (fun _ _ => ⟨_, ce_4 (sh_8_1 ho)⟩) wm_468 rfl rfl ⟨Nat.le_of_ble_eq_true rfl, Nat.le_of_ble_eq_true rfl⟩ rfl hl.1 rfl (Nat.le_of_ble_eq_true rfl) dX8_mean_85 ?_
    refine r_iload_n Z dX8_mean_88 rfl (lv_at hl 2 rfl) ?_
    refine r_if_eq Z 125 dX8_mean_89 (by decide) (fun hc2 => ?_) (fun hc2 => ?_)
    · replace hF := if_some hc2 hF
      refine r_iconst (v := 1) Z dX8_mean_125 (by decide) ?_
      exact r_iret Z hQ hF dX8_mean_126
    · replace hF := nif_some hc2 hF
      refine r_aload_n Z dX8_mean_92 rfl (lv_at hl 0 rfl) ?_
      refine g_8_5 Z ho wm_362 dX8_mean_93 ?_
      refine r_aload_n Z dX8_mean_96 rfl (lv_at hl 0 rfl) ?_
      refine g_8_5 Z ho wm_362 dX8_mean_97 ?_
      refine g_2_0 Z (sh_8_5 ho) wm_466 dX8_mean_100 ?_
      refine r_aload Z dX8_mean_103 (lv_at hl 3 rfl) ?_
      refine g_2_1 Z hv4 wm_467 dX8_mean_105 ?_
      refine r_lmul Z dX8_mean_108 ?_
      refine r_aload_n Z dX8_mean_109 rfl (lv_at hl 0 rfl) ?_
      refine g_8_5 Z ho wm_362 dX8_mean_110 ?_
      refine g_2_1 Z (sh_8_5 ho) wm_467 dX8_mean_113 ?_
      refine r_aload Z dX8_mean_116 (lv_at hl 3 rfl) ?_
      refine g_2_0 Z hv4 wm_466 dX8_mean_118 ?_
      refine r_lmul Z dX8_mean_121 ?_
      obtain ⟨M3, hM3, hF⟩ := bd_some hF
      refine r_invVv [] Z (c_X2_set (sh_8_5 ho) hM3) cv_X2_set rfl (shp_lt (sh_8_5 ho) (by decide)) (fun _ _ => ⟨_, ce_2 (sh_8_5 ho)⟩) wm_471 rfl rfl ⟨Nat.le_of_ble_eq_true rfl, Nat.le_of_ble_eq_true rfl⟩ rfl hl.1 rfl (Nat.le_of_ble_eq_true rfl) dX8_mean_122 ?_
      refine r_iconst (v := 1) Z dX8_mean_125 (by decide) ?_
      exact r_iret Z hQ hF dX8_mean_126
  unfold f_X8_mean at hF
  refine r_aload_n Z dX8_mean_0 rfl (lv_at hl 0 rfl) ?_
  refine r_iload_n Z dX8_mean_1 rfl (lv_at hl 1 rfl) ?_
  obtain ⟨q4, hq4, hF⟩ := bd_some hF
  refine r_invVi [] Z (c_X8_judgeFlow ho hq4) cv_X8_judgeFlow rfl (shp_lt ho (by decide)) (fun _ _ => ⟨_, ce_8 ho⟩) wm_451 rfl rfl ⟨Nat.le_of_ble_eq_true rfl, Nat.le_of_ble_eq_true rfl⟩ rfl hl.1 rfl (Nat.le_of_ble_eq_true rfl) dX8_mean_2 ?_
  refine r_istore_n Z [(3, .int q4.1), (0, .ref (ad o)), (1, .int x1), (2, .int x2)] dX8_mean_5 rfl hl (by decide) rfl (fun ls hl => ?_)
  refine r_iload_n Z dX8_mean_6 rfl (lv_at hl 0 rfl) ?_
  refine r_if_eq Z 12 dX8_mean_7 (by decide) (fun hc5 => ?_) (fun hc5 => ?_)
  · replace hF := if_some hc5 hF
    refine r_aload_n Z dX8_mean_12 rfl (lv_at hl 1 rfl) ?_
    refine g_8_1 Z ho wm_351 dX8_mean_13 ?_
    obtain ⟨q6, hq6, hF⟩ := bd_some hF
    refine r_invVi [] Z (c_X4_isProduct (sh_8_1 ho) hq6) cv_X4_isProduct rfl (shp_lt (sh_8_1 ho) (by decide)) (fun _ _ => ⟨_, ce_4 (sh_8_1 ho)⟩) wm_444 rfl rfl ⟨Nat.le_of_ble_eq_true rfl, Nat.le_of_ble_eq_true rfl⟩ rfl hl.1 rfl (Nat.le_of_ble_eq_true rfl) dX8_mean_16 ?_
    refine r_if_ne Z 25 dX8_mean_19 (by decide) (fun hc7 => ?_) (fun hc7 => ?_)
    · replace hF := nif_some hc7 hF
      refine r_aload_n Z dX8_mean_25 rfl (lv_at hl 1 rfl) ?_
      refine g_8_1 Z ho wm_351 dX8_mean_26 ?_
      refine r_iload_n Z dX8_mean_29 rfl (lv_at hl 2 rfl) ?_
      obtain ⟨M8, hM8, hF⟩ := bd_some hF
      refine r_invVv [] Z (c_X4_workOutFlow (sh_8_1 ho) hM8) cv_X4_workOutFlow rfl (shp_lt (sh_8_1 ho) (by decide)) (fun _ _ => ⟨_, ce_4 (sh_8_1 ho)⟩) wm_454 rfl rfl ⟨Nat.le_of_ble_eq_true rfl, Nat.le_of_ble_eq_true rfl⟩ rfl hl.1 rfl (Nat.le_of_ble_eq_true rfl) dX8_mean_30 ?_
      refine r_aload_n Z dX8_mean_33 rfl (lv_at hl 1 rfl) ?_
      refine g_8_1 Z ho wm_351 dX8_mean_34 ?_
      refine r_iload_n Z dX8_mean_37 rfl (lv_at hl 2 rfl) ?_
      obtain ⟨q9, hq9, hF⟩ := bd_some hF
      refine r_invVi [] Z (c_X4_isOverfull (sh_8_1 ho) hq9) cv_X4_isOverfull rfl (shp_lt (sh_8_1 ho) (by decide)) (fun _ _ => ⟨_, ce_4 (sh_8_1 ho)⟩) wm_462 rfl rfl ⟨Nat.le_of_ble_eq_true rfl, Nat.le_of_ble_eq_true rfl⟩ rfl hl.1 rfl (Nat.le_of_ble_eq_true rfl) dX8_mean_38 ?_
      refine r_if_eq Z 47 dX8_mean_41 (by decide) (fun hc10 => ?_) (fun hc10 => ?_)
      · replace hF := if_some hc10 hF
        refine r_aload_n Z dX8_mean_47 rfl (lv_at hl 1 rfl) ?_
        refine g_8_1 Z ho wm_351 dX8_mean_48 ?_
        refine g_4_3 Z (sh_8_1 ho) wm_450 dX8_mean_51 ?_
        refine r_astore Z [(4, .ref (ad (fld (fld o 1) 3))), (3, .int q4.1), (0, .ref (ad o)), (1, .int x1), (2, .int x2)] dX8_mean_54 hl (by decide) rfl (fun ls hl => ?_)
        refine r_iload_n Z dX8_mean_56 rfl (lv_at hl 4 rfl) ?_
        refine r_if_eq Z 76 dX8_mean_57 (by decide) (fun hc11 => ?_) (fun hc11 => ?_)
        · replace hF := if_some hc11 hF
          exact L76 x1 x2 (fld (fld o 1) 3) q9.2 ls (sh_4_3 (sh_8_1 ho)) (lv_sub hl [2, 3, 4, 0] rfl) hF
        · replace hF := nif_some hc11 hF
          refine r_aload Z dX8_mean_60 (lv_at hl 0 rfl) ?_
          refine g_2_0 Z (sh_4_3 (sh_8_1 ho)) wm_466 dX8_mean_62 ?_
          refine r_lconst (v := 0) Z dX8_mean_65 (by decide) ?_
          refine r_lcmp Z dX8_mean_66 ?_
          refine r_if_ne Z 76 dX8_mean_67 (by decide) (fun hc12 => ?_) (fun hc12 => ?_)
          · replace hF := nif_some hc12 hF
            exact L76 x1 x2 (fld (fld o 1) 3) q9.2 ls (sh_4_3 (sh_8_1 ho)) (lv_sub hl [2, 3, 4, 0] rfl) hF
          · replace hF := if_some hc12 hF
            refine r_aload_n Z dX8_mean_70 rfl (lv_at hl 2 rfl) ?_
            refine r_iconst (v := 4) Z dX8_mean_71 (by decide) ?_
            obtain ⟨q13, hq13, hF⟩ := bd_some hF
            refine r_invVi [] Z (c_X8_refuse ho hq13) cv_X8_refuse rfl (shp_lt ho (by decide)) (fun _ _ => ⟨_, ce_8 ho⟩) wm_378 rfl rfl ⟨Nat.le_of_ble_eq_true rfl, Nat.le_of_ble_eq_true rfl⟩ rfl hl.1 rfl (Nat.le_of_ble_eq_true rfl) dX8_mean_72 ?_
            exact r_iret Z hQ hF dX8_mean_75
      · replace hF := nif_some hc10 hF
        refine r_bipush (v := (-4)) Z dX8_mean_44 (by decide) ?_
        exact r_iret Z hQ hF dX8_mean_46
    · replace hF := if_some hc7 hF
      refine r_bipush (v := (-4)) Z dX8_mean_22 (by decide) ?_
      exact r_iret Z hQ hF dX8_mean_24
  · replace hF := nif_some hc5 hF
    refine r_iload_n Z dX8_mean_10 rfl (lv_at hl 0 rfl) ?_
    exact r_iret Z hQ hF dX8_mean_11
theorem dX8_meanOf_0 : decode cX8_meanOf 0 = .ok (.aload_n 0, 1) := by decide +kernel
theorem dX8_meanOf_1 : decode cX8_meanOf 1 = .ok (.iload_n 1, 1) := by decide +kernel
theorem dX8_meanOf_2 : decode cX8_meanOf 2 = .ok (.iload_n 2, 1) := by decide +kernel
theorem dX8_meanOf_3 : decode cX8_meanOf 3 = .ok (.invokevirtual 198, 3) := by decide +kernel
theorem dX8_meanOf_6 : decode cX8_meanOf 6 = .ok (.istore_n 3, 1) := by decide +kernel
theorem dX8_meanOf_7 : decode cX8_meanOf 7 = .ok (.iload_n 3, 1) := by decide +kernel
theorem dX8_meanOf_8 : decode cX8_meanOf 8 = .ok (.ifCond .eq 5, 3) := by decide +kernel
theorem dX8_meanOf_11 : decode cX8_meanOf 11 = .ok (.iload_n 3, 1) := by decide +kernel
theorem dX8_meanOf_12 : decode cX8_meanOf 12 = .ok (.ireturn, 1) := by decide +kernel
theorem dX8_meanOf_13 : decode cX8_meanOf 13 = .ok (.aload_n 0, 1) := by decide +kernel
theorem dX8_meanOf_14 : decode cX8_meanOf 14 = .ok (.getfield 25, 3) := by decide +kernel
theorem dX8_meanOf_17 : decode cX8_meanOf 17 = .ok (.aload_n 0, 1) := by decide +kernel
theorem dX8_meanOf_18 : decode cX8_meanOf 18 = .ok (.getfield 18, 3) := by decide +kernel
theorem dX8_meanOf_21 : decode cX8_meanOf 21 = .ok (.invokevirtual 202, 3) := by decide +kernel
theorem dX8_meanOf_24 : decode cX8_meanOf 24 = .ok (.aload_n 0, 1) := by decide +kernel
theorem dX8_meanOf_25 : decode cX8_meanOf 25 = .ok (.getfield 25, 3) := by decide +kernel
theorem dX8_meanOf_28 : decode cX8_meanOf 28 = .ok (.iload_n 1, 1) := by decide +kernel
theorem dX8_meanOf_29 : decode cX8_meanOf 29 = .ok (.iload_n 2, 1) := by decide +kernel
theorem dX8_meanOf_30 : decode cX8_meanOf 30 = .ok (.aload_n 0, 1) := by decide +kernel
theorem dX8_meanOf_31 : decode cX8_meanOf 31 = .ok (.getfield 46, 3) := by decide +kernel
theorem dX8_meanOf_34 : decode cX8_meanOf 34 = .ok (.invokevirtual 222, 3) := by decide +kernel
theorem dX8_meanOf_37 : decode cX8_meanOf 37 = .ok (.iconst 1, 1) := by decide +kernel
theorem dX8_meanOf_38 : decode cX8_meanOf 38 = .ok (.ireturn, 1) := by decide +kernel
theorem cv_X8_meanOf : wn_cV yX8_meanOf cX8_meanOf 4 (some .int) RX8 2 := ⟨wm_503, wm_997, wm_998, wm_377, by decide +kernel⟩
abbrev rm_X8_meanOf : Room := rmz 5 107
set_option maxHeartbeats 4000000 in
set_option maxRecDepth 100000 in
theorem c_X8_meanOf {ad : Nat → Nat} {o : Nat} {x1 : Int32} {x2 : Int32} {M : Mm} {q : Int32 × Mm} (ho : shp o = 8) (hF : f_X8_meanOf o x1 x2 M = some q) : KI ad yX8_meanOf cX8_meanOf 4 (some .int) rm_X8_meanOf [.ref (ad o), .int x1, .int x2] M q.1 q.2 := by
  refine wn_enterI (own := RX8) (by decide) rfl (Nat.le_of_ble_eq_true rfl) (fun X ls Z hQ hl => ?_)
  have hl : lv_has ls 4 [(0, .ref (ad o)), (1, .int x1), (2, .int x2)] := hl
  unfold f_X8_meanOf at hF
  refine r_aload_n Z dX8_meanOf_0 rfl (lv_at hl 0 rfl) ?_
  refine r_iload_n Z dX8_meanOf_1 rfl (lv_at hl 1 rfl) ?_
  refine r_iload_n Z dX8_meanOf_2 rfl (lv_at hl 2 rfl) ?_
  obtain ⟨q1, hq1, hF⟩ := bd_some hF
  refine r_invVi [] Z (c_X8_judgeRound ho hq1) cv_X8_judgeRound rfl (shp_lt ho (by decide)) (fun _ _ => ⟨_, ce_8 ho⟩) wm_482 rfl rfl ⟨Nat.le_of_ble_eq_true rfl, Nat.le_of_ble_eq_true rfl⟩ rfl hl.1 rfl (Nat.le_of_ble_eq_true rfl) dX8_meanOf_3 ?_
  refine r_istore_n Z [(3, .int q1.1), (0, .ref (ad o)), (1, .int x1), (2, .int x2)] dX8_meanOf_6 rfl hl (by decide) rfl (fun ls hl => ?_)
  refine r_iload_n Z dX8_meanOf_7 rfl (lv_at hl 0 rfl) ?_
  refine r_if_eq Z 13 dX8_meanOf_8 (by decide) (fun hc2 => ?_) (fun hc2 => ?_)
  · replace hF := if_some hc2 hF
    refine r_aload_n Z dX8_meanOf_13 rfl (lv_at hl 1 rfl) ?_
    refine g_8_2 Z ho wm_354 dX8_meanOf_14 ?_
    refine r_aload_n Z dX8_meanOf_17 rfl (lv_at hl 1 rfl) ?_
    refine g_8_1 Z ho wm_351 dX8_meanOf_18 ?_
    obtain ⟨M3, hM3, hF⟩ := bd_some hF
    refine r_invVv [] Z (c_X5_load (sh_8_2 ho) (sh_8_1 ho) hM3) cv_X5_load rfl (shp_lt (sh_8_2 ho) (by decide)) (fun _ _ => ⟨_, ce_5 (sh_8_2 ho)⟩) wm_485 rfl rfl ⟨Nat.le_of_ble_eq_true rfl, Nat.le_of_ble_eq_true rfl⟩ rfl hl.1 rfl (Nat.le_of_ble_eq_true rfl) dX8_meanOf_21 ?_
    refine r_aload_n Z dX8_meanOf_24 rfl (lv_at hl 1 rfl) ?_
    refine g_8_2 Z ho wm_354 dX8_meanOf_25 ?_
    refine r_iload_n Z dX8_meanOf_28 rfl (lv_at hl 2 rfl) ?_
    refine r_iload_n Z dX8_meanOf_29 rfl (lv_at hl 3 rfl) ?_
    refine r_aload_n Z dX8_meanOf_30 rfl (lv_at hl 1 rfl) ?_
    refine g_8_5 Z ho wm_362 dX8_meanOf_31 ?_
    obtain ⟨M4, hM4, hF⟩ := bd_some hF
    refine r_invVv [] Z (c_X5_tellMeanOf (sh_8_2 ho) (sh_8_5 ho) hM4) cv_X5_tellMeanOf rfl (shp_lt (sh_8_2 ho) (by decide)) (fun _ _ => ⟨_, ce_5 (sh_8_2 ho)⟩) wm_500 rfl rfl ⟨Nat.le_of_ble_eq_true rfl, Nat.le_of_ble_eq_true rfl⟩ rfl hl.1 rfl (Nat.le_of_ble_eq_true rfl) dX8_meanOf_34 ?_
    refine r_iconst (v := 1) Z dX8_meanOf_37 (by decide) ?_
    exact r_iret Z hQ hF dX8_meanOf_38
  · replace hF := nif_some hc2 hF
    refine r_iload_n Z dX8_meanOf_11 rfl (lv_at hl 0 rfl) ?_
    exact r_iret Z hQ hF dX8_meanOf_12
theorem dX8_narrow_0 : decode cX8_narrow 0 = .ok (.aload_n 0, 1) := by decide +kernel
theorem dX8_narrow_1 : decode cX8_narrow 1 = .ok (.getfield 18, 3) := by decide +kernel
theorem dX8_narrow_4 : decode cX8_narrow 4 = .ok (.invokevirtual 195, 3) := by decide +kernel
theorem dX8_narrow_7 : decode cX8_narrow 7 = .ok (.ifCond .ne 6, 3) := by decide +kernel
theorem dX8_narrow_10 : decode cX8_narrow 10 = .ok (.bipush (-4), 2) := by decide +kernel
theorem dX8_narrow_12 : decode cX8_narrow 12 = .ok (.ireturn, 1) := by decide +kernel
theorem dX8_narrow_13 : decode cX8_narrow 13 = .ok (.aload_n 0, 1) := by decide +kernel
theorem dX8_narrow_14 : decode cX8_narrow 14 = .ok (.getfield 25, 3) := by decide +kernel
theorem dX8_narrow_17 : decode cX8_narrow 17 = .ok (.aload_n 0, 1) := by decide +kernel
theorem dX8_narrow_18 : decode cX8_narrow 18 = .ok (.getfield 18, 3) := by decide +kernel
theorem dX8_narrow_21 : decode cX8_narrow 21 = .ok (.invokevirtual 202, 3) := by decide +kernel
theorem dX8_narrow_24 : decode cX8_narrow 24 = .ok (.aload_n 0, 1) := by decide +kernel
theorem dX8_narrow_25 : decode cX8_narrow 25 = .ok (.getfield 25, 3) := by decide +kernel
theorem dX8_narrow_28 : decode cX8_narrow 28 = .ok (.invokevirtual 225, 3) := by decide +kernel
theorem dX8_narrow_31 : decode cX8_narrow 31 = .ok (.ireturn, 1) := by decide +kernel
theorem cv_X8_narrow : wn_cV yX8_narrow cX8_narrow 1 (some .int) RX8 0 := ⟨wm_506, wm_1009, wm_1010, wm_377, by decide +kernel⟩
abbrev rm_X8_narrow : Room := rmz 4 106
set_option maxHeartbeats 4000000 in
set_option maxRecDepth 100000 in
theorem c_X8_narrow {ad : Nat → Nat} {o : Nat} {M : Mm} {q : Int32 × Mm} (ho : shp o = 8) (hF : f_X8_narrow o M = some q) : KI ad yX8_narrow cX8_narrow 1 (some .int) rm_X8_narrow [.ref (ad o)] M q.1 q.2 := by
  refine wn_enterI (own := RX8) (by decide) rfl (Nat.le_of_ble_eq_true rfl) (fun X ls Z hQ hl => ?_)
  have hl : lv_has ls 1 [(0, .ref (ad o))] := hl
  unfold f_X8_narrow at hF
  refine r_aload_n Z dX8_narrow_0 rfl (lv_at hl 0 rfl) ?_
  refine g_8_1 Z ho wm_351 dX8_narrow_1 ?_
  obtain ⟨q1, hq1, hF⟩ := bd_some hF
  refine r_invVi [] Z (c_X4_isClosed (sh_8_1 ho) hq1) cv_X4_isClosed rfl (shp_lt (sh_8_1 ho) (by decide)) (fun _ _ => ⟨_, ce_4 (sh_8_1 ho)⟩) wm_473 rfl rfl ⟨Nat.le_of_ble_eq_true rfl, Nat.le_of_ble_eq_true rfl⟩ rfl hl.1 rfl (Nat.le_of_ble_eq_true rfl) dX8_narrow_4 ?_
  refine r_if_ne Z 13 dX8_narrow_7 (by decide) (fun hc2 => ?_) (fun hc2 => ?_)
  · replace hF := nif_some hc2 hF
    refine r_aload_n Z dX8_narrow_13 rfl (lv_at hl 0 rfl) ?_
    refine g_8_2 Z ho wm_354 dX8_narrow_14 ?_
    refine r_aload_n Z dX8_narrow_17 rfl (lv_at hl 0 rfl) ?_
    refine g_8_1 Z ho wm_351 dX8_narrow_18 ?_
    obtain ⟨M3, hM3, hF⟩ := bd_some hF
    refine r_invVv [] Z (c_X5_load (sh_8_2 ho) (sh_8_1 ho) hM3) cv_X5_load rfl (shp_lt (sh_8_2 ho) (by decide)) (fun _ _ => ⟨_, ce_5 (sh_8_2 ho)⟩) wm_485 rfl rfl ⟨Nat.le_of_ble_eq_true rfl, Nat.le_of_ble_eq_true rfl⟩ rfl hl.1 rfl (Nat.le_of_ble_eq_true rfl) dX8_narrow_21 ?_
    refine r_aload_n Z dX8_narrow_24 rfl (lv_at hl 0 rfl) ?_
    refine g_8_2 Z ho wm_354 dX8_narrow_25 ?_
    obtain ⟨q4, hq4, hF⟩ := bd_some hF
    refine r_invVi [] Z (c_X5_narrowest (sh_8_2 ho) hq4) cv_X5_narrowest rfl (shp_lt (sh_8_2 ho) (by decide)) (fun _ _ => ⟨_, ce_5 (sh_8_2 ho)⟩) wm_505 rfl rfl ⟨Nat.le_of_ble_eq_true rfl, Nat.le_of_ble_eq_true rfl⟩ rfl hl.1 rfl (Nat.le_of_ble_eq_true rfl) dX8_narrow_28 ?_
    exact r_iret Z hQ hF dX8_narrow_31
  · replace hF := if_some hc2 hF
    refine r_bipush (v := (-4)) Z dX8_narrow_10 (by decide) ?_
    exact r_iret Z hQ hF dX8_narrow_12
theorem dX8_parts_0 : decode cX8_parts 0 = .ok (.aload_n 0, 1) := by decide +kernel
theorem dX8_parts_1 : decode cX8_parts 1 = .ok (.iload_n 1, 1) := by decide +kernel
theorem dX8_parts_2 : decode cX8_parts 2 = .ok (.invokevirtual 255, 3) := by decide +kernel
theorem dX8_parts_5 : decode cX8_parts 5 = .ok (.istore_n 2, 1) := by decide +kernel
theorem dX8_parts_6 : decode cX8_parts 6 = .ok (.iload_n 2, 1) := by decide +kernel
theorem dX8_parts_7 : decode cX8_parts 7 = .ok (.ifCond .eq 5, 3) := by decide +kernel
theorem dX8_parts_10 : decode cX8_parts 10 = .ok (.iload_n 2, 1) := by decide +kernel
theorem dX8_parts_11 : decode cX8_parts 11 = .ok (.ireturn, 1) := by decide +kernel
theorem dX8_parts_12 : decode cX8_parts 12 = .ok (.aload_n 0, 1) := by decide +kernel
theorem dX8_parts_13 : decode cX8_parts 13 = .ok (.getfield 32, 3) := by decide +kernel
theorem dX8_parts_16 : decode cX8_parts 16 = .ok (.aload_n 0, 1) := by decide +kernel
theorem dX8_parts_17 : decode cX8_parts 17 = .ok (.getfield 11, 3) := by decide +kernel
theorem dX8_parts_20 : decode cX8_parts 20 = .ok (.iload_n 1, 1) := by decide +kernel
theorem dX8_parts_21 : decode cX8_parts 21 = .ok (.aaload, 1) := by decide +kernel
theorem dX8_parts_22 : decode cX8_parts 22 = .ok (.invokevirtual 258, 3) := by decide +kernel
theorem dX8_parts_25 : decode cX8_parts 25 = .ok (.aload_n 0, 1) := by decide +kernel
theorem dX8_parts_26 : decode cX8_parts 26 = .ok (.aload_n 0, 1) := by decide +kernel
theorem dX8_parts_27 : decode cX8_parts 27 = .ok (.getfield 32, 3) := by decide +kernel
theorem dX8_parts_30 : decode cX8_parts 30 = .ok (.invokevirtual 268, 3) := by decide +kernel
theorem dX8_parts_33 : decode cX8_parts 33 = .ok (.putfield 58, 3) := by decide +kernel
theorem dX8_parts_36 : decode cX8_parts 36 = .ok (.aload_n 0, 1) := by decide +kernel
theorem dX8_parts_37 : decode cX8_parts 37 = .ok (.getfield 32, 3) := by decide +kernel
theorem dX8_parts_40 : decode cX8_parts 40 = .ok (.invokevirtual 262, 3) := by decide +kernel
theorem dX8_parts_43 : decode cX8_parts 43 = .ok (.ireturn, 1) := by decide +kernel
theorem cv_X8_parts : wn_cV yX8_parts cX8_parts 3 (some .int) RX8 1 := ⟨wm_555, wm_1051, wm_1052, wm_377, by decide +kernel⟩
abbrev rm_X8_parts : Room := rmz 4 88
set_option maxHeartbeats 4000000 in
set_option maxRecDepth 100000 in
theorem c_X8_parts {ad : Nat → Nat} {o : Nat} {x1 : Int32} {M : Mm} {q : Int32 × Mm} (ho : shp o = 8) (hF : f_X8_parts o x1 M = some q) : KI ad yX8_parts cX8_parts 3 (some .int) rm_X8_parts [.ref (ad o), .int x1] M q.1 q.2 := by
  refine wn_enterI (own := RX8) (by decide) rfl (Nat.le_of_ble_eq_true rfl) (fun X ls Z hQ hl => ?_)
  have hl : lv_has ls 3 [(0, .ref (ad o)), (1, .int x1)] := hl
  unfold f_X8_parts at hF
  refine r_aload_n Z dX8_parts_0 rfl (lv_at hl 0 rfl) ?_
  refine r_iload_n Z dX8_parts_1 rfl (lv_at hl 1 rfl) ?_
  obtain ⟨q1, hq1, hF⟩ := bd_some hF
  refine r_invVi [] Z (c_X8_judgeChain ho hq1) cv_X8_judgeChain rfl (shp_lt ho (by decide)) (fun _ _ => ⟨_, ce_8 ho⟩) wm_541 rfl rfl ⟨Nat.le_of_ble_eq_true rfl, Nat.le_of_ble_eq_true rfl⟩ rfl hl.1 rfl (Nat.le_of_ble_eq_true rfl) dX8_parts_2 ?_
  refine r_istore_n Z [(2, .int q1.1), (0, .ref (ad o)), (1, .int x1)] dX8_parts_5 rfl hl (by decide) rfl (fun ls hl => ?_)
  refine r_iload_n Z dX8_parts_6 rfl (lv_at hl 0 rfl) ?_
  refine r_if_eq Z 12 dX8_parts_7 (by decide) (fun hc2 => ?_) (fun hc2 => ?_)
  · replace hF := if_some hc2 hF
    refine r_aload_n Z dX8_parts_12 rfl (lv_at hl 1 rfl) ?_
    refine g_8_3 Z ho wm_356 dX8_parts_13 ?_
    refine r_aload_n Z dX8_parts_16 rfl (lv_at hl 1 rfl) ?_
    refine g_8_0 Z ho wm_348 dX8_parts_17 ?_
    refine r_iload_n Z dX8_parts_20 rfl (lv_at hl 2 rfl) ?_
    obtain ⟨hi3, hF⟩ := ck_some hF
    refine r_aald14 Z (sh_8_0 ho) hi3 dX8_parts_21 ?_
    obtain ⟨M4, hM4, hF⟩ := bd_some hF
    refine r_invVv [] Z (c_X0_load (sh_8_3 ho) (se_14 (sh_8_0 ho) hi3) hM4) cv_X0_load rfl (shp_lt (sh_8_3 ho) (by decide)) (fun _ _ => ⟨_, ce_0 (sh_8_3 ho)⟩) wm_544 rfl rfl ⟨Nat.le_of_ble_eq_true rfl, Nat.le_of_ble_eq_true rfl⟩ rfl hl.1 rfl (Nat.le_of_ble_eq_true rfl) dX8_parts_22 ?_
    refine r_aload_n Z dX8_parts_25 rfl (lv_at hl 1 rfl) ?_
    refine r_aload_n Z dX8_parts_26 rfl (lv_at hl 1 rfl) ?_
    refine g_8_3 Z ho wm_356 dX8_parts_27 ?_
    obtain ⟨q5, hq5, hF⟩ := bd_some hF
    refine r_invVi [.ref (ad o)] Z (c_X0_firstPart (sh_8_3 ho) hq5) cv_X0_firstPart rfl (shp_lt (sh_8_3 ho) (by decide)) (fun _ _ => ⟨_, ce_0 (sh_8_3 ho)⟩) wm_554 rfl rfl ⟨Nat.le_of_ble_eq_true rfl, Nat.le_of_ble_eq_true rfl⟩ rfl hl.1 rfl (Nat.le_of_ble_eq_true rfl) dX8_parts_30 ?_
    obtain ⟨M6, eM6, hF⟩ := nm_some hF
    refine p_8_8 Z ho wm_365 dX8_parts_33 ?_
    rw [← eM6]
    refine r_aload_n Z dX8_parts_36 rfl (lv_at hl 1 rfl) ?_
    refine g_8_3 Z ho wm_356 dX8_parts_37 ?_
    obtain ⟨q7, hq7, hF⟩ := bd_some hF
    refine r_invVi [] Z (c_X0_partsThere (sh_8_3 ho) hq7) cv_X0_partsThere rfl (shp_lt (sh_8_3 ho) (by decide)) (fun _ _ => ⟨_, ce_0 (sh_8_3 ho)⟩) wm_547 rfl rfl ⟨Nat.le_of_ble_eq_true rfl, Nat.le_of_ble_eq_true rfl⟩ rfl hl.1 rfl (Nat.le_of_ble_eq_true rfl) dX8_parts_40 ?_
    exact r_iret Z hQ hF dX8_parts_43
  · replace hF := nif_some hc2 hF
    refine r_iload_n Z dX8_parts_10 rfl (lv_at hl 0 rfl) ?_
    exact r_iret Z hQ hF dX8_parts_11
theorem dX8_product_0 : decode cX8_product 0 = .ok (.aload_n 0, 1) := by decide +kernel
theorem dX8_product_1 : decode cX8_product 1 = .ok (.getfield 18, 3) := by decide +kernel
theorem dX8_product_4 : decode cX8_product 4 = .ok (.invokevirtual 156, 3) := by decide +kernel
theorem dX8_product_7 : decode cX8_product 7 = .ok (.ifCond .eq 7, 3) := by decide +kernel
theorem dX8_product_10 : decode cX8_product 10 = .ok (.iconst 1, 1) := by decide +kernel
theorem dX8_product_11 : decode cX8_product 11 = .ok (.goto 4, 3) := by decide +kernel
theorem dX8_product_14 : decode cX8_product 14 = .ok (.iconst 0, 1) := by decide +kernel
theorem dX8_product_15 : decode cX8_product 15 = .ok (.ireturn, 1) := by decide +kernel
theorem cv_X8_product : wn_cV yX8_product cX8_product 1 (some .int) RX8 0 := ⟨wm_443, wm_943, wm_944, wm_377, by decide +kernel⟩
abbrev rm_X8_product : Room := rmz 1 21
set_option maxHeartbeats 4000000 in
set_option maxRecDepth 100000 in
theorem c_X8_product {ad : Nat → Nat} {o : Nat} {M : Mm} {q : Int32 × Mm} (ho : shp o = 8) (hF : f_X8_product o M = some q) : KI ad yX8_product cX8_product 1 (some .int) rm_X8_product [.ref (ad o)] M q.1 q.2 := by
  refine wn_enterI (own := RX8) (by decide) rfl (Nat.le_of_ble_eq_true rfl) (fun X ls Z hQ hl => ?_)
  have hl : lv_has ls 1 [(0, .ref (ad o))] := hl
  unfold f_X8_product at hF
  refine r_aload_n Z dX8_product_0 rfl (lv_at hl 0 rfl) ?_
  refine g_8_1 Z ho wm_351 dX8_product_1 ?_
  obtain ⟨q1, hq1, hF⟩ := bd_some hF
  refine r_invVi [] Z (c_X4_isProduct (sh_8_1 ho) hq1) cv_X4_isProduct rfl (shp_lt (sh_8_1 ho) (by decide)) (fun _ _ => ⟨_, ce_4 (sh_8_1 ho)⟩) wm_444 rfl rfl ⟨Nat.le_of_ble_eq_true rfl, Nat.le_of_ble_eq_true rfl⟩ rfl hl.1 rfl (Nat.le_of_ble_eq_true rfl) dX8_product_4 ?_
  refine r_if_eq Z 14 dX8_product_7 (by decide) (fun hc2 => ?_) (fun hc2 => ?_)
  · replace hF := if_some hc2 hF
    refine r_iconst (v := 0) Z dX8_product_14 (by decide) ?_
    exact r_iret Z hQ hF dX8_product_15
  · replace hF := nif_some hc2 hF
    refine r_iconst (v := 1) Z dX8_product_10 (by decide) ?_
    refine r_goto Z 15 dX8_product_11 (by decide) ?_
    exact r_iret Z hQ hF dX8_product_15
theorem dX8_tellBreakingIn_0 : decode cX8_tellBreakingIn 0 = .ok (.iload_n 3, 1) := by decide +kernel
theorem dX8_tellBreakingIn_1 : decode cX8_tellBreakingIn 1 = .ok (.iload_n 2, 1) := by decide +kernel
theorem dX8_tellBreakingIn_2 : decode cX8_tellBreakingIn 2 = .ok (.iadd, 1) := by decide +kernel
theorem dX8_tellBreakingIn_3 : decode cX8_tellBreakingIn 3 = .ok (.i2l, 1) := by decide +kernel
theorem dX8_tellBreakingIn_4 : decode cX8_tellBreakingIn 4 = .ok (.lstore 5, 2) := by decide +kernel
theorem dX8_tellBreakingIn_6 : decode cX8_tellBreakingIn 6 = .ok (.iload 4, 2) := by decide +kernel
theorem dX8_tellBreakingIn_8 : decode cX8_tellBreakingIn 8 = .ok (.ifCond .ne 17, 3) := by decide +kernel
theorem dX8_tellBreakingIn_11 : decode cX8_tellBreakingIn 11 = .ok (.aload_n 0, 1) := by decide +kernel
theorem dX8_tellBreakingIn_12 : decode cX8_tellBreakingIn 12 = .ok (.getfield 46, 3) := by decide +kernel
theorem dX8_tellBreakingIn_15 : decode cX8_tellBreakingIn 15 = .ok (.iload_n 1, 1) := by decide +kernel
theorem dX8_tellBreakingIn_16 : decode cX8_tellBreakingIn 16 = .ok (.i2l, 1) := by decide +kernel
theorem dX8_tellBreakingIn_17 : decode cX8_tellBreakingIn 17 = .ok (.lload 5, 2) := by decide +kernel
theorem dX8_tellBreakingIn_19 : decode cX8_tellBreakingIn 19 = .ok (.invokevirtual 191, 3) := by decide +kernel
theorem dX8_tellBreakingIn_22 : decode cX8_tellBreakingIn 22 = .ok (.goto 28, 3) := by decide +kernel
theorem dX8_tellBreakingIn_25 : decode cX8_tellBreakingIn 25 = .ok (.aload_n 0, 1) := by decide +kernel
theorem dX8_tellBreakingIn_26 : decode cX8_tellBreakingIn 26 = .ok (.getfield 46, 3) := by decide +kernel
theorem dX8_tellBreakingIn_29 : decode cX8_tellBreakingIn 29 = .ok (.iload_n 1, 1) := by decide +kernel
theorem dX8_tellBreakingIn_30 : decode cX8_tellBreakingIn 30 = .ok (.iload_n 2, 1) := by decide +kernel
theorem dX8_tellBreakingIn_31 : decode cX8_tellBreakingIn 31 = .ok (.iadd, 1) := by decide +kernel
theorem dX8_tellBreakingIn_32 : decode cX8_tellBreakingIn 32 = .ok (.i2l, 1) := by decide +kernel
theorem dX8_tellBreakingIn_33 : decode cX8_tellBreakingIn 33 = .ok (.lload 5, 2) := by decide +kernel
theorem dX8_tellBreakingIn_35 : decode cX8_tellBreakingIn 35 = .ok (.lmul, 1) := by decide +kernel
theorem dX8_tellBreakingIn_36 : decode cX8_tellBreakingIn 36 = .ok (.iload_n 1, 1) := by decide +kernel
theorem dX8_tellBreakingIn_37 : decode cX8_tellBreakingIn 37 = .ok (.i2l, 1) := by decide +kernel
theorem dX8_tellBreakingIn_38 : decode cX8_tellBreakingIn 38 = .ok (.iload_n 3, 1) := by decide +kernel
theorem dX8_tellBreakingIn_39 : decode cX8_tellBreakingIn 39 = .ok (.i2l, 1) := by decide +kernel
theorem dX8_tellBreakingIn_40 : decode cX8_tellBreakingIn 40 = .ok (.lmul, 1) := by decide +kernel
theorem dX8_tellBreakingIn_41 : decode cX8_tellBreakingIn 41 = .ok (.lsub, 1) := by decide +kernel
theorem dX8_tellBreakingIn_42 : decode cX8_tellBreakingIn 42 = .ok (.iload_n 3, 1) := by decide +kernel
theorem dX8_tellBreakingIn_43 : decode cX8_tellBreakingIn 43 = .ok (.i2l, 1) := by decide +kernel
theorem dX8_tellBreakingIn_44 : decode cX8_tellBreakingIn 44 = .ok (.lload 5, 2) := by decide +kernel
theorem dX8_tellBreakingIn_46 : decode cX8_tellBreakingIn 46 = .ok (.lmul, 1) := by decide +kernel
theorem dX8_tellBreakingIn_47 : decode cX8_tellBreakingIn 47 = .ok (.invokevirtual 191, 3) := by decide +kernel
theorem dX8_tellBreakingIn_50 : decode cX8_tellBreakingIn 50 = .ok (.return_, 1) := by decide +kernel
theorem cv_X8_tellBreakingIn : wn_cV yX8_tellBreakingIn cX8_tellBreakingIn 7 none RX8 4 := ⟨wm_520, wm_525, wm_526, wm_377, by decide +kernel⟩
abbrev rm_X8_tellBreakingIn : Room := rmz 3 71
set_option maxHeartbeats 4000000 in
set_option maxRecDepth 100000 in
theorem c_X8_tellBreakingIn {ad : Nat → Nat} {o : Nat} {x1 : Int32} {x2 : Int32} {x3 : Int32} {x4 : Int32} {M : Mm} {q : Mm} (ho : shp o = 8) (hF : f_X8_tellBreakingIn o x1 x2 x3 x4 M = some q) : KV ad yX8_tellBreakingIn cX8_tellBreakingIn 7 none rm_X8_tellBreakingIn [.ref (ad o), .int x1, .int x2, .int x3, .int x4] M q := by
  refine wn_enterV (own := RX8) (by decide) rfl (Nat.le_of_ble_eq_true rfl) (fun X ls Z hQ hl => ?_)
  have hl : lv_has ls 7 [(0, .ref (ad o)), (1, .int x1), (2, .int x2), (3, .int x3), (4, .int x4)] := hl
  unfold f_X8_tellBreakingIn at hF
  refine r_iload_n Z dX8_tellBreakingIn_0 rfl (lv_at hl 3 rfl) ?_
  refine r_iload_n Z dX8_tellBreakingIn_1 rfl (lv_at hl 2 rfl) ?_
  refine r_iadd Z dX8_tellBreakingIn_2 ?_
  refine r_i2l Z dX8_tellBreakingIn_3 ?_
  obtain ⟨t1, et1, hF⟩ := nm_some hF
  rw [← et1]
  refine r_lstore Z [(5, .long t1), (0, .ref (ad o)), (1, .int x1), (2, .int x2), (3, .int x3), (4, .int x4)] dX8_tellBreakingIn_4 hl (by decide) rfl (fun ls hl => ?_)
  refine r_iload Z dX8_tellBreakingIn_6 (lv_at hl 5 rfl) ?_
  refine r_if_ne Z 25 dX8_tellBreakingIn_8 (by decide) (fun hc2 => ?_) (fun hc2 => ?_)
  · replace hF := nif_some hc2 hF
    refine r_aload_n Z dX8_tellBreakingIn_25 rfl (lv_at hl 1 rfl) ?_
    refine g_8_5 Z ho wm_362 dX8_tellBreakingIn_26 ?_
    refine r_iload_n Z dX8_tellBreakingIn_29 rfl (lv_at hl 2 rfl) ?_
    refine r_iload_n Z dX8_tellBreakingIn_30 rfl (lv_at hl 3 rfl) ?_
    refine r_iadd Z dX8_tellBreakingIn_31 ?_
    refine r_i2l Z dX8_tellBreakingIn_32 ?_
    refine r_lload Z dX8_tellBreakingIn_33 (lv_at hl 0 rfl) ?_
    refine r_lmul Z dX8_tellBreakingIn_35 ?_
    refine r_iload_n Z dX8_tellBreakingIn_36 rfl (lv_at hl 2 rfl) ?_
    refine r_i2l Z dX8_tellBreakingIn_37 ?_
    refine r_iload_n Z dX8_tellBreakingIn_38 rfl (lv_at hl 4 rfl) ?_
    refine r_i2l Z dX8_tellBreakingIn_39 ?_
    refine r_lmul Z dX8_tellBreakingIn_40 ?_
    refine r_lsub Z dX8_tellBreakingIn_41 ?_
    refine r_iload_n Z dX8_tellBreakingIn_42 rfl (lv_at hl 4 rfl) ?_
    refine r_i2l Z dX8_tellBreakingIn_43 ?_
    refine r_lload Z dX8_tellBreakingIn_44 (lv_at hl 0 rfl) ?_
    refine r_lmul Z dX8_tellBreakingIn_46 ?_
    obtain ⟨M3, hM3, hF⟩ := bd_some hF
    refine r_invVv [] Z (c_X2_set (sh_8_5 ho) hM3) cv_X2_set rfl (shp_lt (sh_8_5 ho) (by decide)) (fun _ _ => ⟨_, ce_2 (sh_8_5 ho)⟩) wm_471 rfl rfl ⟨Nat.le_of_ble_eq_true rfl, Nat.le_of_ble_eq_true rfl⟩ rfl hl.1 rfl (Nat.le_of_ble_eq_true rfl) dX8_tellBreakingIn_47 ?_
    exact r_vret Z hQ hF dX8_tellBreakingIn_50
  · replace hF := if_some hc2 hF
    refine r_aload_n Z dX8_tellBreakingIn_11 rfl (lv_at hl 1 rfl) ?_
    refine g_8_5 Z ho wm_362 dX8_tellBreakingIn_12 ?_
    refine r_iload_n Z dX8_tellBreakingIn_15 rfl (lv_at hl 2 rfl) ?_
    refine r_i2l Z dX8_tellBreakingIn_16 ?_
    refine r_lload Z dX8_tellBreakingIn_17 (lv_at hl 0 rfl) ?_
    obtain ⟨M4, hM4, hF⟩ := bd_some hF
    refine r_invVv [] Z (c_X2_set (sh_8_5 ho) hM4) cv_X2_set rfl (shp_lt (sh_8_5 ho) (by decide)) (fun _ _ => ⟨_, ce_2 (sh_8_5 ho)⟩) wm_471 rfl rfl ⟨Nat.le_of_ble_eq_true rfl, Nat.le_of_ble_eq_true rfl⟩ rfl hl.1 rfl (Nat.le_of_ble_eq_true rfl) dX8_tellBreakingIn_19 ?_
    refine r_goto Z 50 dX8_tellBreakingIn_22 (by decide) ?_
    exact r_vret Z hQ hF dX8_tellBreakingIn_50

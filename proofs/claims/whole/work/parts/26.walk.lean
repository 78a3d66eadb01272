theorem dX9_way_0 : decode cX9_way 0 = .ok (.iload_n 1, 1) := by decide +kernel
theorem dX9_way_1 : decode cX9_way 1 = .ok (.invokestatic 100, 3) := by decide +kernel
theorem dX9_way_4 : decode cX9_way 4 = .ok (.ifCond .eq 19, 3) := by decide +kernel
theorem dX9_way_7 : decode cX9_way 7 = .ok (.iload_n 2, 1) := by decide +kernel
theorem dX9_way_8 : decode cX9_way 8 = .ok (.invokestatic 100, 3) := by decide +kernel
theorem dX9_way_11 : decode cX9_way 11 = .ok (.ifCond .eq 12, 3) := by decide +kernel
theorem dX9_way_14 : decode cX9_way 14 = .ok (.iload_n 3, 1) := by decide +kernel
theorem dX9_way_15 : decode cX9_way 15 = .ok (.iconst 0, 1) := by decide +kernel
theorem dX9_way_16 : decode cX9_way 16 = .ok (.iconst 4, 1) := by decide +kernel
theorem dX9_way_17 : decode cX9_way 17 = .ok (.invokestatic 81, 3) := by decide +kernel
theorem dX9_way_20 : decode cX9_way 20 = .ok (.ifCond .ne 5, 3) := by decide +kernel
theorem dX9_way_23 : decode cX9_way 23 = .ok (.iconst (-1), 1) := by decide +kernel
theorem dX9_way_24 : decode cX9_way 24 = .ok (.ireturn, 1) := by decide +kernel
theorem dX9_way_25 : decode cX9_way 25 = .ok (.aload_n 0, 1) := by decide +kernel
theorem dX9_way_26 : decode cX9_way 26 = .ok (.getfield 26, 3) := by decide +kernel
theorem dX9_way_29 : decode cX9_way 29 = .ok (.iload_n 1, 1) := by decide +kernel
theorem dX9_way_30 : decode cX9_way 30 = .ok (.baload, 1) := by decide +kernel
theorem dX9_way_31 : decode cX9_way 31 = .ok (.ifCond .eq 12, 3) := by decide +kernel
theorem dX9_way_34 : decode cX9_way 34 = .ok (.aload_n 0, 1) := by decide +kernel
theorem dX9_way_35 : decode cX9_way 35 = .ok (.getfield 26, 3) := by decide +kernel
theorem dX9_way_38 : decode cX9_way 38 = .ok (.iload_n 2, 1) := by decide +kernel
theorem dX9_way_39 : decode cX9_way 39 = .ok (.baload, 1) := by decide +kernel
theorem dX9_way_40 : decode cX9_way 40 = .ok (.ifCond .ne 9, 3) := by decide +kernel
theorem dX9_way_43 : decode cX9_way 43 = .ok (.aload_n 0, 1) := by decide +kernel
theorem dX9_way_44 : decode cX9_way 44 = .ok (.iconst 1, 1) := by decide +kernel
theorem dX9_way_45 : decode cX9_way 45 = .ok (.invokevirtual 89, 3) := by decide +kernel
theorem dX9_way_48 : decode cX9_way 48 = .ok (.ireturn, 1) := by decide +kernel
theorem dX9_way_49 : decode cX9_way 49 = .ok (.aload_n 0, 1) := by decide +kernel
theorem dX9_way_50 : decode cX9_way 50 = .ok (.getfield 45, 3) := by decide +kernel
theorem dX9_way_53 : decode cX9_way 53 = .ok (.iconst 4, 1) := by decide +kernel
theorem dX9_way_54 : decode cX9_way 54 = .ok (.iload_n 1, 1) := by decide +kernel
theorem dX9_way_55 : decode cX9_way 55 = .ok (.imul, 1) := by decide +kernel
theorem dX9_way_56 : decode cX9_way 56 = .ok (.iload_n 2, 1) := by decide +kernel
theorem dX9_way_57 : decode cX9_way 57 = .ok (.iadd, 1) := by decide +kernel
theorem dX9_way_58 : decode cX9_way 58 = .ok (.iaload, 1) := by decide +kernel
theorem dX9_way_59 : decode cX9_way 59 = .ok (.istore 4, 2) := by decide +kernel
theorem dX9_way_61 : decode cX9_way 61 = .ok (.aload_n 0, 1) := by decide +kernel
theorem dX9_way_62 : decode cX9_way 62 = .ok (.iload_n 1, 1) := by decide +kernel
theorem dX9_way_63 : decode cX9_way 63 = .ok (.invokevirtual 110, 3) := by decide +kernel
theorem dX9_way_66 : decode cX9_way 66 = .ok (.iload 4, 2) := by decide +kernel
theorem dX9_way_68 : decode cX9_way 68 = .ok (.isub, 1) := by decide +kernel
theorem dX9_way_69 : decode cX9_way 69 = .ok (.iload_n 3, 1) := by decide +kernel
theorem dX9_way_70 : decode cX9_way 70 = .ok (.iadd, 1) := by decide +kernel
theorem dX9_way_71 : decode cX9_way 71 = .ok (.iconst 4, 1) := by decide +kernel
theorem dX9_way_72 : decode cX9_way 72 = .ok (.if_icmp .le 6, 3) := by decide +kernel
theorem dX9_way_75 : decode cX9_way 75 = .ok (.bipush (-4), 2) := by decide +kernel
theorem dX9_way_77 : decode cX9_way 77 = .ok (.ireturn, 1) := by decide +kernel
theorem dX9_way_78 : decode cX9_way 78 = .ok (.aload_n 0, 1) := by decide +kernel
theorem dX9_way_79 : decode cX9_way 79 = .ok (.getfield 45, 3) := by decide +kernel
theorem dX9_way_82 : decode cX9_way 82 = .ok (.iconst 4, 1) := by decide +kernel
theorem dX9_way_83 : decode cX9_way 83 = .ok (.iload_n 1, 1) := by decide +kernel
theorem dX9_way_84 : decode cX9_way 84 = .ok (.imul, 1) := by decide +kernel
theorem dX9_way_85 : decode cX9_way 85 = .ok (.iload_n 2, 1) := by decide +kernel
theorem dX9_way_86 : decode cX9_way 86 = .ok (.iadd, 1) := by decide +kernel
theorem dX9_way_87 : decode cX9_way 87 = .ok (.iload_n 3, 1) := by decide +kernel
theorem dX9_way_88 : decode cX9_way 88 = .ok (.iastore, 1) := by decide +kernel
theorem dX9_way_89 : decode cX9_way 89 = .ok (.iload 4, 2) := by decide +kernel
theorem dX9_way_91 : decode cX9_way 91 = .ok (.ireturn, 1) := by decide +kernel
theorem cv_X9_way : wn_cV yX9_way cX9_way 5 (some .int) RX9 3 := ⟨wm_675, wm_922, wm_923, wm_637, by decide +kernel⟩
abbrev rm_X9_way : Room := rmz 2 42
set_option maxHeartbeats 4000000 in
set_option maxRecDepth 100000 in
theorem c_X9_way {ad : Nat → Nat} {o : Nat} {x1 : Int32} {x2 : Int32} {x3 : Int32} {M : Mm} {q : Int32 × Mm} (ho : shp o = 9) (hF : f_X9_way o x1 x2 x3 M = some q) : KI ad yX9_way cX9_way 5 (some .int) rm_X9_way [.ref (ad o), .int x1, .int x2, .int x3] M q.1 q.2 := by
  refine wn_enterI (own := RX9) (by decide) rfl (Nat.le_of_ble_eq_true rfl) (fun X ls Z hQ hl => ?_)
  have hl : lv_has ls 5 [(0, .ref (ad o)), (1, .int x1), (2, .int x2), (3, .int x3)] := hl
  have L43 : ∀ (M : Mm) (ls : Array Slot), lv_has ls 5 [(0, .ref (ad o))] → f_X9_way_b43 o M = some q → G ad X M 43 ls [] := by
    intro M ls hl hF
    unfold f_X9_way_b43 at hF
    refine r_aload_n Z dX9_way_43 rfl (lv_at hl 0 rfl) ?_
    refine r_iconst (v := 1) Z dX9_way_44 (by decide) ?_
    obtain ⟨q1, hq1, hF⟩ := bd_some hF
    refine r_invVi [] Z (c_X9_meets ho hq1) cv_X9_meets rfl (shp_lt ho (by decide)) (fun _ _ => ⟨_, ce_9 ho⟩) wm_644 rfl rfl ⟨Nat.le_of_ble_eq_true rfl, Nat.le_of_ble_eq_true rfl⟩ rfl hl.1 rfl (Nat.le_of_ble_eq_true rfl) dX9_way_45 ?_
    exact r_iret Z hQ hF dX9_way_48
  unfold f_X9_way at hF
  refine r_iload_n Z dX9_way_0 rfl (lv_at hl 1 rfl) ?_
  obtain ⟨q2, hq2, hF⟩ := bd_some hF
  refine r_invSi [] Z (c_X9_isCounter hq2) cv_X9_isCounter wm_660 rfl rfl ⟨Nat.le_of_ble_eq_true rfl, Nat.le_of_ble_eq_true rfl⟩ rfl hl.1 rfl (Nat.le_of_ble_eq_true rfl) dX9_way_1 ?_
  refine r_if_eq Z 23 dX9_way_4 (by decide) (fun hc3 => ?_) (fun hc3 => ?_)
  · replace hF := if_some hc3 hF
    refine r_iconst (v := (-1)) Z dX9_way_23 (by decide) ?_
    exact r_iret Z hQ hF dX9_way_24
  · replace hF := nif_some hc3 hF
    refine r_iload_n Z dX9_way_7 rfl (lv_at hl 2 rfl) ?_
    obtain ⟨q4, hq4, hF⟩ := bd_some hF
    refine r_invSi [] Z (c_X9_isCounter hq4) cv_X9_isCounter wm_660 rfl rfl ⟨Nat.le_of_ble_eq_true rfl, Nat.le_of_ble_eq_true rfl⟩ rfl hl.1 rfl (Nat.le_of_ble_eq_true rfl) dX9_way_8 ?_
    refine r_if_eq Z 23 dX9_way_11 (by decide) (fun hc5 => ?_) (fun hc5 => ?_)
    · replace hF := if_some hc5 hF
      refine r_iconst (v := (-1)) Z dX9_way_23 (by decide) ?_
      exact r_iret Z hQ hF dX9_way_24
    · replace hF := nif_some hc5 hF
      refine r_iload_n Z dX9_way_14 rfl (lv_at hl 3 rfl) ?_
      refine r_iconst (v := 0) Z dX9_way_15 (by decide) ?_
      refine r_iconst (v := 4) Z dX9_way_16 (by decide) ?_
      obtain ⟨q6, hq6, hF⟩ := bd_some hF
      refine r_invSi [] Z (c_X9_in hq6) cv_X9_in wm_639 rfl rfl ⟨Nat.le_of_ble_eq_true rfl, Nat.le_of_ble_eq_true rfl⟩ rfl hl.1 rfl (Nat.le_of_ble_eq_true rfl) dX9_way_17 ?_
      refine r_if_ne Z 25 dX9_way_20 (by decide) (fun hc7 => ?_) (fun hc7 => ?_)
      · replace hF := nif_some hc7 hF
        refine r_aload_n Z dX9_way_25 rfl (lv_at hl 0 rfl) ?_
        refine g_9_8 Z ho wm_614 dX9_way_26 ?_
        refine r_iload_n Z dX9_way_29 rfl (lv_at hl 1 rfl) ?_
        obtain ⟨hi8, hF⟩ := ck_some hF
        refine r_zaload Z (shp_lt (sh_9_8 ho) (by decide)) (fun _ _ => ce_2004 (sh_9_8 ho)) hi8 dX9_way_30 ?_
        refine r_if_eq Z 43 dX9_way_31 (by decide) (fun hc9 => ?_) (fun hc9 => ?_)
        · replace hF := if_some hc9 hF
          exact L43 q6.2 ls (lv_sub hl [0] rfl) hF
        · replace hF := nif_some hc9 hF
          refine r_aload_n Z dX9_way_34 rfl (lv_at hl 0 rfl) ?_
          refine g_9_8 Z ho wm_614 dX9_way_35 ?_
          refine r_iload_n Z dX9_way_38 rfl (lv_at hl 2 rfl) ?_
          obtain ⟨hi10, hF⟩ := ck_some hF
          refine r_zaload Z (shp_lt (sh_9_8 ho) (by decide)) (fun _ _ => ce_2004 (sh_9_8 ho)) hi10 dX9_way_39 ?_
          refine r_if_ne Z 49 dX9_way_40 (by decide) (fun hc11 => ?_) (fun hc11 => ?_)
          · replace hF := nif_some hc11 hF
            refine r_aload_n Z dX9_way_49 rfl (lv_at hl 0 rfl) ?_
            refine g_9_14 Z ho wm_620 dX9_way_50 ?_
            refine r_iconst (v := 4) Z dX9_way_53 (by decide) ?_
            refine r_iload_n Z dX9_way_54 rfl (lv_at hl 1 rfl) ?_
            refine r_imul Z dX9_way_55 ?_
            refine r_iload_n Z dX9_way_56 rfl (lv_at hl 2 rfl) ?_
            refine r_iadd Z dX9_way_57 ?_
            obtain ⟨hi12, hF⟩ := ck_some hF
            refine r_iaload Z (shp_lt (sh_9_14 ho) (by decide)) (fun _ _ => ce_116 (sh_9_14 ho)) hi12 dX9_way_58 ?_
            obtain ⟨t13, et13, hF⟩ := nm_some hF
            rw [← et13]
            refine r_istore Z [(4, .int t13), (0, .ref (ad o)), (1, .int x1), (2, .int x2), (3, .int x3)] dX9_way_59 hl (by decide) rfl (fun ls hl => ?_)
            refine r_aload_n Z dX9_way_61 rfl (lv_at hl 1 rfl) ?_
            refine r_iload_n Z dX9_way_62 rfl (lv_at hl 2 rfl) ?_
            obtain ⟨q14, hq14, hF⟩ := bd_some hF
            refine r_invVi [] Z (c_X9_outOf ho hq14) cv_X9_outOf rfl (shp_lt ho (by decide)) (fun _ _ => ⟨_, ce_9 ho⟩) wm_676 rfl rfl ⟨Nat.le_of_ble_eq_true rfl, Nat.le_of_ble_eq_true rfl⟩ rfl hl.1 rfl (Nat.le_of_ble_eq_true rfl) dX9_way_63 ?_
            refine r_iload Z dX9_way_66 (lv_at hl 0 rfl) ?_
            refine r_isub Z dX9_way_68 ?_
            refine r_iload_n Z dX9_way_69 rfl (lv_at hl 4 rfl) ?_
            refine r_iadd Z dX9_way_70 ?_
            refine r_iconst (v := 4) Z dX9_way_71 (by decide) ?_
            refine r_icmp_le Z 78 dX9_way_72 (by decide) (fun hc15 => ?_) (fun hc15 => ?_)
            · replace hF := if_some hc15 hF
              refine r_aload_n Z dX9_way_78 rfl (lv_at hl 1 rfl) ?_
              refine g_9_14 Z ho wm_620 dX9_way_79 ?_
              refine r_iconst (v := 4) Z dX9_way_82 (by decide) ?_
              refine r_iload_n Z dX9_way_83 rfl (lv_at hl 2 rfl) ?_
              refine r_imul Z dX9_way_84 ?_
              refine r_iload_n Z dX9_way_85 rfl (lv_at hl 3 rfl) ?_
              refine r_iadd Z dX9_way_86 ?_
              refine r_iload_n Z dX9_way_87 rfl (lv_at hl 4 rfl) ?_
              obtain ⟨hi16, hF⟩ := ck_some hF
              obtain ⟨M17, eM17, hF⟩ := nm_some hF
              refine r_iastore Z (shp_lt (sh_9_14 ho) (by decide)) (fun _ _ => ce_116 (sh_9_14 ho)) hi16 dX9_way_88 ?_
              rw [← eM17]
              refine r_iload Z dX9_way_89 (lv_at hl 0 rfl) ?_
              exact r_iret Z hQ hF dX9_way_91
            · replace hF := nif_some hc15 hF
              refine r_bipush (v := (-4)) Z dX9_way_75 (by decide) ?_
              exact r_iret Z hQ hF dX9_way_77
          · replace hF := if_some hc11 hF
            exact L43 q6.2 ls (lv_sub hl [0] rfl) hF
      · replace hF := if_some hc7 hF
        refine r_iconst (v := (-1)) Z dX9_way_23 (by decide) ?_
        exact r_iret Z hQ hF dX9_way_24

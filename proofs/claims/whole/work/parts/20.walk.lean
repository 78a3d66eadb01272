theorem dX9_setFlow_0 : decode cX9_setFlow 0 = .ok (.aload_n 0, 1) := by decide +kernel
theorem dX9_setFlow_1 : decode cX9_setFlow 1 = .ok (.invokevirtual 124, 3) := by decide +kernel
theorem dX9_setFlow_4 : decode cX9_setFlow 4 = .ok (.istore_n 2, 1) := by decide +kernel
theorem dX9_setFlow_5 : decode cX9_setFlow 5 = .ok (.aload_n 0, 1) := by decide +kernel
theorem dX9_setFlow_6 : decode cX9_setFlow 6 = .ok (.lconst 0, 1) := by decide +kernel
theorem dX9_setFlow_7 : decode cX9_setFlow 7 = .ok (.putfield 131, 3) := by decide +kernel
theorem dX9_setFlow_10 : decode cX9_setFlow 10 = .ok (.aload_n 0, 1) := by decide +kernel
theorem dX9_setFlow_11 : decode cX9_setFlow 11 = .ok (.lconst 1, 1) := by decide +kernel
theorem dX9_setFlow_12 : decode cX9_setFlow 12 = .ok (.putfield 134, 3) := by decide +kernel
theorem dX9_setFlow_15 : decode cX9_setFlow 15 = .ok (.iload_n 2, 1) := by decide +kernel
theorem dX9_setFlow_16 : decode cX9_setFlow 16 = .ok (.iload_n 1, 1) := by decide +kernel
theorem dX9_setFlow_17 : decode cX9_setFlow 17 = .ok (.ishr, 1) := by decide +kernel
theorem dX9_setFlow_18 : decode cX9_setFlow 18 = .ok (.iconst 1, 1) := by decide +kernel
theorem dX9_setFlow_19 : decode cX9_setFlow 19 = .ok (.iand, 1) := by decide +kernel
theorem dX9_setFlow_20 : decode cX9_setFlow 20 = .ok (.ifCond .ne 4, 3) := by decide +kernel
theorem dX9_setFlow_23 : decode cX9_setFlow 23 = .ok (.return_, 1) := by decide +kernel
theorem dX9_setFlow_24 : decode cX9_setFlow 24 = .ok (.iconst 0, 1) := by decide +kernel
theorem dX9_setFlow_25 : decode cX9_setFlow 25 = .ok (.istore_n 3, 1) := by decide +kernel
theorem dX9_setFlow_26 : decode cX9_setFlow 26 = .ok (.iload_n 3, 1) := by decide +kernel
theorem dX9_setFlow_27 : decode cX9_setFlow 27 = .ok (.iconst 4, 1) := by decide +kernel
theorem dX9_setFlow_28 : decode cX9_setFlow 28 = .ok (.if_icmp .ge 60, 3) := by decide +kernel
theorem dX9_setFlow_31 : decode cX9_setFlow 31 = .ok (.iconst 0, 1) := by decide +kernel
theorem dX9_setFlow_32 : decode cX9_setFlow 32 = .ok (.istore 4, 2) := by decide +kernel
theorem dX9_setFlow_34 : decode cX9_setFlow 34 = .ok (.iload 4, 2) := by decide +kernel
theorem dX9_setFlow_36 : decode cX9_setFlow 36 = .ok (.iconst 4, 1) := by decide +kernel
theorem dX9_setFlow_37 : decode cX9_setFlow 37 = .ok (.if_icmp .ge 45, 3) := by decide +kernel
theorem dX9_setFlow_40 : decode cX9_setFlow 40 = .ok (.aload_n 0, 1) := by decide +kernel
theorem dX9_setFlow_41 : decode cX9_setFlow 41 = .ok (.getfield 48, 3) := by decide +kernel
theorem dX9_setFlow_44 : decode cX9_setFlow 44 = .ok (.bipush 6, 2) := by decide +kernel
theorem dX9_setFlow_46 : decode cX9_setFlow 46 = .ok (.iload_n 3, 1) := by decide +kernel
theorem dX9_setFlow_47 : decode cX9_setFlow 47 = .ok (.imul, 1) := by decide +kernel
theorem dX9_setFlow_48 : decode cX9_setFlow 48 = .ok (.iload 4, 2) := by decide +kernel
theorem dX9_setFlow_50 : decode cX9_setFlow 50 = .ok (.iadd, 1) := by decide +kernel
theorem dX9_setFlow_51 : decode cX9_setFlow 51 = .ok (.iload_n 3, 1) := by decide +kernel
theorem dX9_setFlow_52 : decode cX9_setFlow 52 = .ok (.iload 4, 2) := by decide +kernel
theorem dX9_setFlow_54 : decode cX9_setFlow 54 = .ok (.if_icmp .ne 7, 3) := by decide +kernel
theorem dX9_setFlow_57 : decode cX9_setFlow 57 = .ok (.iconst 4, 1) := by decide +kernel
theorem dX9_setFlow_58 : decode cX9_setFlow 58 = .ok (.goto 4, 3) := by decide +kernel
theorem dX9_setFlow_61 : decode cX9_setFlow 61 = .ok (.iconst 0, 1) := by decide +kernel
theorem dX9_setFlow_62 : decode cX9_setFlow 62 = .ok (.aload_n 0, 1) := by decide +kernel
theorem dX9_setFlow_63 : decode cX9_setFlow 63 = .ok (.getfield 45, 3) := by decide +kernel
theorem dX9_setFlow_66 : decode cX9_setFlow 66 = .ok (.iconst 4, 1) := by decide +kernel
theorem dX9_setFlow_67 : decode cX9_setFlow 67 = .ok (.iload 4, 2) := by decide +kernel
theorem dX9_setFlow_69 : decode cX9_setFlow 69 = .ok (.imul, 1) := by decide +kernel
theorem dX9_setFlow_70 : decode cX9_setFlow 70 = .ok (.iload_n 3, 1) := by decide +kernel
theorem dX9_setFlow_71 : decode cX9_setFlow 71 = .ok (.iadd, 1) := by decide +kernel
theorem dX9_setFlow_72 : decode cX9_setFlow 72 = .ok (.iaload, 1) := by decide +kernel
theorem dX9_setFlow_73 : decode cX9_setFlow 73 = .ok (.isub, 1) := by decide +kernel
theorem dX9_setFlow_74 : decode cX9_setFlow 74 = .ok (.i2l, 1) := by decide +kernel
theorem dX9_setFlow_75 : decode cX9_setFlow 75 = .ok (.lastore, 1) := by decide +kernel
theorem dX9_setFlow_76 : decode cX9_setFlow 76 = .ok (.iinc 4 1, 3) := by decide +kernel
theorem dX9_setFlow_79 : decode cX9_setFlow 79 = .ok (.goto (-45), 3) := by decide +kernel
theorem dX9_setFlow_82 : decode cX9_setFlow 82 = .ok (.iinc 3 1, 3) := by decide +kernel
theorem dX9_setFlow_85 : decode cX9_setFlow 85 = .ok (.goto (-59), 3) := by decide +kernel
theorem dX9_setFlow_88 : decode cX9_setFlow 88 = .ok (.aload_n 0, 1) := by decide +kernel
theorem dX9_setFlow_89 : decode cX9_setFlow 89 = .ok (.iload_n 2, 1) := by decide +kernel
theorem dX9_setFlow_90 : decode cX9_setFlow 90 = .ok (.iconst 4, 1) := by decide +kernel
theorem dX9_setFlow_91 : decode cX9_setFlow 91 = .ok (.invokevirtual 137, 3) := by decide +kernel
theorem dX9_setFlow_94 : decode cX9_setFlow 94 = .ok (.lstore_n 3, 1) := by decide +kernel
theorem dX9_setFlow_95 : decode cX9_setFlow 95 = .ok (.iconst 0, 1) := by decide +kernel
theorem dX9_setFlow_96 : decode cX9_setFlow 96 = .ok (.istore 5, 2) := by decide +kernel
theorem dX9_setFlow_98 : decode cX9_setFlow 98 = .ok (.iload 5, 2) := by decide +kernel
theorem dX9_setFlow_100 : decode cX9_setFlow 100 = .ok (.iconst 4, 1) := by decide +kernel
theorem dX9_setFlow_101 : decode cX9_setFlow 101 = .ok (.if_icmp .ge 33, 3) := by decide +kernel
theorem dX9_setFlow_104 : decode cX9_setFlow 104 = .ok (.aload_n 0, 1) := by decide +kernel
theorem dX9_setFlow_105 : decode cX9_setFlow 105 = .ok (.getfield 48, 3) := by decide +kernel
theorem dX9_setFlow_108 : decode cX9_setFlow 108 = .ok (.bipush 6, 2) := by decide +kernel
theorem dX9_setFlow_110 : decode cX9_setFlow 110 = .ok (.iload 5, 2) := by decide +kernel
theorem dX9_setFlow_112 : decode cX9_setFlow 112 = .ok (.imul, 1) := by decide +kernel
theorem dX9_setFlow_113 : decode cX9_setFlow 113 = .ok (.iload_n 1, 1) := by decide +kernel
theorem dX9_setFlow_114 : decode cX9_setFlow 114 = .ok (.iadd, 1) := by decide +kernel
theorem dX9_setFlow_115 : decode cX9_setFlow 115 = .ok (.ldc2_w 141, 3) := by decide +kernel
theorem dX9_setFlow_118 : decode cX9_setFlow 118 = .ok (.aload_n 0, 1) := by decide +kernel
theorem dX9_setFlow_119 : decode cX9_setFlow 119 = .ok (.getfield 42, 3) := by decide +kernel
theorem dX9_setFlow_122 : decode cX9_setFlow 122 = .ok (.iload 5, 2) := by decide +kernel
theorem dX9_setFlow_124 : decode cX9_setFlow 124 = .ok (.iaload, 1) := by decide +kernel
theorem dX9_setFlow_125 : decode cX9_setFlow 125 = .ok (.i2l, 1) := by decide +kernel
theorem dX9_setFlow_126 : decode cX9_setFlow 126 = .ok (.lmul, 1) := by decide +kernel
theorem dX9_setFlow_127 : decode cX9_setFlow 127 = .ok (.lastore, 1) := by decide +kernel
theorem dX9_setFlow_128 : decode cX9_setFlow 128 = .ok (.iinc 5 1, 3) := by decide +kernel
theorem dX9_setFlow_131 : decode cX9_setFlow 131 = .ok (.goto (-33), 3) := by decide +kernel
theorem dX9_setFlow_134 : decode cX9_setFlow 134 = .ok (.aload_n 0, 1) := by decide +kernel
theorem dX9_setFlow_135 : decode cX9_setFlow 135 = .ok (.iload_n 2, 1) := by decide +kernel
theorem dX9_setFlow_136 : decode cX9_setFlow 136 = .ok (.iconst 4, 1) := by decide +kernel
theorem dX9_setFlow_137 : decode cX9_setFlow 137 = .ok (.invokevirtual 137, 3) := by decide +kernel
theorem dX9_setFlow_140 : decode cX9_setFlow 140 = .ok (.lstore 5, 2) := by decide +kernel
theorem dX9_setFlow_142 : decode cX9_setFlow 142 = .ok (.lload 5, 2) := by decide +kernel
theorem dX9_setFlow_144 : decode cX9_setFlow 144 = .ok (.lload_n 3, 1) := by decide +kernel
theorem dX9_setFlow_145 : decode cX9_setFlow 145 = .ok (.invokestatic 74, 3) := by decide +kernel
theorem dX9_setFlow_148 : decode cX9_setFlow 148 = .ok (.lstore 7, 2) := by decide +kernel
theorem dX9_setFlow_150 : decode cX9_setFlow 150 = .ok (.aload_n 0, 1) := by decide +kernel
theorem dX9_setFlow_151 : decode cX9_setFlow 151 = .ok (.lload 5, 2) := by decide +kernel
theorem dX9_setFlow_153 : decode cX9_setFlow 153 = .ok (.lload 7, 2) := by decide +kernel
theorem dX9_setFlow_155 : decode cX9_setFlow 155 = .ok (.ldiv, 1) := by decide +kernel
theorem dX9_setFlow_156 : decode cX9_setFlow 156 = .ok (.putfield 131, 3) := by decide +kernel
theorem dX9_setFlow_159 : decode cX9_setFlow 159 = .ok (.aload_n 0, 1) := by decide +kernel
theorem dX9_setFlow_160 : decode cX9_setFlow 160 = .ok (.lload_n 3, 1) := by decide +kernel
theorem dX9_setFlow_161 : decode cX9_setFlow 161 = .ok (.lload 7, 2) := by decide +kernel
theorem dX9_setFlow_163 : decode cX9_setFlow 163 = .ok (.ldiv, 1) := by decide +kernel
theorem dX9_setFlow_164 : decode cX9_setFlow 164 = .ok (.putfield 134, 3) := by decide +kernel
theorem dX9_setFlow_167 : decode cX9_setFlow 167 = .ok (.return_, 1) := by decide +kernel
theorem cv_X9_setFlow : wn_cV yX9_setFlow cX9_setFlow 9 none RX9 1 := ⟨wm_711, wm_713, wm_714, wm_637, by decide +kernel⟩
abbrev rm_X9_setFlow : Room := rmz 2 54
set_option maxHeartbeats 4000000 in
set_option maxRecDepth 100000 in
theorem c_X9_setFlow {ad : Nat → Nat} {o : Nat} {x1 : Int32} {M : Mm} {q : Mm} (ho : shp o = 9) (hF : f_X9_setFlow o x1 M = some q) : KV ad yX9_setFlow cX9_setFlow 9 none rm_X9_setFlow [.ref (ad o), .int x1] M q := by
  refine wn_enterV (own := RX9) (by decide) rfl (Nat.le_of_ble_eq_true rfl) (fun X ls Z hQ hl => ?_)
  have hl : lv_has ls 9 [(0, .ref (ad o)), (1, .int x1)] := hl
  have L98 : ∀ (n98 : Nat) (v1 : Int32) (v2 : Int32) (v3 : Int64) (v5 : Int32) (M : Mm) (ls : Array Slot), lv_has ls 9 [(0, .ref (ad o)), (1, .int v1), (2, .int v2), (3, .long v3), (5, .int v5)] → f_X9_setFlow_b98 o n98 v1 v2 v3 v5 M = some q → G ad X M 98 ls [] := by
    intro n98
    induction n98 with
    | zero =>
      intro v1 v2 v3 v5 M ls hl hF
      cases hF
    | succ n98 ih98 =>
      intro v1 v2 v3 v5 M ls hl hF
      replace hF : f_X9_setFlow_b98B (f_X9_setFlow_b98 o n98) o v1 v2 v3 v5 M = some q := hF
      unfold f_X9_setFlow_b98B at hF
      refine r_iload Z dX9_setFlow_98 (lv_at hl 4 rfl) ?_
      refine r_iconst (v := 4) Z dX9_setFlow_100 (by decide) ?_
      refine r_icmp_ge Z 134 dX9_setFlow_101 (by decide) (fun hc8 => ?_) (fun hc8 => ?_)
      · replace hF := if_some hc8 hF
        refine r_aload_n Z dX9_setFlow_134 rfl (lv_at hl 0 rfl) ?_
        refine r_iload_n Z dX9_setFlow_135 rfl (lv_at hl 2 rfl) ?_
        refine r_iconst (v := 4) Z dX9_setFlow_136 (by decide) ?_
        obtain ⟨q9, hq9, hF⟩ := bd_some hF
        refine r_invVl [] Z (c_X9_worth ho hq9) cv_X9_worth rfl (shp_lt ho (by decide)) (fun _ _ => ⟨_, ce_9 ho⟩) wm_708 rfl rfl ⟨Nat.le_of_ble_eq_true rfl, Nat.le_of_ble_eq_true rfl⟩ rfl hl.1 rfl (Nat.le_of_ble_eq_true rfl) dX9_setFlow_137 ?_
        refine r_lstore Z [(5, .long q9.1), (0, .ref (ad o)), (1, .int v1), (2, .int v2), (3, .long v3)] dX9_setFlow_140 hl (by decide) rfl (fun ls hl => ?_)
        refine r_lload Z dX9_setFlow_142 (lv_at hl 0 rfl) ?_
        refine r_lload_n Z dX9_setFlow_144 rfl (lv_at hl 4 rfl) ?_
        obtain ⟨q10, hq10, hF⟩ := bd_some hF
        refine r_invSl [] Z (c_X9_divisor hq10) cv_X9_divisor wm_635 rfl rfl ⟨Nat.le_of_ble_eq_true rfl, Nat.le_of_ble_eq_true rfl⟩ rfl hl.1 rfl (Nat.le_of_ble_eq_true rfl) dX9_setFlow_145 ?_
        refine r_lstore Z [(7, .long q10.1), (5, .long q9.1), (0, .ref (ad o)), (1, .int v1), (2, .int v2), (3, .long v3)] dX9_setFlow_148 hl (by decide) rfl (fun ls hl => ?_)
        refine r_aload_n Z dX9_setFlow_150 rfl (lv_at hl 2 rfl) ?_
        refine r_lload Z dX9_setFlow_151 (lv_at hl 1 rfl) ?_
        refine r_lload Z dX9_setFlow_153 (lv_at hl 0 rfl) ?_
        obtain ⟨hd11, hF⟩ := dvJ_some hF
        refine r_ldiv Z dX9_setFlow_155 hd11 ?_
        obtain ⟨M12, eM12, hF⟩ := nm_some hF
        refine p_9_18 Z ho wm_705 dX9_setFlow_156 ?_
        rw [← eM12]
        refine r_aload_n Z dX9_setFlow_159 rfl (lv_at hl 2 rfl) ?_
        refine r_lload_n Z dX9_setFlow_160 rfl (lv_at hl 5 rfl) ?_
        refine r_lload Z dX9_setFlow_161 (lv_at hl 0 rfl) ?_
        obtain ⟨hd13, hF⟩ := dvJ_some hF
        refine r_ldiv Z dX9_setFlow_163 hd13 ?_
        obtain ⟨M14, eM14, hF⟩ := nm_some hF
        refine p_9_19 Z ho wm_706 dX9_setFlow_164 ?_
        rw [← eM14]
        exact r_vret Z hQ hF dX9_setFlow_167
      · replace hF := nif_some hc8 hF
        refine r_aload_n Z dX9_setFlow_104 rfl (lv_at hl 0 rfl) ?_
        refine g_9_15 Z ho wm_621 dX9_setFlow_105 ?_
        refine r_bipush (v := 6) Z dX9_setFlow_108 (by decide) ?_
        refine r_iload Z dX9_setFlow_110 (lv_at hl 4 rfl) ?_
        refine r_imul Z dX9_setFlow_112 ?_
        refine r_iload_n Z dX9_setFlow_113 rfl (lv_at hl 1 rfl) ?_
        refine r_iadd Z dX9_setFlow_114 ?_
        refine r_ldc2 Z wm_707 dX9_setFlow_115 ?_
        refine r_aload_n Z dX9_setFlow_118 rfl (lv_at hl 0 rfl) ?_
        refine g_9_13 Z ho wm_619 dX9_setFlow_119 ?_
        refine r_iload Z dX9_setFlow_122 (lv_at hl 4 rfl) ?_
        obtain ⟨hi15, hF⟩ := ck_some hF
        refine r_iaload Z (shp_lt (sh_9_13 ho) (by decide)) (fun _ _ => ce_104 (sh_9_13 ho)) hi15 dX9_setFlow_124 ?_
        refine r_i2l Z dX9_setFlow_125 ?_
        refine r_lmul Z dX9_setFlow_126 ?_
        obtain ⟨hi16, hF⟩ := ck_some hF
        obtain ⟨M17, eM17, hF⟩ := nm_some hF
        refine r_lastore Z (shp_lt (sh_9_15 ho) (by decide)) (fun _ _ => ce_1036 (sh_9_15 ho)) hi16 dX9_setFlow_127 ?_
        rw [← eM17]
        obtain ⟨t18, et18, hF⟩ := nm_some hF
        refine r_iinc (j := 4) Z t18 [(5, .int t18), (0, .ref (ad o)), (1, .int v1), (2, .int v2), (3, .long v3)] dX9_setFlow_128 hl rfl (by rw [et18]; rfl) (by decide) rfl (fun ls hl => ?_)
        refine r_goto Z 98 dX9_setFlow_131 (by decide) ?_
        exact ih98 v1 v2 v3 t18 M17 ls (lv_sub hl [1, 2, 3, 4, 0] rfl) hF
  have L26 : ∀ (n26 : Nat) (v1 : Int32) (v2 : Int32) (v3 : Int32) (M : Mm) (ls : Array Slot), lv_has ls 9 [(0, .ref (ad o)), (1, .int v1), (2, .int v2), (3, .int v3)] → f_X9_setFlow_b26 o n26 v1 v2 v3 M = some q → G ad X M 26 ls [] := by
    intro n26
    induction n26 with
    | zero =>
      intro v1 v2 v3 M ls hl hF
      cases hF
    | succ n26 ih26 =>
      have L34 : ∀ (n34 : Nat) (v1 : Int32) (v2 : Int32) (v3 : Int32) (v4 : Int32) (M : Mm) (ls : Array Slot), lv_has ls 9 [(0, .ref (ad o)), (1, .int v1), (2, .int v2), (3, .int v3), (4, .int v4)] → f_X9_setFlow_b34 (f_X9_setFlow_b26 o n26) o n34 v1 v2 v3 v4 M = some q → G ad X M 34 ls [] := by
        intro n34
        induction n34 with
        | zero =>
          intro v1 v2 v3 v4 M ls hl hF
          cases hF
        | succ n34 ih34 =>
          have L62 : ∀ (v1 : Int32) (v2 : Int32) (v3 : Int32) (v4 : Int32) (s0 : Nat) (s1 : Int32) (s2 : Int32) (M : Mm) (ls : Array Slot), shp s0 = 1036 → lv_has ls 9 [(0, .ref (ad o)), (1, .int v1), (2, .int v2), (3, .int v3), (4, .int v4)] → f_X9_setFlow_b62 (f_X9_setFlow_b26 o n26) (f_X9_setFlow_b34 (f_X9_setFlow_b26 o n26) o n34) o v1 v2 v3 v4 s0 s1 s2 M = some q → G ad X M 62 ls [.int s2, .int s1, .ref (ad s0)] := by
            intro v1 v2 v3 v4 s0 s1 s2 M ls hs0 hl hF
            unfold f_X9_setFlow_b62 at hF
            refine r_aload_n Z dX9_setFlow_62 rfl (lv_at hl 0 rfl) ?_
            refine g_9_14 Z ho wm_620 dX9_setFlow_63 ?_
            refine r_iconst (v := 4) Z dX9_setFlow_66 (by decide) ?_
            refine r_iload Z dX9_setFlow_67 (lv_at hl 4 rfl) ?_
            refine r_imul Z dX9_setFlow_69 ?_
            refine r_iload_n Z dX9_setFlow_70 rfl (lv_at hl 3 rfl) ?_
            refine r_iadd Z dX9_setFlow_71 ?_
            obtain ⟨hi1, hF⟩ := ck_some hF
            refine r_iaload Z (shp_lt (sh_9_14 ho) (by decide)) (fun _ _ => ce_116 (sh_9_14 ho)) hi1 dX9_setFlow_72 ?_
            refine r_isub Z dX9_setFlow_73 ?_
            refine r_i2l Z dX9_setFlow_74 ?_
            obtain ⟨hi2, hF⟩ := ck_some hF
            obtain ⟨M3, eM3, hF⟩ := nm_some hF
            refine r_lastore Z (shp_lt hs0 (by decide)) (fun _ _ => ce_1036 hs0) hi2 dX9_setFlow_75 ?_
            rw [← eM3]
            obtain ⟨t4, et4, hF⟩ := nm_some hF
            refine r_iinc (j := 4) Z t4 [(4, .int t4), (0, .ref (ad o)), (1, .int v1), (2, .int v2), (3, .int v3)] dX9_setFlow_76 hl rfl (by rw [et4]; rfl) (by decide) rfl (fun ls hl => ?_)
            refine r_goto Z 34 dX9_setFlow_79 (by decide) ?_
            exact ih34 v1 v2 v3 t4 M3 ls (lv_sub hl [1, 2, 3, 4, 0] rfl) hF
          intro v1 v2 v3 v4 M ls hl hF
          replace hF : f_X9_setFlow_b34B (f_X9_setFlow_b26 o n26) (f_X9_setFlow_b34 (f_X9_setFlow_b26 o n26) o n34) o v1 v2 v3 v4 M = some q := hF
          unfold f_X9_setFlow_b34B at hF
          refine r_iload Z dX9_setFlow_34 (lv_at hl 4 rfl) ?_
          refine r_iconst (v := 4) Z dX9_setFlow_36 (by decide) ?_
          refine r_icmp_ge Z 82 dX9_setFlow_37 (by decide) (fun hc5 => ?_) (fun hc5 => ?_)
          · replace hF := if_some hc5 hF
            obtain ⟨t6, et6, hF⟩ := nm_some hF
            refine r_iinc (j := 3) Z t6 [(3, .int t6), (0, .ref (ad o)), (1, .int v1), (2, .int v2), (4, .int v4)] dX9_setFlow_82 hl rfl (by rw [et6]; rfl) (by decide) rfl (fun ls hl => ?_)
            refine r_goto Z 26 dX9_setFlow_85 (by decide) ?_
            exact ih26 v1 v2 t6 M ls (lv_sub hl [1, 2, 3, 0] rfl) hF
          · replace hF := nif_some hc5 hF
            refine r_aload_n Z dX9_setFlow_40 rfl (lv_at hl 0 rfl) ?_
            refine g_9_15 Z ho wm_621 dX9_setFlow_41 ?_
            refine r_bipush (v := 6) Z dX9_setFlow_44 (by decide) ?_
            refine r_iload_n Z dX9_setFlow_46 rfl (lv_at hl 3 rfl) ?_
            refine r_imul Z dX9_setFlow_47 ?_
            refine r_iload Z dX9_setFlow_48 (lv_at hl 4 rfl) ?_
            refine r_iadd Z dX9_setFlow_50 ?_
            refine r_iload_n Z dX9_setFlow_51 rfl (lv_at hl 3 rfl) ?_
            refine r_iload Z dX9_setFlow_52 (lv_at hl 4 rfl) ?_
            refine r_icmp_ne Z 61 dX9_setFlow_54 (by decide) (fun hc7 => ?_) (fun hc7 => ?_)
            · replace hF := nif_some hc7 hF
              refine r_iconst (v := 0) Z dX9_setFlow_61 (by decide) ?_
              exact L62 v1 v2 v3 v4 (fld o 15) ((6 * v3) + v4) 0 M ls (sh_9_15 ho) (lv_sub hl [0, 1, 2, 3, 4] rfl) hF
            · replace hF := if_some hc7 hF
              refine r_iconst (v := 4) Z dX9_setFlow_57 (by decide) ?_
              refine r_goto Z 62 dX9_setFlow_58 (by decide) ?_
              exact L62 v1 v2 v3 v4 (fld o 15) ((6 * v3) + v4) 4 M ls (sh_9_15 ho) (lv_sub hl [0, 1, 2, 3, 4] rfl) hF
      intro v1 v2 v3 M ls hl hF
      replace hF : f_X9_setFlow_b26B (f_X9_setFlow_b26 o n26) o v1 v2 v3 M = some q := hF
      unfold f_X9_setFlow_b26B at hF
      refine r_iload_n Z dX9_setFlow_26 rfl (lv_at hl 3 rfl) ?_
      refine r_iconst (v := 4) Z dX9_setFlow_27 (by decide) ?_
      refine r_icmp_ge Z 88 dX9_setFlow_28 (by decide) (fun hc19 => ?_) (fun hc19 => ?_)
      · replace hF := if_some hc19 hF
        refine r_aload_n Z dX9_setFlow_88 rfl (lv_at hl 0 rfl) ?_
        refine r_iload_n Z dX9_setFlow_89 rfl (lv_at hl 2 rfl) ?_
        refine r_iconst (v := 4) Z dX9_setFlow_90 (by decide) ?_
        obtain ⟨q20, hq20, hF⟩ := bd_some hF
        refine r_invVl [] Z (c_X9_worth ho hq20) cv_X9_worth rfl (shp_lt ho (by decide)) (fun _ _ => ⟨_, ce_9 ho⟩) wm_708 rfl rfl ⟨Nat.le_of_ble_eq_true rfl, Nat.le_of_ble_eq_true rfl⟩ rfl hl.1 rfl (Nat.le_of_ble_eq_true rfl) dX9_setFlow_91 ?_
        refine r_lstore_n Z [(3, .long q20.1), (0, .ref (ad o)), (1, .int v1), (2, .int v2)] dX9_setFlow_94 rfl hl (by decide) rfl (fun ls hl => ?_)
        refine r_iconst (v := 0) Z dX9_setFlow_95 (by decide) ?_
        refine r_istore Z [(5, .int 0), (3, .long q20.1), (0, .ref (ad o)), (1, .int v1), (2, .int v2)] dX9_setFlow_96 hl (by decide) rfl (fun ls hl => ?_)
        exact L98 _ v1 v2 q20.1 0 q20.2 ls (lv_sub hl [2, 3, 4, 1, 0] rfl) hF
      · replace hF := nif_some hc19 hF
        refine r_iconst (v := 0) Z dX9_setFlow_31 (by decide) ?_
        refine r_istore Z [(4, .int 0), (0, .ref (ad o)), (1, .int v1), (2, .int v2), (3, .int v3)] dX9_setFlow_32 hl (by decide) rfl (fun ls hl => ?_)
        exact L34 _ v1 v2 v3 0 M ls (lv_sub hl [1, 2, 3, 4, 0] rfl) hF
  unfold f_X9_setFlow at hF
  refine r_aload_n Z dX9_setFlow_0 rfl (lv_at hl 0 rfl) ?_
  obtain ⟨q21, hq21, hF⟩ := bd_some hF
  refine r_invVi [] Z (c_X9_reached ho hq21) cv_X9_reached rfl (shp_lt ho (by decide)) (fun _ _ => ⟨_, ce_9 ho⟩) wm_698 rfl rfl ⟨Nat.le_of_ble_eq_true rfl, Nat.le_of_ble_eq_true rfl⟩ rfl hl.1 rfl (Nat.le_of_ble_eq_true rfl) dX9_setFlow_1 ?_
  refine r_istore_n Z [(2, .int q21.1), (0, .ref (ad o)), (1, .int x1)] dX9_setFlow_4 rfl hl (by decide) rfl (fun ls hl => ?_)
  refine r_aload_n Z dX9_setFlow_5 rfl (lv_at hl 1 rfl) ?_
  refine r_lconst (v := 0) Z dX9_setFlow_6 (by decide) ?_
  obtain ⟨M22, eM22, hF⟩ := nm_some hF
  refine p_9_18 Z ho wm_705 dX9_setFlow_7 ?_
  rw [← eM22]
  refine r_aload_n Z dX9_setFlow_10 rfl (lv_at hl 1 rfl) ?_
  refine r_lconst (v := 1) Z dX9_setFlow_11 (by decide) ?_
  obtain ⟨M23, eM23, hF⟩ := nm_some hF
  refine p_9_19 Z ho wm_706 dX9_setFlow_12 ?_
  rw [← eM23]
  refine r_iload_n Z dX9_setFlow_15 rfl (lv_at hl 0 rfl) ?_
  refine r_iload_n Z dX9_setFlow_16 rfl (lv_at hl 2 rfl) ?_
  refine r_ishr Z dX9_setFlow_17 ?_
  refine r_iconst (v := 1) Z dX9_setFlow_18 (by decide) ?_
  refine r_iand Z dX9_setFlow_19 ?_
  refine r_if_ne Z 24 dX9_setFlow_20 (by decide) (fun hc24 => ?_) (fun hc24 => ?_)
  · replace hF := nif_some hc24 hF
    refine r_iconst (v := 0) Z dX9_setFlow_24 (by decide) ?_
    refine r_istore_n Z [(3, .int 0), (2, .int q21.1), (0, .ref (ad o)), (1, .int x1)] dX9_setFlow_25 rfl hl (by decide) rfl (fun ls hl => ?_)
    exact L26 _ x1 q21.1 0 M23 ls (lv_sub hl [2, 3, 1, 0] rfl) hF
  · replace hF := if_some hc24 hF
    exact r_vret Z hQ hF dX9_setFlow_23
theorem dX9_askedFlow_0 : decode cX9_askedFlow 0 = .ok (.aload_n 0, 1) := by decide +kernel
theorem dX9_askedFlow_1 : decode cX9_askedFlow 1 = .ok (.iload_n 1, 1) := by decide +kernel
theorem dX9_askedFlow_2 : decode cX9_askedFlow 2 = .ok (.invokevirtual 107, 3) := by decide +kernel
theorem dX9_askedFlow_5 : decode cX9_askedFlow 5 = .ok (.istore_n 2, 1) := by decide +kernel
theorem dX9_askedFlow_6 : decode cX9_askedFlow 6 = .ok (.iload_n 2, 1) := by decide +kernel
theorem dX9_askedFlow_7 : decode cX9_askedFlow 7 = .ok (.ifCond .ge 5, 3) := by decide +kernel
theorem dX9_askedFlow_10 : decode cX9_askedFlow 10 = .ok (.iload_n 2, 1) := by decide +kernel
theorem dX9_askedFlow_11 : decode cX9_askedFlow 11 = .ok (.ireturn, 1) := by decide +kernel
theorem dX9_askedFlow_12 : decode cX9_askedFlow 12 = .ok (.aload_n 0, 1) := by decide +kernel
theorem dX9_askedFlow_13 : decode cX9_askedFlow 13 = .ok (.invokevirtual 128, 3) := by decide +kernel
theorem dX9_askedFlow_16 : decode cX9_askedFlow 16 = .ok (.ifCond .eq 6, 3) := by decide +kernel
theorem dX9_askedFlow_19 : decode cX9_askedFlow 19 = .ok (.bipush (-4), 2) := by decide +kernel
theorem dX9_askedFlow_21 : decode cX9_askedFlow 21 = .ok (.ireturn, 1) := by decide +kernel
theorem dX9_askedFlow_22 : decode cX9_askedFlow 22 = .ok (.aload_n 0, 1) := by decide +kernel
theorem dX9_askedFlow_23 : decode cX9_askedFlow 23 = .ok (.iload_n 1, 1) := by decide +kernel
theorem dX9_askedFlow_24 : decode cX9_askedFlow 24 = .ok (.invokevirtual 143, 3) := by decide +kernel
theorem dX9_askedFlow_27 : decode cX9_askedFlow 27 = .ok (.iconst 0, 1) := by decide +kernel
theorem dX9_askedFlow_28 : decode cX9_askedFlow 28 = .ok (.ireturn, 1) := by decide +kernel
theorem cv_X9_askedFlow : wn_cV yX9_askedFlow cX9_askedFlow 3 (some .int) RX9 1 := ⟨wm_715, wm_717, wm_718, wm_637, by decide +kernel⟩
abbrev rm_X9_askedFlow : Room := rmz 3 82
set_option maxHeartbeats 4000000 in
set_option maxRecDepth 100000 in
theorem c_X9_askedFlow {ad : Nat → Nat} {o : Nat} {x1 : Int32} {M : Mm} {q : Int32 × Mm} (ho : shp o = 9) (hF : f_X9_askedFlow o x1 M = some q) : KI ad yX9_askedFlow cX9_askedFlow 3 (some .int) rm_X9_askedFlow [.ref (ad o), .int x1] M q.1 q.2 := by
  refine wn_enterI (own := RX9) (by decide) rfl (Nat.le_of_ble_eq_true rfl) (fun X ls Z hQ hl => ?_)
  have hl : lv_has ls 3 [(0, .ref (ad o)), (1, .int x1)] := hl
  unfold f_X9_askedFlow at hF
  refine r_aload_n Z dX9_askedFlow_0 rfl (lv_at hl 0 rfl) ?_
  refine r_iload_n Z dX9_askedFlow_1 rfl (lv_at hl 1 rfl) ?_
  obtain ⟨q1, hq1, hF⟩ := bd_some hF
  refine r_invVi [] Z (c_X9_askedFor ho hq1) cv_X9_askedFor rfl (shp_lt ho (by decide)) (fun _ _ => ⟨_, ce_9 ho⟩) wm_668 rfl rfl ⟨Nat.le_of_ble_eq_true rfl, Nat.le_of_ble_eq_true rfl⟩ rfl hl.1 rfl (Nat.le_of_ble_eq_true rfl) dX9_askedFlow_2 ?_
  refine r_istore_n Z [(2, .int q1.1), (0, .ref (ad o)), (1, .int x1)] dX9_askedFlow_5 rfl hl (by decide) rfl (fun ls hl => ?_)
  refine r_iload_n Z dX9_askedFlow_6 rfl (lv_at hl 0 rfl) ?_
  refine r_if_ge Z 12 dX9_askedFlow_7 (by decide) (fun hc2 => ?_) (fun hc2 => ?_)
  · replace hF := if_some hc2 hF
    refine r_aload_n Z dX9_askedFlow_12 rfl (lv_at hl 1 rfl) ?_
    obtain ⟨q3, hq3, hF⟩ := bd_some hF
    refine r_invVi [] Z (c_X9_keptOf ho hq3) cv_X9_keptOf rfl (shp_lt ho (by decide)) (fun _ _ => ⟨_, ce_9 ho⟩) wm_702 rfl rfl ⟨Nat.le_of_ble_eq_true rfl, Nat.le_of_ble_eq_true rfl⟩ rfl hl.1 rfl (Nat.le_of_ble_eq_true rfl) dX9_askedFlow_13 ?_
    refine r_if_eq Z 22 dX9_askedFlow_16 (by decide) (fun hc4 => ?_) (fun hc4 => ?_)
    · replace hF := if_some hc4 hF
      refine r_aload_n Z dX9_askedFlow_22 rfl (lv_at hl 1 rfl) ?_
      refine r_iload_n Z dX9_askedFlow_23 rfl (lv_at hl 2 rfl) ?_
      obtain ⟨M5, hM5, hF⟩ := bd_some hF
      refine r_invVv [] Z (c_X9_setFlow ho hM5) cv_X9_setFlow rfl (shp_lt ho (by decide)) (fun _ _ => ⟨_, ce_9 ho⟩) wm_712 rfl rfl ⟨Nat.le_of_ble_eq_true rfl, Nat.le_of_ble_eq_true rfl⟩ rfl hl.1 rfl (Nat.le_of_ble_eq_true rfl) dX9_askedFlow_24 ?_
      refine r_iconst (v := 0) Z dX9_askedFlow_27 (by decide) ?_
      exact r_iret Z hQ hF dX9_askedFlow_28
    · replace hF := nif_some hc4 hF
      refine r_bipush (v := (-4)) Z dX9_askedFlow_19 (by decide) ?_
      exact r_iret Z hQ hF dX9_askedFlow_21
  · replace hF := nif_some hc2 hF
    refine r_iload_n Z dX9_askedFlow_10 rfl (lv_at hl 0 rfl) ?_
    exact r_iret Z hQ hF dX9_askedFlow_11
theorem dX9_askedRun_0 : decode cX9_askedRun 0 = .ok (.iload_n 1, 1) := by decide +kernel
theorem dX9_askedRun_1 : decode cX9_askedRun 1 = .ok (.invokestatic 100, 3) := by decide +kernel
theorem dX9_askedRun_4 : decode cX9_askedRun 4 = .ok (.ifCond .eq 17, 3) := by decide +kernel
theorem dX9_askedRun_7 : decode cX9_askedRun 7 = .ok (.iload_n 2, 1) := by decide +kernel
theorem dX9_askedRun_8 : decode cX9_askedRun 8 = .ok (.invokestatic 85, 3) := by decide +kernel
theorem dX9_askedRun_11 : decode cX9_askedRun 11 = .ok (.ifCond .eq 10, 3) := by decide +kernel
theorem dX9_askedRun_14 : decode cX9_askedRun 14 = .ok (.iload_n 3, 1) := by decide +kernel
theorem dX9_askedRun_15 : decode cX9_askedRun 15 = .ok (.invokestatic 85, 3) := by decide +kernel
theorem dX9_askedRun_18 : decode cX9_askedRun 18 = .ok (.ifCond .ne 5, 3) := by decide +kernel
theorem dX9_askedRun_21 : decode cX9_askedRun 21 = .ok (.iconst (-1), 1) := by decide +kernel
theorem dX9_askedRun_22 : decode cX9_askedRun 22 = .ok (.ireturn, 1) := by decide +kernel
theorem dX9_askedRun_23 : decode cX9_askedRun 23 = .ok (.aload_n 0, 1) := by decide +kernel
theorem dX9_askedRun_24 : decode cX9_askedRun 24 = .ok (.getfield 26, 3) := by decide +kernel
theorem dX9_askedRun_27 : decode cX9_askedRun 27 = .ok (.iload_n 1, 1) := by decide +kernel
theorem dX9_askedRun_28 : decode cX9_askedRun 28 = .ok (.baload, 1) := by decide +kernel
theorem dX9_askedRun_29 : decode cX9_askedRun 29 = .ok (.ifCond .eq 21, 3) := by decide +kernel
theorem dX9_askedRun_32 : decode cX9_askedRun 32 = .ok (.aload_n 0, 1) := by decide +kernel
theorem dX9_askedRun_33 : decode cX9_askedRun 33 = .ok (.getfield 17, 3) := by decide +kernel
theorem dX9_askedRun_36 : decode cX9_askedRun 36 = .ok (.iload_n 2, 1) := by decide +kernel
theorem dX9_askedRun_37 : decode cX9_askedRun 37 = .ok (.iaload, 1) := by decide +kernel
theorem dX9_askedRun_38 : decode cX9_askedRun 38 = .ok (.ifCond .lt 12, 3) := by decide +kernel
theorem dX9_askedRun_41 : decode cX9_askedRun 41 = .ok (.aload_n 0, 1) := by decide +kernel
theorem dX9_askedRun_42 : decode cX9_askedRun 42 = .ok (.getfield 17, 3) := by decide +kernel
theorem dX9_askedRun_45 : decode cX9_askedRun 45 = .ok (.iload_n 3, 1) := by decide +kernel
theorem dX9_askedRun_46 : decode cX9_askedRun 46 = .ok (.iaload, 1) := by decide +kernel
theorem dX9_askedRun_47 : decode cX9_askedRun 47 = .ok (.ifCond .ge 9, 3) := by decide +kernel
theorem dX9_askedRun_50 : decode cX9_askedRun 50 = .ok (.aload_n 0, 1) := by decide +kernel
theorem dX9_askedRun_51 : decode cX9_askedRun 51 = .ok (.iconst 1, 1) := by decide +kernel
theorem dX9_askedRun_52 : decode cX9_askedRun 52 = .ok (.invokevirtual 89, 3) := by decide +kernel
theorem dX9_askedRun_55 : decode cX9_askedRun 55 = .ok (.ireturn, 1) := by decide +kernel
theorem dX9_askedRun_56 : decode cX9_askedRun 56 = .ok (.aload_n 0, 1) := by decide +kernel
theorem dX9_askedRun_57 : decode cX9_askedRun 57 = .ok (.getfield 17, 3) := by decide +kernel
theorem dX9_askedRun_60 : decode cX9_askedRun 60 = .ok (.iload_n 2, 1) := by decide +kernel
theorem dX9_askedRun_61 : decode cX9_askedRun 61 = .ok (.iaload, 1) := by decide +kernel
theorem dX9_askedRun_62 : decode cX9_askedRun 62 = .ok (.aload_n 0, 1) := by decide +kernel
theorem dX9_askedRun_63 : decode cX9_askedRun 63 = .ok (.getfield 17, 3) := by decide +kernel
theorem dX9_askedRun_66 : decode cX9_askedRun 66 = .ok (.iload_n 3, 1) := by decide +kernel
theorem dX9_askedRun_67 : decode cX9_askedRun 67 = .ok (.iaload, 1) := by decide +kernel
theorem dX9_askedRun_68 : decode cX9_askedRun 68 = .ok (.if_icmp .eq 9, 3) := by decide +kernel
theorem dX9_askedRun_71 : decode cX9_askedRun 71 = .ok (.aload_n 0, 1) := by decide +kernel
theorem dX9_askedRun_72 : decode cX9_askedRun 72 = .ok (.iconst 5, 1) := by decide +kernel
theorem dX9_askedRun_73 : decode cX9_askedRun 73 = .ok (.invokevirtual 89, 3) := by decide +kernel
theorem dX9_askedRun_76 : decode cX9_askedRun 76 = .ok (.ireturn, 1) := by decide +kernel
theorem dX9_askedRun_77 : decode cX9_askedRun 77 = .ok (.aload_n 0, 1) := by decide +kernel
theorem dX9_askedRun_78 : decode cX9_askedRun 78 = .ok (.getfield 17, 3) := by decide +kernel
theorem dX9_askedRun_81 : decode cX9_askedRun 81 = .ok (.iload_n 2, 1) := by decide +kernel
theorem dX9_askedRun_82 : decode cX9_askedRun 82 = .ok (.iaload, 1) := by decide +kernel
theorem dX9_askedRun_83 : decode cX9_askedRun 83 = .ok (.istore 4, 2) := by decide +kernel
theorem dX9_askedRun_85 : decode cX9_askedRun 85 = .ok (.aload_n 0, 1) := by decide +kernel
theorem dX9_askedRun_86 : decode cX9_askedRun 86 = .ok (.getfield 30, 3) := by decide +kernel
theorem dX9_askedRun_89 : decode cX9_askedRun 89 = .ok (.iload_n 1, 1) := by decide +kernel
theorem dX9_askedRun_90 : decode cX9_askedRun 90 = .ok (.iaload, 1) := by decide +kernel
theorem dX9_askedRun_91 : decode cX9_askedRun 91 = .ok (.ifCond .ne 7, 3) := by decide +kernel
theorem dX9_askedRun_94 : decode cX9_askedRun 94 = .ok (.iconst 1, 1) := by decide +kernel
theorem dX9_askedRun_95 : decode cX9_askedRun 95 = .ok (.goto 4, 3) := by decide +kernel
theorem dX9_askedRun_98 : decode cX9_askedRun 98 = .ok (.iconst 0, 1) := by decide +kernel
theorem dX9_askedRun_99 : decode cX9_askedRun 99 = .ok (.istore 5, 2) := by decide +kernel
theorem dX9_askedRun_101 : decode cX9_askedRun 101 = .ok (.iconst 0, 1) := by decide +kernel
theorem dX9_askedRun_102 : decode cX9_askedRun 102 = .ok (.istore 6, 2) := by decide +kernel
theorem dX9_askedRun_104 : decode cX9_askedRun 104 = .ok (.iconst 0, 1) := by decide +kernel
theorem dX9_askedRun_105 : decode cX9_askedRun 105 = .ok (.istore 7, 2) := by decide +kernel
theorem dX9_askedRun_107 : decode cX9_askedRun 107 = .ok (.iload 7, 2) := by decide +kernel
theorem dX9_askedRun_109 : decode cX9_askedRun 109 = .ok (.iload 4, 2) := by decide +kernel
theorem dX9_askedRun_111 : decode cX9_askedRun 111 = .ok (.if_icmp .ge 79, 3) := by decide +kernel
theorem dX9_askedRun_114 : decode cX9_askedRun 114 = .ok (.iload 5, 2) := by decide +kernel
theorem dX9_askedRun_116 : decode cX9_askedRun 116 = .ok (.ifCond .eq 74, 3) := by decide +kernel
theorem dX9_askedRun_119 : decode cX9_askedRun 119 = .ok (.aload_n 0, 1) := by decide +kernel
theorem dX9_askedRun_120 : decode cX9_askedRun 120 = .ok (.getfield 20, 3) := by decide +kernel
theorem dX9_askedRun_123 : decode cX9_askedRun 123 = .ok (.bipush 40, 2) := by decide +kernel
theorem dX9_askedRun_125 : decode cX9_askedRun 125 = .ok (.iload_n 2, 1) := by decide +kernel
theorem dX9_askedRun_126 : decode cX9_askedRun 126 = .ok (.imul, 1) := by decide +kernel
theorem dX9_askedRun_127 : decode cX9_askedRun 127 = .ok (.iload 7, 2) := by decide +kernel
theorem dX9_askedRun_129 : decode cX9_askedRun 129 = .ok (.iadd, 1) := by decide +kernel
theorem dX9_askedRun_130 : decode cX9_askedRun 130 = .ok (.iaload, 1) := by decide +kernel
theorem dX9_askedRun_131 : decode cX9_askedRun 131 = .ok (.iload 6, 2) := by decide +kernel
theorem dX9_askedRun_133 : decode cX9_askedRun 133 = .ok (.ldc 233, 2) := by decide +kernel
theorem dX9_askedRun_135 : decode cX9_askedRun 135 = .ok (.invokestatic 81, 3) := by decide +kernel
theorem dX9_askedRun_138 : decode cX9_askedRun 138 = .ok (.ifCond .eq 29, 3) := by decide +kernel
theorem dX9_askedRun_141 : decode cX9_askedRun 141 = .ok (.aload_n 0, 1) := by decide +kernel
theorem dX9_askedRun_142 : decode cX9_askedRun 142 = .ok (.getfield 20, 3) := by decide +kernel
theorem dX9_askedRun_145 : decode cX9_askedRun 145 = .ok (.bipush 40, 2) := by decide +kernel
theorem dX9_askedRun_147 : decode cX9_askedRun 147 = .ok (.iload_n 3, 1) := by decide +kernel
theorem dX9_askedRun_148 : decode cX9_askedRun 148 = .ok (.imul, 1) := by decide +kernel
theorem dX9_askedRun_149 : decode cX9_askedRun 149 = .ok (.iload 7, 2) := by decide +kernel
theorem dX9_askedRun_151 : decode cX9_askedRun 151 = .ok (.iadd, 1) := by decide +kernel
theorem dX9_askedRun_152 : decode cX9_askedRun 152 = .ok (.iaload, 1) := by decide +kernel
theorem dX9_askedRun_153 : decode cX9_askedRun 153 = .ok (.iconst 1, 1) := by decide +kernel
theorem dX9_askedRun_154 : decode cX9_askedRun 154 = .ok (.sipush 1000, 3) := by decide +kernel
theorem dX9_askedRun_157 : decode cX9_askedRun 157 = .ok (.invokestatic 81, 3) := by decide +kernel
theorem dX9_askedRun_160 : decode cX9_askedRun 160 = .ok (.ifCond .eq 7, 3) := by decide +kernel
theorem dX9_askedRun_163 : decode cX9_askedRun 163 = .ok (.iconst 1, 1) := by decide +kernel
theorem dX9_askedRun_164 : decode cX9_askedRun 164 = .ok (.goto 4, 3) := by decide +kernel
theorem dX9_askedRun_167 : decode cX9_askedRun 167 = .ok (.iconst 0, 1) := by decide +kernel
theorem dX9_askedRun_168 : decode cX9_askedRun 168 = .ok (.istore 5, 2) := by decide +kernel
theorem dX9_askedRun_170 : decode cX9_askedRun 170 = .ok (.aload_n 0, 1) := by decide +kernel
theorem dX9_askedRun_171 : decode cX9_askedRun 171 = .ok (.getfield 20, 3) := by decide +kernel
theorem dX9_askedRun_174 : decode cX9_askedRun 174 = .ok (.bipush 40, 2) := by decide +kernel
theorem dX9_askedRun_176 : decode cX9_askedRun 176 = .ok (.iload_n 2, 1) := by decide +kernel
theorem dX9_askedRun_177 : decode cX9_askedRun 177 = .ok (.imul, 1) := by decide +kernel
theorem dX9_askedRun_178 : decode cX9_askedRun 178 = .ok (.iload 7, 2) := by decide +kernel
theorem dX9_askedRun_180 : decode cX9_askedRun 180 = .ok (.iadd, 1) := by decide +kernel
theorem dX9_askedRun_181 : decode cX9_askedRun 181 = .ok (.iaload, 1) := by decide +kernel
theorem dX9_askedRun_182 : decode cX9_askedRun 182 = .ok (.istore 6, 2) := by decide +kernel
theorem dX9_askedRun_184 : decode cX9_askedRun 184 = .ok (.iinc 7 1, 3) := by decide +kernel
theorem dX9_askedRun_187 : decode cX9_askedRun 187 = .ok (.goto (-80), 3) := by decide +kernel
theorem dX9_askedRun_190 : decode cX9_askedRun 190 = .ok (.iload 5, 2) := by decide +kernel
theorem dX9_askedRun_192 : decode cX9_askedRun 192 = .ok (.ifCond .ne 9, 3) := by decide +kernel
theorem dX9_askedRun_195 : decode cX9_askedRun 195 = .ok (.aload_n 0, 1) := by decide +kernel
theorem dX9_askedRun_196 : decode cX9_askedRun 196 = .ok (.iconst 3, 1) := by decide +kernel
theorem dX9_askedRun_197 : decode cX9_askedRun 197 = .ok (.invokevirtual 89, 3) := by decide +kernel
theorem dX9_askedRun_200 : decode cX9_askedRun 200 = .ok (.ireturn, 1) := by decide +kernel
theorem dX9_askedRun_201 : decode cX9_askedRun 201 = .ok (.iconst 0, 1) := by decide +kernel
theorem dX9_askedRun_202 : decode cX9_askedRun 202 = .ok (.istore 7, 2) := by decide +kernel
theorem dX9_askedRun_204 : decode cX9_askedRun 204 = .ok (.iconst 0, 1) := by decide +kernel
theorem dX9_askedRun_205 : decode cX9_askedRun 205 = .ok (.istore 8, 2) := by decide +kernel
theorem dX9_askedRun_207 : decode cX9_askedRun 207 = .ok (.iconst 0, 1) := by decide +kernel
theorem dX9_askedRun_208 : decode cX9_askedRun 208 = .ok (.istore 9, 2) := by decide +kernel
theorem dX9_askedRun_210 : decode cX9_askedRun 210 = .ok (.iload 9, 2) := by decide +kernel
theorem dX9_askedRun_212 : decode cX9_askedRun 212 = .ok (.iload 4, 2) := by decide +kernel
theorem dX9_askedRun_214 : decode cX9_askedRun 214 = .ok (.if_icmp .ge 143, 3) := by decide +kernel
theorem dX9_askedRun_217 : decode cX9_askedRun 217 = .ok (.aload_n 0, 1) := by decide +kernel
theorem dX9_askedRun_218 : decode cX9_askedRun 218 = .ok (.getfield 20, 3) := by decide +kernel
theorem dX9_askedRun_221 : decode cX9_askedRun 221 = .ok (.bipush 40, 2) := by decide +kernel
theorem dX9_askedRun_223 : decode cX9_askedRun 223 = .ok (.iload_n 2, 1) := by decide +kernel
theorem dX9_askedRun_224 : decode cX9_askedRun 224 = .ok (.imul, 1) := by decide +kernel
theorem dX9_askedRun_225 : decode cX9_askedRun 225 = .ok (.iload 9, 2) := by decide +kernel
theorem dX9_askedRun_227 : decode cX9_askedRun 227 = .ok (.iadd, 1) := by decide +kernel
theorem dX9_askedRun_228 : decode cX9_askedRun 228 = .ok (.iaload, 1) := by decide +kernel
theorem dX9_askedRun_229 : decode cX9_askedRun 229 = .ok (.istore 10, 2) := by decide +kernel
theorem dX9_askedRun_231 : decode cX9_askedRun 231 = .ok (.aload_n 0, 1) := by decide +kernel
theorem dX9_askedRun_232 : decode cX9_askedRun 232 = .ok (.getfield 36, 3) := by decide +kernel
theorem dX9_askedRun_235 : decode cX9_askedRun 235 = .ok (.iload_n 1, 1) := by decide +kernel
theorem dX9_askedRun_236 : decode cX9_askedRun 236 = .ok (.iaload, 1) := by decide +kernel
theorem dX9_askedRun_237 : decode cX9_askedRun 237 = .ok (.iconst 2, 1) := by decide +kernel
theorem dX9_askedRun_238 : decode cX9_askedRun 238 = .ok (.if_icmp .ne 14, 3) := by decide +kernel
theorem dX9_askedRun_241 : decode cX9_askedRun 241 = .ok (.iload 8, 2) := by decide +kernel
theorem dX9_askedRun_243 : decode cX9_askedRun 243 = .ok (.iload 7, 2) := by decide +kernel
theorem dX9_askedRun_245 : decode cX9_askedRun 245 = .ok (.if_icmp .ge 7, 3) := by decide +kernel
theorem dX9_askedRun_248 : decode cX9_askedRun 248 = .ok (.iconst 1, 1) := by decide +kernel
theorem dX9_askedRun_249 : decode cX9_askedRun 249 = .ok (.goto 4, 3) := by decide +kernel
theorem dX9_askedRun_252 : decode cX9_askedRun 252 = .ok (.iconst 0, 1) := by decide +kernel
theorem dX9_askedRun_253 : decode cX9_askedRun 253 = .ok (.istore 11, 2) := by decide +kernel
theorem dX9_askedRun_255 : decode cX9_askedRun 255 = .ok (.iload 11, 2) := by decide +kernel
theorem dX9_askedRun_257 : decode cX9_askedRun 257 = .ok (.ifCond .eq 8, 3) := by decide +kernel
theorem dX9_askedRun_260 : decode cX9_askedRun 260 = .ok (.iload 8, 2) := by decide +kernel
theorem dX9_askedRun_262 : decode cX9_askedRun 262 = .ok (.goto 5, 3) := by decide +kernel
theorem dX9_askedRun_265 : decode cX9_askedRun 265 = .ok (.iload 7, 2) := by decide +kernel
theorem dX9_askedRun_267 : decode cX9_askedRun 267 = .ok (.istore 12, 2) := by decide +kernel
theorem dX9_askedRun_269 : decode cX9_askedRun 269 = .ok (.iload 12, 2) := by decide +kernel
theorem dX9_askedRun_271 : decode cX9_askedRun 271 = .ok (.iload 10, 2) := by decide +kernel
theorem dX9_askedRun_273 : decode cX9_askedRun 273 = .ok (.if_icmp .le 8, 3) := by decide +kernel
theorem dX9_askedRun_276 : decode cX9_askedRun 276 = .ok (.iload 12, 2) := by decide +kernel
theorem dX9_askedRun_278 : decode cX9_askedRun 278 = .ok (.goto 5, 3) := by decide +kernel
theorem dX9_askedRun_281 : decode cX9_askedRun 281 = .ok (.iload 10, 2) := by decide +kernel
theorem dX9_askedRun_283 : decode cX9_askedRun 283 = .ok (.istore 13, 2) := by decide +kernel
theorem dX9_askedRun_285 : decode cX9_askedRun 285 = .ok (.aload_n 0, 1) := by decide +kernel
theorem dX9_askedRun_286 : decode cX9_askedRun 286 = .ok (.getfield 64, 3) := by decide +kernel
theorem dX9_askedRun_289 : decode cX9_askedRun 289 = .ok (.iload 9, 2) := by decide +kernel
theorem dX9_askedRun_291 : decode cX9_askedRun 291 = .ok (.iload 13, 2) := by decide +kernel
theorem dX9_askedRun_293 : decode cX9_askedRun 293 = .ok (.iload 10, 2) := by decide +kernel
theorem dX9_askedRun_295 : decode cX9_askedRun 295 = .ok (.isub, 1) := by decide +kernel
theorem dX9_askedRun_296 : decode cX9_askedRun 296 = .ok (.iastore, 1) := by decide +kernel
theorem dX9_askedRun_297 : decode cX9_askedRun 297 = .ok (.iload 11, 2) := by decide +kernel
theorem dX9_askedRun_299 : decode cX9_askedRun 299 = .ok (.ifCond .eq 8, 3) := by decide +kernel
theorem dX9_askedRun_302 : decode cX9_askedRun 302 = .ok (.iload 7, 2) := by decide +kernel
theorem dX9_askedRun_304 : decode cX9_askedRun 304 = .ok (.goto 18, 3) := by decide +kernel
theorem dX9_askedRun_307 : decode cX9_askedRun 307 = .ok (.iload 13, 2) := by decide +kernel
theorem dX9_askedRun_309 : decode cX9_askedRun 309 = .ok (.aload_n 0, 1) := by decide +kernel
theorem dX9_askedRun_310 : decode cX9_askedRun 310 = .ok (.getfield 20, 3) := by decide +kernel
theorem dX9_askedRun_313 : decode cX9_askedRun 313 = .ok (.bipush 40, 2) := by decide +kernel
theorem dX9_askedRun_315 : decode cX9_askedRun 315 = .ok (.iload_n 3, 1) := by decide +kernel
theorem dX9_askedRun_316 : decode cX9_askedRun 316 = .ok (.imul, 1) := by decide +kernel
theorem dX9_askedRun_317 : decode cX9_askedRun 317 = .ok (.iload 9, 2) := by decide +kernel
theorem dX9_askedRun_319 : decode cX9_askedRun 319 = .ok (.iadd, 1) := by decide +kernel
theorem dX9_askedRun_320 : decode cX9_askedRun 320 = .ok (.iaload, 1) := by decide +kernel
theorem dX9_askedRun_321 : decode cX9_askedRun 321 = .ok (.iadd, 1) := by decide +kernel
theorem dX9_askedRun_322 : decode cX9_askedRun 322 = .ok (.istore 7, 2) := by decide +kernel
theorem dX9_askedRun_324 : decode cX9_askedRun 324 = .ok (.iload 11, 2) := by decide +kernel
theorem dX9_askedRun_326 : decode cX9_askedRun 326 = .ok (.ifCond .eq 21, 3) := by decide +kernel
theorem dX9_askedRun_329 : decode cX9_askedRun 329 = .ok (.iload 13, 2) := by decide +kernel
theorem dX9_askedRun_331 : decode cX9_askedRun 331 = .ok (.aload_n 0, 1) := by decide +kernel
theorem dX9_askedRun_332 : decode cX9_askedRun 332 = .ok (.getfield 20, 3) := by decide +kernel
theorem dX9_askedRun_335 : decode cX9_askedRun 335 = .ok (.bipush 40, 2) := by decide +kernel
theorem dX9_askedRun_337 : decode cX9_askedRun 337 = .ok (.iload_n 3, 1) := by decide +kernel
theorem dX9_askedRun_338 : decode cX9_askedRun 338 = .ok (.imul, 1) := by decide +kernel
theorem dX9_askedRun_339 : decode cX9_askedRun 339 = .ok (.iload 9, 2) := by decide +kernel
theorem dX9_askedRun_341 : decode cX9_askedRun 341 = .ok (.iadd, 1) := by decide +kernel
theorem dX9_askedRun_342 : decode cX9_askedRun 342 = .ok (.iaload, 1) := by decide +kernel
theorem dX9_askedRun_343 : decode cX9_askedRun 343 = .ok (.iadd, 1) := by decide +kernel
theorem dX9_askedRun_344 : decode cX9_askedRun 344 = .ok (.goto 5, 3) := by decide +kernel
theorem dX9_askedRun_347 : decode cX9_askedRun 347 = .ok (.iload 8, 2) := by decide +kernel
theorem dX9_askedRun_349 : decode cX9_askedRun 349 = .ok (.istore 8, 2) := by decide +kernel
theorem dX9_askedRun_351 : decode cX9_askedRun 351 = .ok (.iinc 9 1, 3) := by decide +kernel
theorem dX9_askedRun_354 : decode cX9_askedRun 354 = .ok (.goto (-144), 3) := by decide +kernel
theorem dX9_askedRun_357 : decode cX9_askedRun 357 = .ok (.iload 4, 2) := by decide +kernel
theorem dX9_askedRun_359 : decode cX9_askedRun 359 = .ok (.ireturn, 1) := by decide +kernel
theorem cv_X9_askedRun : wn_cV yX9_askedRun cX9_askedRun 14 (some .int) RX9 3 := ⟨wm_826, wm_829, wm_830, wm_637, by decide +kernel⟩
abbrev rm_X9_askedRun : Room := rmz 2 42
set_option maxHeartbeats 4000000 in
set_option maxRecDepth 100000 in
theorem c_X9_askedRun {ad : Nat → Nat} {o : Nat} {x1 : Int32} {x2 : Int32} {x3 : Int32} {M : Mm} {q : Int32 × Mm} (ho : shp o = 9) (hF : f_X9_askedRun o x1 x2 x3 M = some q) : KI ad yX9_askedRun cX9_askedRun 14 (some .int) rm_X9_askedRun [.ref (ad o), .int x1, .int x2, .int x3] M q.1 q.2 := by
  refine wn_enterI (own := RX9) (by decide) rfl (Nat.le_of_ble_eq_true rfl) (fun X ls Z hQ hl => ?_)
  have hl : lv_has ls 14 [(0, .ref (ad o)), (1, .int x1), (2, .int x2), (3, .int x3)] := hl
  have L50 : ∀ (M : Mm) (ls : Array Slot), lv_has ls 14 [(0, .ref (ad o))] → f_X9_askedRun_b50 o M = some q → G ad X M 50 ls [] := by
    intro M ls hl hF
    unfold f_X9_askedRun_b50 at hF
    refine r_aload_n Z dX9_askedRun_50 rfl (lv_at hl 0 rfl) ?_
    refine r_iconst (v := 1) Z dX9_askedRun_51 (by decide) ?_
    obtain ⟨q1, hq1, hF⟩ := bd_some hF
    refine r_invVi [] Z (c_X9_meets ho hq1) cv_X9_meets rfl (shp_lt ho (by decide)) (fun _ _ => ⟨_, ce_9 ho⟩) wm_644 rfl rfl ⟨Nat.le_of_ble_eq_true rfl, Nat.le_of_ble_eq_true rfl⟩ rfl hl.1 rfl (Nat.le_of_ble_eq_true rfl) dX9_askedRun_52 ?_
    exact r_iret Z hQ hF dX9_askedRun_55
  have L210 : ∀ (n210 : Nat) (v1 : Int32) (v2 : Int32) (v3 : Int32) (v4 : Int32) (v7 : Int32) (v8 : Int32) (v9 : Int32) (M : Mm) (ls : Array Slot), lv_has ls 14 [(0, .ref (ad o)), (1, .int v1), (2, .int v2), (3, .int v3), (4, .int v4), (7, .int v7), (8, .int v8), (9, .int v9)] → f_X9_askedRun_b210 o n210 v1 v2 v3 v4 v7 v8 v9 M = some q → G ad X M 210 ls [] := by
    intro n210
    induction n210 with
    | zero =>
      intro v1 v2 v3 v4 v7 v8 v9 M ls hl hF
      cases hF
    | succ n210 ih210 =>
      have L322 : ∀ (v1 : Int32) (v2 : Int32) (v3 : Int32) (v4 : Int32) (v8 : Int32) (v9 : Int32) (v11 : Int32) (v13 : Int32) (s0 : Int32) (M : Mm) (ls : Array Slot), lv_has ls 14 [(0, .ref (ad o)), (1, .int v1), (2, .int v2), (3, .int v3), (4, .int v4), (8, .int v8), (9, .int v9), (11, .int v11), (13, .int v13)] → f_X9_askedRun_b322 (f_X9_askedRun_b210 o n210) o v1 v2 v3 v4 v8 v9 v11 v13 s0 M = some q → G ad X M 322 ls [.int s0] := by
        intro v1 v2 v3 v4 v8 v9 v11 v13 s0 M ls hl hF
        unfold f_X9_askedRun_b322 at hF
        refine r_istore Z [(7, .int s0), (0, .ref (ad o)), (1, .int v1), (2, .int v2), (3, .int v3), (4, .int v4), (8, .int v8), (9, .int v9), (11, .int v11), (13, .int v13)] dX9_askedRun_322 hl (by decide) rfl (fun ls hl => ?_)
        refine r_iload Z dX9_askedRun_324 (lv_at hl 8 rfl) ?_
        refine r_if_eq Z 347 dX9_askedRun_326 (by decide) (fun hc5 => ?_) (fun hc5 => ?_)
        · replace hF := if_some hc5 hF
          refine r_iload Z dX9_askedRun_347 (lv_at hl 6 rfl) ?_
          refine r_istore Z [(8, .int v8), (7, .int s0), (0, .ref (ad o)), (1, .int v1), (2, .int v2), (3, .int v3), (4, .int v4), (9, .int v9), (11, .int v11), (13, .int v13)] dX9_askedRun_349 hl (by decide) rfl (fun ls hl => ?_)
          obtain ⟨t6, et6, hF⟩ := nm_some hF
          refine r_iinc (j := 7) Z t6 [(9, .int t6), (8, .int v8), (7, .int s0), (0, .ref (ad o)), (1, .int v1), (2, .int v2), (3, .int v3), (4, .int v4), (11, .int v11), (13, .int v13)] dX9_askedRun_351 hl rfl (by rw [et6]; rfl) (by decide) rfl (fun ls hl => ?_)
          refine r_goto Z 210 dX9_askedRun_354 (by decide) ?_
          exact ih210 v1 v2 v3 v4 s0 v8 t6 M ls (lv_sub hl [3, 4, 5, 6, 7, 2, 1, 0] rfl) hF
        · replace hF := nif_some hc5 hF
          refine r_iload Z dX9_askedRun_329 (lv_at hl 9 rfl) ?_
          refine r_aload_n Z dX9_askedRun_331 rfl (lv_at hl 1 rfl) ?_
          refine g_9_6 Z ho wm_611 dX9_askedRun_332 ?_
          refine r_bipush (v := 40) Z dX9_askedRun_335 (by decide) ?_
          refine r_iload_n Z dX9_askedRun_337 rfl (lv_at hl 4 rfl) ?_
          refine r_imul Z dX9_askedRun_338 ?_
          refine r_iload Z dX9_askedRun_339 (lv_at hl 7 rfl) ?_
          refine r_iadd Z dX9_askedRun_341 ?_
          obtain ⟨hi7, hF⟩ := ck_some hF
          refine r_iaload Z (shp_lt (sh_9_6 ho) (by decide)) (fun _ _ => ce_340 (sh_9_6 ho)) hi7 dX9_askedRun_342 ?_
          refine r_iadd Z dX9_askedRun_343 ?_
          refine r_goto Z 349 dX9_askedRun_344 (by decide) ?_
          obtain ⟨t8, et8, hF⟩ := nm_some hF
          rw [← et8]
          refine r_istore Z [(8, .int t8), (7, .int s0), (0, .ref (ad o)), (1, .int v1), (2, .int v2), (3, .int v3), (4, .int v4), (9, .int v9), (11, .int v11), (13, .int v13)] dX9_askedRun_349 hl (by decide) rfl (fun ls hl => ?_)
          obtain ⟨t9, et9, hF⟩ := nm_some hF
          refine r_iinc (j := 7) Z t9 [(9, .int t9), (8, .int t8), (7, .int s0), (0, .ref (ad o)), (1, .int v1), (2, .int v2), (3, .int v3), (4, .int v4), (11, .int v11), (13, .int v13)] dX9_askedRun_351 hl rfl (by rw [et9]; rfl) (by decide) rfl (fun ls hl => ?_)
          refine r_goto Z 210 dX9_askedRun_354 (by decide) ?_
          exact ih210 v1 v2 v3 v4 s0 t8 t9 M ls (lv_sub hl [3, 4, 5, 6, 7, 2, 1, 0] rfl) hF
      have L283 : ∀ (v1 : Int32) (v2 : Int32) (v3 : Int32) (v4 : Int32) (v7 : Int32) (v8 : Int32) (v9 : Int32) (v10 : Int32) (v11 : Int32) (s0 : Int32) (M : Mm) (ls : Array Slot), lv_has ls 14 [(0, .ref (ad o)), (1, .int v1), (2, .int v2), (3, .int v3), (4, .int v4), (7, .int v7), (8, .int v8), (9, .int v9), (10, .int v10), (11, .int v11)] → f_X9_askedRun_b283 (f_X9_askedRun_b210 o n210) o v1 v2 v3 v4 v7 v8 v9 v10 v11 s0 M = some q → G ad X M 283 ls [.int s0] := by
        intro v1 v2 v3 v4 v7 v8 v9 v10 v11 s0 M ls hl hF
        unfold f_X9_askedRun_b283 at hF
        refine r_istore Z [(13, .int s0), (0, .ref (ad o)), (1, .int v1), (2, .int v2), (3, .int v3), (4, .int v4), (7, .int v7), (8, .int v8), (9, .int v9), (10, .int v10), (11, .int v11)] dX9_askedRun_283 hl (by decide) rfl (fun ls hl => ?_)
        refine r_aload_n Z dX9_askedRun_285 rfl (lv_at hl 1 rfl) ?_
        refine g_9_24 Z ho wm_626 dX9_askedRun_286 ?_
        refine r_iload Z dX9_askedRun_289 (lv_at hl 8 rfl) ?_
        refine r_iload Z dX9_askedRun_291 (lv_at hl 0 rfl) ?_
        refine r_iload Z dX9_askedRun_293 (lv_at hl 9 rfl) ?_
        refine r_isub Z dX9_askedRun_295 ?_
        obtain ⟨hi10, hF⟩ := ck_some hF
        obtain ⟨M11, eM11, hF⟩ := nm_some hF
        refine r_iastore Z (shp_lt (sh_9_24 ho) (by decide)) (fun _ _ => ce_140 (sh_9_24 ho)) hi10 dX9_askedRun_296 ?_
        rw [← eM11]
        refine r_iload Z dX9_askedRun_297 (lv_at hl 10 rfl) ?_
        refine r_if_eq Z 307 dX9_askedRun_299 (by decide) (fun hc12 => ?_) (fun hc12 => ?_)
        · replace hF := if_some hc12 hF
          refine r_iload Z dX9_askedRun_307 (lv_at hl 0 rfl) ?_
          refine r_aload_n Z dX9_askedRun_309 rfl (lv_at hl 1 rfl) ?_
          refine g_9_6 Z ho wm_611 dX9_askedRun_310 ?_
          refine r_bipush (v := 40) Z dX9_askedRun_313 (by decide) ?_
          refine r_iload_n Z dX9_askedRun_315 rfl (lv_at hl 4 rfl) ?_
          refine r_imul Z dX9_askedRun_316 ?_
          refine r_iload Z dX9_askedRun_317 (lv_at hl 8 rfl) ?_
          refine r_iadd Z dX9_askedRun_319 ?_
          obtain ⟨hi13, hF⟩ := ck_some hF
          refine r_iaload Z (shp_lt (sh_9_6 ho) (by decide)) (fun _ _ => ce_340 (sh_9_6 ho)) hi13 dX9_askedRun_320 ?_
          refine r_iadd Z dX9_askedRun_321 ?_
          exact L322 v1 v2 v3 v4 v8 v9 v11 s0 (s0 + (mI M11 (fld o 6) (Int32.toNatClampNeg ((40 * v3) + v9)))) M11 ls (lv_sub hl [1, 2, 3, 4, 5, 7, 8, 10, 0] rfl) hF
        · replace hF := nif_some hc12 hF
          refine r_iload Z dX9_askedRun_302 (lv_at hl 6 rfl) ?_
          refine r_goto Z 322 dX9_askedRun_304 (by decide) ?_
          exact L322 v1 v2 v3 v4 v8 v9 v11 s0 v7 M11 ls (lv_sub hl [1, 2, 3, 4, 5, 7, 8, 10, 0] rfl) hF
      have L267 : ∀ (v1 : Int32) (v2 : Int32) (v3 : Int32) (v4 : Int32) (v7 : Int32) (v8 : Int32) (v9 : Int32) (v10 : Int32) (v11 : Int32) (s0 : Int32) (M : Mm) (ls : Array Slot), lv_has ls 14 [(0, .ref (ad o)), (1, .int v1), (2, .int v2), (3, .int v3), (4, .int v4), (7, .int v7), (8, .int v8), (9, .int v9), (10, .int v10), (11, .int v11)] → f_X9_askedRun_b267 (f_X9_askedRun_b210 o n210) o v1 v2 v3 v4 v7 v8 v9 v10 v11 s0 M = some q → G ad X M 267 ls [.int s0] := by
        intro v1 v2 v3 v4 v7 v8 v9 v10 v11 s0 M ls hl hF
        unfold f_X9_askedRun_b267 at hF
        refine r_istore Z [(12, .int s0), (0, .ref (ad o)), (1, .int v1), (2, .int v2), (3, .int v3), (4, .int v4), (7, .int v7), (8, .int v8), (9, .int v9), (10, .int v10), (11, .int v11)] dX9_askedRun_267 hl (by decide) rfl (fun ls hl => ?_)
        refine r_iload Z dX9_askedRun_269 (lv_at hl 0 rfl) ?_
        refine r_iload Z dX9_askedRun_271 (lv_at hl 9 rfl) ?_
        refine r_icmp_le Z 281 dX9_askedRun_273 (by decide) (fun hc14 => ?_) (fun hc14 => ?_)
        · replace hF := if_some hc14 hF
          refine r_iload Z dX9_askedRun_281 (lv_at hl 9 rfl) ?_
          exact L283 v1 v2 v3 v4 v7 v8 v9 v10 v11 v10 M ls (lv_sub hl [1, 2, 3, 4, 5, 6, 7, 8, 9, 10] rfl) hF
        · replace hF := nif_some hc14 hF
          refine r_iload Z dX9_askedRun_276 (lv_at hl 0 rfl) ?_
          refine r_goto Z 283 dX9_askedRun_278 (by decide) ?_
          exact L283 v1 v2 v3 v4 v7 v8 v9 v10 v11 s0 M ls (lv_sub hl [1, 2, 3, 4, 5, 6, 7, 8, 9, 10] rfl) hF
      have L253 : ∀ (v1 : Int32) (v2 : Int32) (v3 : Int32) (v4 : Int32) (v7 : Int32) (v8 : Int32) (v9 : Int32) (v10 : Int32) (s0 : Int32) (M : Mm) (ls : Array Slot), lv_has ls 14 [(0, .ref (ad o)), (1, .int v1), (2, .int v2), (3, .int v3), (4, .int v4), (7, .int v7), (8, .int v8), (9, .int v9), (10, .int v10)] → f_X9_askedRun_b253 (f_X9_askedRun_b210 o n210) o v1 v2 v3 v4 v7 v8 v9 v10 s0 M = some q → G ad X M 253 ls [.int s0] := by
        intro v1 v2 v3 v4 v7 v8 v9 v10 s0 M ls hl hF
        unfold f_X9_askedRun_b253 at hF
        refine r_istore Z [(11, .int s0), (0, .ref (ad o)), (1, .int v1), (2, .int v2), (3, .int v3), (4, .int v4), (7, .int v7), (8, .int v8), (9, .int v9), (10, .int v10)] dX9_askedRun_253 hl (by decide) rfl (fun ls hl => ?_)
        refine r_iload Z dX9_askedRun_255 (lv_at hl 0 rfl) ?_
        refine r_if_eq Z 265 dX9_askedRun_257 (by decide) (fun hc15 => ?_) (fun hc15 => ?_)
        · replace hF := if_some hc15 hF
          refine r_iload Z dX9_askedRun_265 (lv_at hl 6 rfl) ?_
          exact L267 v1 v2 v3 v4 v7 v8 v9 v10 s0 v7 M ls (lv_sub hl [1, 2, 3, 4, 5, 6, 7, 8, 9, 0] rfl) hF
        · replace hF := nif_some hc15 hF
          refine r_iload Z dX9_askedRun_260 (lv_at hl 7 rfl) ?_
          refine r_goto Z 267 dX9_askedRun_262 (by decide) ?_
          exact L267 v1 v2 v3 v4 v7 v8 v9 v10 s0 v8 M ls (lv_sub hl [1, 2, 3, 4, 5, 6, 7, 8, 9, 0] rfl) hF
      have L252 : ∀ (v1 : Int32) (v2 : Int32) (v3 : Int32) (v4 : Int32) (v7 : Int32) (v8 : Int32) (v9 : Int32) (v10 : Int32) (M : Mm) (ls : Array Slot), lv_has ls 14 [(0, .ref (ad o)), (1, .int v1), (2, .int v2), (3, .int v3), (4, .int v4), (7, .int v7), (8, .int v8), (9, .int v9), (10, .int v10)] → f_X9_askedRun_b252 (f_X9_askedRun_b210 o n210) o v1 v2 v3 v4 v7 v8 v9 v10 M = some q → G ad X M 252 ls [] := by
        intro v1 v2 v3 v4 v7 v8 v9 v10 M ls hl hF
        unfold f_X9_askedRun_b252 at hF
        refine r_iconst (v := 0) Z dX9_askedRun_252 (by decide) ?_
        exact L253 v1 v2 v3 v4 v7 v8 v9 v10 0 M ls (lv_sub hl [0, 1, 2, 3, 4, 5, 6, 7, 8] rfl) hF
      intro v1 v2 v3 v4 v7 v8 v9 M ls hl hF
      replace hF : f_X9_askedRun_b210B (f_X9_askedRun_b210 o n210) o v1 v2 v3 v4 v7 v8 v9 M = some q := hF
      unfold f_X9_askedRun_b210B at hF
      refine r_iload Z dX9_askedRun_210 (lv_at hl 7 rfl) ?_
      refine r_iload Z dX9_askedRun_212 (lv_at hl 4 rfl) ?_
      refine r_icmp_ge Z 357 dX9_askedRun_214 (by decide) (fun hc16 => ?_) (fun hc16 => ?_)
      · replace hF := if_some hc16 hF
        refine r_iload Z dX9_askedRun_357 (lv_at hl 4 rfl) ?_
        exact r_iret Z hQ hF dX9_askedRun_359
      · replace hF := nif_some hc16 hF
        refine r_aload_n Z dX9_askedRun_217 rfl (lv_at hl 0 rfl) ?_
        refine g_9_6 Z ho wm_611 dX9_askedRun_218 ?_
        refine r_bipush (v := 40) Z dX9_askedRun_221 (by decide) ?_
        refine r_iload_n Z dX9_askedRun_223 rfl (lv_at hl 2 rfl) ?_
        refine r_imul Z dX9_askedRun_224 ?_
        refine r_iload Z dX9_askedRun_225 (lv_at hl 7 rfl) ?_
        refine r_iadd Z dX9_askedRun_227 ?_
        obtain ⟨hi17, hF⟩ := ck_some hF
        refine r_iaload Z (shp_lt (sh_9_6 ho) (by decide)) (fun _ _ => ce_340 (sh_9_6 ho)) hi17 dX9_askedRun_228 ?_
        obtain ⟨t18, et18, hF⟩ := nm_some hF
        rw [← et18]
        refine r_istore Z [(10, .int t18), (0, .ref (ad o)), (1, .int v1), (2, .int v2), (3, .int v3), (4, .int v4), (7, .int v7), (8, .int v8), (9, .int v9)] dX9_askedRun_229 hl (by decide) rfl (fun ls hl => ?_)
        refine r_aload_n Z dX9_askedRun_231 rfl (lv_at hl 1 rfl) ?_
        refine g_9_11 Z ho wm_617 dX9_askedRun_232 ?_
        refine r_iload_n Z dX9_askedRun_235 rfl (lv_at hl 2 rfl) ?_
        obtain ⟨hi19, hF⟩ := ck_some hF
        refine r_iaload Z (shp_lt (sh_9_11 ho) (by decide)) (fun _ _ => ce_104 (sh_9_11 ho)) hi19 dX9_askedRun_236 ?_
        refine r_iconst (v := 2) Z dX9_askedRun_237 (by decide) ?_
        refine r_icmp_ne Z 252 dX9_askedRun_238 (by decide) (fun hc20 => ?_) (fun hc20 => ?_)
        · replace hF := nif_some hc20 hF
          exact L252 v1 v2 v3 v4 v7 v8 v9 t18 M ls (lv_sub hl [1, 2, 3, 4, 5, 6, 7, 8, 0] rfl) hF
        · replace hF := if_some hc20 hF
          refine r_iload Z dX9_askedRun_241 (lv_at hl 7 rfl) ?_
          refine r_iload Z dX9_askedRun_243 (lv_at hl 6 rfl) ?_
          refine r_icmp_ge Z 252 dX9_askedRun_245 (by decide) (fun hc21 => ?_) (fun hc21 => ?_)
          · replace hF := if_some hc21 hF
            exact L252 v1 v2 v3 v4 v7 v8 v9 t18 M ls (lv_sub hl [1, 2, 3, 4, 5, 6, 7, 8, 0] rfl) hF
          · replace hF := nif_some hc21 hF
            refine r_iconst (v := 1) Z dX9_askedRun_248 (by decide) ?_
            refine r_goto Z 253 dX9_askedRun_249 (by decide) ?_
            exact L253 v1 v2 v3 v4 v7 v8 v9 t18 1 M ls (lv_sub hl [1, 2, 3, 4, 5, 6, 7, 8, 0] rfl) hF
  have L190 : ∀ (v1 : Int32) (v2 : Int32) (v3 : Int32) (v4 : Int32) (v5 : Int32) (M : Mm) (ls : Array Slot), lv_has ls 14 [(0, .ref (ad o)), (1, .int v1), (2, .int v2), (3, .int v3), (4, .int v4), (5, .int v5)] → f_X9_askedRun_b190 o v1 v2 v3 v4 v5 M = some q → G ad X M 190 ls [] := by
    intro v1 v2 v3 v4 v5 M ls hl hF
    unfold f_X9_askedRun_b190 at hF
    refine r_iload Z dX9_askedRun_190 (lv_at hl 5 rfl) ?_
    refine r_if_ne Z 201 dX9_askedRun_192 (by decide) (fun hc22 => ?_) (fun hc22 => ?_)
    · replace hF := nif_some hc22 hF
      refine r_iconst (v := 0) Z dX9_askedRun_201 (by decide) ?_
      refine r_istore Z [(7, .int 0), (0, .ref (ad o)), (1, .int v1), (2, .int v2), (3, .int v3), (4, .int v4), (5, .int v5)] dX9_askedRun_202 hl (by decide) rfl (fun ls hl => ?_)
      refine r_iconst (v := 0) Z dX9_askedRun_204 (by decide) ?_
      refine r_istore Z [(8, .int 0), (7, .int 0), (0, .ref (ad o)), (1, .int v1), (2, .int v2), (3, .int v3), (4, .int v4), (5, .int v5)] dX9_askedRun_205 hl (by decide) rfl (fun ls hl => ?_)
      refine r_iconst (v := 0) Z dX9_askedRun_207 (by decide) ?_
      refine r_istore Z [(9, .int 0), (8, .int 0), (7, .int 0), (0, .ref (ad o)), (1, .int v1), (2, .int v2), (3, .int v3), (4, .int v4), (5, .int v5)] dX9_askedRun_208 hl (by decide) rfl (fun ls hl => ?_)
      exact L210 _ v1 v2 v3 v4 0 0 0 M ls (lv_sub hl [3, 4, 5, 6, 7, 2, 1, 0] rfl) hF
    · replace hF := if_some hc22 hF
      refine r_aload_n Z dX9_askedRun_195 rfl (lv_at hl 0 rfl) ?_
      refine r_iconst (v := 3) Z dX9_askedRun_196 (by decide) ?_
      obtain ⟨q23, hq23, hF⟩ := bd_some hF
      refine r_invVi [] Z (c_X9_meets ho hq23) cv_X9_meets rfl (shp_lt ho (by decide)) (fun _ _ => ⟨_, ce_9 ho⟩) wm_644 rfl rfl ⟨Nat.le_of_ble_eq_true rfl, Nat.le_of_ble_eq_true rfl⟩ rfl hl.1 rfl (Nat.le_of_ble_eq_true rfl) dX9_askedRun_197 ?_
      exact r_iret Z hQ hF dX9_askedRun_200
  have L107 : ∀ (n107 : Nat) (v1 : Int32) (v2 : Int32) (v3 : Int32) (v4 : Int32) (v5 : Int32) (v6 : Int32) (v7 : Int32) (M : Mm) (ls : Array Slot), lv_has ls 14 [(0, .ref (ad o)), (1, .int v1), (2, .int v2), (3, .int v3), (4, .int v4), (5, .int v5), (6, .int v6), (7, .int v7)] → f_X9_askedRun_b107 o n107 v1 v2 v3 v4 v5 v6 v7 M = some q → G ad X M 107 ls [] := by
    intro n107
    induction n107 with
    | zero =>
      intro v1 v2 v3 v4 v5 v6 v7 M ls hl hF
      cases hF
    | succ n107 ih107 =>
      have L168 : ∀ (v1 : Int32) (v2 : Int32) (v3 : Int32) (v4 : Int32) (v7 : Int32) (s0 : Int32) (M : Mm) (ls : Array Slot), lv_has ls 14 [(0, .ref (ad o)), (1, .int v1), (2, .int v2), (3, .int v3), (4, .int v4), (7, .int v7)] → f_X9_askedRun_b168 (f_X9_askedRun_b107 o n107) o v1 v2 v3 v4 v7 s0 M = some q → G ad X M 168 ls [.int s0] := by
        intro v1 v2 v3 v4 v7 s0 M ls hl hF
        unfold f_X9_askedRun_b168 at hF
        refine r_istore Z [(5, .int s0), (0, .ref (ad o)), (1, .int v1), (2, .int v2), (3, .int v3), (4, .int v4), (7, .int v7)] dX9_askedRun_168 hl (by decide) rfl (fun ls hl => ?_)
        refine r_aload_n Z dX9_askedRun_170 rfl (lv_at hl 1 rfl) ?_
        refine g_9_6 Z ho wm_611 dX9_askedRun_171 ?_
        refine r_bipush (v := 40) Z dX9_askedRun_174 (by decide) ?_
        refine r_iload_n Z dX9_askedRun_176 rfl (lv_at hl 3 rfl) ?_
        refine r_imul Z dX9_askedRun_177 ?_
        refine r_iload Z dX9_askedRun_178 (lv_at hl 6 rfl) ?_
        refine r_iadd Z dX9_askedRun_180 ?_
        obtain ⟨hi2, hF⟩ := ck_some hF
        refine r_iaload Z (shp_lt (sh_9_6 ho) (by decide)) (fun _ _ => ce_340 (sh_9_6 ho)) hi2 dX9_askedRun_181 ?_
        obtain ⟨t3, et3, hF⟩ := nm_some hF
        rw [← et3]
        refine r_istore Z [(6, .int t3), (5, .int s0), (0, .ref (ad o)), (1, .int v1), (2, .int v2), (3, .int v3), (4, .int v4), (7, .int v7)] dX9_askedRun_182 hl (by decide) rfl (fun ls hl => ?_)
        obtain ⟨t4, et4, hF⟩ := nm_some hF
        refine r_iinc (j := 7) Z t4 [(7, .int t4), (6, .int t3), (5, .int s0), (0, .ref (ad o)), (1, .int v1), (2, .int v2), (3, .int v3), (4, .int v4)] dX9_askedRun_184 hl rfl (by rw [et4]; rfl) (by decide) rfl (fun ls hl => ?_)
        refine r_goto Z 107 dX9_askedRun_187 (by decide) ?_
        exact ih107 v1 v2 v3 v4 s0 t3 t4 M ls (lv_sub hl [3, 4, 5, 6, 7, 2, 1, 0] rfl) hF
      have L167 : ∀ (v1 : Int32) (v2 : Int32) (v3 : Int32) (v4 : Int32) (v7 : Int32) (M : Mm) (ls : Array Slot), lv_has ls 14 [(0, .ref (ad o)), (1, .int v1), (2, .int v2), (3, .int v3), (4, .int v4), (7, .int v7)] → f_X9_askedRun_b167 (f_X9_askedRun_b107 o n107) o v1 v2 v3 v4 v7 M = some q → G ad X M 167 ls [] := by
        intro v1 v2 v3 v4 v7 M ls hl hF
        unfold f_X9_askedRun_b167 at hF
        refine r_iconst (v := 0) Z dX9_askedRun_167 (by decide) ?_
        exact L168 v1 v2 v3 v4 v7 0 M ls (lv_sub hl [0, 1, 2, 3, 4, 5] rfl) hF
      intro v1 v2 v3 v4 v5 v6 v7 M ls hl hF
      replace hF : f_X9_askedRun_b107B (f_X9_askedRun_b107 o n107) o v1 v2 v3 v4 v5 v6 v7 M = some q := hF
      unfold f_X9_askedRun_b107B at hF
      refine r_iload Z dX9_askedRun_107 (lv_at hl 7 rfl) ?_
      refine r_iload Z dX9_askedRun_109 (lv_at hl 4 rfl) ?_
      refine r_icmp_ge Z 190 dX9_askedRun_111 (by decide) (fun hc24 => ?_) (fun hc24 => ?_)
      · replace hF := if_some hc24 hF
        exact L190 v1 v2 v3 v4 v5 M ls (lv_sub hl [0, 1, 2, 3, 4, 5] rfl) hF
      · replace hF := nif_some hc24 hF
        refine r_iload Z dX9_askedRun_114 (lv_at hl 5 rfl) ?_
        refine r_if_eq Z 190 dX9_askedRun_116 (by decide) (fun hc25 => ?_) (fun hc25 => ?_)
        · replace hF := if_some hc25 hF
          exact L190 v1 v2 v3 v4 v5 M ls (lv_sub hl [0, 1, 2, 3, 4, 5] rfl) hF
        · replace hF := nif_some hc25 hF
          refine r_aload_n Z dX9_askedRun_119 rfl (lv_at hl 0 rfl) ?_
          refine g_9_6 Z ho wm_611 dX9_askedRun_120 ?_
          refine r_bipush (v := 40) Z dX9_askedRun_123 (by decide) ?_
          refine r_iload_n Z dX9_askedRun_125 rfl (lv_at hl 2 rfl) ?_
          refine r_imul Z dX9_askedRun_126 ?_
          refine r_iload Z dX9_askedRun_127 (lv_at hl 7 rfl) ?_
          refine r_iadd Z dX9_askedRun_129 ?_
          obtain ⟨hi26, hF⟩ := ck_some hF
          refine r_iaload Z (shp_lt (sh_9_6 ho) (by decide)) (fun _ _ => ce_340 (sh_9_6 ho)) hi26 dX9_askedRun_130 ?_
          refine r_iload Z dX9_askedRun_131 (lv_at hl 6 rfl) ?_
          refine r_ldc Z wm_827 dX9_askedRun_133 ?_
          obtain ⟨q27, hq27, hF⟩ := bd_some hF
          refine r_invSi [] Z (c_X9_in hq27) cv_X9_in wm_639 rfl rfl ⟨Nat.le_of_ble_eq_true rfl, Nat.le_of_ble_eq_true rfl⟩ rfl hl.1 rfl (Nat.le_of_ble_eq_true rfl) dX9_askedRun_135 ?_
          refine r_if_eq Z 167 dX9_askedRun_138 (by decide) (fun hc28 => ?_) (fun hc28 => ?_)
          · replace hF := if_some hc28 hF
            exact L167 v1 v2 v3 v4 v7 q27.2 ls (lv_sub hl [0, 1, 2, 3, 4, 7] rfl) hF
          · replace hF := nif_some hc28 hF
            refine r_aload_n Z dX9_askedRun_141 rfl (lv_at hl 0 rfl) ?_
            refine g_9_6 Z ho wm_611 dX9_askedRun_142 ?_
            refine r_bipush (v := 40) Z dX9_askedRun_145 (by decide) ?_
            refine r_iload_n Z dX9_askedRun_147 rfl (lv_at hl 3 rfl) ?_
            refine r_imul Z dX9_askedRun_148 ?_
            refine r_iload Z dX9_askedRun_149 (lv_at hl 7 rfl) ?_
            refine r_iadd Z dX9_askedRun_151 ?_
            obtain ⟨hi29, hF⟩ := ck_some hF
            refine r_iaload Z (shp_lt (sh_9_6 ho) (by decide)) (fun _ _ => ce_340 (sh_9_6 ho)) hi29 dX9_askedRun_152 ?_
            refine r_iconst (v := 1) Z dX9_askedRun_153 (by decide) ?_
            refine r_sipush (v := 1000) Z dX9_askedRun_154 (by decide) ?_
            obtain ⟨q30, hq30, hF⟩ := bd_some hF
            refine r_invSi [] Z (c_X9_in hq30) cv_X9_in wm_639 rfl rfl ⟨Nat.le_of_ble_eq_true rfl, Nat.le_of_ble_eq_true rfl⟩ rfl hl.1 rfl (Nat.le_of_ble_eq_true rfl) dX9_askedRun_157 ?_
            refine r_if_eq Z 167 dX9_askedRun_160 (by decide) (fun hc31 => ?_) (fun hc31 => ?_)
            · replace hF := if_some hc31 hF
              exact L167 v1 v2 v3 v4 v7 q30.2 ls (lv_sub hl [0, 1, 2, 3, 4, 7] rfl) hF
            · replace hF := nif_some hc31 hF
              refine r_iconst (v := 1) Z dX9_askedRun_163 (by decide) ?_
              refine r_goto Z 168 dX9_askedRun_164 (by decide) ?_
              exact L168 v1 v2 v3 v4 v7 1 q30.2 ls (lv_sub hl [0, 1, 2, 3, 4, 7] rfl) hF
  unfold f_X9_askedRun at hF
  refine r_iload_n Z dX9_askedRun_0 rfl (lv_at hl 1 rfl) ?_
  obtain ⟨q32, hq32, hF⟩ := bd_some hF
  refine r_invSi [] Z (c_X9_isCounter hq32) cv_X9_isCounter wm_660 rfl rfl ⟨Nat.le_of_ble_eq_true rfl, Nat.le_of_ble_eq_true rfl⟩ rfl hl.1 rfl (Nat.le_of_ble_eq_true rfl) dX9_askedRun_1 ?_
  refine r_if_eq Z 21 dX9_askedRun_4 (by decide) (fun hc33 => ?_) (fun hc33 => ?_)
  · replace hF := if_some hc33 hF
    refine r_iconst (v := (-1)) Z dX9_askedRun_21 (by decide) ?_
    exact r_iret Z hQ hF dX9_askedRun_22
  · replace hF := nif_some hc33 hF
    refine r_iload_n Z dX9_askedRun_7 rfl (lv_at hl 2 rfl) ?_
    obtain ⟨q34, hq34, hF⟩ := bd_some hF
    refine r_invSi [] Z (c_X9_isRow hq34) cv_X9_isRow wm_642 rfl rfl ⟨Nat.le_of_ble_eq_true rfl, Nat.le_of_ble_eq_true rfl⟩ rfl hl.1 rfl (Nat.le_of_ble_eq_true rfl) dX9_askedRun_8 ?_
    refine r_if_eq Z 21 dX9_askedRun_11 (by decide) (fun hc35 => ?_) (fun hc35 => ?_)
    · replace hF := if_some hc35 hF
      refine r_iconst (v := (-1)) Z dX9_askedRun_21 (by decide) ?_
      exact r_iret Z hQ hF dX9_askedRun_22
    · replace hF := nif_some hc35 hF
      refine r_iload_n Z dX9_askedRun_14 rfl (lv_at hl 3 rfl) ?_
      obtain ⟨q36, hq36, hF⟩ := bd_some hF
      refine r_invSi [] Z (c_X9_isRow hq36) cv_X9_isRow wm_642 rfl rfl ⟨Nat.le_of_ble_eq_true rfl, Nat.le_of_ble_eq_true rfl⟩ rfl hl.1 rfl (Nat.le_of_ble_eq_true rfl) dX9_askedRun_15 ?_
      refine r_if_ne Z 23 dX9_askedRun_18 (by decide) (fun hc37 => ?_) (fun hc37 => ?_)
      · replace hF := nif_some hc37 hF
        refine r_aload_n Z dX9_askedRun_23 rfl (lv_at hl 0 rfl) ?_
        refine g_9_8 Z ho wm_614 dX9_askedRun_24 ?_
        refine r_iload_n Z dX9_askedRun_27 rfl (lv_at hl 1 rfl) ?_
        obtain ⟨hi38, hF⟩ := ck_some hF
        refine r_zaload Z (shp_lt (sh_9_8 ho) (by decide)) (fun _ _ => ce_2004 (sh_9_8 ho)) hi38 dX9_askedRun_28 ?_
        refine r_if_eq Z 50 dX9_askedRun_29 (by decide) (fun hc39 => ?_) (fun hc39 => ?_)
        · replace hF := if_some hc39 hF
          exact L50 q36.2 ls (lv_sub hl [0] rfl) hF
        · replace hF := nif_some hc39 hF
          refine r_aload_n Z dX9_askedRun_32 rfl (lv_at hl 0 rfl) ?_
          refine g_9_5 Z ho wm_610 dX9_askedRun_33 ?_
          refine r_iload_n Z dX9_askedRun_36 rfl (lv_at hl 2 rfl) ?_
          obtain ⟨hi40, hF⟩ := ck_some hF
          refine r_iaload Z (shp_lt (sh_9_5 ho) (by decide)) (fun _ _ => ce_106 (sh_9_5 ho)) hi40 dX9_askedRun_37 ?_
          refine r_if_lt Z 50 dX9_askedRun_38 (by decide) (fun hc41 => ?_) (fun hc41 => ?_)
          · replace hF := if_some hc41 hF
            exact L50 q36.2 ls (lv_sub hl [0] rfl) hF
          · replace hF := nif_some hc41 hF
            refine r_aload_n Z dX9_askedRun_41 rfl (lv_at hl 0 rfl) ?_
            refine g_9_5 Z ho wm_610 dX9_askedRun_42 ?_
            refine r_iload_n Z dX9_askedRun_45 rfl (lv_at hl 3 rfl) ?_
            obtain ⟨hi42, hF⟩ := ck_some hF
            refine r_iaload Z (shp_lt (sh_9_5 ho) (by decide)) (fun _ _ => ce_106 (sh_9_5 ho)) hi42 dX9_askedRun_46 ?_
            refine r_if_ge Z 56 dX9_askedRun_47 (by decide) (fun hc43 => ?_) (fun hc43 => ?_)
            · replace hF := if_some hc43 hF
              refine r_aload_n Z dX9_askedRun_56 rfl (lv_at hl 0 rfl) ?_
              refine g_9_5 Z ho wm_610 dX9_askedRun_57 ?_
              refine r_iload_n Z dX9_askedRun_60 rfl (lv_at hl 2 rfl) ?_
              obtain ⟨hi44, hF⟩ := ck_some hF
              refine r_iaload Z (shp_lt (sh_9_5 ho) (by decide)) (fun _ _ => ce_106 (sh_9_5 ho)) hi44 dX9_askedRun_61 ?_
              refine r_aload_n Z dX9_askedRun_62 rfl (lv_at hl 0 rfl) ?_
              refine g_9_5 Z ho wm_610 dX9_askedRun_63 ?_
              refine r_iload_n Z dX9_askedRun_66 rfl (lv_at hl 3 rfl) ?_
              obtain ⟨hi45, hF⟩ := ck_some hF
              refine r_iaload Z (shp_lt (sh_9_5 ho) (by decide)) (fun _ _ => ce_106 (sh_9_5 ho)) hi45 dX9_askedRun_67 ?_
              refine r_icmp_eq Z 77 dX9_askedRun_68 (by decide) (fun hc46 => ?_) (fun hc46 => ?_)
              · replace hF := if_some hc46 hF
                refine r_aload_n Z dX9_askedRun_77 rfl (lv_at hl 0 rfl) ?_
                refine g_9_5 Z ho wm_610 dX9_askedRun_78 ?_
                refine r_iload_n Z dX9_askedRun_81 rfl (lv_at hl 2 rfl) ?_
                obtain ⟨hi47, hF⟩ := ck_some hF
                refine r_iaload Z (shp_lt (sh_9_5 ho) (by decide)) (fun _ _ => ce_106 (sh_9_5 ho)) hi47 dX9_askedRun_82 ?_
                obtain ⟨t48, et48, hF⟩ := nm_some hF
                rw [← et48]
                refine r_istore Z [(4, .int t48), (0, .ref (ad o)), (1, .int x1), (2, .int x2), (3, .int x3)] dX9_askedRun_83 hl (by decide) rfl (fun ls hl => ?_)
                refine r_aload_n Z dX9_askedRun_85 rfl (lv_at hl 1 rfl) ?_
                refine g_9_9 Z ho wm_615 dX9_askedRun_86 ?_
                refine r_iload_n Z dX9_askedRun_89 rfl (lv_at hl 2 rfl) ?_
                obtain ⟨hi49, hF⟩ := ck_some hF
                refine r_iaload Z (shp_lt (sh_9_9 ho) (by decide)) (fun _ _ => ce_104 (sh_9_9 ho)) hi49 dX9_askedRun_90 ?_
                refine r_if_ne Z 98 dX9_askedRun_91 (by decide) (fun hc50 => ?_) (fun hc50 => ?_)
                · replace hF := nif_some hc50 hF
                  refine r_iconst (v := 0) Z dX9_askedRun_98 (by decide) ?_
                  refine r_istore Z [(5, .int 0), (4, .int t48), (0, .ref (ad o)), (1, .int x1), (2, .int x2), (3, .int x3)] dX9_askedRun_99 hl (by decide) rfl (fun ls hl => ?_)
                  refine r_iconst (v := 0) Z dX9_askedRun_101 (by decide) ?_
                  refine r_istore Z [(6, .int 0), (5, .int 0), (4, .int t48), (0, .ref (ad o)), (1, .int x1), (2, .int x2), (3, .int x3)] dX9_askedRun_102 hl (by decide) rfl (fun ls hl => ?_)
                  refine r_iconst (v := 0) Z dX9_askedRun_104 (by decide) ?_
                  refine r_istore Z [(7, .int 0), (6, .int 0), (5, .int 0), (4, .int t48), (0, .ref (ad o)), (1, .int x1), (2, .int x2), (3, .int x3)] dX9_askedRun_105 hl (by decide) rfl (fun ls hl => ?_)
                  exact L107 _ x1 x2 x3 t48 0 0 0 q36.2 ls (lv_sub hl [4, 5, 6, 7, 3, 2, 1, 0] rfl) hF
                · replace hF := if_some hc50 hF
                  refine r_iconst (v := 1) Z dX9_askedRun_94 (by decide) ?_
                  refine r_goto Z 99 dX9_askedRun_95 (by decide) ?_
                  refine r_istore Z [(5, .int 1), (4, .int t48), (0, .ref (ad o)), (1, .int x1), (2, .int x2), (3, .int x3)] dX9_askedRun_99 hl (by decide) rfl (fun ls hl => ?_)
                  refine r_iconst (v := 0) Z dX9_askedRun_101 (by decide) ?_
                  refine r_istore Z [(6, .int 0), (5, .int 1), (4, .int t48), (0, .ref (ad o)), (1, .int x1), (2, .int x2), (3, .int x3)] dX9_askedRun_102 hl (by decide) rfl (fun ls hl => ?_)
                  refine r_iconst (v := 0) Z dX9_askedRun_104 (by decide) ?_
                  refine r_istore Z [(7, .int 0), (6, .int 0), (5, .int 1), (4, .int t48), (0, .ref (ad o)), (1, .int x1), (2, .int x2), (3, .int x3)] dX9_askedRun_105 hl (by decide) rfl (fun ls hl => ?_)
                  exact L107 _ x1 x2 x3 t48 1 0 0 q36.2 ls (lv_sub hl [4, 5, 6, 7, 3, 2, 1, 0] rfl) hF
              · replace hF := nif_some hc46 hF
                refine r_aload_n Z dX9_askedRun_71 rfl (lv_at hl 0 rfl) ?_
                refine r_iconst (v := 5) Z dX9_askedRun_72 (by decide) ?_
                obtain ⟨q51, hq51, hF⟩ := bd_some hF
                refine r_invVi [] Z (c_X9_meets ho hq51) cv_X9_meets rfl (shp_lt ho (by decide)) (fun _ _ => ⟨_, ce_9 ho⟩) wm_644 rfl rfl ⟨Nat.le_of_ble_eq_true rfl, Nat.le_of_ble_eq_true rfl⟩ rfl hl.1 rfl (Nat.le_of_ble_eq_true rfl) dX9_askedRun_73 ?_
                exact r_iret Z hQ hF dX9_askedRun_76
            · replace hF := nif_some hc43 hF
              exact L50 q36.2 ls (lv_sub hl [0] rfl) hF
      · replace hF := if_some hc37 hF
        refine r_iconst (v := (-1)) Z dX9_askedRun_21 (by decide) ?_
        exact r_iret Z hQ hF dX9_askedRun_22
theorem dX9_average_0 : decode cX9_average 0 = .ok (.aload_n 0, 1) := by decide +kernel
theorem dX9_average_1 : decode cX9_average 1 = .ok (.iload_n 1, 1) := by decide +kernel
theorem dX9_average_2 : decode cX9_average 2 = .ok (.invokevirtual 93, 3) := by decide +kernel
theorem dX9_average_5 : decode cX9_average 5 = .ok (.istore_n 2, 1) := by decide +kernel
theorem dX9_average_6 : decode cX9_average 6 = .ok (.iload_n 2, 1) := by decide +kernel
theorem dX9_average_7 : decode cX9_average 7 = .ok (.ifCond .ge 5, 3) := by decide +kernel
theorem dX9_average_10 : decode cX9_average 10 = .ok (.iload_n 2, 1) := by decide +kernel
theorem dX9_average_11 : decode cX9_average 11 = .ok (.ireturn, 1) := by decide +kernel
theorem dX9_average_12 : decode cX9_average 12 = .ok (.lconst 0, 1) := by decide +kernel
theorem dX9_average_13 : decode cX9_average 13 = .ok (.lstore_n 3, 1) := by decide +kernel
theorem dX9_average_14 : decode cX9_average 14 = .ok (.iconst 0, 1) := by decide +kernel
theorem dX9_average_15 : decode cX9_average 15 = .ok (.istore 5, 2) := by decide +kernel
theorem dX9_average_17 : decode cX9_average 17 = .ok (.iload 5, 2) := by decide +kernel
theorem dX9_average_19 : decode cX9_average 19 = .ok (.aload_n 0, 1) := by decide +kernel
theorem dX9_average_20 : decode cX9_average 20 = .ok (.getfield 17, 3) := by decide +kernel
theorem dX9_average_23 : decode cX9_average 23 = .ok (.iload_n 1, 1) := by decide +kernel
theorem dX9_average_24 : decode cX9_average 24 = .ok (.iaload, 1) := by decide +kernel
theorem dX9_average_25 : decode cX9_average 25 = .ok (.if_icmp .ge 25, 3) := by decide +kernel
theorem dX9_average_28 : decode cX9_average 28 = .ok (.lload_n 3, 1) := by decide +kernel
theorem dX9_average_29 : decode cX9_average 29 = .ok (.aload_n 0, 1) := by decide +kernel
theorem dX9_average_30 : decode cX9_average 30 = .ok (.getfield 20, 3) := by decide +kernel
theorem dX9_average_33 : decode cX9_average 33 = .ok (.bipush 40, 2) := by decide +kernel
theorem dX9_average_35 : decode cX9_average 35 = .ok (.iload_n 1, 1) := by decide +kernel
theorem dX9_average_36 : decode cX9_average 36 = .ok (.imul, 1) := by decide +kernel
theorem dX9_average_37 : decode cX9_average 37 = .ok (.iload 5, 2) := by decide +kernel
theorem dX9_average_39 : decode cX9_average 39 = .ok (.iadd, 1) := by decide +kernel
theorem dX9_average_40 : decode cX9_average 40 = .ok (.iaload, 1) := by decide +kernel
theorem dX9_average_41 : decode cX9_average 41 = .ok (.i2l, 1) := by decide +kernel
theorem dX9_average_42 : decode cX9_average 42 = .ok (.ladd, 1) := by decide +kernel
theorem dX9_average_43 : decode cX9_average 43 = .ok (.lstore_n 3, 1) := by decide +kernel
theorem dX9_average_44 : decode cX9_average 44 = .ok (.iinc 5 1, 3) := by decide +kernel
theorem dX9_average_47 : decode cX9_average 47 = .ok (.goto (-30), 3) := by decide +kernel
theorem dX9_average_50 : decode cX9_average 50 = .ok (.aload_n 0, 1) := by decide +kernel
theorem dX9_average_51 : decode cX9_average 51 = .ok (.getfield 17, 3) := by decide +kernel
theorem dX9_average_54 : decode cX9_average 54 = .ok (.iload_n 1, 1) := by decide +kernel
theorem dX9_average_55 : decode cX9_average 55 = .ok (.iaload, 1) := by decide +kernel
theorem dX9_average_56 : decode cX9_average 56 = .ok (.ifCond .ne 11, 3) := by decide +kernel
theorem dX9_average_59 : decode cX9_average 59 = .ok (.aload_n 0, 1) := by decide +kernel
theorem dX9_average_60 : decode cX9_average 60 = .ok (.iconst 4, 1) := by decide +kernel
theorem dX9_average_61 : decode cX9_average 61 = .ok (.invokevirtual 89, 3) := by decide +kernel
theorem dX9_average_64 : decode cX9_average 64 = .ok (.goto 18, 3) := by decide +kernel
theorem dX9_average_67 : decode cX9_average 67 = .ok (.aload_n 0, 1) := by decide +kernel
theorem dX9_average_68 : decode cX9_average 68 = .ok (.lload_n 3, 1) := by decide +kernel
theorem dX9_average_69 : decode cX9_average 69 = .ok (.aload_n 0, 1) := by decide +kernel
theorem dX9_average_70 : decode cX9_average 70 = .ok (.getfield 17, 3) := by decide +kernel
theorem dX9_average_73 : decode cX9_average 73 = .ok (.iload_n 1, 1) := by decide +kernel
theorem dX9_average_74 : decode cX9_average 74 = .ok (.iaload, 1) := by decide +kernel
theorem dX9_average_75 : decode cX9_average 75 = .ok (.i2l, 1) := by decide +kernel
theorem dX9_average_76 : decode cX9_average 76 = .ok (.ldiv, 1) := by decide +kernel
theorem dX9_average_77 : decode cX9_average 77 = .ok (.l2i, 1) := by decide +kernel
theorem dX9_average_78 : decode cX9_average 78 = .ok (.iconst 1, 1) := by decide +kernel
theorem dX9_average_79 : decode cX9_average 79 = .ok (.invokevirtual 96, 3) := by decide +kernel
theorem dX9_average_82 : decode cX9_average 82 = .ok (.ireturn, 1) := by decide +kernel
theorem cv_X9_average : wn_cV yX9_average cX9_average 6 (some .int) RX9 1 := ⟨wm_654, wm_886, wm_887, wm_637, by decide +kernel⟩
abbrev rm_X9_average : Room := rmz 3 63
set_option maxHeartbeats 4000000 in
set_option maxRecDepth 100000 in
theorem c_X9_average {ad : Nat → Nat} {o : Nat} {x1 : Int32} {M : Mm} {q : Int32 × Mm} (ho : shp o = 9) (hF : f_X9_average o x1 M = some q) : KI ad yX9_average cX9_average 6 (some .int) rm_X9_average [.ref (ad o), .int x1] M q.1 q.2 := by
  refine wn_enterI (own := RX9) (by decide) rfl (Nat.le_of_ble_eq_true rfl) (fun X ls Z hQ hl => ?_)
  have hl : lv_has ls 6 [(0, .ref (ad o)), (1, .int x1)] := hl
  have L17 : ∀ (n17 : Nat) (v1 : Int32) (v3 : Int64) (v5 : Int32) (M : Mm) (ls : Array Slot), lv_has ls 6 [(0, .ref (ad o)), (1, .int v1), (3, .long v3), (5, .int v5)] → f_X9_average_b17 o n17 v1 v3 v5 M = some q → G ad X M 17 ls [] := by
    intro n17
    induction n17 with
    | zero =>
      intro v1 v3 v5 M ls hl hF
      cases hF
    | succ n17 ih17 =>
      intro v1 v3 v5 M ls hl hF
      replace hF : f_X9_average_b17B (f_X9_average_b17 o n17) o v1 v3 v5 M = some q := hF
      unfold f_X9_average_b17B at hF
      refine r_iload Z dX9_average_17 (lv_at hl 3 rfl) ?_
      refine r_aload_n Z dX9_average_19 rfl (lv_at hl 0 rfl) ?_
      refine g_9_5 Z ho wm_610 dX9_average_20 ?_
      refine r_iload_n Z dX9_average_23 rfl (lv_at hl 1 rfl) ?_
      obtain ⟨hi1, hF⟩ := ck_some hF
      refine r_iaload Z (shp_lt (sh_9_5 ho) (by decide)) (fun _ _ => ce_106 (sh_9_5 ho)) hi1 dX9_average_24 ?_
      refine r_icmp_ge Z 50 dX9_average_25 (by decide) (fun hc2 => ?_) (fun hc2 => ?_)
      · replace hF := if_some hc2 hF
        refine r_aload_n Z dX9_average_50 rfl (lv_at hl 0 rfl) ?_
        refine g_9_5 Z ho wm_610 dX9_average_51 ?_
        refine r_iload_n Z dX9_average_54 rfl (lv_at hl 1 rfl) ?_
        obtain ⟨hi3, hF⟩ := ck_some hF
        refine r_iaload Z (shp_lt (sh_9_5 ho) (by decide)) (fun _ _ => ce_106 (sh_9_5 ho)) hi3 dX9_average_55 ?_
        refine r_if_ne Z 67 dX9_average_56 (by decide) (fun hc4 => ?_) (fun hc4 => ?_)
        · replace hF := nif_some hc4 hF
          refine r_aload_n Z dX9_average_67 rfl (lv_at hl 0 rfl) ?_
          refine r_lload_n Z dX9_average_68 rfl (lv_at hl 2 rfl) ?_
          refine r_aload_n Z dX9_average_69 rfl (lv_at hl 0 rfl) ?_
          refine g_9_5 Z ho wm_610 dX9_average_70 ?_
          refine r_iload_n Z dX9_average_73 rfl (lv_at hl 1 rfl) ?_
          obtain ⟨hi5, hF⟩ := ck_some hF
          refine r_iaload Z (shp_lt (sh_9_5 ho) (by decide)) (fun _ _ => ce_106 (sh_9_5 ho)) hi5 dX9_average_74 ?_
          refine r_i2l Z dX9_average_75 ?_
          obtain ⟨hd6, hF⟩ := dvJ_some hF
          refine r_ldiv Z dX9_average_76 hd6 ?_
          refine r_l2i Z dX9_average_77 ?_
          refine r_iconst (v := 1) Z dX9_average_78 (by decide) ?_
          obtain ⟨q7, hq7, hF⟩ := bd_some hF
          refine r_invVi [] Z (c_X9_ask ho hq7) cv_X9_ask rfl (shp_lt ho (by decide)) (fun _ _ => ⟨_, ce_9 ho⟩) wm_655 rfl rfl ⟨Nat.le_of_ble_eq_true rfl, Nat.le_of_ble_eq_true rfl⟩ rfl hl.1 rfl (Nat.le_of_ble_eq_true rfl) dX9_average_79 ?_
          exact r_iret Z hQ hF dX9_average_82
        · replace hF := if_some hc4 hF
          refine r_aload_n Z dX9_average_59 rfl (lv_at hl 0 rfl) ?_
          refine r_iconst (v := 4) Z dX9_average_60 (by decide) ?_
          obtain ⟨q8, hq8, hF⟩ := bd_some hF
          refine r_invVi [] Z (c_X9_meets ho hq8) cv_X9_meets rfl (shp_lt ho (by decide)) (fun _ _ => ⟨_, ce_9 ho⟩) wm_644 rfl rfl ⟨Nat.le_of_ble_eq_true rfl, Nat.le_of_ble_eq_true rfl⟩ rfl hl.1 rfl (Nat.le_of_ble_eq_true rfl) dX9_average_61 ?_
          refine r_goto Z 82 dX9_average_64 (by decide) ?_
          exact r_iret Z hQ hF dX9_average_82
      · replace hF := nif_some hc2 hF
        refine r_lload_n Z dX9_average_28 rfl (lv_at hl 2 rfl) ?_
        refine r_aload_n Z dX9_average_29 rfl (lv_at hl 0 rfl) ?_
        refine g_9_6 Z ho wm_611 dX9_average_30 ?_
        refine r_bipush (v := 40) Z dX9_average_33 (by decide) ?_
        refine r_iload_n Z dX9_average_35 rfl (lv_at hl 1 rfl) ?_
        refine r_imul Z dX9_average_36 ?_
        refine r_iload Z dX9_average_37 (lv_at hl 3 rfl) ?_
        refine r_iadd Z dX9_average_39 ?_
        obtain ⟨hi9, hF⟩ := ck_some hF
        refine r_iaload Z (shp_lt (sh_9_6 ho) (by decide)) (fun _ _ => ce_340 (sh_9_6 ho)) hi9 dX9_average_40 ?_
        refine r_i2l Z dX9_average_41 ?_
        refine r_ladd Z dX9_average_42 ?_
        obtain ⟨t10, et10, hF⟩ := nm_some hF
        rw [← et10]
        refine r_lstore_n Z [(3, .long t10), (0, .ref (ad o)), (1, .int v1), (5, .int v5)] dX9_average_43 rfl hl (by decide) rfl (fun ls hl => ?_)
        obtain ⟨t11, et11, hF⟩ := nm_some hF
        refine r_iinc (j := 3) Z t11 [(5, .int t11), (3, .long t10), (0, .ref (ad o)), (1, .int v1)] dX9_average_44 hl rfl (by rw [et11]; rfl) (by decide) rfl (fun ls hl => ?_)
        refine r_goto Z 17 dX9_average_47 (by decide) ?_
        exact ih17 v1 t10 t11 M ls (lv_sub hl [2, 3, 1, 0] rfl) hF
  unfold f_X9_average at hF
  refine r_aload_n Z dX9_average_0 rfl (lv_at hl 0 rfl) ?_
  refine r_iload_n Z dX9_average_1 rfl (lv_at hl 1 rfl) ?_
  obtain ⟨q12, hq12, hF⟩ := bd_some hF
  refine r_invVi [] Z (c_X9_askedRow ho hq12) cv_X9_askedRow rfl (shp_lt ho (by decide)) (fun _ _ => ⟨_, ce_9 ho⟩) wm_649 rfl rfl ⟨Nat.le_of_ble_eq_true rfl, Nat.le_of_ble_eq_true rfl⟩ rfl hl.1 rfl (Nat.le_of_ble_eq_true rfl) dX9_average_2 ?_
  refine r_istore_n Z [(2, .int q12.1), (0, .ref (ad o)), (1, .int x1)] dX9_average_5 rfl hl (by decide) rfl (fun ls hl => ?_)
  refine r_iload_n Z dX9_average_6 rfl (lv_at hl 0 rfl) ?_
  refine r_if_ge Z 12 dX9_average_7 (by decide) (fun hc13 => ?_) (fun hc13 => ?_)
  · replace hF := if_some hc13 hF
    refine r_lconst (v := 0) Z dX9_average_12 (by decide) ?_
    refine r_lstore_n Z [(3, .long 0), (2, .int q12.1), (0, .ref (ad o)), (1, .int x1)] dX9_average_13 rfl hl (by decide) rfl (fun ls hl => ?_)
    refine r_iconst (v := 0) Z dX9_average_14 (by decide) ?_
    refine r_istore Z [(5, .int 0), (3, .long 0), (2, .int q12.1), (0, .ref (ad o)), (1, .int x1)] dX9_average_15 hl (by decide) rfl (fun ls hl => ?_)
    exact L17 _ x1 0 0 q12.2 ls (lv_sub hl [3, 4, 1, 0] rfl) hF
  · replace hF := nif_some hc13 hF
    refine r_iload_n Z dX9_average_10 rfl (lv_at hl 0 rfl) ?_
    exact r_iret Z hQ hF dX9_average_11
theorem dX9_isMany_0 : decode cX9_isMany 0 = .ok (.iload_n 0, 1) := by decide +kernel
theorem dX9_isMany_1 : decode cX9_isMany 1 = .ok (.iconst 1, 1) := by decide +kernel
theorem dX9_isMany_2 : decode cX9_isMany 2 = .ok (.iconst 4, 1) := by decide +kernel
theorem dX9_isMany_3 : decode cX9_isMany 3 = .ok (.invokestatic 81, 3) := by decide +kernel
theorem dX9_isMany_6 : decode cX9_isMany 6 = .ok (.ireturn, 1) := by decide +kernel
theorem cv_X9_isMany : wn_cS yX9_isMany cX9_isMany 1 (some .boolean) 1 := ⟨wm_774, wm_777, wm_637, by decide +kernel⟩
abbrev rm_X9_isMany : Room := rmz 1 22
set_option maxHeartbeats 4000000 in
set_option maxRecDepth 100000 in
theorem c_X9_isMany {ad : Nat → Nat} {x1 : Int32} {M : Mm} {q : Int32 × Mm} (hF : f_X9_isMany x1 M = some q) : KI ad yX9_isMany cX9_isMany 1 (some .boolean) rm_X9_isMany [.int x1] M q.1 q.2 := by
  refine wn_enterI (own := RX9) (by decide) rfl (Nat.le_of_ble_eq_true rfl) (fun X ls Z hQ hl => ?_)
  have hl : lv_has ls 1 [(0, .int x1)] := hl
  unfold f_X9_isMany at hF
  refine r_iload_n Z dX9_isMany_0 rfl (lv_at hl 0 rfl) ?_
  refine r_iconst (v := 1) Z dX9_isMany_1 (by decide) ?_
  refine r_iconst (v := 4) Z dX9_isMany_2 (by decide) ?_
  obtain ⟨q1, hq1, hF⟩ := bd_some hF
  refine r_invSi [] Z (c_X9_in hq1) cv_X9_in wm_639 rfl rfl ⟨Nat.le_of_ble_eq_true rfl, Nat.le_of_ble_eq_true rfl⟩ rfl hl.1 rfl (Nat.le_of_ble_eq_true rfl) dX9_isMany_3 ?_
  obtain ⟨hz, hF⟩ := bz_some hF
  exact r_zret Z hQ hz hF dX9_isMany_6
theorem dX9_nextState_0 : decode cX9_nextState 0 = .ok (.aload_n 0, 1) := by decide +kernel
theorem dX9_nextState_1 : decode cX9_nextState 1 = .ok (.getfield 176, 3) := by decide +kernel
theorem dX9_nextState_4 : decode cX9_nextState 4 = .ok (.sipush 625, 3) := by decide +kernel
theorem dX9_nextState_7 : decode cX9_nextState 7 = .ok (.if_icmp .ge 149, 3) := by decide +kernel
theorem dX9_nextState_10 : decode cX9_nextState 10 = .ok (.iconst 0, 1) := by decide +kernel
theorem dX9_nextState_11 : decode cX9_nextState 11 = .ok (.istore_n 2, 1) := by decide +kernel
theorem dX9_nextState_12 : decode cX9_nextState 12 = .ok (.iconst 1, 1) := by decide +kernel
theorem dX9_nextState_13 : decode cX9_nextState 13 = .ok (.istore_n 3, 1) := by decide +kernel
theorem dX9_nextState_14 : decode cX9_nextState 14 = .ok (.iconst 0, 1) := by decide +kernel
theorem dX9_nextState_15 : decode cX9_nextState 15 = .ok (.istore 4, 2) := by decide +kernel
theorem dX9_nextState_17 : decode cX9_nextState 17 = .ok (.iload 4, 2) := by decide +kernel
theorem dX9_nextState_19 : decode cX9_nextState 19 = .ok (.iconst 4, 1) := by decide +kernel
theorem dX9_nextState_20 : decode cX9_nextState 20 = .ok (.if_icmp .ge 112, 3) := by decide +kernel
theorem dX9_nextState_23 : decode cX9_nextState 23 = .ok (.aload_n 0, 1) := by decide +kernel
theorem dX9_nextState_24 : decode cX9_nextState 24 = .ok (.getfield 61, 3) := by decide +kernel
theorem dX9_nextState_27 : decode cX9_nextState 27 = .ok (.iload 4, 2) := by decide +kernel
theorem dX9_nextState_29 : decode cX9_nextState 29 = .ok (.iload 4, 2) := by decide +kernel
theorem dX9_nextState_31 : decode cX9_nextState 31 = .ok (.ifCond .ne 12, 3) := by decide +kernel
theorem dX9_nextState_34 : decode cX9_nextState 34 = .ok (.aload_n 0, 1) := by decide +kernel
theorem dX9_nextState_35 : decode cX9_nextState 35 = .ok (.getfield 176, 3) := by decide +kernel
theorem dX9_nextState_38 : decode cX9_nextState 38 = .ok (.iconst 5, 1) := by decide +kernel
theorem dX9_nextState_39 : decode cX9_nextState 39 = .ok (.irem, 1) := by decide +kernel
theorem dX9_nextState_40 : decode cX9_nextState 40 = .ok (.goto 45, 3) := by decide +kernel
theorem dX9_nextState_43 : decode cX9_nextState 43 = .ok (.iload 4, 2) := by decide +kernel
theorem dX9_nextState_45 : decode cX9_nextState 45 = .ok (.iconst 1, 1) := by decide +kernel
theorem dX9_nextState_46 : decode cX9_nextState 46 = .ok (.if_icmp .ne 14, 3) := by decide +kernel
theorem dX9_nextState_49 : decode cX9_nextState 49 = .ok (.aload_n 0, 1) := by decide +kernel
theorem dX9_nextState_50 : decode cX9_nextState 50 = .ok (.getfield 176, 3) := by decide +kernel
theorem dX9_nextState_53 : decode cX9_nextState 53 = .ok (.iconst 5, 1) := by decide +kernel
theorem dX9_nextState_54 : decode cX9_nextState 54 = .ok (.idiv, 1) := by decide +kernel
theorem dX9_nextState_55 : decode cX9_nextState 55 = .ok (.iconst 5, 1) := by decide +kernel
theorem dX9_nextState_56 : decode cX9_nextState 56 = .ok (.irem, 1) := by decide +kernel
theorem dX9_nextState_57 : decode cX9_nextState 57 = .ok (.goto 28, 3) := by decide +kernel
theorem dX9_nextState_60 : decode cX9_nextState 60 = .ok (.iload 4, 2) := by decide +kernel
theorem dX9_nextState_62 : decode cX9_nextState 62 = .ok (.iconst 2, 1) := by decide +kernel
theorem dX9_nextState_63 : decode cX9_nextState 63 = .ok (.if_icmp .ne 15, 3) := by decide +kernel
theorem dX9_nextState_66 : decode cX9_nextState 66 = .ok (.aload_n 0, 1) := by decide +kernel
theorem dX9_nextState_67 : decode cX9_nextState 67 = .ok (.getfield 176, 3) := by decide +kernel
theorem dX9_nextState_70 : decode cX9_nextState 70 = .ok (.bipush 25, 2) := by decide +kernel
theorem dX9_nextState_72 : decode cX9_nextState 72 = .ok (.idiv, 1) := by decide +kernel
theorem dX9_nextState_73 : decode cX9_nextState 73 = .ok (.iconst 5, 1) := by decide +kernel
theorem dX9_nextState_74 : decode cX9_nextState 74 = .ok (.irem, 1) := by decide +kernel
theorem dX9_nextState_75 : decode cX9_nextState 75 = .ok (.goto 10, 3) := by decide +kernel
theorem dX9_nextState_78 : decode cX9_nextState 78 = .ok (.aload_n 0, 1) := by decide +kernel
theorem dX9_nextState_79 : decode cX9_nextState 79 = .ok (.getfield 176, 3) := by decide +kernel
theorem dX9_nextState_82 : decode cX9_nextState 82 = .ok (.bipush 125, 2) := by decide +kernel
theorem dX9_nextState_84 : decode cX9_nextState 84 = .ok (.idiv, 1) := by decide +kernel
theorem dX9_nextState_85 : decode cX9_nextState 85 = .ok (.iastore, 1) := by decide +kernel
theorem dX9_nextState_86 : decode cX9_nextState 86 = .ok (.iload_n 2, 1) := by decide +kernel
theorem dX9_nextState_87 : decode cX9_nextState 87 = .ok (.aload_n 0, 1) := by decide +kernel
theorem dX9_nextState_88 : decode cX9_nextState 88 = .ok (.getfield 61, 3) := by decide +kernel
theorem dX9_nextState_91 : decode cX9_nextState 91 = .ok (.iload 4, 2) := by decide +kernel
theorem dX9_nextState_93 : decode cX9_nextState 93 = .ok (.iaload, 1) := by decide +kernel
theorem dX9_nextState_94 : decode cX9_nextState 94 = .ok (.iadd, 1) := by decide +kernel
theorem dX9_nextState_95 : decode cX9_nextState 95 = .ok (.istore_n 2, 1) := by decide +kernel
theorem dX9_nextState_96 : decode cX9_nextState 96 = .ok (.iload_n 3, 1) := by decide +kernel
theorem dX9_nextState_97 : decode cX9_nextState 97 = .ok (.ifCond .eq 27, 3) := by decide +kernel
theorem dX9_nextState_100 : decode cX9_nextState 100 = .ok (.aload_n 0, 1) := by decide +kernel
theorem dX9_nextState_101 : decode cX9_nextState 101 = .ok (.getfield 26, 3) := by decide +kernel
theorem dX9_nextState_104 : decode cX9_nextState 104 = .ok (.iload 4, 2) := by decide +kernel
theorem dX9_nextState_106 : decode cX9_nextState 106 = .ok (.baload, 1) := by decide +kernel
theorem dX9_nextState_107 : decode cX9_nextState 107 = .ok (.ifCond .ne 13, 3) := by decide +kernel
theorem dX9_nextState_110 : decode cX9_nextState 110 = .ok (.aload_n 0, 1) := by decide +kernel
theorem dX9_nextState_111 : decode cX9_nextState 111 = .ok (.getfield 61, 3) := by decide +kernel
theorem dX9_nextState_114 : decode cX9_nextState 114 = .ok (.iload 4, 2) := by decide +kernel
theorem dX9_nextState_116 : decode cX9_nextState 116 = .ok (.iaload, 1) := by decide +kernel
theorem dX9_nextState_117 : decode cX9_nextState 117 = .ok (.ifCond .ne 7, 3) := by decide +kernel
theorem dX9_nextState_120 : decode cX9_nextState 120 = .ok (.iconst 1, 1) := by decide +kernel
theorem dX9_nextState_121 : decode cX9_nextState 121 = .ok (.goto 4, 3) := by decide +kernel
theorem dX9_nextState_124 : decode cX9_nextState 124 = .ok (.iconst 0, 1) := by decide +kernel
theorem dX9_nextState_125 : decode cX9_nextState 125 = .ok (.istore_n 3, 1) := by decide +kernel
theorem dX9_nextState_126 : decode cX9_nextState 126 = .ok (.iinc 4 1, 3) := by decide +kernel
theorem dX9_nextState_129 : decode cX9_nextState 129 = .ok (.goto (-112), 3) := by decide +kernel
theorem dX9_nextState_132 : decode cX9_nextState 132 = .ok (.aload_n 0, 1) := by decide +kernel
theorem dX9_nextState_133 : decode cX9_nextState 133 = .ok (.dup, 1) := by decide +kernel
theorem dX9_nextState_134 : decode cX9_nextState 134 = .ok (.getfield 176, 3) := by decide +kernel
theorem dX9_nextState_137 : decode cX9_nextState 137 = .ok (.iconst 1, 1) := by decide +kernel
theorem dX9_nextState_138 : decode cX9_nextState 138 = .ok (.iadd, 1) := by decide +kernel
theorem dX9_nextState_139 : decode cX9_nextState 139 = .ok (.putfield 176, 3) := by decide +kernel
theorem dX9_nextState_142 : decode cX9_nextState 142 = .ok (.iload_n 3, 1) := by decide +kernel
theorem dX9_nextState_143 : decode cX9_nextState 143 = .ok (.ifCond .eq 10, 3) := by decide +kernel
theorem dX9_nextState_146 : decode cX9_nextState 146 = .ok (.iload_n 2, 1) := by decide +kernel
theorem dX9_nextState_147 : decode cX9_nextState 147 = .ok (.iload_n 1, 1) := by decide +kernel
theorem dX9_nextState_148 : decode cX9_nextState 148 = .ok (.if_icmp .ne 5, 3) := by decide +kernel
theorem dX9_nextState_151 : decode cX9_nextState 151 = .ok (.iconst 1, 1) := by decide +kernel
theorem dX9_nextState_152 : decode cX9_nextState 152 = .ok (.ireturn, 1) := by decide +kernel
theorem dX9_nextState_153 : decode cX9_nextState 153 = .ok (.goto (-153), 3) := by decide +kernel
theorem dX9_nextState_156 : decode cX9_nextState 156 = .ok (.iconst 0, 1) := by decide +kernel
theorem dX9_nextState_157 : decode cX9_nextState 157 = .ok (.ireturn, 1) := by decide +kernel
theorem cv_X9_nextState : wn_cV yX9_nextState cX9_nextState 5 (some .boolean) RX9 1 := ⟨wm_757, wm_765, wm_766, wm_637, by decide +kernel⟩
abbrev rm_X9_nextState : Room := rmz 0 0
set_option maxHeartbeats 4000000 in
set_option maxRecDepth 100000 in
theorem c_X9_nextState {ad : Nat → Nat} {o : Nat} {x1 : Int32} {M : Mm} {q : Int32 × Mm} (ho : shp o = 9) (hF : f_X9_nextState o x1 M = some q) : KI ad yX9_nextState cX9_nextState 5 (some .boolean) rm_X9_nextState [.ref (ad o), .int x1] M q.1 q.2 := by
  refine wn_enterI (own := RX9) (by decide) rfl (Nat.le_of_ble_eq_true rfl) (fun X ls Z hQ hl => ?_)
  have hl : lv_has ls 5 [(0, .ref (ad o)), (1, .int x1)] := hl
  have L0 : ∀ (n0 : Nat) (v1 : Int32) (M : Mm) (ls : Array Slot), lv_has ls 5 [(0, .ref (ad o)), (1, .int v1)] → f_X9_nextState_b0 o n0 v1 M = some q → G ad X M 0 ls [] := by
    intro n0
    induction n0 with
    | zero =>
      intro v1 M ls hl hF
      cases hF
    | succ n0 ih0 =>
      have L17 : ∀ (n17 : Nat) (v1 : Int32) (v2 : Int32) (v3 : Int32) (v4 : Int32) (M : Mm) (ls : Array Slot), lv_has ls 5 [(0, .ref (ad o)), (1, .int v1), (2, .int v2), (3, .int v3), (4, .int v4)] → f_X9_nextState_b17 (f_X9_nextState_b0 o n0) o n17 v1 v2 v3 v4 M = some q → G ad X M 17 ls [] := by
        intro n17
        induction n17 with
        | zero =>
          intro v1 v2 v3 v4 M ls hl hF
          cases hF
        | succ n17 ih17 =>
          have L120 : ∀ (v1 : Int32) (v2 : Int32) (v4 : Int32) (M : Mm) (ls : Array Slot), lv_has ls 5 [(0, .ref (ad o)), (1, .int v1), (2, .int v2), (4, .int v4)] → f_X9_nextState_b120 (f_X9_nextState_b0 o n0) (f_X9_nextState_b17 (f_X9_nextState_b0 o n0) o n17) o v1 v2 v4 M = some q → G ad X M 120 ls [] := by
            intro v1 v2 v4 M ls hl hF
            unfold f_X9_nextState_b120 at hF
            refine r_iconst (v := 1) Z dX9_nextState_120 (by decide) ?_
            refine r_goto Z 125 dX9_nextState_121 (by decide) ?_
            refine r_istore_n Z [(3, .int 1), (0, .ref (ad o)), (1, .int v1), (2, .int v2), (4, .int v4)] dX9_nextState_125 rfl hl (by decide) rfl (fun ls hl => ?_)
            obtain ⟨t1, et1, hF⟩ := nm_some hF
            refine r_iinc (j := 4) Z t1 [(4, .int t1), (3, .int 1), (0, .ref (ad o)), (1, .int v1), (2, .int v2)] dX9_nextState_126 hl rfl (by rw [et1]; rfl) (by decide) rfl (fun ls hl => ?_)
            refine r_goto Z 17 dX9_nextState_129 (by decide) ?_
            exact ih17 v1 v2 1 t1 M ls (lv_sub hl [2, 3, 4, 1, 0] rfl) hF
          have L85 : ∀ (v1 : Int32) (v2 : Int32) (v3 : Int32) (v4 : Int32) (s0 : Nat) (s1 : Int32) (s2 : Int32) (M : Mm) (ls : Array Slot), shp s0 = 104 → lv_has ls 5 [(0, .ref (ad o)), (1, .int v1), (2, .int v2), (3, .int v3), (4, .int v4)] → f_X9_nextState_b85 (f_X9_nextState_b0 o n0) (f_X9_nextState_b17 (f_X9_nextState_b0 o n0) o n17) o v1 v2 v3 v4 s0 s1 s2 M = some q → G ad X M 85 ls [.int s2, .int s1, .ref (ad s0)] := by
            intro v1 v2 v3 v4 s0 s1 s2 M ls hs0 hl hF
            unfold f_X9_nextState_b85 at hF
            obtain ⟨hi2, hF⟩ := ck_some hF
            obtain ⟨M3, eM3, hF⟩ := nm_some hF
            refine r_iastore Z (shp_lt hs0 (by decide)) (fun _ _ => ce_104 hs0) hi2 dX9_nextState_85 ?_
            rw [← eM3]
            refine r_iload_n Z dX9_nextState_86 rfl (lv_at hl 2 rfl) ?_
            refine r_aload_n Z dX9_nextState_87 rfl (lv_at hl 0 rfl) ?_
            refine g_9_21 Z ho wm_625 dX9_nextState_88 ?_
            refine r_iload Z dX9_nextState_91 (lv_at hl 4 rfl) ?_
            obtain ⟨hi4, hF⟩ := ck_some hF
            refine r_iaload Z (shp_lt (sh_9_21 ho) (by decide)) (fun _ _ => ce_104 (sh_9_21 ho)) hi4 dX9_nextState_93 ?_
            refine r_iadd Z dX9_nextState_94 ?_
            obtain ⟨t5, et5, hF⟩ := nm_some hF
            rw [← et5]
            refine r_istore_n Z [(2, .int t5), (0, .ref (ad o)), (1, .int v1), (3, .int v3), (4, .int v4)] dX9_nextState_95 rfl hl (by decide) rfl (fun ls hl => ?_)
            refine r_iload_n Z dX9_nextState_96 rfl (lv_at hl 3 rfl) ?_
            refine r_if_eq Z 124 dX9_nextState_97 (by decide) (fun hc6 => ?_) (fun hc6 => ?_)
            · replace hF := if_some hc6 hF
              refine r_iconst (v := 0) Z dX9_nextState_124 (by decide) ?_
              refine r_istore_n Z [(3, .int 0), (2, .int t5), (0, .ref (ad o)), (1, .int v1), (4, .int v4)] dX9_nextState_125 rfl hl (by decide) rfl (fun ls hl => ?_)
              obtain ⟨t7, et7, hF⟩ := nm_some hF
              refine r_iinc (j := 4) Z t7 [(4, .int t7), (3, .int 0), (2, .int t5), (0, .ref (ad o)), (1, .int v1)] dX9_nextState_126 hl rfl (by rw [et7]; rfl) (by decide) rfl (fun ls hl => ?_)
              refine r_goto Z 17 dX9_nextState_129 (by decide) ?_
              exact ih17 v1 t5 0 t7 M3 ls (lv_sub hl [3, 4, 2, 1, 0] rfl) hF
            · replace hF := nif_some hc6 hF
              refine r_aload_n Z dX9_nextState_100 rfl (lv_at hl 1 rfl) ?_
              refine g_9_8 Z ho wm_614 dX9_nextState_101 ?_
              refine r_iload Z dX9_nextState_104 (lv_at hl 4 rfl) ?_
              obtain ⟨hi8, hF⟩ := ck_some hF
              refine r_zaload Z (shp_lt (sh_9_8 ho) (by decide)) (fun _ _ => ce_2004 (sh_9_8 ho)) hi8 dX9_nextState_106 ?_
              refine r_if_ne Z 120 dX9_nextState_107 (by decide) (fun hc9 => ?_) (fun hc9 => ?_)
              · replace hF := nif_some hc9 hF
                exact L120 v1 t5 v4 M3 ls (lv_sub hl [1, 2, 0, 4] rfl) hF
              · replace hF := if_some hc9 hF
                refine r_aload_n Z dX9_nextState_110 rfl (lv_at hl 1 rfl) ?_
                refine g_9_21 Z ho wm_625 dX9_nextState_111 ?_
                refine r_iload Z dX9_nextState_114 (lv_at hl 4 rfl) ?_
                obtain ⟨hi10, hF⟩ := ck_some hF
                refine r_iaload Z (shp_lt (sh_9_21 ho) (by decide)) (fun _ _ => ce_104 (sh_9_21 ho)) hi10 dX9_nextState_116 ?_
                refine r_if_ne Z 124 dX9_nextState_117 (by decide) (fun hc11 => ?_) (fun hc11 => ?_)
                · replace hF := nif_some hc11 hF
                  refine r_iconst (v := 0) Z dX9_nextState_124 (by decide) ?_
                  refine r_istore_n Z [(3, .int 0), (2, .int t5), (0, .ref (ad o)), (1, .int v1), (4, .int v4)] dX9_nextState_125 rfl hl (by decide) rfl (fun ls hl => ?_)
                  obtain ⟨t12, et12, hF⟩ := nm_some hF
                  refine r_iinc (j := 4) Z t12 [(4, .int t12), (3, .int 0), (2, .int t5), (0, .ref (ad o)), (1, .int v1)] dX9_nextState_126 hl rfl (by rw [et12]; rfl) (by decide) rfl (fun ls hl => ?_)
                  refine r_goto Z 17 dX9_nextState_129 (by decide) ?_
                  exact ih17 v1 t5 0 t12 M3 ls (lv_sub hl [3, 4, 2, 1, 0] rfl) hF
                · replace hF := if_some hc11 hF
                  exact L120 v1 t5 v4 M3 ls (lv_sub hl [1, 2, 0, 4] rfl) hF
          intro v1 v2 v3 v4 M ls hl hF
          replace hF : f_X9_nextState_b17B (f_X9_nextState_b0 o n0) (f_X9_nextState_b17 (f_X9_nextState_b0 o n0) o n17) o v1 v2 v3 v4 M = some q := hF
          unfold f_X9_nextState_b17B at hF
          refine r_iload Z dX9_nextState_17 (lv_at hl 4 rfl) ?_
          refine r_iconst (v := 4) Z dX9_nextState_19 (by decide) ?_
          refine r_icmp_ge Z 132 dX9_nextState_20 (by decide) (fun hc13 => ?_) (fun hc13 => ?_)
          · replace hF := if_some hc13 hF
            refine r_aload_n Z dX9_nextState_132 rfl (lv_at hl 0 rfl) ?_
            refine r_dup Z dX9_nextState_133 rfl ?_
            refine g_9_22 Z ho wm_758 dX9_nextState_134 ?_
            refine r_iconst (v := 1) Z dX9_nextState_137 (by decide) ?_
            refine r_iadd Z dX9_nextState_138 ?_
            obtain ⟨M14, eM14, hF⟩ := nm_some hF
            refine p_9_22 Z ho wm_758 dX9_nextState_139 ?_
            rw [← eM14]
            refine r_iload_n Z dX9_nextState_142 rfl (lv_at hl 3 rfl) ?_
            refine r_if_eq Z 153 dX9_nextState_143 (by decide) (fun hc15 => ?_) (fun hc15 => ?_)
            · replace hF := if_some hc15 hF
              refine r_goto Z 0 dX9_nextState_153 (by decide) ?_
              exact ih0 v1 M14 ls (lv_sub hl [0, 1] rfl) hF
            · replace hF := nif_some hc15 hF
              refine r_iload_n Z dX9_nextState_146 rfl (lv_at hl 2 rfl) ?_
              refine r_iload_n Z dX9_nextState_147 rfl (lv_at hl 1 rfl) ?_
              refine r_icmp_ne Z 153 dX9_nextState_148 (by decide) (fun hc16 => ?_) (fun hc16 => ?_)
              · replace hF := nif_some hc16 hF
                refine r_goto Z 0 dX9_nextState_153 (by decide) ?_
                exact ih0 v1 M14 ls (lv_sub hl [0, 1] rfl) hF
              · replace hF := if_some hc16 hF
                refine r_iconst (v := 1) Z dX9_nextState_151 (by decide) ?_
                exact r_zret Z hQ (by decide) hF dX9_nextState_152
          · replace hF := nif_some hc13 hF
            refine r_aload_n Z dX9_nextState_23 rfl (lv_at hl 0 rfl) ?_
            refine g_9_21 Z ho wm_625 dX9_nextState_24 ?_
            refine r_iload Z dX9_nextState_27 (lv_at hl 4 rfl) ?_
            refine r_iload Z dX9_nextState_29 (lv_at hl 4 rfl) ?_
            refine r_if_ne Z 43 dX9_nextState_31 (by decide) (fun hc17 => ?_) (fun hc17 => ?_)
            · replace hF := nif_some hc17 hF
              refine r_iload Z dX9_nextState_43 (lv_at hl 4 rfl) ?_
              refine r_iconst (v := 1) Z dX9_nextState_45 (by decide) ?_
              refine r_icmp_ne Z 60 dX9_nextState_46 (by decide) (fun hc18 => ?_) (fun hc18 => ?_)
              · replace hF := nif_some hc18 hF
                refine r_iload Z dX9_nextState_60 (lv_at hl 4 rfl) ?_
                refine r_iconst (v := 2) Z dX9_nextState_62 (by decide) ?_
                refine r_icmp_ne Z 78 dX9_nextState_63 (by decide) (fun hc19 => ?_) (fun hc19 => ?_)
                · replace hF := nif_some hc19 hF
                  refine r_aload_n Z dX9_nextState_78 rfl (lv_at hl 0 rfl) ?_
                  refine g_9_22 Z ho wm_758 dX9_nextState_79 ?_
                  refine r_bipush (v := 125) Z dX9_nextState_82 (by decide) ?_
                  obtain ⟨hd20, hF⟩ := dvI_some hF
                  refine r_idiv Z dX9_nextState_84 hd20 ?_
                  exact L85 v1 v2 v3 v4 (fld o 21) v4 ((mI M o 22) / 125) M ls (sh_9_21 ho) (lv_sub hl [0, 1, 2, 3, 4] rfl) hF
                · replace hF := if_some hc19 hF
                  refine r_aload_n Z dX9_nextState_66 rfl (lv_at hl 0 rfl) ?_
                  refine g_9_22 Z ho wm_758 dX9_nextState_67 ?_
                  refine r_bipush (v := 25) Z dX9_nextState_70 (by decide) ?_
                  obtain ⟨hd21, hF⟩ := dvI_some hF
                  refine r_idiv Z dX9_nextState_72 hd21 ?_
                  refine r_iconst (v := 5) Z dX9_nextState_73 (by decide) ?_
                  obtain ⟨hd22, hF⟩ := dvI_some hF
                  refine r_irem Z dX9_nextState_74 hd22 ?_
                  refine r_goto Z 85 dX9_nextState_75 (by decide) ?_
                  exact L85 v1 v2 v3 v4 (fld o 21) v4 (((mI M o 22) / 25) - ((mI M o 22) / 25) / 5 * 5) M ls (sh_9_21 ho) (lv_sub hl [0, 1, 2, 3, 4] rfl) hF
              · replace hF := if_some hc18 hF
                refine r_aload_n Z dX9_nextState_49 rfl (lv_at hl 0 rfl) ?_
                refine g_9_22 Z ho wm_758 dX9_nextState_50 ?_
                refine r_iconst (v := 5) Z dX9_nextState_53 (by decide) ?_
                obtain ⟨hd23, hF⟩ := dvI_some hF
                refine r_idiv Z dX9_nextState_54 hd23 ?_
                refine r_iconst (v := 5) Z dX9_nextState_55 (by decide) ?_
                obtain ⟨hd24, hF⟩ := dvI_some hF
                refine r_irem Z dX9_nextState_56 hd24 ?_
                refine r_goto Z 85 dX9_nextState_57 (by decide) ?_
                exact L85 v1 v2 v3 v4 (fld o 21) v4 (((mI M o 22) / 5) - ((mI M o 22) / 5) / 5 * 5) M ls (sh_9_21 ho) (lv_sub hl [0, 1, 2, 3, 4] rfl) hF
            · replace hF := if_some hc17 hF
              refine r_aload_n Z dX9_nextState_34 rfl (lv_at hl 0 rfl) ?_
              refine g_9_22 Z ho wm_758 dX9_nextState_35 ?_
              refine r_iconst (v := 5) Z dX9_nextState_38 (by decide) ?_
              obtain ⟨hd25, hF⟩ := dvI_some hF
              refine r_irem Z dX9_nextState_39 hd25 ?_
              refine r_goto Z 85 dX9_nextState_40 (by decide) ?_
              exact L85 v1 v2 v3 v4 (fld o 21) v4 ((mI M o 22) - (mI M o 22) / 5 * 5) M ls (sh_9_21 ho) (lv_sub hl [0, 1, 2, 3, 4] rfl) hF
      intro v1 M ls hl hF
      replace hF : f_X9_nextState_b0B (f_X9_nextState_b0 o n0) o v1 M = some q := hF
      unfold f_X9_nextState_b0B at hF
      refine r_aload_n Z dX9_nextState_0 rfl (lv_at hl 0 rfl) ?_
      refine g_9_22 Z ho wm_758 dX9_nextState_1 ?_
      refine r_sipush (v := 625) Z dX9_nextState_4 (by decide) ?_
      refine r_icmp_ge Z 156 dX9_nextState_7 (by decide) (fun hc26 => ?_) (fun hc26 => ?_)
      · replace hF := if_some hc26 hF
        refine r_iconst (v := 0) Z dX9_nextState_156 (by decide) ?_
        exact r_zret Z hQ (by decide) hF dX9_nextState_157
      · replace hF := nif_some hc26 hF
        refine r_iconst (v := 0) Z dX9_nextState_10 (by decide) ?_
        refine r_istore_n Z [(2, .int 0), (0, .ref (ad o)), (1, .int v1)] dX9_nextState_11 rfl hl (by decide) rfl (fun ls hl => ?_)
        refine r_iconst (v := 1) Z dX9_nextState_12 (by decide) ?_
        refine r_istore_n Z [(3, .int 1), (2, .int 0), (0, .ref (ad o)), (1, .int v1)] dX9_nextState_13 rfl hl (by decide) rfl (fun ls hl => ?_)
        refine r_iconst (v := 0) Z dX9_nextState_14 (by decide) ?_
        refine r_istore Z [(4, .int 0), (3, .int 1), (2, .int 0), (0, .ref (ad o)), (1, .int v1)] dX9_nextState_15 hl (by decide) rfl (fun ls hl => ?_)
        exact L17 _ v1 0 1 0 M ls (lv_sub hl [3, 4, 2, 1, 0] rfl) hF
  unfold f_X9_nextState at hF
  exact L0 _ x1 M ls (lv_sub hl [0, 1] rfl) hF
theorem dX9_sends_0 : decode cX9_sends 0 = .ok (.aload_n 0, 1) := by decide +kernel
theorem dX9_sends_1 : decode cX9_sends 1 = .ok (.getfield 30, 3) := by decide +kernel
theorem dX9_sends_4 : decode cX9_sends 4 = .ok (.iload_n 1, 1) := by decide +kernel
theorem dX9_sends_5 : decode cX9_sends 5 = .ok (.iaload, 1) := by decide +kernel
theorem dX9_sends_6 : decode cX9_sends 6 = .ok (.iconst 3, 1) := by decide +kernel
theorem dX9_sends_7 : decode cX9_sends 7 = .ok (.if_icmp .ne 14, 3) := by decide +kernel
theorem dX9_sends_10 : decode cX9_sends 10 = .ok (.aload_n 0, 1) := by decide +kernel
theorem dX9_sends_11 : decode cX9_sends 11 = .ok (.getfield 33, 3) := by decide +kernel
theorem dX9_sends_14 : decode cX9_sends 14 = .ok (.iload_n 1, 1) := by decide +kernel
theorem dX9_sends_15 : decode cX9_sends 15 = .ok (.iaload, 1) := by decide +kernel
theorem dX9_sends_16 : decode cX9_sends 16 = .ok (.iload_n 2, 1) := by decide +kernel
theorem dX9_sends_17 : decode cX9_sends 17 = .ok (.imul, 1) := by decide +kernel
theorem dX9_sends_18 : decode cX9_sends 18 = .ok (.goto 37, 3) := by decide +kernel
theorem dX9_sends_21 : decode cX9_sends 21 = .ok (.iload_n 2, 1) := by decide +kernel
theorem dX9_sends_22 : decode cX9_sends 22 = .ok (.aload_n 0, 1) := by decide +kernel
theorem dX9_sends_23 : decode cX9_sends 23 = .ok (.getfield 36, 3) := by decide +kernel
theorem dX9_sends_26 : decode cX9_sends 26 = .ok (.iload_n 1, 1) := by decide +kernel
theorem dX9_sends_27 : decode cX9_sends 27 = .ok (.iaload, 1) := by decide +kernel
theorem dX9_sends_28 : decode cX9_sends 28 = .ok (.if_icmp .ge 14, 3) := by decide +kernel
theorem dX9_sends_31 : decode cX9_sends 31 = .ok (.aload_n 0, 1) := by decide +kernel
theorem dX9_sends_32 : decode cX9_sends 32 = .ok (.getfield 33, 3) := by decide +kernel
theorem dX9_sends_35 : decode cX9_sends 35 = .ok (.iload_n 1, 1) := by decide +kernel
theorem dX9_sends_36 : decode cX9_sends 36 = .ok (.iaload, 1) := by decide +kernel
theorem dX9_sends_37 : decode cX9_sends 37 = .ok (.iload_n 2, 1) := by decide +kernel
theorem dX9_sends_38 : decode cX9_sends 38 = .ok (.imul, 1) := by decide +kernel
theorem dX9_sends_39 : decode cX9_sends 39 = .ok (.goto 16, 3) := by decide +kernel
theorem dX9_sends_42 : decode cX9_sends 42 = .ok (.aload_n 0, 1) := by decide +kernel
theorem dX9_sends_43 : decode cX9_sends 43 = .ok (.getfield 33, 3) := by decide +kernel
theorem dX9_sends_46 : decode cX9_sends 46 = .ok (.iload_n 1, 1) := by decide +kernel
theorem dX9_sends_47 : decode cX9_sends 47 = .ok (.iaload, 1) := by decide +kernel
theorem dX9_sends_48 : decode cX9_sends 48 = .ok (.aload_n 0, 1) := by decide +kernel
theorem dX9_sends_49 : decode cX9_sends 49 = .ok (.getfield 36, 3) := by decide +kernel
theorem dX9_sends_52 : decode cX9_sends 52 = .ok (.iload_n 1, 1) := by decide +kernel
theorem dX9_sends_53 : decode cX9_sends 53 = .ok (.iaload, 1) := by decide +kernel
theorem dX9_sends_54 : decode cX9_sends 54 = .ok (.imul, 1) := by decide +kernel
theorem dX9_sends_55 : decode cX9_sends 55 = .ok (.ireturn, 1) := by decide +kernel
theorem cv_X9_sends : wn_cV yX9_sends cX9_sends 3 (some .int) RX9 2 := ⟨wm_791, wm_793, wm_794, wm_637, by decide +kernel⟩
abbrev rm_X9_sends : Room := rmz 0 0
set_option maxHeartbeats 4000000 in
set_option maxRecDepth 100000 in
theorem c_X9_sends {ad : Nat → Nat} {o : Nat} {x1 : Int32} {x2 : Int32} {M : Mm} {q : Int32 × Mm} (ho : shp o = 9) (hF : f_X9_sends o x1 x2 M = some q) : KI ad yX9_sends cX9_sends 3 (some .int) rm_X9_sends [.ref (ad o), .int x1, .int x2] M q.1 q.2 := by
  refine wn_enterI (own := RX9) (by decide) rfl (Nat.le_of_ble_eq_true rfl) (fun X ls Z hQ hl => ?_)
  have hl : lv_has ls 3 [(0, .ref (ad o)), (1, .int x1), (2, .int x2)] := hl
  unfold f_X9_sends at hF
  refine r_aload_n Z dX9_sends_0 rfl (lv_at hl 0 rfl) ?_
  refine g_9_9 Z ho wm_615 dX9_sends_1 ?_
  refine r_iload_n Z dX9_sends_4 rfl (lv_at hl 1 rfl) ?_
  obtain ⟨hi1, hF⟩ := ck_some hF
  refine r_iaload Z (shp_lt (sh_9_9 ho) (by decide)) (fun _ _ => ce_104 (sh_9_9 ho)) hi1 dX9_sends_5 ?_
  refine r_iconst (v := 3) Z dX9_sends_6 (by decide) ?_
  refine r_icmp_ne Z 21 dX9_sends_7 (by decide) (fun hc2 => ?_) (fun hc2 => ?_)
  · replace hF := nif_some hc2 hF
    refine r_iload_n Z dX9_sends_21 rfl (lv_at hl 2 rfl) ?_
    refine r_aload_n Z dX9_sends_22 rfl (lv_at hl 0 rfl) ?_
    refine g_9_11 Z ho wm_617 dX9_sends_23 ?_
    refine r_iload_n Z dX9_sends_26 rfl (lv_at hl 1 rfl) ?_
    obtain ⟨hi3, hF⟩ := ck_some hF
    refine r_iaload Z (shp_lt (sh_9_11 ho) (by decide)) (fun _ _ => ce_104 (sh_9_11 ho)) hi3 dX9_sends_27 ?_
    refine r_icmp_ge Z 42 dX9_sends_28 (by decide) (fun hc4 => ?_) (fun hc4 => ?_)
    · replace hF := if_some hc4 hF
      refine r_aload_n Z dX9_sends_42 rfl (lv_at hl 0 rfl) ?_
      refine g_9_10 Z ho wm_616 dX9_sends_43 ?_
      refine r_iload_n Z dX9_sends_46 rfl (lv_at hl 1 rfl) ?_
      obtain ⟨hi5, hF⟩ := ck_some hF
      refine r_iaload Z (shp_lt (sh_9_10 ho) (by decide)) (fun _ _ => ce_104 (sh_9_10 ho)) hi5 dX9_sends_47 ?_
      refine r_aload_n Z dX9_sends_48 rfl (lv_at hl 0 rfl) ?_
      refine g_9_11 Z ho wm_617 dX9_sends_49 ?_
      refine r_iload_n Z dX9_sends_52 rfl (lv_at hl 1 rfl) ?_
      obtain ⟨hi6, hF⟩ := ck_some hF
      refine r_iaload Z (shp_lt (sh_9_11 ho) (by decide)) (fun _ _ => ce_104 (sh_9_11 ho)) hi6 dX9_sends_53 ?_
      refine r_imul Z dX9_sends_54 ?_
      exact r_iret Z hQ hF dX9_sends_55
    · replace hF := nif_some hc4 hF
      refine r_aload_n Z dX9_sends_31 rfl (lv_at hl 0 rfl) ?_
      refine g_9_10 Z ho wm_616 dX9_sends_32 ?_
      refine r_iload_n Z dX9_sends_35 rfl (lv_at hl 1 rfl) ?_
      obtain ⟨hi7, hF⟩ := ck_some hF
      refine r_iaload Z (shp_lt (sh_9_10 ho) (by decide)) (fun _ _ => ce_104 (sh_9_10 ho)) hi7 dX9_sends_36 ?_
      refine r_iload_n Z dX9_sends_37 rfl (lv_at hl 2 rfl) ?_
      refine r_imul Z dX9_sends_38 ?_
      refine r_goto Z 55 dX9_sends_39 (by decide) ?_
      exact r_iret Z hQ hF dX9_sends_55
  · replace hF := if_some hc2 hF
    refine r_aload_n Z dX9_sends_10 rfl (lv_at hl 0 rfl) ?_
    refine g_9_10 Z ho wm_616 dX9_sends_11 ?_
    refine r_iload_n Z dX9_sends_14 rfl (lv_at hl 1 rfl) ?_
    obtain ⟨hi8, hF⟩ := ck_some hF
    refine r_iaload Z (shp_lt (sh_9_10 ho) (by decide)) (fun _ _ => ce_104 (sh_9_10 ho)) hi8 dX9_sends_15 ?_
    refine r_iload_n Z dX9_sends_16 rfl (lv_at hl 2 rfl) ?_
    refine r_imul Z dX9_sends_17 ?_
    refine r_goto Z 55 dX9_sends_18 (by decide) ?_
    exact r_iret Z hQ hF dX9_sends_55
theorem dX9_part_0 : decode cX9_part 0 = .ok (.aload_n 0, 1) := by decide +kernel
theorem dX9_part_1 : decode cX9_part 1 = .ok (.getfield 58, 3) := by decide +kernel
theorem dX9_part_4 : decode cX9_part 4 = .ok (.iload_n 1, 1) := by decide +kernel
theorem dX9_part_5 : decode cX9_part 5 = .ok (.laload, 1) := by decide +kernel
theorem dX9_part_6 : decode cX9_part 6 = .ok (.bipush 12, 2) := by decide +kernel
theorem dX9_part_8 : decode cX9_part 8 = .ok (.aload_n 0, 1) := by decide +kernel
theorem dX9_part_9 : decode cX9_part 9 = .ok (.getfield 33, 3) := by decide +kernel
theorem dX9_part_12 : decode cX9_part 12 = .ok (.iload_n 1, 1) := by decide +kernel
theorem dX9_part_13 : decode cX9_part 13 = .ok (.iaload, 1) := by decide +kernel
theorem dX9_part_14 : decode cX9_part 14 = .ok (.idiv, 1) := by decide +kernel
theorem dX9_part_15 : decode cX9_part 15 = .ok (.i2l, 1) := by decide +kernel
theorem dX9_part_16 : decode cX9_part 16 = .ok (.lmul, 1) := by decide +kernel
theorem dX9_part_17 : decode cX9_part 17 = .ok (.lreturn, 1) := by decide +kernel
theorem cv_X9_part : wn_cV yX9_part cX9_part 2 (some .long) RX9 1 := ⟨wm_752, wm_755, wm_756, wm_637, by decide +kernel⟩
abbrev rm_X9_part : Room := rmz 0 0
set_option maxHeartbeats 4000000 in
set_option maxRecDepth 100000 in
theorem c_X9_part {ad : Nat → Nat} {o : Nat} {x1 : Int32} {M : Mm} {q : Int64 × Mm} (ho : shp o = 9) (hF : f_X9_part o x1 M = some q) : KL ad yX9_part cX9_part 2 (some .long) rm_X9_part [.ref (ad o), .int x1] M q.1 q.2 := by
  refine wn_enterL (own := RX9) (by decide) rfl (Nat.le_of_ble_eq_true rfl) (fun X ls Z hQ hl => ?_)
  have hl : lv_has ls 2 [(0, .ref (ad o)), (1, .int x1)] := hl
  unfold f_X9_part at hF
  refine r_aload_n Z dX9_part_0 rfl (lv_at hl 0 rfl) ?_
  refine g_9_20 Z ho wm_624 dX9_part_1 ?_
  refine r_iload_n Z dX9_part_4 rfl (lv_at hl 1 rfl) ?_
  obtain ⟨hi1, hF⟩ := ck_some hF
  refine r_laload Z (shp_lt (sh_9_20 ho) (by decide)) (fun _ _ => ce_1004 (sh_9_20 ho)) hi1 dX9_part_5 ?_
  refine r_bipush (v := 12) Z dX9_part_6 (by decide) ?_
  refine r_aload_n Z dX9_part_8 rfl (lv_at hl 0 rfl) ?_
  refine g_9_10 Z ho wm_616 dX9_part_9 ?_
  refine r_iload_n Z dX9_part_12 rfl (lv_at hl 1 rfl) ?_
  obtain ⟨hi2, hF⟩ := ck_some hF
  refine r_iaload Z (shp_lt (sh_9_10 ho) (by decide)) (fun _ _ => ce_104 (sh_9_10 ho)) hi2 dX9_part_13 ?_
  obtain ⟨hd3, hF⟩ := dvI_some hF
  refine r_idiv Z dX9_part_14 hd3 ?_
  refine r_i2l Z dX9_part_15 ?_
  refine r_lmul Z dX9_part_16 ?_
  exact r_lret Z hQ hF dX9_part_17

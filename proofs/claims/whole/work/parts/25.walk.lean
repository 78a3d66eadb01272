theorem dX9_ranked_0 : decode cX9_ranked 0 = .ok (.iload_n 2, 1) := by decide +kernel
theorem dX9_ranked_1 : decode cX9_ranked 1 = .ok (.iconst 0, 1) := by decide +kernel
theorem dX9_ranked_2 : decode cX9_ranked 2 = .ok (.bipush 9, 2) := by decide +kernel
theorem dX9_ranked_4 : decode cX9_ranked 4 = .ok (.invokestatic 81, 3) := by decide +kernel
theorem dX9_ranked_7 : decode cX9_ranked 7 = .ok (.ifCond .eq 23, 3) := by decide +kernel
theorem dX9_ranked_10 : decode cX9_ranked 10 = .ok (.iload_n 3, 1) := by decide +kernel
theorem dX9_ranked_11 : decode cX9_ranked 11 = .ok (.iconst 0, 1) := by decide +kernel
theorem dX9_ranked_12 : decode cX9_ranked 12 = .ok (.bipush 9, 2) := by decide +kernel
theorem dX9_ranked_14 : decode cX9_ranked 14 = .ok (.invokestatic 81, 3) := by decide +kernel
theorem dX9_ranked_17 : decode cX9_ranked 17 = .ok (.ifCond .eq 13, 3) := by decide +kernel
theorem dX9_ranked_20 : decode cX9_ranked 20 = .ok (.iload 5, 2) := by decide +kernel
theorem dX9_ranked_22 : decode cX9_ranked 22 = .ok (.iconst 0, 1) := by decide +kernel
theorem dX9_ranked_23 : decode cX9_ranked 23 = .ok (.iconst 1, 1) := by decide +kernel
theorem dX9_ranked_24 : decode cX9_ranked 24 = .ok (.invokestatic 81, 3) := by decide +kernel
theorem dX9_ranked_27 : decode cX9_ranked 27 = .ok (.ifCond .ne 5, 3) := by decide +kernel
theorem dX9_ranked_30 : decode cX9_ranked 30 = .ok (.iconst (-1), 1) := by decide +kernel
theorem dX9_ranked_31 : decode cX9_ranked 31 = .ok (.ireturn, 1) := by decide +kernel
theorem dX9_ranked_32 : decode cX9_ranked 32 = .ok (.aload_n 0, 1) := by decide +kernel
theorem dX9_ranked_33 : decode cX9_ranked 33 = .ok (.iload_n 1, 1) := by decide +kernel
theorem dX9_ranked_34 : decode cX9_ranked 34 = .ok (.invokevirtual 107, 3) := by decide +kernel
theorem dX9_ranked_37 : decode cX9_ranked 37 = .ok (.istore 6, 2) := by decide +kernel
theorem dX9_ranked_39 : decode cX9_ranked 39 = .ok (.iload 6, 2) := by decide +kernel
theorem dX9_ranked_41 : decode cX9_ranked 41 = .ok (.ifCond .ge 6, 3) := by decide +kernel
theorem dX9_ranked_44 : decode cX9_ranked 44 = .ok (.iload 6, 2) := by decide +kernel
theorem dX9_ranked_46 : decode cX9_ranked 46 = .ok (.ireturn, 1) := by decide +kernel
theorem dX9_ranked_47 : decode cX9_ranked 47 = .ok (.aload_n 0, 1) := by decide +kernel
theorem dX9_ranked_48 : decode cX9_ranked 48 = .ok (.getfield 30, 3) := by decide +kernel
theorem dX9_ranked_51 : decode cX9_ranked 51 = .ok (.iload_n 1, 1) := by decide +kernel
theorem dX9_ranked_52 : decode cX9_ranked 52 = .ok (.iaload, 1) := by decide +kernel
theorem dX9_ranked_53 : decode cX9_ranked 53 = .ok (.iconst 4, 1) := by decide +kernel
theorem dX9_ranked_54 : decode cX9_ranked 54 = .ok (.if_icmp .eq 9, 3) := by decide +kernel
theorem dX9_ranked_57 : decode cX9_ranked 57 = .ok (.aload_n 0, 1) := by decide +kernel
theorem dX9_ranked_58 : decode cX9_ranked 58 = .ok (.iconst 3, 1) := by decide +kernel
theorem dX9_ranked_59 : decode cX9_ranked 59 = .ok (.invokevirtual 89, 3) := by decide +kernel
theorem dX9_ranked_62 : decode cX9_ranked 62 = .ok (.ireturn, 1) := by decide +kernel
theorem dX9_ranked_63 : decode cX9_ranked 63 = .ok (.aload_n 0, 1) := by decide +kernel
theorem dX9_ranked_64 : decode cX9_ranked 64 = .ok (.getfield 33, 3) := by decide +kernel
theorem dX9_ranked_67 : decode cX9_ranked 67 = .ok (.iload_n 1, 1) := by decide +kernel
theorem dX9_ranked_68 : decode cX9_ranked 68 = .ok (.iaload, 1) := by decide +kernel
theorem dX9_ranked_69 : decode cX9_ranked 69 = .ok (.istore 7, 2) := by decide +kernel
theorem dX9_ranked_71 : decode cX9_ranked 71 = .ok (.iload_n 2, 1) := by decide +kernel
theorem dX9_ranked_72 : decode cX9_ranked 72 = .ok (.iload_n 3, 1) := by decide +kernel
theorem dX9_ranked_73 : decode cX9_ranked 73 = .ok (.iadd, 1) := by decide +kernel
theorem dX9_ranked_74 : decode cX9_ranked 74 = .ok (.iload 7, 2) := by decide +kernel
theorem dX9_ranked_76 : decode cX9_ranked 76 = .ok (.if_icmp .lt 6, 3) := by decide +kernel
theorem dX9_ranked_79 : decode cX9_ranked 79 = .ok (.bipush (-4), 2) := by decide +kernel
theorem dX9_ranked_81 : decode cX9_ranked 81 = .ok (.ireturn, 1) := by decide +kernel
theorem dX9_ranked_82 : decode cX9_ranked 82 = .ok (.iload 7, 2) := by decide +kernel
theorem dX9_ranked_84 : decode cX9_ranked 84 = .ok (.iload_n 2, 1) := by decide +kernel
theorem dX9_ranked_85 : decode cX9_ranked 85 = .ok (.isub, 1) := by decide +kernel
theorem dX9_ranked_86 : decode cX9_ranked 86 = .ok (.i2l, 1) := by decide +kernel
theorem dX9_ranked_87 : decode cX9_ranked 87 = .ok (.lstore 8, 2) := by decide +kernel
theorem dX9_ranked_89 : decode cX9_ranked 89 = .ok (.iload 7, 2) := by decide +kernel
theorem dX9_ranked_91 : decode cX9_ranked 91 = .ok (.iload_n 2, 1) := by decide +kernel
theorem dX9_ranked_92 : decode cX9_ranked 92 = .ok (.isub, 1) := by decide +kernel
theorem dX9_ranked_93 : decode cX9_ranked 93 = .ok (.iload_n 3, 1) := by decide +kernel
theorem dX9_ranked_94 : decode cX9_ranked 94 = .ok (.isub, 1) := by decide +kernel
theorem dX9_ranked_95 : decode cX9_ranked 95 = .ok (.i2l, 1) := by decide +kernel
theorem dX9_ranked_96 : decode cX9_ranked 96 = .ok (.lstore 10, 2) := by decide +kernel
theorem dX9_ranked_98 : decode cX9_ranked 98 = .ok (.iload 4, 2) := by decide +kernel
theorem dX9_ranked_100 : decode cX9_ranked 100 = .ok (.ifCond .eq 44, 3) := by decide +kernel
theorem dX9_ranked_103 : decode cX9_ranked 103 = .ok (.iload 5, 2) := by decide +kernel
theorem dX9_ranked_105 : decode cX9_ranked 105 = .ok (.ifCond .ne 15, 3) := by decide +kernel
theorem dX9_ranked_108 : decode cX9_ranked 108 = .ok (.aload_n 0, 1) := by decide +kernel
theorem dX9_ranked_109 : decode cX9_ranked 109 = .ok (.iload_n 2, 1) := by decide +kernel
theorem dX9_ranked_110 : decode cX9_ranked 110 = .ok (.i2l, 1) := by decide +kernel
theorem dX9_ranked_111 : decode cX9_ranked 111 = .ok (.lload 8, 2) := by decide +kernel
theorem dX9_ranked_113 : decode cX9_ranked 113 = .ok (.iconst 1, 1) := by decide +kernel
theorem dX9_ranked_114 : decode cX9_ranked 114 = .ok (.invokevirtual 149, 3) := by decide +kernel
theorem dX9_ranked_117 : decode cX9_ranked 117 = .ok (.goto 26, 3) := by decide +kernel
theorem dX9_ranked_120 : decode cX9_ranked 120 = .ok (.aload_n 0, 1) := by decide +kernel
theorem dX9_ranked_121 : decode cX9_ranked 121 = .ok (.iload_n 2, 1) := by decide +kernel
theorem dX9_ranked_122 : decode cX9_ranked 122 = .ok (.iload_n 3, 1) := by decide +kernel
theorem dX9_ranked_123 : decode cX9_ranked 123 = .ok (.iadd, 1) := by decide +kernel
theorem dX9_ranked_124 : decode cX9_ranked 124 = .ok (.i2l, 1) := by decide +kernel
theorem dX9_ranked_125 : decode cX9_ranked 125 = .ok (.lload 8, 2) := by decide +kernel
theorem dX9_ranked_127 : decode cX9_ranked 127 = .ok (.lmul, 1) := by decide +kernel
theorem dX9_ranked_128 : decode cX9_ranked 128 = .ok (.iload_n 2, 1) := by decide +kernel
theorem dX9_ranked_129 : decode cX9_ranked 129 = .ok (.i2l, 1) := by decide +kernel
theorem dX9_ranked_130 : decode cX9_ranked 130 = .ok (.lload 10, 2) := by decide +kernel
theorem dX9_ranked_132 : decode cX9_ranked 132 = .ok (.lmul, 1) := by decide +kernel
theorem dX9_ranked_133 : decode cX9_ranked 133 = .ok (.lsub, 1) := by decide +kernel
theorem dX9_ranked_134 : decode cX9_ranked 134 = .ok (.lload 8, 2) := by decide +kernel
theorem dX9_ranked_136 : decode cX9_ranked 136 = .ok (.lload 10, 2) := by decide +kernel
theorem dX9_ranked_138 : decode cX9_ranked 138 = .ok (.lmul, 1) := by decide +kernel
theorem dX9_ranked_139 : decode cX9_ranked 139 = .ok (.iconst 1, 1) := by decide +kernel
theorem dX9_ranked_140 : decode cX9_ranked 140 = .ok (.invokevirtual 149, 3) := by decide +kernel
theorem dX9_ranked_143 : decode cX9_ranked 143 = .ok (.ireturn, 1) := by decide +kernel
theorem dX9_ranked_144 : decode cX9_ranked 144 = .ok (.iload 5, 2) := by decide +kernel
theorem dX9_ranked_146 : decode cX9_ranked 146 = .ok (.ifCond .ne 27, 3) := by decide +kernel
theorem dX9_ranked_149 : decode cX9_ranked 149 = .ok (.aload_n 0, 1) := by decide +kernel
theorem dX9_ranked_150 : decode cX9_ranked 150 = .ok (.iload_n 2, 1) := by decide +kernel
theorem dX9_ranked_151 : decode cX9_ranked 151 = .ok (.i2l, 1) := by decide +kernel
theorem dX9_ranked_152 : decode cX9_ranked 152 = .ok (.iload_n 2, 1) := by decide +kernel
theorem dX9_ranked_153 : decode cX9_ranked 153 = .ok (.iload_n 3, 1) := by decide +kernel
theorem dX9_ranked_154 : decode cX9_ranked 154 = .ok (.iadd, 1) := by decide +kernel
theorem dX9_ranked_155 : decode cX9_ranked 155 = .ok (.i2l, 1) := by decide +kernel
theorem dX9_ranked_156 : decode cX9_ranked 156 = .ok (.lload 8, 2) := by decide +kernel
theorem dX9_ranked_158 : decode cX9_ranked 158 = .ok (.ladd, 1) := by decide +kernel
theorem dX9_ranked_159 : decode cX9_ranked 159 = .ok (.lmul, 1) := by decide +kernel
theorem dX9_ranked_160 : decode cX9_ranked 160 = .ok (.iload 7, 2) := by decide +kernel
theorem dX9_ranked_162 : decode cX9_ranked 162 = .ok (.i2l, 1) := by decide +kernel
theorem dX9_ranked_163 : decode cX9_ranked 163 = .ok (.lload 8, 2) := by decide +kernel
theorem dX9_ranked_165 : decode cX9_ranked 165 = .ok (.lmul, 1) := by decide +kernel
theorem dX9_ranked_166 : decode cX9_ranked 166 = .ok (.iconst 1, 1) := by decide +kernel
theorem dX9_ranked_167 : decode cX9_ranked 167 = .ok (.invokevirtual 149, 3) := by decide +kernel
theorem dX9_ranked_170 : decode cX9_ranked 170 = .ok (.goto 33, 3) := by decide +kernel
theorem dX9_ranked_173 : decode cX9_ranked 173 = .ok (.aload_n 0, 1) := by decide +kernel
theorem dX9_ranked_174 : decode cX9_ranked 174 = .ok (.iload_n 3, 1) := by decide +kernel
theorem dX9_ranked_175 : decode cX9_ranked 175 = .ok (.i2l, 1) := by decide +kernel
theorem dX9_ranked_176 : decode cX9_ranked 176 = .ok (.iload_n 2, 1) := by decide +kernel
theorem dX9_ranked_177 : decode cX9_ranked 177 = .ok (.iload_n 3, 1) := by decide +kernel
theorem dX9_ranked_178 : decode cX9_ranked 178 = .ok (.iadd, 1) := by decide +kernel
theorem dX9_ranked_179 : decode cX9_ranked 179 = .ok (.iload 7, 2) := by decide +kernel
theorem dX9_ranked_181 : decode cX9_ranked 181 = .ok (.imul, 1) := by decide +kernel
theorem dX9_ranked_182 : decode cX9_ranked 182 = .ok (.i2l, 1) := by decide +kernel
theorem dX9_ranked_183 : decode cX9_ranked 183 = .ok (.lload 8, 2) := by decide +kernel
theorem dX9_ranked_185 : decode cX9_ranked 185 = .ok (.lload 10, 2) := by decide +kernel
theorem dX9_ranked_187 : decode cX9_ranked 187 = .ok (.lmul, 1) := by decide +kernel
theorem dX9_ranked_188 : decode cX9_ranked 188 = .ok (.ladd, 1) := by decide +kernel
theorem dX9_ranked_189 : decode cX9_ranked 189 = .ok (.lmul, 1) := by decide +kernel
theorem dX9_ranked_190 : decode cX9_ranked 190 = .ok (.lload 8, 2) := by decide +kernel
theorem dX9_ranked_192 : decode cX9_ranked 192 = .ok (.lload 10, 2) := by decide +kernel
theorem dX9_ranked_194 : decode cX9_ranked 194 = .ok (.lmul, 1) := by decide +kernel
theorem dX9_ranked_195 : decode cX9_ranked 195 = .ok (.iload 7, 2) := by decide +kernel
theorem dX9_ranked_197 : decode cX9_ranked 197 = .ok (.i2l, 1) := by decide +kernel
theorem dX9_ranked_198 : decode cX9_ranked 198 = .ok (.lmul, 1) := by decide +kernel
theorem dX9_ranked_199 : decode cX9_ranked 199 = .ok (.iconst 1, 1) := by decide +kernel
theorem dX9_ranked_200 : decode cX9_ranked 200 = .ok (.invokevirtual 149, 3) := by decide +kernel
theorem dX9_ranked_203 : decode cX9_ranked 203 = .ok (.ireturn, 1) := by decide +kernel
theorem cv_X9_ranked : wn_cV yX9_ranked cX9_ranked 12 (some .int) RX9 5 := ⟨wm_796, wm_1036, wm_1037, wm_637, by decide +kernel⟩
abbrev rm_X9_ranked : Room := rmz 3 63
set_option maxHeartbeats 4000000 in
set_option maxRecDepth 100000 in
theorem c_X9_ranked {ad : Nat → Nat} {o : Nat} {x1 : Int32} {x2 : Int32} {x3 : Int32} {x4 : Int32} {x5 : Int32} {M : Mm} {q : Int32 × Mm} (ho : shp o = 9) (hF : f_X9_ranked o x1 x2 x3 x4 x5 M = some q) : KI ad yX9_ranked cX9_ranked 12 (some .int) rm_X9_ranked [.ref (ad o), .int x1, .int x2, .int x3, .int x4, .int x5] M q.1 q.2 := by
  refine wn_enterI (own := RX9) (by decide) rfl (Nat.le_of_ble_eq_true rfl) (fun X ls Z hQ hl => ?_)
  have hl : lv_has ls 12 [(0, .ref (ad o)), (1, .int x1), (2, .int x2), (3, .int x3), (4, .int x4), (5, .int x5)] := hl
  unfold f_X9_ranked at hF
  refine r_iload_n Z dX9_ranked_0 rfl (lv_at hl 2 rfl) ?_
  refine r_iconst (v := 0) Z dX9_ranked_1 (by decide) ?_
  refine r_bipush (v := 9) Z dX9_ranked_2 (by decide) ?_
  obtain ⟨q1, hq1, hF⟩ := bd_some hF
  refine r_invSi [] Z (c_X9_in hq1) cv_X9_in wm_639 rfl rfl ⟨Nat.le_of_ble_eq_true rfl, Nat.le_of_ble_eq_true rfl⟩ rfl hl.1 rfl (Nat.le_of_ble_eq_true rfl) dX9_ranked_4 ?_
  refine r_if_eq Z 30 dX9_ranked_7 (by decide) (fun hc2 => ?_) (fun hc2 => ?_)
  · replace hF := if_some hc2 hF
    refine r_iconst (v := (-1)) Z dX9_ranked_30 (by decide) ?_
    exact r_iret Z hQ hF dX9_ranked_31
  · replace hF := nif_some hc2 hF
    refine r_iload_n Z dX9_ranked_10 rfl (lv_at hl 3 rfl) ?_
    refine r_iconst (v := 0) Z dX9_ranked_11 (by decide) ?_
    refine r_bipush (v := 9) Z dX9_ranked_12 (by decide) ?_
    obtain ⟨q3, hq3, hF⟩ := bd_some hF
    refine r_invSi [] Z (c_X9_in hq3) cv_X9_in wm_639 rfl rfl ⟨Nat.le_of_ble_eq_true rfl, Nat.le_of_ble_eq_true rfl⟩ rfl hl.1 rfl (Nat.le_of_ble_eq_true rfl) dX9_ranked_14 ?_
    refine r_if_eq Z 30 dX9_ranked_17 (by decide) (fun hc4 => ?_) (fun hc4 => ?_)
    · replace hF := if_some hc4 hF
      refine r_iconst (v := (-1)) Z dX9_ranked_30 (by decide) ?_
      exact r_iret Z hQ hF dX9_ranked_31
    · replace hF := nif_some hc4 hF
      refine r_iload Z dX9_ranked_20 (lv_at hl 5 rfl) ?_
      refine r_iconst (v := 0) Z dX9_ranked_22 (by decide) ?_
      refine r_iconst (v := 1) Z dX9_ranked_23 (by decide) ?_
      obtain ⟨q5, hq5, hF⟩ := bd_some hF
      refine r_invSi [] Z (c_X9_in hq5) cv_X9_in wm_639 rfl rfl ⟨Nat.le_of_ble_eq_true rfl, Nat.le_of_ble_eq_true rfl⟩ rfl hl.1 rfl (Nat.le_of_ble_eq_true rfl) dX9_ranked_24 ?_
      refine r_if_ne Z 32 dX9_ranked_27 (by decide) (fun hc6 => ?_) (fun hc6 => ?_)
      · replace hF := nif_some hc6 hF
        refine r_aload_n Z dX9_ranked_32 rfl (lv_at hl 0 rfl) ?_
        refine r_iload_n Z dX9_ranked_33 rfl (lv_at hl 1 rfl) ?_
        obtain ⟨q7, hq7, hF⟩ := bd_some hF
        refine r_invVi [] Z (c_X9_askedFor ho hq7) cv_X9_askedFor rfl (shp_lt ho (by decide)) (fun _ _ => ⟨_, ce_9 ho⟩) wm_668 rfl rfl ⟨Nat.le_of_ble_eq_true rfl, Nat.le_of_ble_eq_true rfl⟩ rfl hl.1 rfl (Nat.le_of_ble_eq_true rfl) dX9_ranked_34 ?_
        refine r_istore Z [(6, .int q7.1), (0, .ref (ad o)), (1, .int x1), (2, .int x2), (3, .int x3), (4, .int x4), (5, .int x5)] dX9_ranked_37 hl (by decide) rfl (fun ls hl => ?_)
        refine r_iload Z dX9_ranked_39 (lv_at hl 0 rfl) ?_
        refine r_if_ge Z 47 dX9_ranked_41 (by decide) (fun hc8 => ?_) (fun hc8 => ?_)
        · replace hF := if_some hc8 hF
          refine r_aload_n Z dX9_ranked_47 rfl (lv_at hl 1 rfl) ?_
          refine g_9_9 Z ho wm_615 dX9_ranked_48 ?_
          refine r_iload_n Z dX9_ranked_51 rfl (lv_at hl 2 rfl) ?_
          obtain ⟨hi9, hF⟩ := ck_some hF
          refine r_iaload Z (shp_lt (sh_9_9 ho) (by decide)) (fun _ _ => ce_104 (sh_9_9 ho)) hi9 dX9_ranked_52 ?_
          refine r_iconst (v := 4) Z dX9_ranked_53 (by decide) ?_
          refine r_icmp_eq Z 63 dX9_ranked_54 (by decide) (fun hc10 => ?_) (fun hc10 => ?_)
          · replace hF := if_some hc10 hF
            refine r_aload_n Z dX9_ranked_63 rfl (lv_at hl 1 rfl) ?_
            refine g_9_10 Z ho wm_616 dX9_ranked_64 ?_
            refine r_iload_n Z dX9_ranked_67 rfl (lv_at hl 2 rfl) ?_
            obtain ⟨hi11, hF⟩ := ck_some hF
            refine r_iaload Z (shp_lt (sh_9_10 ho) (by decide)) (fun _ _ => ce_104 (sh_9_10 ho)) hi11 dX9_ranked_68 ?_
            obtain ⟨t12, et12, hF⟩ := nm_some hF
            rw [← et12]
            refine r_istore Z [(7, .int t12), (6, .int q7.1), (0, .ref (ad o)), (1, .int x1), (2, .int x2), (3, .int x3), (4, .int x4), (5, .int x5)] dX9_ranked_69 hl (by decide) rfl (fun ls hl => ?_)
            refine r_iload_n Z dX9_ranked_71 rfl (lv_at hl 4 rfl) ?_
            refine r_iload_n Z dX9_ranked_72 rfl (lv_at hl 5 rfl) ?_
            refine r_iadd Z dX9_ranked_73 ?_
            refine r_iload Z dX9_ranked_74 (lv_at hl 0 rfl) ?_
            refine r_icmp_lt Z 82 dX9_ranked_76 (by decide) (fun hc13 => ?_) (fun hc13 => ?_)
            · replace hF := if_some hc13 hF
              refine r_iload Z dX9_ranked_82 (lv_at hl 0 rfl) ?_
              refine r_iload_n Z dX9_ranked_84 rfl (lv_at hl 4 rfl) ?_
              refine r_isub Z dX9_ranked_85 ?_
              refine r_i2l Z dX9_ranked_86 ?_
              obtain ⟨t14, et14, hF⟩ := nm_some hF
              rw [← et14]
              refine r_lstore Z [(8, .long t14), (7, .int t12), (6, .int q7.1), (0, .ref (ad o)), (1, .int x1), (2, .int x2), (3, .int x3), (4, .int x4), (5, .int x5)] dX9_ranked_87 hl (by decide) rfl (fun ls hl => ?_)
              refine r_iload Z dX9_ranked_89 (lv_at hl 1 rfl) ?_
              refine r_iload_n Z dX9_ranked_91 rfl (lv_at hl 5 rfl) ?_
              refine r_isub Z dX9_ranked_92 ?_
              refine r_iload_n Z dX9_ranked_93 rfl (lv_at hl 6 rfl) ?_
              refine r_isub Z dX9_ranked_94 ?_
              refine r_i2l Z dX9_ranked_95 ?_
              obtain ⟨t15, et15, hF⟩ := nm_some hF
              rw [← et15]
              refine r_lstore Z [(10, .long t15), (8, .long t14), (7, .int t12), (6, .int q7.1), (0, .ref (ad o)), (1, .int x1), (2, .int x2), (3, .int x3), (4, .int x4), (5, .int x5)] dX9_ranked_96 hl (by decide) rfl (fun ls hl => ?_)
              refine r_iload Z dX9_ranked_98 (lv_at hl 8 rfl) ?_
              refine r_if_eq Z 144 dX9_ranked_100 (by decide) (fun hc16 => ?_) (fun hc16 => ?_)
              · replace hF := if_some hc16 hF
                refine r_iload Z dX9_ranked_144 (lv_at hl 9 rfl) ?_
                refine r_if_ne Z 173 dX9_ranked_146 (by decide) (fun hc17 => ?_) (fun hc17 => ?_)
                · replace hF := nif_some hc17 hF
                  refine r_aload_n Z dX9_ranked_173 rfl (lv_at hl 4 rfl) ?_
                  refine r_iload_n Z dX9_ranked_174 rfl (lv_at hl 7 rfl) ?_
                  refine r_i2l Z dX9_ranked_175 ?_
                  refine r_iload_n Z dX9_ranked_176 rfl (lv_at hl 6 rfl) ?_
                  refine r_iload_n Z dX9_ranked_177 rfl (lv_at hl 7 rfl) ?_
                  refine r_iadd Z dX9_ranked_178 ?_
                  refine r_iload Z dX9_ranked_179 (lv_at hl 2 rfl) ?_
                  refine r_imul Z dX9_ranked_181 ?_
                  refine r_i2l Z dX9_ranked_182 ?_
                  refine r_lload Z dX9_ranked_183 (lv_at hl 1 rfl) ?_
                  refine r_lload Z dX9_ranked_185 (lv_at hl 0 rfl) ?_
                  refine r_lmul Z dX9_ranked_187 ?_
                  refine r_ladd Z dX9_ranked_188 ?_
                  refine r_lmul Z dX9_ranked_189 ?_
                  refine r_lload Z dX9_ranked_190 (lv_at hl 1 rfl) ?_
                  refine r_lload Z dX9_ranked_192 (lv_at hl 0 rfl) ?_
                  refine r_lmul Z dX9_ranked_194 ?_
                  refine r_iload Z dX9_ranked_195 (lv_at hl 2 rfl) ?_
                  refine r_i2l Z dX9_ranked_197 ?_
                  refine r_lmul Z dX9_ranked_198 ?_
                  refine r_iconst (v := 1) Z dX9_ranked_199 (by decide) ?_
                  obtain ⟨q18, hq18, hF⟩ := bd_some hF
                  refine r_invVi [] Z (c_X9_share ho hq18) cv_X9_share rfl (shp_lt ho (by decide)) (fun _ _ => ⟨_, ce_9 ho⟩) wm_719 rfl rfl ⟨Nat.le_of_ble_eq_true rfl, Nat.le_of_ble_eq_true rfl⟩ rfl hl.1 rfl (Nat.le_of_ble_eq_true rfl) dX9_ranked_200 ?_
                  exact r_iret Z hQ hF dX9_ranked_203
                · replace hF := if_some hc17 hF
                  refine r_aload_n Z dX9_ranked_149 rfl (lv_at hl 4 rfl) ?_
                  refine r_iload_n Z dX9_ranked_150 rfl (lv_at hl 6 rfl) ?_
                  refine r_i2l Z dX9_ranked_151 ?_
                  refine r_iload_n Z dX9_ranked_152 rfl (lv_at hl 6 rfl) ?_
                  refine r_iload_n Z dX9_ranked_153 rfl (lv_at hl 7 rfl) ?_
                  refine r_iadd Z dX9_ranked_154 ?_
                  refine r_i2l Z dX9_ranked_155 ?_
                  refine r_lload Z dX9_ranked_156 (lv_at hl 1 rfl) ?_
                  refine r_ladd Z dX9_ranked_158 ?_
                  refine r_lmul Z dX9_ranked_159 ?_
                  refine r_iload Z dX9_ranked_160 (lv_at hl 2 rfl) ?_
                  refine r_i2l Z dX9_ranked_162 ?_
                  refine r_lload Z dX9_ranked_163 (lv_at hl 1 rfl) ?_
                  refine r_lmul Z dX9_ranked_165 ?_
                  refine r_iconst (v := 1) Z dX9_ranked_166 (by decide) ?_
                  obtain ⟨q19, hq19, hF⟩ := bd_some hF
                  refine r_invVi [] Z (c_X9_share ho hq19) cv_X9_share rfl (shp_lt ho (by decide)) (fun _ _ => ⟨_, ce_9 ho⟩) wm_719 rfl rfl ⟨Nat.le_of_ble_eq_true rfl, Nat.le_of_ble_eq_true rfl⟩ rfl hl.1 rfl (Nat.le_of_ble_eq_true rfl) dX9_ranked_167 ?_
                  refine r_goto Z 203 dX9_ranked_170 (by decide) ?_
                  exact r_iret Z hQ hF dX9_ranked_203
              · replace hF := nif_some hc16 hF
                refine r_iload Z dX9_ranked_103 (lv_at hl 9 rfl) ?_
                refine r_if_ne Z 120 dX9_ranked_105 (by decide) (fun hc20 => ?_) (fun hc20 => ?_)
                · replace hF := nif_some hc20 hF
                  refine r_aload_n Z dX9_ranked_120 rfl (lv_at hl 4 rfl) ?_
                  refine r_iload_n Z dX9_ranked_121 rfl (lv_at hl 6 rfl) ?_
                  refine r_iload_n Z dX9_ranked_122 rfl (lv_at hl 7 rfl) ?_
                  refine r_iadd Z dX9_ranked_123 ?_
                  refine r_i2l Z dX9_ranked_124 ?_
                  refine r_lload Z dX9_ranked_125 (lv_at hl 1 rfl) ?_
                  refine r_lmul Z dX9_ranked_127 ?_
                  refine r_iload_n Z dX9_ranked_128 rfl (lv_at hl 6 rfl) ?_
                  refine r_i2l Z dX9_ranked_129 ?_
                  refine r_lload Z dX9_ranked_130 (lv_at hl 0 rfl) ?_
                  refine r_lmul Z dX9_ranked_132 ?_
                  refine r_lsub Z dX9_ranked_133 ?_
                  refine r_lload Z dX9_ranked_134 (lv_at hl 1 rfl) ?_
                  refine r_lload Z dX9_ranked_136 (lv_at hl 0 rfl) ?_
                  refine r_lmul Z dX9_ranked_138 ?_
                  refine r_iconst (v := 1) Z dX9_ranked_139 (by decide) ?_
                  obtain ⟨q21, hq21, hF⟩ := bd_some hF
                  refine r_invVi [] Z (c_X9_share ho hq21) cv_X9_share rfl (shp_lt ho (by decide)) (fun _ _ => ⟨_, ce_9 ho⟩) wm_719 rfl rfl ⟨Nat.le_of_ble_eq_true rfl, Nat.le_of_ble_eq_true rfl⟩ rfl hl.1 rfl (Nat.le_of_ble_eq_true rfl) dX9_ranked_140 ?_
                  exact r_iret Z hQ hF dX9_ranked_143
                · replace hF := if_some hc20 hF
                  refine r_aload_n Z dX9_ranked_108 rfl (lv_at hl 4 rfl) ?_
                  refine r_iload_n Z dX9_ranked_109 rfl (lv_at hl 6 rfl) ?_
                  refine r_i2l Z dX9_ranked_110 ?_
                  refine r_lload Z dX9_ranked_111 (lv_at hl 1 rfl) ?_
                  refine r_iconst (v := 1) Z dX9_ranked_113 (by decide) ?_
                  obtain ⟨q22, hq22, hF⟩ := bd_some hF
                  refine r_invVi [] Z (c_X9_share ho hq22) cv_X9_share rfl (shp_lt ho (by decide)) (fun _ _ => ⟨_, ce_9 ho⟩) wm_719 rfl rfl ⟨Nat.le_of_ble_eq_true rfl, Nat.le_of_ble_eq_true rfl⟩ rfl hl.1 rfl (Nat.le_of_ble_eq_true rfl) dX9_ranked_114 ?_
                  refine r_goto Z 143 dX9_ranked_117 (by decide) ?_
                  exact r_iret Z hQ hF dX9_ranked_143
            · replace hF := nif_some hc13 hF
              refine r_bipush (v := (-4)) Z dX9_ranked_79 (by decide) ?_
              exact r_iret Z hQ hF dX9_ranked_81
          · replace hF := nif_some hc10 hF
            refine r_aload_n Z dX9_ranked_57 rfl (lv_at hl 1 rfl) ?_
            refine r_iconst (v := 3) Z dX9_ranked_58 (by decide) ?_
            obtain ⟨q23, hq23, hF⟩ := bd_some hF
            refine r_invVi [] Z (c_X9_meets ho hq23) cv_X9_meets rfl (shp_lt ho (by decide)) (fun _ _ => ⟨_, ce_9 ho⟩) wm_644 rfl rfl ⟨Nat.le_of_ble_eq_true rfl, Nat.le_of_ble_eq_true rfl⟩ rfl hl.1 rfl (Nat.le_of_ble_eq_true rfl) dX9_ranked_59 ?_
            exact r_iret Z hQ hF dX9_ranked_62
        · replace hF := nif_some hc8 hF
          refine r_iload Z dX9_ranked_44 (lv_at hl 0 rfl) ?_
          exact r_iret Z hQ hF dX9_ranked_46
      · replace hF := if_some hc6 hF
        refine r_iconst (v := (-1)) Z dX9_ranked_30 (by decide) ?_
        exact r_iret Z hQ hF dX9_ranked_31
theorem dX9_rate_0 : decode cX9_rate 0 = .ok (.iload_n 2, 1) := by decide +kernel
theorem dX9_rate_1 : decode cX9_rate 1 = .ok (.iconst 1, 1) := by decide +kernel
theorem dX9_rate_2 : decode cX9_rate 2 = .ok (.bipush 12, 2) := by decide +kernel
theorem dX9_rate_4 : decode cX9_rate 4 = .ok (.invokestatic 81, 3) := by decide +kernel
theorem dX9_rate_7 : decode cX9_rate 7 = .ok (.ifCond .eq 10, 3) := by decide +kernel
theorem dX9_rate_10 : decode cX9_rate 10 = .ok (.bipush 12, 2) := by decide +kernel
theorem dX9_rate_12 : decode cX9_rate 12 = .ok (.iload_n 2, 1) := by decide +kernel
theorem dX9_rate_13 : decode cX9_rate 13 = .ok (.irem, 1) := by decide +kernel
theorem dX9_rate_14 : decode cX9_rate 14 = .ok (.ifCond .eq 5, 3) := by decide +kernel
theorem dX9_rate_17 : decode cX9_rate 17 = .ok (.iconst (-1), 1) := by decide +kernel
theorem dX9_rate_18 : decode cX9_rate 18 = .ok (.ireturn, 1) := by decide +kernel
theorem dX9_rate_19 : decode cX9_rate 19 = .ok (.aload_n 0, 1) := by decide +kernel
theorem dX9_rate_20 : decode cX9_rate 20 = .ok (.iload_n 1, 1) := by decide +kernel
theorem dX9_rate_21 : decode cX9_rate 21 = .ok (.invokevirtual 107, 3) := by decide +kernel
theorem dX9_rate_24 : decode cX9_rate 24 = .ok (.istore_n 3, 1) := by decide +kernel
theorem dX9_rate_25 : decode cX9_rate 25 = .ok (.iload_n 3, 1) := by decide +kernel
theorem dX9_rate_26 : decode cX9_rate 26 = .ok (.ifCond .ge 5, 3) := by decide +kernel
theorem dX9_rate_29 : decode cX9_rate 29 = .ok (.iload_n 3, 1) := by decide +kernel
theorem dX9_rate_30 : decode cX9_rate 30 = .ok (.ireturn, 1) := by decide +kernel
theorem dX9_rate_31 : decode cX9_rate 31 = .ok (.aload_n 0, 1) := by decide +kernel
theorem dX9_rate_32 : decode cX9_rate 32 = .ok (.getfield 33, 3) := by decide +kernel
theorem dX9_rate_35 : decode cX9_rate 35 = .ok (.iload_n 1, 1) := by decide +kernel
theorem dX9_rate_36 : decode cX9_rate 36 = .ok (.iaload, 1) := by decide +kernel
theorem dX9_rate_37 : decode cX9_rate 37 = .ok (.istore 4, 2) := by decide +kernel
theorem dX9_rate_39 : decode cX9_rate 39 = .ok (.aload_n 0, 1) := by decide +kernel
theorem dX9_rate_40 : decode cX9_rate 40 = .ok (.getfield 33, 3) := by decide +kernel
theorem dX9_rate_43 : decode cX9_rate 43 = .ok (.iload_n 1, 1) := by decide +kernel
theorem dX9_rate_44 : decode cX9_rate 44 = .ok (.iload_n 2, 1) := by decide +kernel
theorem dX9_rate_45 : decode cX9_rate 45 = .ok (.iastore, 1) := by decide +kernel
theorem dX9_rate_46 : decode cX9_rate 46 = .ok (.iload 4, 2) := by decide +kernel
theorem dX9_rate_48 : decode cX9_rate 48 = .ok (.ireturn, 1) := by decide +kernel
theorem cv_X9_rate : wn_cV yX9_rate cX9_rate 5 (some .int) RX9 2 := ⟨wm_671, wm_904, wm_905, wm_637, by decide +kernel⟩
abbrev rm_X9_rate : Room := rmz 3 63
set_option maxHeartbeats 4000000 in
set_option maxRecDepth 100000 in
theorem c_X9_rate {ad : Nat → Nat} {o : Nat} {x1 : Int32} {x2 : Int32} {M : Mm} {q : Int32 × Mm} (ho : shp o = 9) (hF : f_X9_rate o x1 x2 M = some q) : KI ad yX9_rate cX9_rate 5 (some .int) rm_X9_rate [.ref (ad o), .int x1, .int x2] M q.1 q.2 := by
  refine wn_enterI (own := RX9) (by decide) rfl (Nat.le_of_ble_eq_true rfl) (fun X ls Z hQ hl => ?_)
  have hl : lv_has ls 5 [(0, .ref (ad o)), (1, .int x1), (2, .int x2)] := hl
  unfold f_X9_rate at hF
  refine r_iload_n Z dX9_rate_0 rfl (lv_at hl 2 rfl) ?_
  refine r_iconst (v := 1) Z dX9_rate_1 (by decide) ?_
  refine r_bipush (v := 12) Z dX9_rate_2 (by decide) ?_
  obtain ⟨q1, hq1, hF⟩ := bd_some hF
  refine r_invSi [] Z (c_X9_in hq1) cv_X9_in wm_639 rfl rfl ⟨Nat.le_of_ble_eq_true rfl, Nat.le_of_ble_eq_true rfl⟩ rfl hl.1 rfl (Nat.le_of_ble_eq_true rfl) dX9_rate_4 ?_
  refine r_if_eq Z 17 dX9_rate_7 (by decide) (fun hc2 => ?_) (fun hc2 => ?_)
  · replace hF := if_some hc2 hF
    refine r_iconst (v := (-1)) Z dX9_rate_17 (by decide) ?_
    exact r_iret Z hQ hF dX9_rate_18
  · replace hF := nif_some hc2 hF
    refine r_bipush (v := 12) Z dX9_rate_10 (by decide) ?_
    refine r_iload_n Z dX9_rate_12 rfl (lv_at hl 2 rfl) ?_
    obtain ⟨hd3, hF⟩ := dvI_some hF
    refine r_irem Z dX9_rate_13 hd3 ?_
    refine r_if_eq Z 19 dX9_rate_14 (by decide) (fun hc4 => ?_) (fun hc4 => ?_)
    · replace hF := if_some hc4 hF
      refine r_aload_n Z dX9_rate_19 rfl (lv_at hl 0 rfl) ?_
      refine r_iload_n Z dX9_rate_20 rfl (lv_at hl 1 rfl) ?_
      obtain ⟨q5, hq5, hF⟩ := bd_some hF
      refine r_invVi [] Z (c_X9_askedFor ho hq5) cv_X9_askedFor rfl (shp_lt ho (by decide)) (fun _ _ => ⟨_, ce_9 ho⟩) wm_668 rfl rfl ⟨Nat.le_of_ble_eq_true rfl, Nat.le_of_ble_eq_true rfl⟩ rfl hl.1 rfl (Nat.le_of_ble_eq_true rfl) dX9_rate_21 ?_
      refine r_istore_n Z [(3, .int q5.1), (0, .ref (ad o)), (1, .int x1), (2, .int x2)] dX9_rate_24 rfl hl (by decide) rfl (fun ls hl => ?_)
      refine r_iload_n Z dX9_rate_25 rfl (lv_at hl 0 rfl) ?_
      refine r_if_ge Z 31 dX9_rate_26 (by decide) (fun hc6 => ?_) (fun hc6 => ?_)
      · replace hF := if_some hc6 hF
        refine r_aload_n Z dX9_rate_31 rfl (lv_at hl 1 rfl) ?_
        refine g_9_10 Z ho wm_616 dX9_rate_32 ?_
        refine r_iload_n Z dX9_rate_35 rfl (lv_at hl 2 rfl) ?_
        obtain ⟨hi7, hF⟩ := ck_some hF
        refine r_iaload Z (shp_lt (sh_9_10 ho) (by decide)) (fun _ _ => ce_104 (sh_9_10 ho)) hi7 dX9_rate_36 ?_
        obtain ⟨t8, et8, hF⟩ := nm_some hF
        rw [← et8]
        refine r_istore Z [(4, .int t8), (3, .int q5.1), (0, .ref (ad o)), (1, .int x1), (2, .int x2)] dX9_rate_37 hl (by decide) rfl (fun ls hl => ?_)
        refine r_aload_n Z dX9_rate_39 rfl (lv_at hl 2 rfl) ?_
        refine g_9_10 Z ho wm_616 dX9_rate_40 ?_
        refine r_iload_n Z dX9_rate_43 rfl (lv_at hl 3 rfl) ?_
        refine r_iload_n Z dX9_rate_44 rfl (lv_at hl 4 rfl) ?_
        obtain ⟨hi9, hF⟩ := ck_some hF
        obtain ⟨M10, eM10, hF⟩ := nm_some hF
        refine r_iastore Z (shp_lt (sh_9_10 ho) (by decide)) (fun _ _ => ce_104 (sh_9_10 ho)) hi9 dX9_rate_45 ?_
        rw [← eM10]
        refine r_iload Z dX9_rate_46 (lv_at hl 0 rfl) ?_
        exact r_iret Z hQ hF dX9_rate_48
      · replace hF := nif_some hc6 hF
        refine r_iload_n Z dX9_rate_29 rfl (lv_at hl 0 rfl) ?_
        exact r_iret Z hQ hF dX9_rate_30
    · replace hF := nif_some hc4 hF
      refine r_iconst (v := (-1)) Z dX9_rate_17 (by decide) ?_
      exact r_iret Z hQ hF dX9_rate_18
theorem dX9_room_0 : decode cX9_room 0 = .ok (.iload_n 2, 1) := by decide +kernel
theorem dX9_room_1 : decode cX9_room 1 = .ok (.iconst 1, 1) := by decide +kernel
theorem dX9_room_2 : decode cX9_room 2 = .ok (.bipush 6, 2) := by decide +kernel
theorem dX9_room_4 : decode cX9_room 4 = .ok (.invokestatic 81, 3) := by decide +kernel
theorem dX9_room_7 : decode cX9_room 7 = .ok (.ifCond .ne 5, 3) := by decide +kernel
theorem dX9_room_10 : decode cX9_room 10 = .ok (.iconst (-1), 1) := by decide +kernel
theorem dX9_room_11 : decode cX9_room 11 = .ok (.ireturn, 1) := by decide +kernel
theorem dX9_room_12 : decode cX9_room 12 = .ok (.aload_n 0, 1) := by decide +kernel
theorem dX9_room_13 : decode cX9_room 13 = .ok (.iload_n 1, 1) := by decide +kernel
theorem dX9_room_14 : decode cX9_room 14 = .ok (.invokevirtual 107, 3) := by decide +kernel
theorem dX9_room_17 : decode cX9_room 17 = .ok (.istore_n 3, 1) := by decide +kernel
theorem dX9_room_18 : decode cX9_room 18 = .ok (.iload_n 3, 1) := by decide +kernel
theorem dX9_room_19 : decode cX9_room 19 = .ok (.ifCond .ge 5, 3) := by decide +kernel
theorem dX9_room_22 : decode cX9_room 22 = .ok (.iload_n 3, 1) := by decide +kernel
theorem dX9_room_23 : decode cX9_room 23 = .ok (.ireturn, 1) := by decide +kernel
theorem dX9_room_24 : decode cX9_room 24 = .ok (.aload_n 0, 1) := by decide +kernel
theorem dX9_room_25 : decode cX9_room 25 = .ok (.getfield 30, 3) := by decide +kernel
theorem dX9_room_28 : decode cX9_room 28 = .ok (.iload_n 1, 1) := by decide +kernel
theorem dX9_room_29 : decode cX9_room 29 = .ok (.iaload, 1) := by decide +kernel
theorem dX9_room_30 : decode cX9_room 30 = .ok (.iconst 5, 1) := by decide +kernel
theorem dX9_room_31 : decode cX9_room 31 = .ok (.if_icmp .eq 9, 3) := by decide +kernel
theorem dX9_room_34 : decode cX9_room 34 = .ok (.aload_n 0, 1) := by decide +kernel
theorem dX9_room_35 : decode cX9_room 35 = .ok (.iconst 3, 1) := by decide +kernel
theorem dX9_room_36 : decode cX9_room 36 = .ok (.invokevirtual 89, 3) := by decide +kernel
theorem dX9_room_39 : decode cX9_room 39 = .ok (.ireturn, 1) := by decide +kernel
theorem dX9_room_40 : decode cX9_room 40 = .ok (.aload_n 0, 1) := by decide +kernel
theorem dX9_room_41 : decode cX9_room 41 = .ok (.getfield 39, 3) := by decide +kernel
theorem dX9_room_44 : decode cX9_room 44 = .ok (.iload_n 1, 1) := by decide +kernel
theorem dX9_room_45 : decode cX9_room 45 = .ok (.iaload, 1) := by decide +kernel
theorem dX9_room_46 : decode cX9_room 46 = .ok (.istore 4, 2) := by decide +kernel
theorem dX9_room_48 : decode cX9_room 48 = .ok (.aload_n 0, 1) := by decide +kernel
theorem dX9_room_49 : decode cX9_room 49 = .ok (.getfield 39, 3) := by decide +kernel
theorem dX9_room_52 : decode cX9_room 52 = .ok (.iload_n 1, 1) := by decide +kernel
theorem dX9_room_53 : decode cX9_room 53 = .ok (.iload_n 2, 1) := by decide +kernel
theorem dX9_room_54 : decode cX9_room 54 = .ok (.iastore, 1) := by decide +kernel
theorem dX9_room_55 : decode cX9_room 55 = .ok (.iload 4, 2) := by decide +kernel
theorem dX9_room_57 : decode cX9_room 57 = .ok (.ireturn, 1) := by decide +kernel
theorem cv_X9_room : wn_cV yX9_room cX9_room 5 (some .int) RX9 2 := ⟨wm_673, wm_916, wm_917, wm_637, by decide +kernel⟩
abbrev rm_X9_room : Room := rmz 3 63
set_option maxHeartbeats 4000000 in
set_option maxRecDepth 100000 in
theorem c_X9_room {ad : Nat → Nat} {o : Nat} {x1 : Int32} {x2 : Int32} {M : Mm} {q : Int32 × Mm} (ho : shp o = 9) (hF : f_X9_room o x1 x2 M = some q) : KI ad yX9_room cX9_room 5 (some .int) rm_X9_room [.ref (ad o), .int x1, .int x2] M q.1 q.2 := by
  refine wn_enterI (own := RX9) (by decide) rfl (Nat.le_of_ble_eq_true rfl) (fun X ls Z hQ hl => ?_)
  have hl : lv_has ls 5 [(0, .ref (ad o)), (1, .int x1), (2, .int x2)] := hl
  unfold f_X9_room at hF
  refine r_iload_n Z dX9_room_0 rfl (lv_at hl 2 rfl) ?_
  refine r_iconst (v := 1) Z dX9_room_1 (by decide) ?_
  refine r_bipush (v := 6) Z dX9_room_2 (by decide) ?_
  obtain ⟨q1, hq1, hF⟩ := bd_some hF
  refine r_invSi [] Z (c_X9_in hq1) cv_X9_in wm_639 rfl rfl ⟨Nat.le_of_ble_eq_true rfl, Nat.le_of_ble_eq_true rfl⟩ rfl hl.1 rfl (Nat.le_of_ble_eq_true rfl) dX9_room_4 ?_
  refine r_if_ne Z 12 dX9_room_7 (by decide) (fun hc2 => ?_) (fun hc2 => ?_)
  · replace hF := nif_some hc2 hF
    refine r_aload_n Z dX9_room_12 rfl (lv_at hl 0 rfl) ?_
    refine r_iload_n Z dX9_room_13 rfl (lv_at hl 1 rfl) ?_
    obtain ⟨q3, hq3, hF⟩ := bd_some hF
    refine r_invVi [] Z (c_X9_askedFor ho hq3) cv_X9_askedFor rfl (shp_lt ho (by decide)) (fun _ _ => ⟨_, ce_9 ho⟩) wm_668 rfl rfl ⟨Nat.le_of_ble_eq_true rfl, Nat.le_of_ble_eq_true rfl⟩ rfl hl.1 rfl (Nat.le_of_ble_eq_true rfl) dX9_room_14 ?_
    refine r_istore_n Z [(3, .int q3.1), (0, .ref (ad o)), (1, .int x1), (2, .int x2)] dX9_room_17 rfl hl (by decide) rfl (fun ls hl => ?_)
    refine r_iload_n Z dX9_room_18 rfl (lv_at hl 0 rfl) ?_
    refine r_if_ge Z 24 dX9_room_19 (by decide) (fun hc4 => ?_) (fun hc4 => ?_)
    · replace hF := if_some hc4 hF
      refine r_aload_n Z dX9_room_24 rfl (lv_at hl 1 rfl) ?_
      refine g_9_9 Z ho wm_615 dX9_room_25 ?_
      refine r_iload_n Z dX9_room_28 rfl (lv_at hl 2 rfl) ?_
      obtain ⟨hi5, hF⟩ := ck_some hF
      refine r_iaload Z (shp_lt (sh_9_9 ho) (by decide)) (fun _ _ => ce_104 (sh_9_9 ho)) hi5 dX9_room_29 ?_
      refine r_iconst (v := 5) Z dX9_room_30 (by decide) ?_
      refine r_icmp_eq Z 40 dX9_room_31 (by decide) (fun hc6 => ?_) (fun hc6 => ?_)
      · replace hF := if_some hc6 hF
        refine r_aload_n Z dX9_room_40 rfl (lv_at hl 1 rfl) ?_
        refine g_9_12 Z ho wm_618 dX9_room_41 ?_
        refine r_iload_n Z dX9_room_44 rfl (lv_at hl 2 rfl) ?_
        obtain ⟨hi7, hF⟩ := ck_some hF
        refine r_iaload Z (shp_lt (sh_9_12 ho) (by decide)) (fun _ _ => ce_104 (sh_9_12 ho)) hi7 dX9_room_45 ?_
        obtain ⟨t8, et8, hF⟩ := nm_some hF
        rw [← et8]
        refine r_istore Z [(4, .int t8), (3, .int q3.1), (0, .ref (ad o)), (1, .int x1), (2, .int x2)] dX9_room_46 hl (by decide) rfl (fun ls hl => ?_)
        refine r_aload_n Z dX9_room_48 rfl (lv_at hl 2 rfl) ?_
        refine g_9_12 Z ho wm_618 dX9_room_49 ?_
        refine r_iload_n Z dX9_room_52 rfl (lv_at hl 3 rfl) ?_
        refine r_iload_n Z dX9_room_53 rfl (lv_at hl 4 rfl) ?_
        obtain ⟨hi9, hF⟩ := ck_some hF
        obtain ⟨M10, eM10, hF⟩ := nm_some hF
        refine r_iastore Z (shp_lt (sh_9_12 ho) (by decide)) (fun _ _ => ce_104 (sh_9_12 ho)) hi9 dX9_room_54 ?_
        rw [← eM10]
        refine r_iload Z dX9_room_55 (lv_at hl 0 rfl) ?_
        exact r_iret Z hQ hF dX9_room_57
      · replace hF := nif_some hc6 hF
        refine r_aload_n Z dX9_room_34 rfl (lv_at hl 1 rfl) ?_
        refine r_iconst (v := 3) Z dX9_room_35 (by decide) ?_
        obtain ⟨q11, hq11, hF⟩ := bd_some hF
        refine r_invVi [] Z (c_X9_meets ho hq11) cv_X9_meets rfl (shp_lt ho (by decide)) (fun _ _ => ⟨_, ce_9 ho⟩) wm_644 rfl rfl ⟨Nat.le_of_ble_eq_true rfl, Nat.le_of_ble_eq_true rfl⟩ rfl hl.1 rfl (Nat.le_of_ble_eq_true rfl) dX9_room_36 ?_
        exact r_iret Z hQ hF dX9_room_39
    · replace hF := nif_some hc4 hF
      refine r_iload_n Z dX9_room_22 rfl (lv_at hl 0 rfl) ?_
      exact r_iret Z hQ hF dX9_room_23
  · replace hF := if_some hc2 hF
    refine r_iconst (v := (-1)) Z dX9_room_10 (by decide) ?_
    exact r_iret Z hQ hF dX9_room_11
theorem dX9_roomed_0 : decode cX9_roomed 0 = .ok (.iload_n 2, 1) := by decide +kernel
theorem dX9_roomed_1 : decode cX9_roomed 1 = .ok (.iconst 1, 1) := by decide +kernel
theorem dX9_roomed_2 : decode cX9_roomed 2 = .ok (.bipush 9, 2) := by decide +kernel
theorem dX9_roomed_4 : decode cX9_roomed 4 = .ok (.invokestatic 81, 3) := by decide +kernel
theorem dX9_roomed_7 : decode cX9_roomed 7 = .ok (.ifCond .eq 8, 3) := by decide +kernel
theorem dX9_roomed_10 : decode cX9_roomed 10 = .ok (.iload_n 3, 1) := by decide +kernel
theorem dX9_roomed_11 : decode cX9_roomed 11 = .ok (.iconst (-1), 1) := by decide +kernel
theorem dX9_roomed_12 : decode cX9_roomed 12 = .ok (.if_icmp .ge 5, 3) := by decide +kernel
theorem dX9_roomed_15 : decode cX9_roomed 15 = .ok (.iconst (-1), 1) := by decide +kernel
theorem dX9_roomed_16 : decode cX9_roomed 16 = .ok (.ireturn, 1) := by decide +kernel
theorem dX9_roomed_17 : decode cX9_roomed 17 = .ok (.aload_n 0, 1) := by decide +kernel
theorem dX9_roomed_18 : decode cX9_roomed 18 = .ok (.iload_n 1, 1) := by decide +kernel
theorem dX9_roomed_19 : decode cX9_roomed 19 = .ok (.invokevirtual 107, 3) := by decide +kernel
theorem dX9_roomed_22 : decode cX9_roomed 22 = .ok (.istore 4, 2) := by decide +kernel
theorem dX9_roomed_24 : decode cX9_roomed 24 = .ok (.iload 4, 2) := by decide +kernel
theorem dX9_roomed_26 : decode cX9_roomed 26 = .ok (.ifCond .ge 6, 3) := by decide +kernel
theorem dX9_roomed_29 : decode cX9_roomed 29 = .ok (.iload 4, 2) := by decide +kernel
theorem dX9_roomed_31 : decode cX9_roomed 31 = .ok (.ireturn, 1) := by decide +kernel
theorem dX9_roomed_32 : decode cX9_roomed 32 = .ok (.aload_n 0, 1) := by decide +kernel
theorem dX9_roomed_33 : decode cX9_roomed 33 = .ok (.getfield 30, 3) := by decide +kernel
theorem dX9_roomed_36 : decode cX9_roomed 36 = .ok (.iload_n 1, 1) := by decide +kernel
theorem dX9_roomed_37 : decode cX9_roomed 37 = .ok (.iaload, 1) := by decide +kernel
theorem dX9_roomed_38 : decode cX9_roomed 38 = .ok (.iconst 5, 1) := by decide +kernel
theorem dX9_roomed_39 : decode cX9_roomed 39 = .ok (.if_icmp .eq 9, 3) := by decide +kernel
theorem dX9_roomed_42 : decode cX9_roomed 42 = .ok (.aload_n 0, 1) := by decide +kernel
theorem dX9_roomed_43 : decode cX9_roomed 43 = .ok (.iconst 3, 1) := by decide +kernel
theorem dX9_roomed_44 : decode cX9_roomed 44 = .ok (.invokevirtual 89, 3) := by decide +kernel
theorem dX9_roomed_47 : decode cX9_roomed 47 = .ok (.ireturn, 1) := by decide +kernel
theorem dX9_roomed_48 : decode cX9_roomed 48 = .ok (.aload_n 0, 1) := by decide +kernel
theorem dX9_roomed_49 : decode cX9_roomed 49 = .ok (.getfield 39, 3) := by decide +kernel
theorem dX9_roomed_52 : decode cX9_roomed 52 = .ok (.iload_n 1, 1) := by decide +kernel
theorem dX9_roomed_53 : decode cX9_roomed 53 = .ok (.iaload, 1) := by decide +kernel
theorem dX9_roomed_54 : decode cX9_roomed 54 = .ok (.istore 5, 2) := by decide +kernel
theorem dX9_roomed_56 : decode cX9_roomed 56 = .ok (.iload_n 3, 1) := by decide +kernel
theorem dX9_roomed_57 : decode cX9_roomed 57 = .ok (.iload 5, 2) := by decide +kernel
theorem dX9_roomed_59 : decode cX9_roomed 59 = .ok (.if_icmp .le 5, 3) := by decide +kernel
theorem dX9_roomed_62 : decode cX9_roomed 62 = .ok (.iconst (-1), 1) := by decide +kernel
theorem dX9_roomed_63 : decode cX9_roomed 63 = .ok (.ireturn, 1) := by decide +kernel
theorem dX9_roomed_64 : decode cX9_roomed 64 = .ok (.lconst 0, 1) := by decide +kernel
theorem dX9_roomed_65 : decode cX9_roomed 65 = .ok (.lstore 6, 2) := by decide +kernel
theorem dX9_roomed_67 : decode cX9_roomed 67 = .ok (.iconst 0, 1) := by decide +kernel
theorem dX9_roomed_68 : decode cX9_roomed 68 = .ok (.istore 8, 2) := by decide +kernel
theorem dX9_roomed_70 : decode cX9_roomed 70 = .ok (.iload 8, 2) := by decide +kernel
theorem dX9_roomed_72 : decode cX9_roomed 72 = .ok (.iload 5, 2) := by decide +kernel
theorem dX9_roomed_74 : decode cX9_roomed 74 = .ok (.if_icmp .gt 37, 3) := by decide +kernel
theorem dX9_roomed_77 : decode cX9_roomed 77 = .ok (.lload 6, 2) := by decide +kernel
theorem dX9_roomed_79 : decode cX9_roomed 79 = .ok (.iload_n 2, 1) := by decide +kernel
theorem dX9_roomed_80 : decode cX9_roomed 80 = .ok (.i2l, 1) := by decide +kernel
theorem dX9_roomed_81 : decode cX9_roomed 81 = .ok (.iload 8, 2) := by decide +kernel
theorem dX9_roomed_83 : decode cX9_roomed 83 = .ok (.invokestatic 207, 3) := by decide +kernel
theorem dX9_roomed_86 : decode cX9_roomed 86 = .ok (.aload_n 0, 1) := by decide +kernel
theorem dX9_roomed_87 : decode cX9_roomed 87 = .ok (.getfield 33, 3) := by decide +kernel
theorem dX9_roomed_90 : decode cX9_roomed 90 = .ok (.iload_n 1, 1) := by decide +kernel
theorem dX9_roomed_91 : decode cX9_roomed 91 = .ok (.iaload, 1) := by decide +kernel
theorem dX9_roomed_92 : decode cX9_roomed 92 = .ok (.i2l, 1) := by decide +kernel
theorem dX9_roomed_93 : decode cX9_roomed 93 = .ok (.iload 5, 2) := by decide +kernel
theorem dX9_roomed_95 : decode cX9_roomed 95 = .ok (.iload 8, 2) := by decide +kernel
theorem dX9_roomed_97 : decode cX9_roomed 97 = .ok (.isub, 1) := by decide +kernel
theorem dX9_roomed_98 : decode cX9_roomed 98 = .ok (.invokestatic 207, 3) := by decide +kernel
theorem dX9_roomed_101 : decode cX9_roomed 101 = .ok (.lmul, 1) := by decide +kernel
theorem dX9_roomed_102 : decode cX9_roomed 102 = .ok (.ladd, 1) := by decide +kernel
theorem dX9_roomed_103 : decode cX9_roomed 103 = .ok (.lstore 6, 2) := by decide +kernel
theorem dX9_roomed_105 : decode cX9_roomed 105 = .ok (.iinc 8 1, 3) := by decide +kernel
theorem dX9_roomed_108 : decode cX9_roomed 108 = .ok (.goto (-38), 3) := by decide +kernel
theorem dX9_roomed_111 : decode cX9_roomed 111 = .ok (.iload_n 3, 1) := by decide +kernel
theorem dX9_roomed_112 : decode cX9_roomed 112 = .ok (.ifCond .ge 23, 3) := by decide +kernel
theorem dX9_roomed_115 : decode cX9_roomed 115 = .ok (.aload_n 0, 1) := by decide +kernel
theorem dX9_roomed_116 : decode cX9_roomed 116 = .ok (.iload_n 2, 1) := by decide +kernel
theorem dX9_roomed_117 : decode cX9_roomed 117 = .ok (.i2l, 1) := by decide +kernel
theorem dX9_roomed_118 : decode cX9_roomed 118 = .ok (.iload_n 2, 1) := by decide +kernel
theorem dX9_roomed_119 : decode cX9_roomed 119 = .ok (.i2l, 1) := by decide +kernel
theorem dX9_roomed_120 : decode cX9_roomed 120 = .ok (.iload 5, 2) := by decide +kernel
theorem dX9_roomed_122 : decode cX9_roomed 122 = .ok (.invokestatic 207, 3) := by decide +kernel
theorem dX9_roomed_125 : decode cX9_roomed 125 = .ok (.lmul, 1) := by decide +kernel
theorem dX9_roomed_126 : decode cX9_roomed 126 = .ok (.lload 6, 2) := by decide +kernel
theorem dX9_roomed_128 : decode cX9_roomed 128 = .ok (.iconst 1, 1) := by decide +kernel
theorem dX9_roomed_129 : decode cX9_roomed 129 = .ok (.invokevirtual 149, 3) := by decide +kernel
theorem dX9_roomed_132 : decode cX9_roomed 132 = .ok (.goto 31, 3) := by decide +kernel
theorem dX9_roomed_135 : decode cX9_roomed 135 = .ok (.aload_n 0, 1) := by decide +kernel
theorem dX9_roomed_136 : decode cX9_roomed 136 = .ok (.iload_n 2, 1) := by decide +kernel
theorem dX9_roomed_137 : decode cX9_roomed 137 = .ok (.i2l, 1) := by decide +kernel
theorem dX9_roomed_138 : decode cX9_roomed 138 = .ok (.iload_n 3, 1) := by decide +kernel
theorem dX9_roomed_139 : decode cX9_roomed 139 = .ok (.invokestatic 207, 3) := by decide +kernel
theorem dX9_roomed_142 : decode cX9_roomed 142 = .ok (.aload_n 0, 1) := by decide +kernel
theorem dX9_roomed_143 : decode cX9_roomed 143 = .ok (.getfield 33, 3) := by decide +kernel
theorem dX9_roomed_146 : decode cX9_roomed 146 = .ok (.iload_n 1, 1) := by decide +kernel
theorem dX9_roomed_147 : decode cX9_roomed 147 = .ok (.iaload, 1) := by decide +kernel
theorem dX9_roomed_148 : decode cX9_roomed 148 = .ok (.i2l, 1) := by decide +kernel
theorem dX9_roomed_149 : decode cX9_roomed 149 = .ok (.iload 5, 2) := by decide +kernel
theorem dX9_roomed_151 : decode cX9_roomed 151 = .ok (.iload_n 3, 1) := by decide +kernel
theorem dX9_roomed_152 : decode cX9_roomed 152 = .ok (.isub, 1) := by decide +kernel
theorem dX9_roomed_153 : decode cX9_roomed 153 = .ok (.invokestatic 207, 3) := by decide +kernel
theorem dX9_roomed_156 : decode cX9_roomed 156 = .ok (.lmul, 1) := by decide +kernel
theorem dX9_roomed_157 : decode cX9_roomed 157 = .ok (.lload 6, 2) := by decide +kernel
theorem dX9_roomed_159 : decode cX9_roomed 159 = .ok (.iconst 1, 1) := by decide +kernel
theorem dX9_roomed_160 : decode cX9_roomed 160 = .ok (.invokevirtual 149, 3) := by decide +kernel
theorem dX9_roomed_163 : decode cX9_roomed 163 = .ok (.ireturn, 1) := by decide +kernel
theorem cv_X9_roomed : wn_cV yX9_roomed cX9_roomed 9 (some .int) RX9 3 := ⟨wm_800, wm_1042, wm_1043, wm_637, by decide +kernel⟩
abbrev rm_X9_roomed : Room := rmz 3 63
set_option maxHeartbeats 4000000 in
set_option maxRecDepth 100000 in
theorem c_X9_roomed {ad : Nat → Nat} {o : Nat} {x1 : Int32} {x2 : Int32} {x3 : Int32} {M : Mm} {q : Int32 × Mm} (ho : shp o = 9) (hF : f_X9_roomed o x1 x2 x3 M = some q) : KI ad yX9_roomed cX9_roomed 9 (some .int) rm_X9_roomed [.ref (ad o), .int x1, .int x2, .int x3] M q.1 q.2 := by
  refine wn_enterI (own := RX9) (by decide) rfl (Nat.le_of_ble_eq_true rfl) (fun X ls Z hQ hl => ?_)
  have hl : lv_has ls 9 [(0, .ref (ad o)), (1, .int x1), (2, .int x2), (3, .int x3)] := hl
  have L70 : ∀ (n70 : Nat) (v1 : Int32) (v2 : Int32) (v3 : Int32) (v5 : Int32) (v6 : Int64) (v8 : Int32) (M : Mm) (ls : Array Slot), lv_has ls 9 [(0, .ref (ad o)), (1, .int v1), (2, .int v2), (3, .int v3), (5, .int v5), (6, .long v6), (8, .int v8)] → f_X9_roomed_b70 o n70 v1 v2 v3 v5 v6 v8 M = some q → G ad X M 70 ls [] := by
    intro n70
    induction n70 with
    | zero =>
      intro v1 v2 v3 v5 v6 v8 M ls hl hF
      cases hF
    | succ n70 ih70 =>
      intro v1 v2 v3 v5 v6 v8 M ls hl hF
      replace hF : f_X9_roomed_b70B (f_X9_roomed_b70 o n70) o v1 v2 v3 v5 v6 v8 M = some q := hF
      unfold f_X9_roomed_b70B at hF
      refine r_iload Z dX9_roomed_70 (lv_at hl 6 rfl) ?_
      refine r_iload Z dX9_roomed_72 (lv_at hl 4 rfl) ?_
      refine r_icmp_gt Z 111 dX9_roomed_74 (by decide) (fun hc1 => ?_) (fun hc1 => ?_)
      · replace hF := if_some hc1 hF
        refine r_iload_n Z dX9_roomed_111 rfl (lv_at hl 3 rfl) ?_
        refine r_if_ge Z 135 dX9_roomed_112 (by decide) (fun hc2 => ?_) (fun hc2 => ?_)
        · replace hF := if_some hc2 hF
          refine r_aload_n Z dX9_roomed_135 rfl (lv_at hl 0 rfl) ?_
          refine r_iload_n Z dX9_roomed_136 rfl (lv_at hl 2 rfl) ?_
          refine r_i2l Z dX9_roomed_137 ?_
          refine r_iload_n Z dX9_roomed_138 rfl (lv_at hl 3 rfl) ?_
          obtain ⟨q3, hq3, hF⟩ := bd_some hF
          refine r_invSl [.ref (ad o)] Z (c_X9_power hq3) cv_X9_power wm_798 rfl rfl ⟨Nat.le_of_ble_eq_true rfl, Nat.le_of_ble_eq_true rfl⟩ rfl hl.1 rfl (Nat.le_of_ble_eq_true rfl) dX9_roomed_139 ?_
          refine r_aload_n Z dX9_roomed_142 rfl (lv_at hl 0 rfl) ?_
          refine g_9_10 Z ho wm_616 dX9_roomed_143 ?_
          refine r_iload_n Z dX9_roomed_146 rfl (lv_at hl 1 rfl) ?_
          obtain ⟨hi4, hF⟩ := ck_some hF
          refine r_iaload Z (shp_lt (sh_9_10 ho) (by decide)) (fun _ _ => ce_104 (sh_9_10 ho)) hi4 dX9_roomed_147 ?_
          refine r_i2l Z dX9_roomed_148 ?_
          refine r_iload Z dX9_roomed_149 (lv_at hl 4 rfl) ?_
          refine r_iload_n Z dX9_roomed_151 rfl (lv_at hl 3 rfl) ?_
          refine r_isub Z dX9_roomed_152 ?_
          obtain ⟨q5, hq5, hF⟩ := bd_some hF
          refine r_invSl [.long q3.1, .ref (ad o)] Z (c_X9_power hq5) cv_X9_power wm_798 rfl rfl ⟨Nat.le_of_ble_eq_true rfl, Nat.le_of_ble_eq_true rfl⟩ rfl hl.1 rfl (Nat.le_of_ble_eq_true rfl) dX9_roomed_153 ?_
          refine r_lmul Z dX9_roomed_156 ?_
          refine r_lload Z dX9_roomed_157 (lv_at hl 5 rfl) ?_
          refine r_iconst (v := 1) Z dX9_roomed_159 (by decide) ?_
          obtain ⟨q6, hq6, hF⟩ := bd_some hF
          refine r_invVi [] Z (c_X9_share ho hq6) cv_X9_share rfl (shp_lt ho (by decide)) (fun _ _ => ⟨_, ce_9 ho⟩) wm_719 rfl rfl ⟨Nat.le_of_ble_eq_true rfl, Nat.le_of_ble_eq_true rfl⟩ rfl hl.1 rfl (Nat.le_of_ble_eq_true rfl) dX9_roomed_160 ?_
          exact r_iret Z hQ hF dX9_roomed_163
        · replace hF := nif_some hc2 hF
          refine r_aload_n Z dX9_roomed_115 rfl (lv_at hl 0 rfl) ?_
          refine r_iload_n Z dX9_roomed_116 rfl (lv_at hl 2 rfl) ?_
          refine r_i2l Z dX9_roomed_117 ?_
          refine r_iload_n Z dX9_roomed_118 rfl (lv_at hl 2 rfl) ?_
          refine r_i2l Z dX9_roomed_119 ?_
          refine r_iload Z dX9_roomed_120 (lv_at hl 4 rfl) ?_
          obtain ⟨q7, hq7, hF⟩ := bd_some hF
          refine r_invSl [.long (Int32.toInt64 v2), .ref (ad o)] Z (c_X9_power hq7) cv_X9_power wm_798 rfl rfl ⟨Nat.le_of_ble_eq_true rfl, Nat.le_of_ble_eq_true rfl⟩ rfl hl.1 rfl (Nat.le_of_ble_eq_true rfl) dX9_roomed_122 ?_
          refine r_lmul Z dX9_roomed_125 ?_
          refine r_lload Z dX9_roomed_126 (lv_at hl 5 rfl) ?_
          refine r_iconst (v := 1) Z dX9_roomed_128 (by decide) ?_
          obtain ⟨q8, hq8, hF⟩ := bd_some hF
          refine r_invVi [] Z (c_X9_share ho hq8) cv_X9_share rfl (shp_lt ho (by decide)) (fun _ _ => ⟨_, ce_9 ho⟩) wm_719 rfl rfl ⟨Nat.le_of_ble_eq_true rfl, Nat.le_of_ble_eq_true rfl⟩ rfl hl.1 rfl (Nat.le_of_ble_eq_true rfl) dX9_roomed_129 ?_
          refine r_goto Z 163 dX9_roomed_132 (by decide) ?_
          exact r_iret Z hQ hF dX9_roomed_163
      · replace hF := nif_some hc1 hF
        refine r_lload Z dX9_roomed_77 (lv_at hl 5 rfl) ?_
        refine r_iload_n Z dX9_roomed_79 rfl (lv_at hl 2 rfl) ?_
        refine r_i2l Z dX9_roomed_80 ?_
        refine r_iload Z dX9_roomed_81 (lv_at hl 6 rfl) ?_
        obtain ⟨q9, hq9, hF⟩ := bd_some hF
        refine r_invSl [.long v6] Z (c_X9_power hq9) cv_X9_power wm_798 rfl rfl ⟨Nat.le_of_ble_eq_true rfl, Nat.le_of_ble_eq_true rfl⟩ rfl hl.1 rfl (Nat.le_of_ble_eq_true rfl) dX9_roomed_83 ?_
        refine r_aload_n Z dX9_roomed_86 rfl (lv_at hl 0 rfl) ?_
        refine g_9_10 Z ho wm_616 dX9_roomed_87 ?_
        refine r_iload_n Z dX9_roomed_90 rfl (lv_at hl 1 rfl) ?_
        obtain ⟨hi10, hF⟩ := ck_some hF
        refine r_iaload Z (shp_lt (sh_9_10 ho) (by decide)) (fun _ _ => ce_104 (sh_9_10 ho)) hi10 dX9_roomed_91 ?_
        refine r_i2l Z dX9_roomed_92 ?_
        refine r_iload Z dX9_roomed_93 (lv_at hl 4 rfl) ?_
        refine r_iload Z dX9_roomed_95 (lv_at hl 6 rfl) ?_
        refine r_isub Z dX9_roomed_97 ?_
        obtain ⟨q11, hq11, hF⟩ := bd_some hF
        refine r_invSl [.long q9.1, .long v6] Z (c_X9_power hq11) cv_X9_power wm_798 rfl rfl ⟨Nat.le_of_ble_eq_true rfl, Nat.le_of_ble_eq_true rfl⟩ rfl hl.1 rfl (Nat.le_of_ble_eq_true rfl) dX9_roomed_98 ?_
        refine r_lmul Z dX9_roomed_101 ?_
        refine r_ladd Z dX9_roomed_102 ?_
        obtain ⟨t12, et12, hF⟩ := nm_some hF
        rw [← et12]
        refine r_lstore Z [(6, .long t12), (0, .ref (ad o)), (1, .int v1), (2, .int v2), (3, .int v3), (5, .int v5), (8, .int v8)] dX9_roomed_103 hl (by decide) rfl (fun ls hl => ?_)
        obtain ⟨t13, et13, hF⟩ := nm_some hF
        refine r_iinc (j := 6) Z t13 [(8, .int t13), (6, .long t12), (0, .ref (ad o)), (1, .int v1), (2, .int v2), (3, .int v3), (5, .int v5)] dX9_roomed_105 hl rfl (by rw [et13]; rfl) (by decide) rfl (fun ls hl => ?_)
        refine r_goto Z 70 dX9_roomed_108 (by decide) ?_
        exact ih70 v1 v2 v3 v5 t12 t13 q11.2 ls (lv_sub hl [2, 3, 4, 5, 6, 1, 0] rfl) hF
  unfold f_X9_roomed at hF
  refine r_iload_n Z dX9_roomed_0 rfl (lv_at hl 2 rfl) ?_
  refine r_iconst (v := 1) Z dX9_roomed_1 (by decide) ?_
  refine r_bipush (v := 9) Z dX9_roomed_2 (by decide) ?_
  obtain ⟨q14, hq14, hF⟩ := bd_some hF
  refine r_invSi [] Z (c_X9_in hq14) cv_X9_in wm_639 rfl rfl ⟨Nat.le_of_ble_eq_true rfl, Nat.le_of_ble_eq_true rfl⟩ rfl hl.1 rfl (Nat.le_of_ble_eq_true rfl) dX9_roomed_4 ?_
  refine r_if_eq Z 15 dX9_roomed_7 (by decide) (fun hc15 => ?_) (fun hc15 => ?_)
  · replace hF := if_some hc15 hF
    refine r_iconst (v := (-1)) Z dX9_roomed_15 (by decide) ?_
    exact r_iret Z hQ hF dX9_roomed_16
  · replace hF := nif_some hc15 hF
    refine r_iload_n Z dX9_roomed_10 rfl (lv_at hl 3 rfl) ?_
    refine r_iconst (v := (-1)) Z dX9_roomed_11 (by decide) ?_
    refine r_icmp_ge Z 17 dX9_roomed_12 (by decide) (fun hc16 => ?_) (fun hc16 => ?_)
    · replace hF := if_some hc16 hF
      refine r_aload_n Z dX9_roomed_17 rfl (lv_at hl 0 rfl) ?_
      refine r_iload_n Z dX9_roomed_18 rfl (lv_at hl 1 rfl) ?_
      obtain ⟨q17, hq17, hF⟩ := bd_some hF
      refine r_invVi [] Z (c_X9_askedFor ho hq17) cv_X9_askedFor rfl (shp_lt ho (by decide)) (fun _ _ => ⟨_, ce_9 ho⟩) wm_668 rfl rfl ⟨Nat.le_of_ble_eq_true rfl, Nat.le_of_ble_eq_true rfl⟩ rfl hl.1 rfl (Nat.le_of_ble_eq_true rfl) dX9_roomed_19 ?_
      refine r_istore Z [(4, .int q17.1), (0, .ref (ad o)), (1, .int x1), (2, .int x2), (3, .int x3)] dX9_roomed_22 hl (by decide) rfl (fun ls hl => ?_)
      refine r_iload Z dX9_roomed_24 (lv_at hl 0 rfl) ?_
      refine r_if_ge Z 32 dX9_roomed_26 (by decide) (fun hc18 => ?_) (fun hc18 => ?_)
      · replace hF := if_some hc18 hF
        refine r_aload_n Z dX9_roomed_32 rfl (lv_at hl 1 rfl) ?_
        refine g_9_9 Z ho wm_615 dX9_roomed_33 ?_
        refine r_iload_n Z dX9_roomed_36 rfl (lv_at hl 2 rfl) ?_
        obtain ⟨hi19, hF⟩ := ck_some hF
        refine r_iaload Z (shp_lt (sh_9_9 ho) (by decide)) (fun _ _ => ce_104 (sh_9_9 ho)) hi19 dX9_roomed_37 ?_
        refine r_iconst (v := 5) Z dX9_roomed_38 (by decide) ?_
        refine r_icmp_eq Z 48 dX9_roomed_39 (by decide) (fun hc20 => ?_) (fun hc20 => ?_)
        · replace hF := if_some hc20 hF
          refine r_aload_n Z dX9_roomed_48 rfl (lv_at hl 1 rfl) ?_
          refine g_9_12 Z ho wm_618 dX9_roomed_49 ?_
          refine r_iload_n Z dX9_roomed_52 rfl (lv_at hl 2 rfl) ?_
          obtain ⟨hi21, hF⟩ := ck_some hF
          refine r_iaload Z (shp_lt (sh_9_12 ho) (by decide)) (fun _ _ => ce_104 (sh_9_12 ho)) hi21 dX9_roomed_53 ?_
          obtain ⟨t22, et22, hF⟩ := nm_some hF
          rw [← et22]
          refine r_istore Z [(5, .int t22), (4, .int q17.1), (0, .ref (ad o)), (1, .int x1), (2, .int x2), (3, .int x3)] dX9_roomed_54 hl (by decide) rfl (fun ls hl => ?_)
          refine r_iload_n Z dX9_roomed_56 rfl (lv_at hl 5 rfl) ?_
          refine r_iload Z dX9_roomed_57 (lv_at hl 0 rfl) ?_
          refine r_icmp_le Z 64 dX9_roomed_59 (by decide) (fun hc23 => ?_) (fun hc23 => ?_)
          · replace hF := if_some hc23 hF
            refine r_lconst (v := 0) Z dX9_roomed_64 (by decide) ?_
            refine r_lstore Z [(6, .long 0), (5, .int t22), (4, .int q17.1), (0, .ref (ad o)), (1, .int x1), (2, .int x2), (3, .int x3)] dX9_roomed_65 hl (by decide) rfl (fun ls hl => ?_)
            refine r_iconst (v := 0) Z dX9_roomed_67 (by decide) ?_
            refine r_istore Z [(8, .int 0), (6, .long 0), (5, .int t22), (4, .int q17.1), (0, .ref (ad o)), (1, .int x1), (2, .int x2), (3, .int x3)] dX9_roomed_68 hl (by decide) rfl (fun ls hl => ?_)
            exact L70 _ x1 x2 x3 t22 0 0 q17.2 ls (lv_sub hl [4, 5, 6, 7, 2, 1, 0] rfl) hF
          · replace hF := nif_some hc23 hF
            refine r_iconst (v := (-1)) Z dX9_roomed_62 (by decide) ?_
            exact r_iret Z hQ hF dX9_roomed_63
        · replace hF := nif_some hc20 hF
          refine r_aload_n Z dX9_roomed_42 rfl (lv_at hl 1 rfl) ?_
          refine r_iconst (v := 3) Z dX9_roomed_43 (by decide) ?_
          obtain ⟨q24, hq24, hF⟩ := bd_some hF
          refine r_invVi [] Z (c_X9_meets ho hq24) cv_X9_meets rfl (shp_lt ho (by decide)) (fun _ _ => ⟨_, ce_9 ho⟩) wm_644 rfl rfl ⟨Nat.le_of_ble_eq_true rfl, Nat.le_of_ble_eq_true rfl⟩ rfl hl.1 rfl (Nat.le_of_ble_eq_true rfl) dX9_roomed_44 ?_
          exact r_iret Z hQ hF dX9_roomed_47
      · replace hF := nif_some hc18 hF
        refine r_iload Z dX9_roomed_29 (lv_at hl 0 rfl) ?_
        exact r_iret Z hQ hF dX9_roomed_31
    · replace hF := nif_some hc16 hF
      refine r_iconst (v := (-1)) Z dX9_roomed_15 (by decide) ?_
      exact r_iret Z hQ hF dX9_roomed_16
theorem dX9_round_0 : decode cX9_round 0 = .ok (.iload_n 2, 1) := by decide +kernel
theorem dX9_round_1 : decode cX9_round 1 = .ok (.invokestatic 192, 3) := by decide +kernel
theorem dX9_round_4 : decode cX9_round 4 = .ok (.ifCond .ne 5, 3) := by decide +kernel
theorem dX9_round_7 : decode cX9_round 7 = .ok (.iconst (-1), 1) := by decide +kernel
theorem dX9_round_8 : decode cX9_round 8 = .ok (.ireturn, 1) := by decide +kernel
theorem dX9_round_9 : decode cX9_round 9 = .ok (.aload_n 0, 1) := by decide +kernel
theorem dX9_round_10 : decode cX9_round 10 = .ok (.iload_n 1, 1) := by decide +kernel
theorem dX9_round_11 : decode cX9_round 11 = .ok (.invokevirtual 170, 3) := by decide +kernel
theorem dX9_round_14 : decode cX9_round 14 = .ok (.istore_n 3, 1) := by decide +kernel
theorem dX9_round_15 : decode cX9_round 15 = .ok (.iload_n 3, 1) := by decide +kernel
theorem dX9_round_16 : decode cX9_round 16 = .ok (.ifCond .ge 7, 3) := by decide +kernel
theorem dX9_round_19 : decode cX9_round 19 = .ok (.iload_n 3, 1) := by decide +kernel
theorem dX9_round_20 : decode cX9_round 20 = .ok (.goto 38, 3) := by decide +kernel
theorem dX9_round_23 : decode cX9_round 23 = .ok (.aload_n 0, 1) := by decide +kernel
theorem dX9_round_24 : decode cX9_round 24 = .ok (.iload_n 2, 1) := by decide +kernel
theorem dX9_round_25 : decode cX9_round 25 = .ok (.i2l, 1) := by decide +kernel
theorem dX9_round_26 : decode cX9_round 26 = .ok (.aload_n 0, 1) := by decide +kernel
theorem dX9_round_27 : decode cX9_round 27 = .ok (.iload_n 2, 1) := by decide +kernel
theorem dX9_round_28 : decode cX9_round 28 = .ok (.bipush (-9), 2) := by decide +kernel
theorem dX9_round_30 : decode cX9_round 30 = .ok (.invokevirtual 189, 3) := by decide +kernel
theorem dX9_round_33 : decode cX9_round 33 = .ok (.lmul, 1) := by decide +kernel
theorem dX9_round_34 : decode cX9_round 34 = .ok (.aload_n 0, 1) := by decide +kernel
theorem dX9_round_35 : decode cX9_round 35 = .ok (.getfield 58, 3) := by decide +kernel
theorem dX9_round_38 : decode cX9_round 38 = .ok (.iload_n 1, 1) := by decide +kernel
theorem dX9_round_39 : decode cX9_round 39 = .ok (.laload, 1) := by decide +kernel
theorem dX9_round_40 : decode cX9_round 40 = .ok (.ldc2_w 195, 3) := by decide +kernel
theorem dX9_round_43 : decode cX9_round 43 = .ok (.lmul, 1) := by decide +kernel
theorem dX9_round_44 : decode cX9_round 44 = .ok (.aload_n 0, 1) := by decide +kernel
theorem dX9_round_45 : decode cX9_round 45 = .ok (.iload_n 2, 1) := by decide +kernel
theorem dX9_round_46 : decode cX9_round 46 = .ok (.iconst 1, 1) := by decide +kernel
theorem dX9_round_47 : decode cX9_round 47 = .ok (.isub, 1) := by decide +kernel
theorem dX9_round_48 : decode cX9_round 48 = .ok (.bipush (-9), 2) := by decide +kernel
theorem dX9_round_50 : decode cX9_round 50 = .ok (.invokevirtual 189, 3) := by decide +kernel
theorem dX9_round_53 : decode cX9_round 53 = .ok (.lmul, 1) := by decide +kernel
theorem dX9_round_54 : decode cX9_round 54 = .ok (.iconst 1, 1) := by decide +kernel
theorem dX9_round_55 : decode cX9_round 55 = .ok (.invokevirtual 149, 3) := by decide +kernel
theorem dX9_round_58 : decode cX9_round 58 = .ok (.ireturn, 1) := by decide +kernel
theorem cv_X9_round : wn_cV yX9_round cX9_round 4 (some .int) RX9 2 := ⟨wm_780, wm_1006, wm_1007, wm_637, by decide +kernel⟩
abbrev rm_X9_round : Room := rmz 4 100
set_option maxHeartbeats 4000000 in
set_option maxRecDepth 100000 in
theorem c_X9_round {ad : Nat → Nat} {o : Nat} {x1 : Int32} {x2 : Int32} {M : Mm} {q : Int32 × Mm} (ho : shp o = 9) (hF : f_X9_round o x1 x2 M = some q) : KI ad yX9_round cX9_round 4 (some .int) rm_X9_round [.ref (ad o), .int x1, .int x2] M q.1 q.2 := by
  refine wn_enterI (own := RX9) (by decide) rfl (Nat.le_of_ble_eq_true rfl) (fun X ls Z hQ hl => ?_)
  have hl : lv_has ls 4 [(0, .ref (ad o)), (1, .int x1), (2, .int x2)] := hl
  unfold f_X9_round at hF
  refine r_iload_n Z dX9_round_0 rfl (lv_at hl 2 rfl) ?_
  obtain ⟨q1, hq1, hF⟩ := bd_some hF
  refine r_invSi [] Z (c_X9_isMany hq1) cv_X9_isMany wm_776 rfl rfl ⟨Nat.le_of_ble_eq_true rfl, Nat.le_of_ble_eq_true rfl⟩ rfl hl.1 rfl (Nat.le_of_ble_eq_true rfl) dX9_round_1 ?_
  refine r_if_ne Z 9 dX9_round_4 (by decide) (fun hc2 => ?_) (fun hc2 => ?_)
  · replace hF := nif_some hc2 hF
    refine r_aload_n Z dX9_round_9 rfl (lv_at hl 0 rfl) ?_
    refine r_iload_n Z dX9_round_10 rfl (lv_at hl 1 rfl) ?_
    obtain ⟨q3, hq3, hF⟩ := bd_some hF
    refine r_invVi [] Z (c_X9_askedClosed ho hq3) cv_X9_askedClosed rfl (shp_lt ho (by decide)) (fun _ _ => ⟨_, ce_9 ho⟩) wm_748 rfl rfl ⟨Nat.le_of_ble_eq_true rfl, Nat.le_of_ble_eq_true rfl⟩ rfl hl.1 rfl (Nat.le_of_ble_eq_true rfl) dX9_round_11 ?_
    refine r_istore_n Z [(3, .int q3.1), (0, .ref (ad o)), (1, .int x1), (2, .int x2)] dX9_round_14 rfl hl (by decide) rfl (fun ls hl => ?_)
    refine r_iload_n Z dX9_round_15 rfl (lv_at hl 0 rfl) ?_
    refine r_if_ge Z 23 dX9_round_16 (by decide) (fun hc4 => ?_) (fun hc4 => ?_)
    · replace hF := if_some hc4 hF
      refine r_aload_n Z dX9_round_23 rfl (lv_at hl 1 rfl) ?_
      refine r_iload_n Z dX9_round_24 rfl (lv_at hl 3 rfl) ?_
      refine r_i2l Z dX9_round_25 ?_
      refine r_aload_n Z dX9_round_26 rfl (lv_at hl 1 rfl) ?_
      refine r_iload_n Z dX9_round_27 rfl (lv_at hl 3 rfl) ?_
      refine r_bipush (v := (-9)) Z dX9_round_28 (by decide) ?_
      obtain ⟨q5, hq5, hF⟩ := bd_some hF
      refine r_invVl [.long (Int32.toInt64 x2), .ref (ad o)] Z (c_X9_sumOf ho hq5) cv_X9_sumOf rfl (shp_lt ho (by decide)) (fun _ _ => ⟨_, ce_9 ho⟩) wm_770 rfl rfl ⟨Nat.le_of_ble_eq_true rfl, Nat.le_of_ble_eq_true rfl⟩ rfl hl.1 rfl (Nat.le_of_ble_eq_true rfl) dX9_round_30 ?_
      refine r_lmul Z dX9_round_33 ?_
      refine r_aload_n Z dX9_round_34 rfl (lv_at hl 1 rfl) ?_
      refine g_9_20 Z ho wm_624 dX9_round_35 ?_
      refine r_iload_n Z dX9_round_38 rfl (lv_at hl 2 rfl) ?_
      obtain ⟨hi6, hF⟩ := ck_some hF
      refine r_laload Z (shp_lt (sh_9_20 ho) (by decide)) (fun _ _ => ce_1004 (sh_9_20 ho)) hi6 dX9_round_39 ?_
      refine r_ldc2 Z wm_775 dX9_round_40 ?_
      refine r_lmul Z dX9_round_43 ?_
      refine r_aload_n Z dX9_round_44 rfl (lv_at hl 1 rfl) ?_
      refine r_iload_n Z dX9_round_45 rfl (lv_at hl 3 rfl) ?_
      refine r_iconst (v := 1) Z dX9_round_46 (by decide) ?_
      refine r_isub Z dX9_round_47 ?_
      refine r_bipush (v := (-9)) Z dX9_round_48 (by decide) ?_
      obtain ⟨q7, hq7, hF⟩ := bd_some hF
      refine r_invVl [.long ((mJ q5.2 (fld o 20) (Int32.toNatClampNeg x1)) * 12), .long ((Int32.toInt64 x2) * q5.1), .ref (ad o)] Z (c_X9_sumOf ho hq7) cv_X9_sumOf rfl (shp_lt ho (by decide)) (fun _ _ => ⟨_, ce_9 ho⟩) wm_770 rfl rfl ⟨Nat.le_of_ble_eq_true rfl, Nat.le_of_ble_eq_true rfl⟩ rfl hl.1 rfl (Nat.le_of_ble_eq_true rfl) dX9_round_50 ?_
      refine r_lmul Z dX9_round_53 ?_
      refine r_iconst (v := 1) Z dX9_round_54 (by decide) ?_
      obtain ⟨q8, hq8, hF⟩ := bd_some hF
      refine r_invVi [] Z (c_X9_share ho hq8) cv_X9_share rfl (shp_lt ho (by decide)) (fun _ _ => ⟨_, ce_9 ho⟩) wm_719 rfl rfl ⟨Nat.le_of_ble_eq_true rfl, Nat.le_of_ble_eq_true rfl⟩ rfl hl.1 rfl (Nat.le_of_ble_eq_true rfl) dX9_round_55 ?_
      exact r_iret Z hQ hF dX9_round_58
    · replace hF := nif_some hc4 hF
      refine r_iload_n Z dX9_round_19 rfl (lv_at hl 0 rfl) ?_
      refine r_goto Z 58 dX9_round_20 (by decide) ?_
      exact r_iret Z hQ hF dX9_round_58
  · replace hF := if_some hc2 hF
    refine r_iconst (v := (-1)) Z dX9_round_7 (by decide) ?_
    exact r_iret Z hQ hF dX9_round_8
theorem dX9_row_0 : decode cX9_row 0 = .ok (.iload_n 1, 1) := by decide +kernel
theorem dX9_row_1 : decode cX9_row 1 = .ok (.invokestatic 85, 3) := by decide +kernel
theorem dX9_row_4 : decode cX9_row 4 = .ok (.ifCond .eq 9, 3) := by decide +kernel
theorem dX9_row_7 : decode cX9_row 7 = .ok (.iload_n 2, 1) := by decide +kernel
theorem dX9_row_8 : decode cX9_row 8 = .ok (.bipush 40, 2) := by decide +kernel
theorem dX9_row_10 : decode cX9_row 10 = .ok (.if_icmp .le 5, 3) := by decide +kernel
theorem dX9_row_13 : decode cX9_row 13 = .ok (.iconst (-1), 1) := by decide +kernel
theorem dX9_row_14 : decode cX9_row 14 = .ok (.ireturn, 1) := by decide +kernel
theorem dX9_row_15 : decode cX9_row 15 = .ok (.iload_n 2, 1) := by decide +kernel
theorem dX9_row_16 : decode cX9_row 16 = .ok (.ifCond .ge 9, 3) := by decide +kernel
theorem dX9_row_19 : decode cX9_row 19 = .ok (.aload_n 0, 1) := by decide +kernel
theorem dX9_row_20 : decode cX9_row 20 = .ok (.iconst 5, 1) := by decide +kernel
theorem dX9_row_21 : decode cX9_row 21 = .ok (.invokevirtual 89, 3) := by decide +kernel
theorem dX9_row_24 : decode cX9_row 24 = .ok (.ireturn, 1) := by decide +kernel
theorem dX9_row_25 : decode cX9_row 25 = .ok (.aload_n 0, 1) := by decide +kernel
theorem dX9_row_26 : decode cX9_row 26 = .ok (.getfield 17, 3) := by decide +kernel
theorem dX9_row_29 : decode cX9_row 29 = .ok (.iload_n 1, 1) := by decide +kernel
theorem dX9_row_30 : decode cX9_row 30 = .ok (.iload_n 2, 1) := by decide +kernel
theorem dX9_row_31 : decode cX9_row 31 = .ok (.iastore, 1) := by decide +kernel
theorem dX9_row_32 : decode cX9_row 32 = .ok (.iconst 0, 1) := by decide +kernel
theorem dX9_row_33 : decode cX9_row 33 = .ok (.istore_n 3, 1) := by decide +kernel
theorem dX9_row_34 : decode cX9_row 34 = .ok (.iload_n 3, 1) := by decide +kernel
theorem dX9_row_35 : decode cX9_row 35 = .ok (.bipush 40, 2) := by decide +kernel
theorem dX9_row_37 : decode cX9_row 37 = .ok (.if_icmp .ge 21, 3) := by decide +kernel
theorem dX9_row_40 : decode cX9_row 40 = .ok (.aload_n 0, 1) := by decide +kernel
theorem dX9_row_41 : decode cX9_row 41 = .ok (.getfield 20, 3) := by decide +kernel
theorem dX9_row_44 : decode cX9_row 44 = .ok (.bipush 40, 2) := by decide +kernel
theorem dX9_row_46 : decode cX9_row 46 = .ok (.iload_n 1, 1) := by decide +kernel
theorem dX9_row_47 : decode cX9_row 47 = .ok (.imul, 1) := by decide +kernel
theorem dX9_row_48 : decode cX9_row 48 = .ok (.iload_n 3, 1) := by decide +kernel
theorem dX9_row_49 : decode cX9_row 49 = .ok (.iadd, 1) := by decide +kernel
theorem dX9_row_50 : decode cX9_row 50 = .ok (.iconst 0, 1) := by decide +kernel
theorem dX9_row_51 : decode cX9_row 51 = .ok (.iastore, 1) := by decide +kernel
theorem dX9_row_52 : decode cX9_row 52 = .ok (.iinc 3 1, 3) := by decide +kernel
theorem dX9_row_55 : decode cX9_row 55 = .ok (.goto (-21), 3) := by decide +kernel
theorem dX9_row_58 : decode cX9_row 58 = .ok (.iload_n 2, 1) := by decide +kernel
theorem dX9_row_59 : decode cX9_row 59 = .ok (.ireturn, 1) := by decide +kernel
theorem cv_X9_row : wn_cV yX9_row cX9_row 4 (some .int) RX9 2 := ⟨wm_647, wm_862, wm_863, wm_637, by decide +kernel⟩
abbrev rm_X9_row : Room := rmz 2 42
set_option maxHeartbeats 4000000 in
set_option maxRecDepth 100000 in
theorem c_X9_row {ad : Nat → Nat} {o : Nat} {x1 : Int32} {x2 : Int32} {M : Mm} {q : Int32 × Mm} (ho : shp o = 9) (hF : f_X9_row o x1 x2 M = some q) : KI ad yX9_row cX9_row 4 (some .int) rm_X9_row [.ref (ad o), .int x1, .int x2] M q.1 q.2 := by
  refine wn_enterI (own := RX9) (by decide) rfl (Nat.le_of_ble_eq_true rfl) (fun X ls Z hQ hl => ?_)
  have hl : lv_has ls 4 [(0, .ref (ad o)), (1, .int x1), (2, .int x2)] := hl
  have L34 : ∀ (n34 : Nat) (v1 : Int32) (v2 : Int32) (v3 : Int32) (M : Mm) (ls : Array Slot), lv_has ls 4 [(0, .ref (ad o)), (1, .int v1), (2, .int v2), (3, .int v3)] → f_X9_row_b34 o n34 v1 v2 v3 M = some q → G ad X M 34 ls [] := by
    intro n34
    induction n34 with
    | zero =>
      intro v1 v2 v3 M ls hl hF
      cases hF
    | succ n34 ih34 =>
      intro v1 v2 v3 M ls hl hF
      replace hF : f_X9_row_b34B (f_X9_row_b34 o n34) o v1 v2 v3 M = some q := hF
      unfold f_X9_row_b34B at hF
      refine r_iload_n Z dX9_row_34 rfl (lv_at hl 3 rfl) ?_
      refine r_bipush (v := 40) Z dX9_row_35 (by decide) ?_
      refine r_icmp_ge Z 58 dX9_row_37 (by decide) (fun hc1 => ?_) (fun hc1 => ?_)
      · replace hF := if_some hc1 hF
        refine r_iload_n Z dX9_row_58 rfl (lv_at hl 2 rfl) ?_
        exact r_iret Z hQ hF dX9_row_59
      · replace hF := nif_some hc1 hF
        refine r_aload_n Z dX9_row_40 rfl (lv_at hl 0 rfl) ?_
        refine g_9_6 Z ho wm_611 dX9_row_41 ?_
        refine r_bipush (v := 40) Z dX9_row_44 (by decide) ?_
        refine r_iload_n Z dX9_row_46 rfl (lv_at hl 1 rfl) ?_
        refine r_imul Z dX9_row_47 ?_
        refine r_iload_n Z dX9_row_48 rfl (lv_at hl 3 rfl) ?_
        refine r_iadd Z dX9_row_49 ?_
        refine r_iconst (v := 0) Z dX9_row_50 (by decide) ?_
        obtain ⟨hi2, hF⟩ := ck_some hF
        obtain ⟨M3, eM3, hF⟩ := nm_some hF
        refine r_iastore Z (shp_lt (sh_9_6 ho) (by decide)) (fun _ _ => ce_340 (sh_9_6 ho)) hi2 dX9_row_51 ?_
        rw [← eM3]
        obtain ⟨t4, et4, hF⟩ := nm_some hF
        refine r_iinc (j := 3) Z t4 [(3, .int t4), (0, .ref (ad o)), (1, .int v1), (2, .int v2)] dX9_row_52 hl rfl (by rw [et4]; rfl) (by decide) rfl (fun ls hl => ?_)
        refine r_goto Z 34 dX9_row_55 (by decide) ?_
        exact ih34 v1 v2 t4 M3 ls (lv_sub hl [1, 2, 3, 0] rfl) hF
  unfold f_X9_row at hF
  refine r_iload_n Z dX9_row_0 rfl (lv_at hl 1 rfl) ?_
  obtain ⟨q5, hq5, hF⟩ := bd_some hF
  refine r_invSi [] Z (c_X9_isRow hq5) cv_X9_isRow wm_642 rfl rfl ⟨Nat.le_of_ble_eq_true rfl, Nat.le_of_ble_eq_true rfl⟩ rfl hl.1 rfl (Nat.le_of_ble_eq_true rfl) dX9_row_1 ?_
  refine r_if_eq Z 13 dX9_row_4 (by decide) (fun hc6 => ?_) (fun hc6 => ?_)
  · replace hF := if_some hc6 hF
    refine r_iconst (v := (-1)) Z dX9_row_13 (by decide) ?_
    exact r_iret Z hQ hF dX9_row_14
  · replace hF := nif_some hc6 hF
    refine r_iload_n Z dX9_row_7 rfl (lv_at hl 2 rfl) ?_
    refine r_bipush (v := 40) Z dX9_row_8 (by decide) ?_
    refine r_icmp_le Z 15 dX9_row_10 (by decide) (fun hc7 => ?_) (fun hc7 => ?_)
    · replace hF := if_some hc7 hF
      refine r_iload_n Z dX9_row_15 rfl (lv_at hl 2 rfl) ?_
      refine r_if_ge Z 25 dX9_row_16 (by decide) (fun hc8 => ?_) (fun hc8 => ?_)
      · replace hF := if_some hc8 hF
        refine r_aload_n Z dX9_row_25 rfl (lv_at hl 0 rfl) ?_
        refine g_9_5 Z ho wm_610 dX9_row_26 ?_
        refine r_iload_n Z dX9_row_29 rfl (lv_at hl 1 rfl) ?_
        refine r_iload_n Z dX9_row_30 rfl (lv_at hl 2 rfl) ?_
        obtain ⟨hi9, hF⟩ := ck_some hF
        obtain ⟨M10, eM10, hF⟩ := nm_some hF
        refine r_iastore Z (shp_lt (sh_9_5 ho) (by decide)) (fun _ _ => ce_106 (sh_9_5 ho)) hi9 dX9_row_31 ?_
        rw [← eM10]
        refine r_iconst (v := 0) Z dX9_row_32 (by decide) ?_
        refine r_istore_n Z [(3, .int 0), (0, .ref (ad o)), (1, .int x1), (2, .int x2)] dX9_row_33 rfl hl (by decide) rfl (fun ls hl => ?_)
        exact L34 _ x1 x2 0 M10 ls (lv_sub hl [1, 2, 3, 0] rfl) hF
      · replace hF := nif_some hc8 hF
        refine r_aload_n Z dX9_row_19 rfl (lv_at hl 0 rfl) ?_
        refine r_iconst (v := 5) Z dX9_row_20 (by decide) ?_
        obtain ⟨q11, hq11, hF⟩ := bd_some hF
        refine r_invVi [] Z (c_X9_meets ho hq11) cv_X9_meets rfl (shp_lt ho (by decide)) (fun _ _ => ⟨_, ce_9 ho⟩) wm_644 rfl rfl ⟨Nat.le_of_ble_eq_true rfl, Nat.le_of_ble_eq_true rfl⟩ rfl hl.1 rfl (Nat.le_of_ble_eq_true rfl) dX9_row_21 ?_
        exact r_iret Z hQ hF dX9_row_24
    · replace hF := nif_some hc7 hF
      refine r_iconst (v := (-1)) Z dX9_row_13 (by decide) ?_
      exact r_iret Z hQ hF dX9_row_14
theorem dX9_seen_0 : decode cX9_seen 0 = .ok (.aload_n 0, 1) := by decide +kernel
theorem dX9_seen_1 : decode cX9_seen 1 = .ok (.iload_n 1, 1) := by decide +kernel
theorem dX9_seen_2 : decode cX9_seen 2 = .ok (.iload_n 2, 1) := by decide +kernel
theorem dX9_seen_3 : decode cX9_seen 3 = .ok (.iload_n 3, 1) := by decide +kernel
theorem dX9_seen_4 : decode cX9_seen 4 = .ok (.invokevirtual 234, 3) := by decide +kernel
theorem dX9_seen_7 : decode cX9_seen 7 = .ok (.istore 4, 2) := by decide +kernel
theorem dX9_seen_9 : decode cX9_seen 9 = .ok (.iload 4, 2) := by decide +kernel
theorem dX9_seen_11 : decode cX9_seen 11 = .ok (.ifCond .ge 6, 3) := by decide +kernel
theorem dX9_seen_14 : decode cX9_seen 14 = .ok (.iload 4, 2) := by decide +kernel
theorem dX9_seen_16 : decode cX9_seen 16 = .ok (.ireturn, 1) := by decide +kernel
theorem dX9_seen_17 : decode cX9_seen 17 = .ok (.lconst 0, 1) := by decide +kernel
theorem dX9_seen_18 : decode cX9_seen 18 = .ok (.lstore 5, 2) := by decide +kernel
theorem dX9_seen_20 : decode cX9_seen 20 = .ok (.iconst 0, 1) := by decide +kernel
theorem dX9_seen_21 : decode cX9_seen 21 = .ok (.istore 7, 2) := by decide +kernel
theorem dX9_seen_23 : decode cX9_seen 23 = .ok (.iload 7, 2) := by decide +kernel
theorem dX9_seen_25 : decode cX9_seen 25 = .ok (.iload 4, 2) := by decide +kernel
theorem dX9_seen_27 : decode cX9_seen 27 = .ok (.if_icmp .ge 22, 3) := by decide +kernel
theorem dX9_seen_30 : decode cX9_seen 30 = .ok (.lload 5, 2) := by decide +kernel
theorem dX9_seen_32 : decode cX9_seen 32 = .ok (.aload_n 0, 1) := by decide +kernel
theorem dX9_seen_33 : decode cX9_seen 33 = .ok (.getfield 64, 3) := by decide +kernel
theorem dX9_seen_36 : decode cX9_seen 36 = .ok (.iload 7, 2) := by decide +kernel
theorem dX9_seen_38 : decode cX9_seen 38 = .ok (.iaload, 1) := by decide +kernel
theorem dX9_seen_39 : decode cX9_seen 39 = .ok (.i2l, 1) := by decide +kernel
theorem dX9_seen_40 : decode cX9_seen 40 = .ok (.ladd, 1) := by decide +kernel
theorem dX9_seen_41 : decode cX9_seen 41 = .ok (.lstore 5, 2) := by decide +kernel
theorem dX9_seen_43 : decode cX9_seen 43 = .ok (.iinc 7 1, 3) := by decide +kernel
theorem dX9_seen_46 : decode cX9_seen 46 = .ok (.goto (-23), 3) := by decide +kernel
theorem dX9_seen_49 : decode cX9_seen 49 = .ok (.iload 4, 2) := by decide +kernel
theorem dX9_seen_51 : decode cX9_seen 51 = .ok (.ifCond .ne 11, 3) := by decide +kernel
theorem dX9_seen_54 : decode cX9_seen 54 = .ok (.aload_n 0, 1) := by decide +kernel
theorem dX9_seen_55 : decode cX9_seen 55 = .ok (.iconst 4, 1) := by decide +kernel
theorem dX9_seen_56 : decode cX9_seen 56 = .ok (.invokevirtual 89, 3) := by decide +kernel
theorem dX9_seen_59 : decode cX9_seen 59 = .ok (.goto 14, 3) := by decide +kernel
theorem dX9_seen_62 : decode cX9_seen 62 = .ok (.aload_n 0, 1) := by decide +kernel
theorem dX9_seen_63 : decode cX9_seen 63 = .ok (.lload 5, 2) := by decide +kernel
theorem dX9_seen_65 : decode cX9_seen 65 = .ok (.iload 4, 2) := by decide +kernel
theorem dX9_seen_67 : decode cX9_seen 67 = .ok (.i2l, 1) := by decide +kernel
theorem dX9_seen_68 : decode cX9_seen 68 = .ok (.iload 4, 2) := by decide +kernel
theorem dX9_seen_70 : decode cX9_seen 70 = .ok (.invokevirtual 149, 3) := by decide +kernel
theorem dX9_seen_73 : decode cX9_seen 73 = .ok (.ireturn, 1) := by decide +kernel
theorem cv_X9_seen : wn_cV yX9_seen cX9_seen 8 (some .int) RX9 3 := ⟨wm_832, wm_1072, wm_1073, wm_637, by decide +kernel⟩
abbrev rm_X9_seen : Room := rmz 3 75
set_option maxHeartbeats 4000000 in
set_option maxRecDepth 100000 in
theorem c_X9_seen {ad : Nat → Nat} {o : Nat} {x1 : Int32} {x2 : Int32} {x3 : Int32} {M : Mm} {q : Int32 × Mm} (ho : shp o = 9) (hF : f_X9_seen o x1 x2 x3 M = some q) : KI ad yX9_seen cX9_seen 8 (some .int) rm_X9_seen [.ref (ad o), .int x1, .int x2, .int x3] M q.1 q.2 := by
  refine wn_enterI (own := RX9) (by decide) rfl (Nat.le_of_ble_eq_true rfl) (fun X ls Z hQ hl => ?_)
  have hl : lv_has ls 8 [(0, .ref (ad o)), (1, .int x1), (2, .int x2), (3, .int x3)] := hl
  have L23 : ∀ (n23 : Nat) (v4 : Int32) (v5 : Int64) (v7 : Int32) (M : Mm) (ls : Array Slot), lv_has ls 8 [(0, .ref (ad o)), (4, .int v4), (5, .long v5), (7, .int v7)] → f_X9_seen_b23 o n23 v4 v5 v7 M = some q → G ad X M 23 ls [] := by
    intro n23
    induction n23 with
    | zero =>
      intro v4 v5 v7 M ls hl hF
      cases hF
    | succ n23 ih23 =>
      intro v4 v5 v7 M ls hl hF
      replace hF : f_X9_seen_b23B (f_X9_seen_b23 o n23) o v4 v5 v7 M = some q := hF
      unfold f_X9_seen_b23B at hF
      refine r_iload Z dX9_seen_23 (lv_at hl 3 rfl) ?_
      refine r_iload Z dX9_seen_25 (lv_at hl 1 rfl) ?_
      refine r_icmp_ge Z 49 dX9_seen_27 (by decide) (fun hc1 => ?_) (fun hc1 => ?_)
      · replace hF := if_some hc1 hF
        refine r_iload Z dX9_seen_49 (lv_at hl 1 rfl) ?_
        refine r_if_ne Z 62 dX9_seen_51 (by decide) (fun hc2 => ?_) (fun hc2 => ?_)
        · replace hF := nif_some hc2 hF
          refine r_aload_n Z dX9_seen_62 rfl (lv_at hl 0 rfl) ?_
          refine r_lload Z dX9_seen_63 (lv_at hl 2 rfl) ?_
          refine r_iload Z dX9_seen_65 (lv_at hl 1 rfl) ?_
          refine r_i2l Z dX9_seen_67 ?_
          refine r_iload Z dX9_seen_68 (lv_at hl 1 rfl) ?_
          obtain ⟨q3, hq3, hF⟩ := bd_some hF
          refine r_invVi [] Z (c_X9_share ho hq3) cv_X9_share rfl (shp_lt ho (by decide)) (fun _ _ => ⟨_, ce_9 ho⟩) wm_719 rfl rfl ⟨Nat.le_of_ble_eq_true rfl, Nat.le_of_ble_eq_true rfl⟩ rfl hl.1 rfl (Nat.le_of_ble_eq_true rfl) dX9_seen_70 ?_
          exact r_iret Z hQ hF dX9_seen_73
        · replace hF := if_some hc2 hF
          refine r_aload_n Z dX9_seen_54 rfl (lv_at hl 0 rfl) ?_
          refine r_iconst (v := 4) Z dX9_seen_55 (by decide) ?_
          obtain ⟨q4, hq4, hF⟩ := bd_some hF
          refine r_invVi [] Z (c_X9_meets ho hq4) cv_X9_meets rfl (shp_lt ho (by decide)) (fun _ _ => ⟨_, ce_9 ho⟩) wm_644 rfl rfl ⟨Nat.le_of_ble_eq_true rfl, Nat.le_of_ble_eq_true rfl⟩ rfl hl.1 rfl (Nat.le_of_ble_eq_true rfl) dX9_seen_56 ?_
          refine r_goto Z 73 dX9_seen_59 (by decide) ?_
          exact r_iret Z hQ hF dX9_seen_73
      · replace hF := nif_some hc1 hF
        refine r_lload Z dX9_seen_30 (lv_at hl 2 rfl) ?_
        refine r_aload_n Z dX9_seen_32 rfl (lv_at hl 0 rfl) ?_
        refine g_9_24 Z ho wm_626 dX9_seen_33 ?_
        refine r_iload Z dX9_seen_36 (lv_at hl 3 rfl) ?_
        obtain ⟨hi5, hF⟩ := ck_some hF
        refine r_iaload Z (shp_lt (sh_9_24 ho) (by decide)) (fun _ _ => ce_140 (sh_9_24 ho)) hi5 dX9_seen_38 ?_
        refine r_i2l Z dX9_seen_39 ?_
        refine r_ladd Z dX9_seen_40 ?_
        obtain ⟨t6, et6, hF⟩ := nm_some hF
        rw [← et6]
        refine r_lstore Z [(5, .long t6), (0, .ref (ad o)), (4, .int v4), (7, .int v7)] dX9_seen_41 hl (by decide) rfl (fun ls hl => ?_)
        obtain ⟨t7, et7, hF⟩ := nm_some hF
        refine r_iinc (j := 3) Z t7 [(7, .int t7), (5, .long t6), (0, .ref (ad o)), (4, .int v4)] dX9_seen_43 hl rfl (by rw [et7]; rfl) (by decide) rfl (fun ls hl => ?_)
        refine r_goto Z 23 dX9_seen_46 (by decide) ?_
        exact ih23 v4 t6 t7 M ls (lv_sub hl [2, 3, 1, 0] rfl) hF
  unfold f_X9_seen at hF
  refine r_aload_n Z dX9_seen_0 rfl (lv_at hl 0 rfl) ?_
  refine r_iload_n Z dX9_seen_1 rfl (lv_at hl 1 rfl) ?_
  refine r_iload_n Z dX9_seen_2 rfl (lv_at hl 2 rfl) ?_
  refine r_iload_n Z dX9_seen_3 rfl (lv_at hl 3 rfl) ?_
  obtain ⟨q8, hq8, hF⟩ := bd_some hF
  refine r_invVi [] Z (c_X9_askedRun ho hq8) cv_X9_askedRun rfl (shp_lt ho (by decide)) (fun _ _ => ⟨_, ce_9 ho⟩) wm_828 rfl rfl ⟨Nat.le_of_ble_eq_true rfl, Nat.le_of_ble_eq_true rfl⟩ rfl hl.1 rfl (Nat.le_of_ble_eq_true rfl) dX9_seen_4 ?_
  refine r_istore Z [(4, .int q8.1), (0, .ref (ad o)), (1, .int x1), (2, .int x2), (3, .int x3)] dX9_seen_7 hl (by decide) rfl (fun ls hl => ?_)
  refine r_iload Z dX9_seen_9 (lv_at hl 0 rfl) ?_
  refine r_if_ge Z 17 dX9_seen_11 (by decide) (fun hc9 => ?_) (fun hc9 => ?_)
  · replace hF := if_some hc9 hF
    refine r_lconst (v := 0) Z dX9_seen_17 (by decide) ?_
    refine r_lstore Z [(5, .long 0), (4, .int q8.1), (0, .ref (ad o)), (1, .int x1), (2, .int x2), (3, .int x3)] dX9_seen_18 hl (by decide) rfl (fun ls hl => ?_)
    refine r_iconst (v := 0) Z dX9_seen_20 (by decide) ?_
    refine r_istore Z [(7, .int 0), (5, .long 0), (4, .int q8.1), (0, .ref (ad o)), (1, .int x1), (2, .int x2), (3, .int x3)] dX9_seen_21 hl (by decide) rfl (fun ls hl => ?_)
    exact L23 _ q8.1 0 0 q8.2 ls (lv_sub hl [3, 2, 1, 0] rfl) hF
  · replace hF := nif_some hc9 hF
    refine r_iload Z dX9_seen_14 (lv_at hl 0 rfl) ?_
    exact r_iret Z hQ hF dX9_seen_16
theorem dX9_tear_0 : decode cX9_tear 0 = .ok (.aload_n 0, 1) := by decide +kernel
theorem dX9_tear_1 : decode cX9_tear 1 = .ok (.iload_n 1, 1) := by decide +kernel
theorem dX9_tear_2 : decode cX9_tear 2 = .ok (.invokevirtual 93, 3) := by decide +kernel
theorem dX9_tear_5 : decode cX9_tear 5 = .ok (.istore_n 2, 1) := by decide +kernel
theorem dX9_tear_6 : decode cX9_tear 6 = .ok (.iload_n 2, 1) := by decide +kernel
theorem dX9_tear_7 : decode cX9_tear 7 = .ok (.ifCond .ge 5, 3) := by decide +kernel
theorem dX9_tear_10 : decode cX9_tear 10 = .ok (.iload_n 2, 1) := by decide +kernel
theorem dX9_tear_11 : decode cX9_tear 11 = .ok (.ireturn, 1) := by decide +kernel
theorem dX9_tear_12 : decode cX9_tear 12 = .ok (.aload_n 0, 1) := by decide +kernel
theorem dX9_tear_13 : decode cX9_tear 13 = .ok (.getfield 17, 3) := by decide +kernel
theorem dX9_tear_16 : decode cX9_tear 16 = .ok (.iload_n 1, 1) := by decide +kernel
theorem dX9_tear_17 : decode cX9_tear 17 = .ok (.bipush (-9), 2) := by decide +kernel
theorem dX9_tear_19 : decode cX9_tear 19 = .ok (.iastore, 1) := by decide +kernel
theorem dX9_tear_20 : decode cX9_tear 20 = .ok (.iconst 1, 1) := by decide +kernel
theorem dX9_tear_21 : decode cX9_tear 21 = .ok (.ireturn, 1) := by decide +kernel
theorem cv_X9_tear : wn_cV yX9_tear cX9_tear 3 (some .int) RX9 1 := ⟨wm_652, wm_874, wm_875, wm_637, by decide +kernel⟩
abbrev rm_X9_tear : Room := rmz 3 63
set_option maxHeartbeats 4000000 in
set_option maxRecDepth 100000 in
theorem c_X9_tear {ad : Nat → Nat} {o : Nat} {x1 : Int32} {M : Mm} {q : Int32 × Mm} (ho : shp o = 9) (hF : f_X9_tear o x1 M = some q) : KI ad yX9_tear cX9_tear 3 (some .int) rm_X9_tear [.ref (ad o), .int x1] M q.1 q.2 := by
  refine wn_enterI (own := RX9) (by decide) rfl (Nat.le_of_ble_eq_true rfl) (fun X ls Z hQ hl => ?_)
  have hl : lv_has ls 3 [(0, .ref (ad o)), (1, .int x1)] := hl
  unfold f_X9_tear at hF
  refine r_aload_n Z dX9_tear_0 rfl (lv_at hl 0 rfl) ?_
  refine r_iload_n Z dX9_tear_1 rfl (lv_at hl 1 rfl) ?_
  obtain ⟨q1, hq1, hF⟩ := bd_some hF
  refine r_invVi [] Z (c_X9_askedRow ho hq1) cv_X9_askedRow rfl (shp_lt ho (by decide)) (fun _ _ => ⟨_, ce_9 ho⟩) wm_649 rfl rfl ⟨Nat.le_of_ble_eq_true rfl, Nat.le_of_ble_eq_true rfl⟩ rfl hl.1 rfl (Nat.le_of_ble_eq_true rfl) dX9_tear_2 ?_
  refine r_istore_n Z [(2, .int q1.1), (0, .ref (ad o)), (1, .int x1)] dX9_tear_5 rfl hl (by decide) rfl (fun ls hl => ?_)
  refine r_iload_n Z dX9_tear_6 rfl (lv_at hl 0 rfl) ?_
  refine r_if_ge Z 12 dX9_tear_7 (by decide) (fun hc2 => ?_) (fun hc2 => ?_)
  · replace hF := if_some hc2 hF
    refine r_aload_n Z dX9_tear_12 rfl (lv_at hl 1 rfl) ?_
    refine g_9_5 Z ho wm_610 dX9_tear_13 ?_
    refine r_iload_n Z dX9_tear_16 rfl (lv_at hl 2 rfl) ?_
    refine r_bipush (v := (-9)) Z dX9_tear_17 (by decide) ?_
    obtain ⟨hi3, hF⟩ := ck_some hF
    obtain ⟨M4, eM4, hF⟩ := nm_some hF
    refine r_iastore Z (shp_lt (sh_9_5 ho) (by decide)) (fun _ _ => ce_106 (sh_9_5 ho)) hi3 dX9_tear_19 ?_
    rw [← eM4]
    refine r_iconst (v := 1) Z dX9_tear_20 (by decide) ?_
    exact r_iret Z hQ hF dX9_tear_21
  · replace hF := nif_some hc2 hF
    refine r_iload_n Z dX9_tear_10 rfl (lv_at hl 0 rfl) ?_
    exact r_iret Z hQ hF dX9_tear_11
theorem dX9_through_0 : decode cX9_through 0 = .ok (.iload_n 2, 1) := by decide +kernel
theorem dX9_through_1 : decode cX9_through 1 = .ok (.invokestatic 192, 3) := by decide +kernel
theorem dX9_through_4 : decode cX9_through 4 = .ok (.ifCond .ne 5, 3) := by decide +kernel
theorem dX9_through_7 : decode cX9_through 7 = .ok (.iconst (-1), 1) := by decide +kernel
theorem dX9_through_8 : decode cX9_through 8 = .ok (.ireturn, 1) := by decide +kernel
theorem dX9_through_9 : decode cX9_through 9 = .ok (.aload_n 0, 1) := by decide +kernel
theorem dX9_through_10 : decode cX9_through 10 = .ok (.iload_n 1, 1) := by decide +kernel
theorem dX9_through_11 : decode cX9_through 11 = .ok (.invokevirtual 170, 3) := by decide +kernel
theorem dX9_through_14 : decode cX9_through 14 = .ok (.istore_n 3, 1) := by decide +kernel
theorem dX9_through_15 : decode cX9_through 15 = .ok (.iload_n 3, 1) := by decide +kernel
theorem dX9_through_16 : decode cX9_through 16 = .ok (.ifCond .ge 7, 3) := by decide +kernel
theorem dX9_through_19 : decode cX9_through 19 = .ok (.iload_n 3, 1) := by decide +kernel
theorem dX9_through_20 : decode cX9_through 20 = .ok (.goto 35, 3) := by decide +kernel
theorem dX9_through_23 : decode cX9_through 23 = .ok (.aload_n 0, 1) := by decide +kernel
theorem dX9_through_24 : decode cX9_through 24 = .ok (.aload_n 0, 1) := by decide +kernel
theorem dX9_through_25 : decode cX9_through 25 = .ok (.getfield 58, 3) := by decide +kernel
theorem dX9_through_28 : decode cX9_through 28 = .ok (.iload_n 1, 1) := by decide +kernel
theorem dX9_through_29 : decode cX9_through 29 = .ok (.laload, 1) := by decide +kernel
theorem dX9_through_30 : decode cX9_through 30 = .ok (.ldc2_w 195, 3) := by decide +kernel
theorem dX9_through_33 : decode cX9_through 33 = .ok (.lmul, 1) := by decide +kernel
theorem dX9_through_34 : decode cX9_through 34 = .ok (.aload_n 0, 1) := by decide +kernel
theorem dX9_through_35 : decode cX9_through 35 = .ok (.iload_n 2, 1) := by decide +kernel
theorem dX9_through_36 : decode cX9_through 36 = .ok (.iconst 1, 1) := by decide +kernel
theorem dX9_through_37 : decode cX9_through 37 = .ok (.isub, 1) := by decide +kernel
theorem dX9_through_38 : decode cX9_through 38 = .ok (.bipush (-9), 2) := by decide +kernel
theorem dX9_through_40 : decode cX9_through 40 = .ok (.invokevirtual 189, 3) := by decide +kernel
theorem dX9_through_43 : decode cX9_through 43 = .ok (.lmul, 1) := by decide +kernel
theorem dX9_through_44 : decode cX9_through 44 = .ok (.aload_n 0, 1) := by decide +kernel
theorem dX9_through_45 : decode cX9_through 45 = .ok (.iload_n 2, 1) := by decide +kernel
theorem dX9_through_46 : decode cX9_through 46 = .ok (.bipush (-9), 2) := by decide +kernel
theorem dX9_through_48 : decode cX9_through 48 = .ok (.invokevirtual 189, 3) := by decide +kernel
theorem dX9_through_51 : decode cX9_through 51 = .ok (.iconst 1, 1) := by decide +kernel
theorem dX9_through_52 : decode cX9_through 52 = .ok (.invokevirtual 149, 3) := by decide +kernel
theorem dX9_through_55 : decode cX9_through 55 = .ok (.ireturn, 1) := by decide +kernel
theorem cv_X9_through : wn_cV yX9_through cX9_through 4 (some .int) RX9 2 := ⟨wm_778, wm_994, wm_995, wm_637, by decide +kernel⟩
abbrev rm_X9_through : Room := rmz 4 100
set_option maxHeartbeats 4000000 in
set_option maxRecDepth 100000 in
theorem c_X9_through {ad : Nat → Nat} {o : Nat} {x1 : Int32} {x2 : Int32} {M : Mm} {q : Int32 × Mm} (ho : shp o = 9) (hF : f_X9_through o x1 x2 M = some q) : KI ad yX9_through cX9_through 4 (some .int) rm_X9_through [.ref (ad o), .int x1, .int x2] M q.1 q.2 := by
  refine wn_enterI (own := RX9) (by decide) rfl (Nat.le_of_ble_eq_true rfl) (fun X ls Z hQ hl => ?_)
  have hl : lv_has ls 4 [(0, .ref (ad o)), (1, .int x1), (2, .int x2)] := hl
  unfold f_X9_through at hF
  refine r_iload_n Z dX9_through_0 rfl (lv_at hl 2 rfl) ?_
  obtain ⟨q1, hq1, hF⟩ := bd_some hF
  refine r_invSi [] Z (c_X9_isMany hq1) cv_X9_isMany wm_776 rfl rfl ⟨Nat.le_of_ble_eq_true rfl, Nat.le_of_ble_eq_true rfl⟩ rfl hl.1 rfl (Nat.le_of_ble_eq_true rfl) dX9_through_1 ?_
  refine r_if_ne Z 9 dX9_through_4 (by decide) (fun hc2 => ?_) (fun hc2 => ?_)
  · replace hF := nif_some hc2 hF
    refine r_aload_n Z dX9_through_9 rfl (lv_at hl 0 rfl) ?_
    refine r_iload_n Z dX9_through_10 rfl (lv_at hl 1 rfl) ?_
    obtain ⟨q3, hq3, hF⟩ := bd_some hF
    refine r_invVi [] Z (c_X9_askedClosed ho hq3) cv_X9_askedClosed rfl (shp_lt ho (by decide)) (fun _ _ => ⟨_, ce_9 ho⟩) wm_748 rfl rfl ⟨Nat.le_of_ble_eq_true rfl, Nat.le_of_ble_eq_true rfl⟩ rfl hl.1 rfl (Nat.le_of_ble_eq_true rfl) dX9_through_11 ?_
    refine r_istore_n Z [(3, .int q3.1), (0, .ref (ad o)), (1, .int x1), (2, .int x2)] dX9_through_14 rfl hl (by decide) rfl (fun ls hl => ?_)
    refine r_iload_n Z dX9_through_15 rfl (lv_at hl 0 rfl) ?_
    refine r_if_ge Z 23 dX9_through_16 (by decide) (fun hc4 => ?_) (fun hc4 => ?_)
    · replace hF := if_some hc4 hF
      refine r_aload_n Z dX9_through_23 rfl (lv_at hl 1 rfl) ?_
      refine r_aload_n Z dX9_through_24 rfl (lv_at hl 1 rfl) ?_
      refine g_9_20 Z ho wm_624 dX9_through_25 ?_
      refine r_iload_n Z dX9_through_28 rfl (lv_at hl 2 rfl) ?_
      obtain ⟨hi5, hF⟩ := ck_some hF
      refine r_laload Z (shp_lt (sh_9_20 ho) (by decide)) (fun _ _ => ce_1004 (sh_9_20 ho)) hi5 dX9_through_29 ?_
      refine r_ldc2 Z wm_775 dX9_through_30 ?_
      refine r_lmul Z dX9_through_33 ?_
      refine r_aload_n Z dX9_through_34 rfl (lv_at hl 1 rfl) ?_
      refine r_iload_n Z dX9_through_35 rfl (lv_at hl 3 rfl) ?_
      refine r_iconst (v := 1) Z dX9_through_36 (by decide) ?_
      refine r_isub Z dX9_through_37 ?_
      refine r_bipush (v := (-9)) Z dX9_through_38 (by decide) ?_
      obtain ⟨q6, hq6, hF⟩ := bd_some hF
      refine r_invVl [.long ((mJ q3.2 (fld o 20) (Int32.toNatClampNeg x1)) * 12), .ref (ad o)] Z (c_X9_sumOf ho hq6) cv_X9_sumOf rfl (shp_lt ho (by decide)) (fun _ _ => ⟨_, ce_9 ho⟩) wm_770 rfl rfl ⟨Nat.le_of_ble_eq_true rfl, Nat.le_of_ble_eq_true rfl⟩ rfl hl.1 rfl (Nat.le_of_ble_eq_true rfl) dX9_through_40 ?_
      refine r_lmul Z dX9_through_43 ?_
      refine r_aload_n Z dX9_through_44 rfl (lv_at hl 1 rfl) ?_
      refine r_iload_n Z dX9_through_45 rfl (lv_at hl 3 rfl) ?_
      refine r_bipush (v := (-9)) Z dX9_through_46 (by decide) ?_
      obtain ⟨q7, hq7, hF⟩ := bd_some hF
      refine r_invVl [.long (((mJ q3.2 (fld o 20) (Int32.toNatClampNeg x1)) * 12) * q6.1), .ref (ad o)] Z (c_X9_sumOf ho hq7) cv_X9_sumOf rfl (shp_lt ho (by decide)) (fun _ _ => ⟨_, ce_9 ho⟩) wm_770 rfl rfl ⟨Nat.le_of_ble_eq_true rfl, Nat.le_of_ble_eq_true rfl⟩ rfl hl.1 rfl (Nat.le_of_ble_eq_true rfl) dX9_through_48 ?_
      refine r_iconst (v := 1) Z dX9_through_51 (by decide) ?_
      obtain ⟨q8, hq8, hF⟩ := bd_some hF
      refine r_invVi [] Z (c_X9_share ho hq8) cv_X9_share rfl (shp_lt ho (by decide)) (fun _ _ => ⟨_, ce_9 ho⟩) wm_719 rfl rfl ⟨Nat.le_of_ble_eq_true rfl, Nat.le_of_ble_eq_true rfl⟩ rfl hl.1 rfl (Nat.le_of_ble_eq_true rfl) dX9_through_52 ?_
      exact r_iret Z hQ hF dX9_through_55
    · replace hF := nif_some hc4 hF
      refine r_iload_n Z dX9_through_19 rfl (lv_at hl 0 rfl) ?_
      refine r_goto Z 55 dX9_through_20 (by decide) ?_
      exact r_iret Z hQ hF dX9_through_55
  · replace hF := if_some hc2 hF
    refine r_iconst (v := (-1)) Z dX9_through_7 (by decide) ?_
    exact r_iret Z hQ hF dX9_through_8
theorem dX9_told_0 : decode cX9_told 0 = .ok (.iload_n 2, 1) := by decide +kernel
theorem dX9_told_1 : decode cX9_told 1 = .ok (.iconst 0, 1) := by decide +kernel
theorem dX9_told_2 : decode cX9_told 2 = .ok (.iconst 4, 1) := by decide +kernel
theorem dX9_told_3 : decode cX9_told 3 = .ok (.invokestatic 81, 3) := by decide +kernel
theorem dX9_told_6 : decode cX9_told 6 = .ok (.ifCond .ne 5, 3) := by decide +kernel
theorem dX9_told_9 : decode cX9_told 9 = .ok (.iconst (-1), 1) := by decide +kernel
theorem dX9_told_10 : decode cX9_told 10 = .ok (.ireturn, 1) := by decide +kernel
theorem dX9_told_11 : decode cX9_told 11 = .ok (.aload_n 0, 1) := by decide +kernel
theorem dX9_told_12 : decode cX9_told 12 = .ok (.iload_n 1, 1) := by decide +kernel
theorem dX9_told_13 : decode cX9_told 13 = .ok (.invokevirtual 107, 3) := by decide +kernel
theorem dX9_told_16 : decode cX9_told 16 = .ok (.istore_n 3, 1) := by decide +kernel
theorem dX9_told_17 : decode cX9_told 17 = .ok (.iload_n 3, 1) := by decide +kernel
theorem dX9_told_18 : decode cX9_told 18 = .ok (.ifCond .ge 7, 3) := by decide +kernel
theorem dX9_told_21 : decode cX9_told 21 = .ok (.iload_n 3, 1) := by decide +kernel
theorem dX9_told_22 : decode cX9_told 22 = .ok (.goto 14, 3) := by decide +kernel
theorem dX9_told_25 : decode cX9_told 25 = .ok (.aload_n 0, 1) := by decide +kernel
theorem dX9_told_26 : decode cX9_told 26 = .ok (.aload_n 0, 1) := by decide +kernel
theorem dX9_told_27 : decode cX9_told 27 = .ok (.iload_n 1, 1) := by decide +kernel
theorem dX9_told_28 : decode cX9_told 28 = .ok (.iload_n 2, 1) := by decide +kernel
theorem dX9_told_29 : decode cX9_told 29 = .ok (.invokevirtual 113, 3) := by decide +kernel
theorem dX9_told_32 : decode cX9_told 32 = .ok (.iconst 1, 1) := by decide +kernel
theorem dX9_told_33 : decode cX9_told 33 = .ok (.invokevirtual 96, 3) := by decide +kernel
theorem dX9_told_36 : decode cX9_told 36 = .ok (.ireturn, 1) := by decide +kernel
theorem cv_X9_told : wn_cV yX9_told cX9_told 4 (some .int) RX9 2 := ⟨wm_684, wm_934, wm_935, wm_637, by decide +kernel⟩
abbrev rm_X9_told : Room := rmz 3 63
set_option maxHeartbeats 4000000 in
set_option maxRecDepth 100000 in
theorem c_X9_told {ad : Nat → Nat} {o : Nat} {x1 : Int32} {x2 : Int32} {M : Mm} {q : Int32 × Mm} (ho : shp o = 9) (hF : f_X9_told o x1 x2 M = some q) : KI ad yX9_told cX9_told 4 (some .int) rm_X9_told [.ref (ad o), .int x1, .int x2] M q.1 q.2 := by
  refine wn_enterI (own := RX9) (by decide) rfl (Nat.le_of_ble_eq_true rfl) (fun X ls Z hQ hl => ?_)
  have hl : lv_has ls 4 [(0, .ref (ad o)), (1, .int x1), (2, .int x2)] := hl
  unfold f_X9_told at hF
  refine r_iload_n Z dX9_told_0 rfl (lv_at hl 2 rfl) ?_
  refine r_iconst (v := 0) Z dX9_told_1 (by decide) ?_
  refine r_iconst (v := 4) Z dX9_told_2 (by decide) ?_
  obtain ⟨q1, hq1, hF⟩ := bd_some hF
  refine r_invSi [] Z (c_X9_in hq1) cv_X9_in wm_639 rfl rfl ⟨Nat.le_of_ble_eq_true rfl, Nat.le_of_ble_eq_true rfl⟩ rfl hl.1 rfl (Nat.le_of_ble_eq_true rfl) dX9_told_3 ?_
  refine r_if_ne Z 11 dX9_told_6 (by decide) (fun hc2 => ?_) (fun hc2 => ?_)
  · replace hF := nif_some hc2 hF
    refine r_aload_n Z dX9_told_11 rfl (lv_at hl 0 rfl) ?_
    refine r_iload_n Z dX9_told_12 rfl (lv_at hl 1 rfl) ?_
    obtain ⟨q3, hq3, hF⟩ := bd_some hF
    refine r_invVi [] Z (c_X9_askedFor ho hq3) cv_X9_askedFor rfl (shp_lt ho (by decide)) (fun _ _ => ⟨_, ce_9 ho⟩) wm_668 rfl rfl ⟨Nat.le_of_ble_eq_true rfl, Nat.le_of_ble_eq_true rfl⟩ rfl hl.1 rfl (Nat.le_of_ble_eq_true rfl) dX9_told_13 ?_
    refine r_istore_n Z [(3, .int q3.1), (0, .ref (ad o)), (1, .int x1), (2, .int x2)] dX9_told_16 rfl hl (by decide) rfl (fun ls hl => ?_)
    refine r_iload_n Z dX9_told_17 rfl (lv_at hl 0 rfl) ?_
    refine r_if_ge Z 25 dX9_told_18 (by decide) (fun hc4 => ?_) (fun hc4 => ?_)
    · replace hF := if_some hc4 hF
      refine r_aload_n Z dX9_told_25 rfl (lv_at hl 1 rfl) ?_
      refine r_aload_n Z dX9_told_26 rfl (lv_at hl 1 rfl) ?_
      refine r_iload_n Z dX9_told_27 rfl (lv_at hl 2 rfl) ?_
      refine r_iload_n Z dX9_told_28 rfl (lv_at hl 3 rfl) ?_
      obtain ⟨q5, hq5, hF⟩ := bd_some hF
      refine r_invVi [.ref (ad o)] Z (c_X9_tells ho hq5) cv_X9_tells rfl (shp_lt ho (by decide)) (fun _ _ => ⟨_, ce_9 ho⟩) wm_681 rfl rfl ⟨Nat.le_of_ble_eq_true rfl, Nat.le_of_ble_eq_true rfl⟩ rfl hl.1 rfl (Nat.le_of_ble_eq_true rfl) dX9_told_29 ?_
      refine r_iconst (v := 1) Z dX9_told_32 (by decide) ?_
      obtain ⟨q6, hq6, hF⟩ := bd_some hF
      refine r_invVi [] Z (c_X9_ask ho hq6) cv_X9_ask rfl (shp_lt ho (by decide)) (fun _ _ => ⟨_, ce_9 ho⟩) wm_655 rfl rfl ⟨Nat.le_of_ble_eq_true rfl, Nat.le_of_ble_eq_true rfl⟩ rfl hl.1 rfl (Nat.le_of_ble_eq_true rfl) dX9_told_33 ?_
      exact r_iret Z hQ hF dX9_told_36
    · replace hF := nif_some hc4 hF
      refine r_iload_n Z dX9_told_21 rfl (lv_at hl 0 rfl) ?_
      refine r_goto Z 36 dX9_told_22 (by decide) ?_
      exact r_iret Z hQ hF dX9_told_36
  · replace hF := if_some hc2 hF
    refine r_iconst (v := (-1)) Z dX9_told_9 (by decide) ?_
    exact r_iret Z hQ hF dX9_told_10
theorem dX9_upper_0 : decode cX9_upper 0 = .ok (.aload_n 0, 1) := by decide +kernel
theorem dX9_upper_1 : decode cX9_upper 1 = .ok (.getfield 78, 3) := by decide +kernel
theorem dX9_upper_4 : decode cX9_upper 4 = .ok (.lreturn, 1) := by decide +kernel
theorem cv_X9_upper : wn_cV yX9_upper cX9_upper 1 (some .long) RX9 0 := ⟨wm_834, wm_1084, wm_1085, wm_637, by decide +kernel⟩
abbrev rm_X9_upper : Room := rmz 0 0
set_option maxHeartbeats 4000000 in
set_option maxRecDepth 100000 in
theorem c_X9_upper {ad : Nat → Nat} {o : Nat} {M : Mm} {q : Int64 × Mm} (ho : shp o = 9) (hF : f_X9_upper o M = some q) : KL ad yX9_upper cX9_upper 1 (some .long) rm_X9_upper [.ref (ad o)] M q.1 q.2 := by
  refine wn_enterL (own := RX9) (by decide) rfl (Nat.le_of_ble_eq_true rfl) (fun X ls Z hQ hl => ?_)
  have hl : lv_has ls 1 [(0, .ref (ad o))] := hl
  unfold f_X9_upper at hF
  refine r_aload_n Z dX9_upper_0 rfl (lv_at hl 0 rfl) ?_
  refine g_9_3 Z ho wm_634 dX9_upper_1 ?_
  exact r_lret Z hQ hF dX9_upper_4
theorem dX9_use_0 : decode cX9_use 0 = .ok (.aload_n 0, 1) := by decide +kernel
theorem dX9_use_1 : decode cX9_use 1 = .ok (.iload_n 1, 1) := by decide +kernel
theorem dX9_use_2 : decode cX9_use 2 = .ok (.invokevirtual 146, 3) := by decide +kernel
theorem dX9_use_5 : decode cX9_use 5 = .ok (.istore_n 2, 1) := by decide +kernel
theorem dX9_use_6 : decode cX9_use 6 = .ok (.iload_n 2, 1) := by decide +kernel
theorem dX9_use_7 : decode cX9_use 7 = .ok (.ifCond .ge 7, 3) := by decide +kernel
theorem dX9_use_10 : decode cX9_use 10 = .ok (.iload_n 2, 1) := by decide +kernel
theorem dX9_use_11 : decode cX9_use 11 = .ok (.goto 35, 3) := by decide +kernel
theorem dX9_use_14 : decode cX9_use 14 = .ok (.aload_n 0, 1) := by decide +kernel
theorem dX9_use_15 : decode cX9_use 15 = .ok (.aload_n 0, 1) := by decide +kernel
theorem dX9_use_16 : decode cX9_use 16 = .ok (.getfield 131, 3) := by decide +kernel
theorem dX9_use_19 : decode cX9_use 19 = .ok (.aload_n 0, 1) := by decide +kernel
theorem dX9_use_20 : decode cX9_use 20 = .ok (.getfield 134, 3) := by decide +kernel
theorem dX9_use_23 : decode cX9_use 23 = .ok (.aload_n 0, 1) := by decide +kernel
theorem dX9_use_24 : decode cX9_use 24 = .ok (.iload_n 1, 1) := by decide +kernel
theorem dX9_use_25 : decode cX9_use 25 = .ok (.invokevirtual 153, 3) := by decide +kernel
theorem dX9_use_28 : decode cX9_use 28 = .ok (.i2l, 1) := by decide +kernel
theorem dX9_use_29 : decode cX9_use 29 = .ok (.lmul, 1) := by decide +kernel
theorem dX9_use_30 : decode cX9_use 30 = .ok (.aload_n 0, 1) := by decide +kernel
theorem dX9_use_31 : decode cX9_use 31 = .ok (.iload_n 1, 1) := by decide +kernel
theorem dX9_use_32 : decode cX9_use 32 = .ok (.invokevirtual 156, 3) := by decide +kernel
theorem dX9_use_35 : decode cX9_use 35 = .ok (.ifCond .eq 7, 3) := by decide +kernel
theorem dX9_use_38 : decode cX9_use 38 = .ok (.iconst 1, 1) := by decide +kernel
theorem dX9_use_39 : decode cX9_use 39 = .ok (.goto 4, 3) := by decide +kernel
theorem dX9_use_42 : decode cX9_use 42 = .ok (.iconst 0, 1) := by decide +kernel
theorem dX9_use_43 : decode cX9_use 43 = .ok (.invokevirtual 149, 3) := by decide +kernel
theorem dX9_use_46 : decode cX9_use 46 = .ok (.ireturn, 1) := by decide +kernel
theorem cv_X9_use : wn_cV yX9_use cX9_use 3 (some .int) RX9 1 := ⟨wm_731, wm_964, wm_965, wm_637, by decide +kernel⟩
abbrev rm_X9_use : Room := rmz 4 104
set_option maxHeartbeats 4000000 in
set_option maxRecDepth 100000 in
theorem c_X9_use {ad : Nat → Nat} {o : Nat} {x1 : Int32} {M : Mm} {q : Int32 × Mm} (ho : shp o = 9) (hF : f_X9_use o x1 M = some q) : KI ad yX9_use cX9_use 3 (some .int) rm_X9_use [.ref (ad o), .int x1] M q.1 q.2 := by
  refine wn_enterI (own := RX9) (by decide) rfl (Nat.le_of_ble_eq_true rfl) (fun X ls Z hQ hl => ?_)
  have hl : lv_has ls 3 [(0, .ref (ad o)), (1, .int x1)] := hl
  have L43 : ∀ (s0 : Nat) (s1 : Int64) (s2 : Int64) (s3 : Int32) (M : Mm) (ls : Array Slot), shp s0 = 9 → lv_has ls 3 [] → f_X9_use_b43 o s0 s1 s2 s3 M = some q → G ad X M 43 ls [.int s3, .long s2, .long s1, .ref (ad s0)] := by
    intro s0 s1 s2 s3 M ls hs0 hl hF
    unfold f_X9_use_b43 at hF
    obtain ⟨q1, hq1, hF⟩ := bd_some hF
    refine r_invVi [] Z (c_X9_share hs0 hq1) cv_X9_share rfl (shp_lt hs0 (by decide)) (fun _ _ => ⟨_, ce_9 hs0⟩) wm_719 rfl rfl ⟨Nat.le_of_ble_eq_true rfl, Nat.le_of_ble_eq_true rfl⟩ rfl hl.1 rfl (Nat.le_of_ble_eq_true rfl) dX9_use_43 ?_
    exact r_iret Z hQ hF dX9_use_46
  unfold f_X9_use at hF
  refine r_aload_n Z dX9_use_0 rfl (lv_at hl 0 rfl) ?_
  refine r_iload_n Z dX9_use_1 rfl (lv_at hl 1 rfl) ?_
  obtain ⟨q2, hq2, hF⟩ := bd_some hF
  refine r_invVi [] Z (c_X9_askedFlow ho hq2) cv_X9_askedFlow rfl (shp_lt ho (by decide)) (fun _ _ => ⟨_, ce_9 ho⟩) wm_716 rfl rfl ⟨Nat.le_of_ble_eq_true rfl, Nat.le_of_ble_eq_true rfl⟩ rfl hl.1 rfl (Nat.le_of_ble_eq_true rfl) dX9_use_2 ?_
  refine r_istore_n Z [(2, .int q2.1), (0, .ref (ad o)), (1, .int x1)] dX9_use_5 rfl hl (by decide) rfl (fun ls hl => ?_)
  refine r_iload_n Z dX9_use_6 rfl (lv_at hl 0 rfl) ?_
  refine r_if_ge Z 14 dX9_use_7 (by decide) (fun hc3 => ?_) (fun hc3 => ?_)
  · replace hF := if_some hc3 hF
    refine r_aload_n Z dX9_use_14 rfl (lv_at hl 1 rfl) ?_
    refine r_aload_n Z dX9_use_15 rfl (lv_at hl 1 rfl) ?_
    refine g_9_18 Z ho wm_705 dX9_use_16 ?_
    refine r_aload_n Z dX9_use_19 rfl (lv_at hl 1 rfl) ?_
    refine g_9_19 Z ho wm_706 dX9_use_20 ?_
    refine r_aload_n Z dX9_use_23 rfl (lv_at hl 1 rfl) ?_
    refine r_iload_n Z dX9_use_24 rfl (lv_at hl 2 rfl) ?_
    obtain ⟨q4, hq4, hF⟩ := bd_some hF
    refine r_invVi [.long (mJ q2.2 o 19), .long (mJ q2.2 o 18), .ref (ad o)] Z (c_X9_bears ho hq4) cv_X9_bears rfl (shp_lt ho (by decide)) (fun _ _ => ⟨_, ce_9 ho⟩) wm_725 rfl rfl ⟨Nat.le_of_ble_eq_true rfl, Nat.le_of_ble_eq_true rfl⟩ rfl hl.1 rfl (Nat.le_of_ble_eq_true rfl) dX9_use_25 ?_
    refine r_i2l Z dX9_use_28 ?_
    refine r_lmul Z dX9_use_29 ?_
    refine r_aload_n Z dX9_use_30 rfl (lv_at hl 1 rfl) ?_
    refine r_iload_n Z dX9_use_31 rfl (lv_at hl 2 rfl) ?_
    obtain ⟨q5, hq5, hF⟩ := bd_some hF
    refine r_invVi [.long ((mJ q2.2 o 19) * (Int32.toInt64 q4.1)), .long (mJ q2.2 o 18), .ref (ad o)] Z (c_X9_isFull ho hq5) cv_X9_isFull rfl (shp_lt ho (by decide)) (fun _ _ => ⟨_, ce_9 ho⟩) wm_728 rfl rfl ⟨Nat.le_of_ble_eq_true rfl, Nat.le_of_ble_eq_true rfl⟩ rfl hl.1 rfl (Nat.le_of_ble_eq_true rfl) dX9_use_32 ?_
    refine r_if_eq Z 42 dX9_use_35 (by decide) (fun hc6 => ?_) (fun hc6 => ?_)
    · replace hF := if_some hc6 hF
      refine r_iconst (v := 0) Z dX9_use_42 (by decide) ?_
      exact L43 o (mJ q2.2 o 18) ((mJ q2.2 o 19) * (Int32.toInt64 q4.1)) 0 q5.2 ls ho (lv_sub hl [] rfl) hF
    · replace hF := nif_some hc6 hF
      refine r_iconst (v := 1) Z dX9_use_38 (by decide) ?_
      refine r_goto Z 43 dX9_use_39 (by decide) ?_
      exact L43 o (mJ q2.2 o 18) ((mJ q2.2 o 19) * (Int32.toInt64 q4.1)) 1 q5.2 ls ho (lv_sub hl [] rfl) hF
  · replace hF := nif_some hc3 hF
    refine r_iload_n Z dX9_use_10 rfl (lv_at hl 0 rfl) ?_
    refine r_goto Z 46 dX9_use_11 (by decide) ?_
    exact r_iret Z hQ hF dX9_use_46
theorem dX9_visits_0 : decode cX9_visits 0 = .ok (.aload_n 0, 1) := by decide +kernel
theorem dX9_visits_1 : decode cX9_visits 1 = .ok (.iload_n 1, 1) := by decide +kernel
theorem dX9_visits_2 : decode cX9_visits 2 = .ok (.invokevirtual 170, 3) := by decide +kernel
theorem dX9_visits_5 : decode cX9_visits 5 = .ok (.istore_n 2, 1) := by decide +kernel
theorem dX9_visits_6 : decode cX9_visits 6 = .ok (.iload_n 2, 1) := by decide +kernel
theorem dX9_visits_7 : decode cX9_visits 7 = .ok (.ifCond .ge 7, 3) := by decide +kernel
theorem dX9_visits_10 : decode cX9_visits 10 = .ok (.iload_n 2, 1) := by decide +kernel
theorem dX9_visits_11 : decode cX9_visits 11 = .ok (.goto 10, 3) := by decide +kernel
theorem dX9_visits_14 : decode cX9_visits 14 = .ok (.aload_n 0, 1) := by decide +kernel
theorem dX9_visits_15 : decode cX9_visits 15 = .ok (.getfield 58, 3) := by decide +kernel
theorem dX9_visits_18 : decode cX9_visits 18 = .ok (.iload_n 1, 1) := by decide +kernel
theorem dX9_visits_19 : decode cX9_visits 19 = .ok (.laload, 1) := by decide +kernel
theorem dX9_visits_20 : decode cX9_visits 20 = .ok (.l2i, 1) := by decide +kernel
theorem dX9_visits_21 : decode cX9_visits 21 = .ok (.ireturn, 1) := by decide +kernel
theorem cv_X9_visits : wn_cV yX9_visits cX9_visits 3 (some .int) RX9 1 := ⟨wm_751, wm_982, wm_983, wm_637, by decide +kernel⟩
abbrev rm_X9_visits : Room := rmz 4 100
set_option maxHeartbeats 4000000 in
set_option maxRecDepth 100000 in
theorem c_X9_visits {ad : Nat → Nat} {o : Nat} {x1 : Int32} {M : Mm} {q : Int32 × Mm} (ho : shp o = 9) (hF : f_X9_visits o x1 M = some q) : KI ad yX9_visits cX9_visits 3 (some .int) rm_X9_visits [.ref (ad o), .int x1] M q.1 q.2 := by
  refine wn_enterI (own := RX9) (by decide) rfl (Nat.le_of_ble_eq_true rfl) (fun X ls Z hQ hl => ?_)
  have hl : lv_has ls 3 [(0, .ref (ad o)), (1, .int x1)] := hl
  unfold f_X9_visits at hF
  refine r_aload_n Z dX9_visits_0 rfl (lv_at hl 0 rfl) ?_
  refine r_iload_n Z dX9_visits_1 rfl (lv_at hl 1 rfl) ?_
  obtain ⟨q1, hq1, hF⟩ := bd_some hF
  refine r_invVi [] Z (c_X9_askedClosed ho hq1) cv_X9_askedClosed rfl (shp_lt ho (by decide)) (fun _ _ => ⟨_, ce_9 ho⟩) wm_748 rfl rfl ⟨Nat.le_of_ble_eq_true rfl, Nat.le_of_ble_eq_true rfl⟩ rfl hl.1 rfl (Nat.le_of_ble_eq_true rfl) dX9_visits_2 ?_
  refine r_istore_n Z [(2, .int q1.1), (0, .ref (ad o)), (1, .int x1)] dX9_visits_5 rfl hl (by decide) rfl (fun ls hl => ?_)
  refine r_iload_n Z dX9_visits_6 rfl (lv_at hl 0 rfl) ?_
  refine r_if_ge Z 14 dX9_visits_7 (by decide) (fun hc2 => ?_) (fun hc2 => ?_)
  · replace hF := if_some hc2 hF
    refine r_aload_n Z dX9_visits_14 rfl (lv_at hl 1 rfl) ?_
    refine g_9_20 Z ho wm_624 dX9_visits_15 ?_
    refine r_iload_n Z dX9_visits_18 rfl (lv_at hl 2 rfl) ?_
    obtain ⟨hi3, hF⟩ := ck_some hF
    refine r_laload Z (shp_lt (sh_9_20 ho) (by decide)) (fun _ _ => ce_1004 (sh_9_20 ho)) hi3 dX9_visits_19 ?_
    refine r_l2i Z dX9_visits_20 ?_
    exact r_iret Z hQ hF dX9_visits_21
  · replace hF := nif_some hc2 hF
    refine r_iload_n Z dX9_visits_10 rfl (lv_at hl 0 rfl) ?_
    refine r_goto Z 21 dX9_visits_11 (by decide) ?_
    exact r_iret Z hQ hF dX9_visits_21
theorem dX9_waited_0 : decode cX9_waited 0 = .ok (.aload_n 0, 1) := by decide +kernel
theorem dX9_waited_1 : decode cX9_waited 1 = .ok (.iload_n 1, 1) := by decide +kernel
theorem dX9_waited_2 : decode cX9_waited 2 = .ok (.iload_n 2, 1) := by decide +kernel
theorem dX9_waited_3 : decode cX9_waited 3 = .ok (.iload_n 3, 1) := by decide +kernel
theorem dX9_waited_4 : decode cX9_waited 4 = .ok (.invokevirtual 234, 3) := by decide +kernel
theorem dX9_waited_7 : decode cX9_waited 7 = .ok (.istore 5, 2) := by decide +kernel
theorem dX9_waited_9 : decode cX9_waited 9 = .ok (.iload 5, 2) := by decide +kernel
theorem dX9_waited_11 : decode cX9_waited 11 = .ok (.ifCond .ge 8, 3) := by decide +kernel
theorem dX9_waited_14 : decode cX9_waited 14 = .ok (.iload 5, 2) := by decide +kernel
theorem dX9_waited_16 : decode cX9_waited 16 = .ok (.goto 36, 3) := by decide +kernel
theorem dX9_waited_19 : decode cX9_waited 19 = .ok (.iload 4, 2) := by decide +kernel
theorem dX9_waited_21 : decode cX9_waited 21 = .ok (.iconst 0, 1) := by decide +kernel
theorem dX9_waited_22 : decode cX9_waited 22 = .ok (.iload 5, 2) := by decide +kernel
theorem dX9_waited_24 : decode cX9_waited 24 = .ok (.iconst 1, 1) := by decide +kernel
theorem dX9_waited_25 : decode cX9_waited 25 = .ok (.isub, 1) := by decide +kernel
theorem dX9_waited_26 : decode cX9_waited 26 = .ok (.invokestatic 81, 3) := by decide +kernel
theorem dX9_waited_29 : decode cX9_waited 29 = .ok (.ifCond .eq 18, 3) := by decide +kernel
theorem dX9_waited_32 : decode cX9_waited 32 = .ok (.aload_n 0, 1) := by decide +kernel
theorem dX9_waited_33 : decode cX9_waited 33 = .ok (.aload_n 0, 1) := by decide +kernel
theorem dX9_waited_34 : decode cX9_waited 34 = .ok (.getfield 64, 3) := by decide +kernel
theorem dX9_waited_37 : decode cX9_waited 37 = .ok (.iload 4, 2) := by decide +kernel
theorem dX9_waited_39 : decode cX9_waited 39 = .ok (.iaload, 1) := by decide +kernel
theorem dX9_waited_40 : decode cX9_waited 40 = .ok (.iconst 1, 1) := by decide +kernel
theorem dX9_waited_41 : decode cX9_waited 41 = .ok (.invokevirtual 96, 3) := by decide +kernel
theorem dX9_waited_44 : decode cX9_waited 44 = .ok (.goto 8, 3) := by decide +kernel
theorem dX9_waited_47 : decode cX9_waited 47 = .ok (.aload_n 0, 1) := by decide +kernel
theorem dX9_waited_48 : decode cX9_waited 48 = .ok (.iconst 2, 1) := by decide +kernel
theorem dX9_waited_49 : decode cX9_waited 49 = .ok (.invokevirtual 89, 3) := by decide +kernel
theorem dX9_waited_52 : decode cX9_waited 52 = .ok (.ireturn, 1) := by decide +kernel
theorem cv_X9_waited : wn_cV yX9_waited cX9_waited 6 (some .int) RX9 4 := ⟨wm_831, wm_1066, wm_1067, wm_637, by decide +kernel⟩
abbrev rm_X9_waited : Room := rmz 3 75
set_option maxHeartbeats 4000000 in
set_option maxRecDepth 100000 in
theorem c_X9_waited {ad : Nat → Nat} {o : Nat} {x1 : Int32} {x2 : Int32} {x3 : Int32} {x4 : Int32} {M : Mm} {q : Int32 × Mm} (ho : shp o = 9) (hF : f_X9_waited o x1 x2 x3 x4 M = some q) : KI ad yX9_waited cX9_waited 6 (some .int) rm_X9_waited [.ref (ad o), .int x1, .int x2, .int x3, .int x4] M q.1 q.2 := by
  refine wn_enterI (own := RX9) (by decide) rfl (Nat.le_of_ble_eq_true rfl) (fun X ls Z hQ hl => ?_)
  have hl : lv_has ls 6 [(0, .ref (ad o)), (1, .int x1), (2, .int x2), (3, .int x3), (4, .int x4)] := hl
  unfold f_X9_waited at hF
  refine r_aload_n Z dX9_waited_0 rfl (lv_at hl 0 rfl) ?_
  refine r_iload_n Z dX9_waited_1 rfl (lv_at hl 1 rfl) ?_
  refine r_iload_n Z dX9_waited_2 rfl (lv_at hl 2 rfl) ?_
  refine r_iload_n Z dX9_waited_3 rfl (lv_at hl 3 rfl) ?_
  obtain ⟨q1, hq1, hF⟩ := bd_some hF
  refine r_invVi [] Z (c_X9_askedRun ho hq1) cv_X9_askedRun rfl (shp_lt ho (by decide)) (fun _ _ => ⟨_, ce_9 ho⟩) wm_828 rfl rfl ⟨Nat.le_of_ble_eq_true rfl, Nat.le_of_ble_eq_true rfl⟩ rfl hl.1 rfl (Nat.le_of_ble_eq_true rfl) dX9_waited_4 ?_
  refine r_istore Z [(5, .int q1.1), (0, .ref (ad o)), (1, .int x1), (2, .int x2), (3, .int x3), (4, .int x4)] dX9_waited_7 hl (by decide) rfl (fun ls hl => ?_)
  refine r_iload Z dX9_waited_9 (lv_at hl 0 rfl) ?_
  refine r_if_ge Z 19 dX9_waited_11 (by decide) (fun hc2 => ?_) (fun hc2 => ?_)
  · replace hF := if_some hc2 hF
    refine r_iload Z dX9_waited_19 (lv_at hl 5 rfl) ?_
    refine r_iconst (v := 0) Z dX9_waited_21 (by decide) ?_
    refine r_iload Z dX9_waited_22 (lv_at hl 0 rfl) ?_
    refine r_iconst (v := 1) Z dX9_waited_24 (by decide) ?_
    refine r_isub Z dX9_waited_25 ?_
    obtain ⟨q3, hq3, hF⟩ := bd_some hF
    refine r_invSi [] Z (c_X9_in hq3) cv_X9_in wm_639 rfl rfl ⟨Nat.le_of_ble_eq_true rfl, Nat.le_of_ble_eq_true rfl⟩ rfl hl.1 rfl (Nat.le_of_ble_eq_true rfl) dX9_waited_26 ?_
    refine r_if_eq Z 47 dX9_waited_29 (by decide) (fun hc4 => ?_) (fun hc4 => ?_)
    · replace hF := if_some hc4 hF
      refine r_aload_n Z dX9_waited_47 rfl (lv_at hl 1 rfl) ?_
      refine r_iconst (v := 2) Z dX9_waited_48 (by decide) ?_
      obtain ⟨q5, hq5, hF⟩ := bd_some hF
      refine r_invVi [] Z (c_X9_meets ho hq5) cv_X9_meets rfl (shp_lt ho (by decide)) (fun _ _ => ⟨_, ce_9 ho⟩) wm_644 rfl rfl ⟨Nat.le_of_ble_eq_true rfl, Nat.le_of_ble_eq_true rfl⟩ rfl hl.1 rfl (Nat.le_of_ble_eq_true rfl) dX9_waited_49 ?_
      exact r_iret Z hQ hF dX9_waited_52
    · replace hF := nif_some hc4 hF
      refine r_aload_n Z dX9_waited_32 rfl (lv_at hl 1 rfl) ?_
      refine r_aload_n Z dX9_waited_33 rfl (lv_at hl 1 rfl) ?_
      refine g_9_24 Z ho wm_626 dX9_waited_34 ?_
      refine r_iload Z dX9_waited_37 (lv_at hl 5 rfl) ?_
      obtain ⟨hi6, hF⟩ := ck_some hF
      refine r_iaload Z (shp_lt (sh_9_24 ho) (by decide)) (fun _ _ => ce_140 (sh_9_24 ho)) hi6 dX9_waited_39 ?_
      refine r_iconst (v := 1) Z dX9_waited_40 (by decide) ?_
      obtain ⟨q7, hq7, hF⟩ := bd_some hF
      refine r_invVi [] Z (c_X9_ask ho hq7) cv_X9_ask rfl (shp_lt ho (by decide)) (fun _ _ => ⟨_, ce_9 ho⟩) wm_655 rfl rfl ⟨Nat.le_of_ble_eq_true rfl, Nat.le_of_ble_eq_true rfl⟩ rfl hl.1 rfl (Nat.le_of_ble_eq_true rfl) dX9_waited_41 ?_
      refine r_goto Z 52 dX9_waited_44 (by decide) ?_
      exact r_iret Z hQ hF dX9_waited_52
  · replace hF := nif_some hc2 hF
    refine r_iload Z dX9_waited_14 (lv_at hl 0 rfl) ?_
    refine r_goto Z 52 dX9_waited_16 (by decide) ?_
    exact r_iret Z hQ hF dX9_waited_52

theorem dX9_lasting_0 : decode cX9_lasting 0 = .ok (.aload_n 0, 1) := by decide +kernel
theorem dX9_lasting_1 : decode cX9_lasting 1 = .ok (.iload_n 1, 1) := by decide +kernel
theorem dX9_lasting_2 : decode cX9_lasting 2 = .ok (.invokevirtual 222, 3) := by decide +kernel
theorem dX9_lasting_5 : decode cX9_lasting 5 = .ok (.istore_n 3, 1) := by decide +kernel
theorem dX9_lasting_6 : decode cX9_lasting 6 = .ok (.iload_n 3, 1) := by decide +kernel
theorem dX9_lasting_7 : decode cX9_lasting 7 = .ok (.ifCond .ge 5, 3) := by decide +kernel
theorem dX9_lasting_10 : decode cX9_lasting 10 = .ok (.iload_n 3, 1) := by decide +kernel
theorem dX9_lasting_11 : decode cX9_lasting 11 = .ok (.ireturn, 1) := by decide +kernel
theorem dX9_lasting_12 : decode cX9_lasting 12 = .ok (.aload_n 0, 1) := by decide +kernel
theorem dX9_lasting_13 : decode cX9_lasting 13 = .ok (.iload_n 1, 1) := by decide +kernel
theorem dX9_lasting_14 : decode cX9_lasting 14 = .ok (.iload_n 3, 1) := by decide +kernel
theorem dX9_lasting_15 : decode cX9_lasting 15 = .ok (.invokevirtual 225, 3) := by decide +kernel
theorem dX9_lasting_18 : decode cX9_lasting 18 = .ok (.ifCond .ne 9, 3) := by decide +kernel
theorem dX9_lasting_21 : decode cX9_lasting 21 = .ok (.aload_n 0, 1) := by decide +kernel
theorem dX9_lasting_22 : decode cX9_lasting 22 = .ok (.iconst 3, 1) := by decide +kernel
theorem dX9_lasting_23 : decode cX9_lasting 23 = .ok (.invokevirtual 89, 3) := by decide +kernel
theorem dX9_lasting_26 : decode cX9_lasting 26 = .ok (.ireturn, 1) := by decide +kernel
theorem dX9_lasting_27 : decode cX9_lasting 27 = .ok (.iload_n 2, 1) := by decide +kernel
theorem dX9_lasting_28 : decode cX9_lasting 28 = .ok (.iconst 0, 1) := by decide +kernel
theorem dX9_lasting_29 : decode cX9_lasting 29 = .ok (.iload_n 3, 1) := by decide +kernel
theorem dX9_lasting_30 : decode cX9_lasting 30 = .ok (.iconst 1, 1) := by decide +kernel
theorem dX9_lasting_31 : decode cX9_lasting 31 = .ok (.isub, 1) := by decide +kernel
theorem dX9_lasting_32 : decode cX9_lasting 32 = .ok (.invokestatic 81, 3) := by decide +kernel
theorem dX9_lasting_35 : decode cX9_lasting 35 = .ok (.ifCond .ne 9, 3) := by decide +kernel
theorem dX9_lasting_38 : decode cX9_lasting 38 = .ok (.aload_n 0, 1) := by decide +kernel
theorem dX9_lasting_39 : decode cX9_lasting 39 = .ok (.iconst 2, 1) := by decide +kernel
theorem dX9_lasting_40 : decode cX9_lasting 40 = .ok (.invokevirtual 89, 3) := by decide +kernel
theorem dX9_lasting_43 : decode cX9_lasting 43 = .ok (.ireturn, 1) := by decide +kernel
theorem dX9_lasting_44 : decode cX9_lasting 44 = .ok (.aload_n 0, 1) := by decide +kernel
theorem dX9_lasting_45 : decode cX9_lasting 45 = .ok (.iload_n 1, 1) := by decide +kernel
theorem dX9_lasting_46 : decode cX9_lasting 46 = .ok (.iload_n 3, 1) := by decide +kernel
theorem dX9_lasting_47 : decode cX9_lasting 47 = .ok (.invokevirtual 229, 3) := by decide +kernel
theorem dX9_lasting_50 : decode cX9_lasting 50 = .ok (.iconst 1, 1) := by decide +kernel
theorem dX9_lasting_51 : decode cX9_lasting 51 = .ok (.if_icmp .le 6, 3) := by decide +kernel
theorem dX9_lasting_54 : decode cX9_lasting 54 = .ok (.bipush (-4), 2) := by decide +kernel
theorem dX9_lasting_56 : decode cX9_lasting 56 = .ok (.ireturn, 1) := by decide +kernel
theorem dX9_lasting_57 : decode cX9_lasting 57 = .ok (.aload_n 0, 1) := by decide +kernel
theorem dX9_lasting_58 : decode cX9_lasting 58 = .ok (.getfield 215, 3) := by decide +kernel
theorem dX9_lasting_61 : decode cX9_lasting 61 = .ok (.iload_n 2, 1) := by decide +kernel
theorem dX9_lasting_62 : decode cX9_lasting 62 = .ok (.ishr, 1) := by decide +kernel
theorem dX9_lasting_63 : decode cX9_lasting 63 = .ok (.iconst 1, 1) := by decide +kernel
theorem dX9_lasting_64 : decode cX9_lasting 64 = .ok (.iand, 1) := by decide +kernel
theorem dX9_lasting_65 : decode cX9_lasting 65 = .ok (.ifCond .ne 11, 3) := by decide +kernel
theorem dX9_lasting_68 : decode cX9_lasting 68 = .ok (.aload_n 0, 1) := by decide +kernel
theorem dX9_lasting_69 : decode cX9_lasting 69 = .ok (.lconst 0, 1) := by decide +kernel
theorem dX9_lasting_70 : decode cX9_lasting 70 = .ok (.lconst 1, 1) := by decide +kernel
theorem dX9_lasting_71 : decode cX9_lasting 71 = .ok (.iconst 1, 1) := by decide +kernel
theorem dX9_lasting_72 : decode cX9_lasting 72 = .ok (.invokevirtual 149, 3) := by decide +kernel
theorem dX9_lasting_75 : decode cX9_lasting 75 = .ok (.ireturn, 1) := by decide +kernel
theorem dX9_lasting_76 : decode cX9_lasting 76 = .ok (.iconst 0, 1) := by decide +kernel
theorem dX9_lasting_77 : decode cX9_lasting 77 = .ok (.istore 4, 2) := by decide +kernel
theorem dX9_lasting_79 : decode cX9_lasting 79 = .ok (.iload 4, 2) := by decide +kernel
theorem dX9_lasting_81 : decode cX9_lasting 81 = .ok (.iload_n 3, 1) := by decide +kernel
theorem dX9_lasting_82 : decode cX9_lasting 82 = .ok (.if_icmp .ge 83, 3) := by decide +kernel
theorem dX9_lasting_85 : decode cX9_lasting 85 = .ok (.lconst 0, 1) := by decide +kernel
theorem dX9_lasting_86 : decode cX9_lasting 86 = .ok (.lstore 5, 2) := by decide +kernel
theorem dX9_lasting_88 : decode cX9_lasting 88 = .ok (.iconst 0, 1) := by decide +kernel
theorem dX9_lasting_89 : decode cX9_lasting 89 = .ok (.istore 7, 2) := by decide +kernel
theorem dX9_lasting_91 : decode cX9_lasting 91 = .ok (.iload 7, 2) := by decide +kernel
theorem dX9_lasting_93 : decode cX9_lasting 93 = .ok (.iload_n 3, 1) := by decide +kernel
theorem dX9_lasting_94 : decode cX9_lasting 94 = .ok (.if_icmp .ge 50, 3) := by decide +kernel
theorem dX9_lasting_97 : decode cX9_lasting 97 = .ok (.aload_n 0, 1) := by decide +kernel
theorem dX9_lasting_98 : decode cX9_lasting 98 = .ok (.getfield 48, 3) := by decide +kernel
theorem dX9_lasting_101 : decode cX9_lasting 101 = .ok (.bipush 6, 2) := by decide +kernel
theorem dX9_lasting_103 : decode cX9_lasting 103 = .ok (.iload 4, 2) := by decide +kernel
theorem dX9_lasting_105 : decode cX9_lasting 105 = .ok (.imul, 1) := by decide +kernel
theorem dX9_lasting_106 : decode cX9_lasting 106 = .ok (.iload 7, 2) := by decide +kernel
theorem dX9_lasting_108 : decode cX9_lasting 108 = .ok (.iadd, 1) := by decide +kernel
theorem dX9_lasting_109 : decode cX9_lasting 109 = .ok (.aload_n 0, 1) := by decide +kernel
theorem dX9_lasting_110 : decode cX9_lasting 110 = .ok (.iload_n 1, 1) := by decide +kernel
theorem dX9_lasting_111 : decode cX9_lasting 111 = .ok (.iload_n 3, 1) := by decide +kernel
theorem dX9_lasting_112 : decode cX9_lasting 112 = .ok (.iload 4, 2) := by decide +kernel
theorem dX9_lasting_114 : decode cX9_lasting 114 = .ok (.iload 7, 2) := by decide +kernel
theorem dX9_lasting_116 : decode cX9_lasting 116 = .ok (.invokevirtual 211, 3) := by decide +kernel
theorem dX9_lasting_119 : decode cX9_lasting 119 = .ok (.ineg, 1) := by decide +kernel
theorem dX9_lasting_120 : decode cX9_lasting 120 = .ok (.i2l, 1) := by decide +kernel
theorem dX9_lasting_121 : decode cX9_lasting 121 = .ok (.lastore, 1) := by decide +kernel
theorem dX9_lasting_122 : decode cX9_lasting 122 = .ok (.lload 5, 2) := by decide +kernel
theorem dX9_lasting_124 : decode cX9_lasting 124 = .ok (.aload_n 0, 1) := by decide +kernel
theorem dX9_lasting_125 : decode cX9_lasting 125 = .ok (.iload_n 1, 1) := by decide +kernel
theorem dX9_lasting_126 : decode cX9_lasting 126 = .ok (.iload_n 3, 1) := by decide +kernel
theorem dX9_lasting_127 : decode cX9_lasting 127 = .ok (.iload 4, 2) := by decide +kernel
theorem dX9_lasting_129 : decode cX9_lasting 129 = .ok (.iload 7, 2) := by decide +kernel
theorem dX9_lasting_131 : decode cX9_lasting 131 = .ok (.invokevirtual 211, 3) := by decide +kernel
theorem dX9_lasting_134 : decode cX9_lasting 134 = .ok (.i2l, 1) := by decide +kernel
theorem dX9_lasting_135 : decode cX9_lasting 135 = .ok (.ladd, 1) := by decide +kernel
theorem dX9_lasting_136 : decode cX9_lasting 136 = .ok (.lstore 5, 2) := by decide +kernel
theorem dX9_lasting_138 : decode cX9_lasting 138 = .ok (.iinc 7 1, 3) := by decide +kernel
theorem dX9_lasting_141 : decode cX9_lasting 141 = .ok (.goto (-50), 3) := by decide +kernel
theorem dX9_lasting_144 : decode cX9_lasting 144 = .ok (.aload_n 0, 1) := by decide +kernel
theorem dX9_lasting_145 : decode cX9_lasting 145 = .ok (.getfield 48, 3) := by decide +kernel
theorem dX9_lasting_148 : decode cX9_lasting 148 = .ok (.bipush 6, 2) := by decide +kernel
theorem dX9_lasting_150 : decode cX9_lasting 150 = .ok (.iload 4, 2) := by decide +kernel
theorem dX9_lasting_152 : decode cX9_lasting 152 = .ok (.imul, 1) := by decide +kernel
theorem dX9_lasting_153 : decode cX9_lasting 153 = .ok (.iload 4, 2) := by decide +kernel
theorem dX9_lasting_155 : decode cX9_lasting 155 = .ok (.iadd, 1) := by decide +kernel
theorem dX9_lasting_156 : decode cX9_lasting 156 = .ok (.lload 5, 2) := by decide +kernel
theorem dX9_lasting_158 : decode cX9_lasting 158 = .ok (.lastore, 1) := by decide +kernel
theorem dX9_lasting_159 : decode cX9_lasting 159 = .ok (.iinc 4 1, 3) := by decide +kernel
theorem dX9_lasting_162 : decode cX9_lasting 162 = .ok (.goto (-83), 3) := by decide +kernel
theorem dX9_lasting_165 : decode cX9_lasting 165 = .ok (.lconst 0, 1) := by decide +kernel
theorem dX9_lasting_166 : decode cX9_lasting 166 = .ok (.lstore 4, 2) := by decide +kernel
theorem dX9_lasting_168 : decode cX9_lasting 168 = .ok (.iconst 0, 1) := by decide +kernel
theorem dX9_lasting_169 : decode cX9_lasting 169 = .ok (.istore 6, 2) := by decide +kernel
theorem dX9_lasting_171 : decode cX9_lasting 171 = .ok (.iload 6, 2) := by decide +kernel
theorem dX9_lasting_173 : decode cX9_lasting 173 = .ok (.iload_n 3, 1) := by decide +kernel
theorem dX9_lasting_174 : decode cX9_lasting 174 = .ok (.if_icmp .ge 47, 3) := by decide +kernel
theorem dX9_lasting_177 : decode cX9_lasting 177 = .ok (.lload 4, 2) := by decide +kernel
theorem dX9_lasting_179 : decode cX9_lasting 179 = .ok (.aload_n 0, 1) := by decide +kernel
theorem dX9_lasting_180 : decode cX9_lasting 180 = .ok (.getfield 215, 3) := by decide +kernel
theorem dX9_lasting_183 : decode cX9_lasting 183 = .ok (.iload 6, 2) := by decide +kernel
theorem dX9_lasting_185 : decode cX9_lasting 185 = .ok (.ishr, 1) := by decide +kernel
theorem dX9_lasting_186 : decode cX9_lasting 186 = .ok (.iconst 1, 1) := by decide +kernel
theorem dX9_lasting_187 : decode cX9_lasting 187 = .ok (.iand, 1) := by decide +kernel
theorem dX9_lasting_188 : decode cX9_lasting 188 = .ok (.iconst 1, 1) := by decide +kernel
theorem dX9_lasting_189 : decode cX9_lasting 189 = .ok (.if_icmp .ne 22, 3) := by decide +kernel
theorem dX9_lasting_192 : decode cX9_lasting 192 = .ok (.aload_n 0, 1) := by decide +kernel
theorem dX9_lasting_193 : decode cX9_lasting 193 = .ok (.aload_n 0, 1) := by decide +kernel
theorem dX9_lasting_194 : decode cX9_lasting 194 = .ok (.getfield 215, 3) := by decide +kernel
theorem dX9_lasting_197 : decode cX9_lasting 197 = .ok (.iconst 1, 1) := by decide +kernel
theorem dX9_lasting_198 : decode cX9_lasting 198 = .ok (.iload 6, 2) := by decide +kernel
theorem dX9_lasting_200 : decode cX9_lasting 200 = .ok (.ishl, 1) := by decide +kernel
theorem dX9_lasting_201 : decode cX9_lasting 201 = .ok (.iconst (-1), 1) := by decide +kernel
theorem dX9_lasting_202 : decode cX9_lasting 202 = .ok (.ixor, 1) := by decide +kernel
theorem dX9_lasting_203 : decode cX9_lasting 203 = .ok (.iand, 1) := by decide +kernel
theorem dX9_lasting_204 : decode cX9_lasting 204 = .ok (.iload_n 3, 1) := by decide +kernel
theorem dX9_lasting_205 : decode cX9_lasting 205 = .ok (.invokevirtual 137, 3) := by decide +kernel
theorem dX9_lasting_208 : decode cX9_lasting 208 = .ok (.goto 4, 3) := by decide +kernel
theorem dX9_lasting_211 : decode cX9_lasting 211 = .ok (.lconst 0, 1) := by decide +kernel
theorem dX9_lasting_212 : decode cX9_lasting 212 = .ok (.ladd, 1) := by decide +kernel
theorem dX9_lasting_213 : decode cX9_lasting 213 = .ok (.lstore 4, 2) := by decide +kernel
theorem dX9_lasting_215 : decode cX9_lasting 215 = .ok (.iinc 6 1, 3) := by decide +kernel
theorem dX9_lasting_218 : decode cX9_lasting 218 = .ok (.goto (-47), 3) := by decide +kernel
theorem dX9_lasting_221 : decode cX9_lasting 221 = .ok (.aload_n 0, 1) := by decide +kernel
theorem dX9_lasting_222 : decode cX9_lasting 222 = .ok (.aload_n 0, 1) := by decide +kernel
theorem dX9_lasting_223 : decode cX9_lasting 223 = .ok (.aload_n 0, 1) := by decide +kernel
theorem dX9_lasting_224 : decode cX9_lasting 224 = .ok (.getfield 215, 3) := by decide +kernel
theorem dX9_lasting_227 : decode cX9_lasting 227 = .ok (.iconst 1, 1) := by decide +kernel
theorem dX9_lasting_228 : decode cX9_lasting 228 = .ok (.iload_n 2, 1) := by decide +kernel
theorem dX9_lasting_229 : decode cX9_lasting 229 = .ok (.ishl, 1) := by decide +kernel
theorem dX9_lasting_230 : decode cX9_lasting 230 = .ok (.iconst (-1), 1) := by decide +kernel
theorem dX9_lasting_231 : decode cX9_lasting 231 = .ok (.ixor, 1) := by decide +kernel
theorem dX9_lasting_232 : decode cX9_lasting 232 = .ok (.iand, 1) := by decide +kernel
theorem dX9_lasting_233 : decode cX9_lasting 233 = .ok (.iload_n 3, 1) := by decide +kernel
theorem dX9_lasting_234 : decode cX9_lasting 234 = .ok (.invokevirtual 137, 3) := by decide +kernel
theorem dX9_lasting_237 : decode cX9_lasting 237 = .ok (.lload 4, 2) := by decide +kernel
theorem dX9_lasting_239 : decode cX9_lasting 239 = .ok (.iconst 1, 1) := by decide +kernel
theorem dX9_lasting_240 : decode cX9_lasting 240 = .ok (.invokevirtual 149, 3) := by decide +kernel
theorem dX9_lasting_243 : decode cX9_lasting 243 = .ok (.ireturn, 1) := by decide +kernel
theorem cv_X9_lasting : wn_cV yX9_lasting cX9_lasting 8 (some .int) RX9 2 := ⟨wm_822, wm_1048, wm_1049, wm_637, by decide +kernel⟩
abbrev rm_X9_lasting : Room := rmz 4 86
set_option maxHeartbeats 4000000 in
set_option maxRecDepth 100000 in
theorem c_X9_lasting {ad : Nat → Nat} {o : Nat} {x1 : Int32} {x2 : Int32} {M : Mm} {q : Int32 × Mm} (ho : shp o = 9) (hF : f_X9_lasting o x1 x2 M = some q) : KI ad yX9_lasting cX9_lasting 8 (some .int) rm_X9_lasting [.ref (ad o), .int x1, .int x2] M q.1 q.2 := by
  refine wn_enterI (own := RX9) (by decide) rfl (Nat.le_of_ble_eq_true rfl) (fun X ls Z hQ hl => ?_)
  have hl : lv_has ls 8 [(0, .ref (ad o)), (1, .int x1), (2, .int x2)] := hl
  have L171 : ∀ (n171 : Nat) (v2 : Int32) (v3 : Int32) (v4 : Int64) (v6 : Int32) (M : Mm) (ls : Array Slot), lv_has ls 8 [(0, .ref (ad o)), (2, .int v2), (3, .int v3), (4, .long v4), (6, .int v6)] → f_X9_lasting_b171 o n171 v2 v3 v4 v6 M = some q → G ad X M 171 ls [] := by
    intro n171
    induction n171 with
    | zero =>
      intro v2 v3 v4 v6 M ls hl hF
      cases hF
    | succ n171 ih171 =>
      have L212 : ∀ (v2 : Int32) (v3 : Int32) (v6 : Int32) (s0 : Int64) (s1 : Int64) (M : Mm) (ls : Array Slot), lv_has ls 8 [(0, .ref (ad o)), (2, .int v2), (3, .int v3), (6, .int v6)] → f_X9_lasting_b212 (f_X9_lasting_b171 o n171) o v2 v3 v6 s0 s1 M = some q → G ad X M 212 ls [.long s1, .long s0] := by
        intro v2 v3 v6 s0 s1 M ls hl hF
        unfold f_X9_lasting_b212 at hF
        refine r_ladd Z dX9_lasting_212 ?_
        obtain ⟨t11, et11, hF⟩ := nm_some hF
        rw [← et11]
        refine r_lstore Z [(4, .long t11), (0, .ref (ad o)), (2, .int v2), (3, .int v3), (6, .int v6)] dX9_lasting_213 hl (by decide) rfl (fun ls hl => ?_)
        obtain ⟨t12, et12, hF⟩ := nm_some hF
        refine r_iinc (j := 4) Z t12 [(6, .int t12), (4, .long t11), (0, .ref (ad o)), (2, .int v2), (3, .int v3)] dX9_lasting_215 hl rfl (by rw [et12]; rfl) (by decide) rfl (fun ls hl => ?_)
        refine r_goto Z 171 dX9_lasting_218 (by decide) ?_
        exact ih171 v2 v3 t11 t12 M ls (lv_sub hl [2, 3, 4, 1, 0] rfl) hF
      intro v2 v3 v4 v6 M ls hl hF
      replace hF : f_X9_lasting_b171B (f_X9_lasting_b171 o n171) o v2 v3 v4 v6 M = some q := hF
      unfold f_X9_lasting_b171B at hF
      refine r_iload Z dX9_lasting_171 (lv_at hl 4 rfl) ?_
      refine r_iload_n Z dX9_lasting_173 rfl (lv_at hl 2 rfl) ?_
      refine r_icmp_ge Z 221 dX9_lasting_174 (by decide) (fun hc13 => ?_) (fun hc13 => ?_)
      · replace hF := if_some hc13 hF
        refine r_aload_n Z dX9_lasting_221 rfl (lv_at hl 0 rfl) ?_
        refine r_aload_n Z dX9_lasting_222 rfl (lv_at hl 0 rfl) ?_
        refine r_aload_n Z dX9_lasting_223 rfl (lv_at hl 0 rfl) ?_
        refine g_9_23 Z ho wm_809 dX9_lasting_224 ?_
        refine r_iconst (v := 1) Z dX9_lasting_227 (by decide) ?_
        refine r_iload_n Z dX9_lasting_228 rfl (lv_at hl 1 rfl) ?_
        refine r_ishl Z dX9_lasting_229 ?_
        refine r_iconst (v := (-1)) Z dX9_lasting_230 (by decide) ?_
        refine r_ixor Z dX9_lasting_231 ?_
        refine r_iand Z dX9_lasting_232 ?_
        refine r_iload_n Z dX9_lasting_233 rfl (lv_at hl 2 rfl) ?_
        obtain ⟨q14, hq14, hF⟩ := bd_some hF
        refine r_invVl [.ref (ad o)] Z (c_X9_worth ho hq14) cv_X9_worth rfl (shp_lt ho (by decide)) (fun _ _ => ⟨_, ce_9 ho⟩) wm_708 rfl rfl ⟨Nat.le_of_ble_eq_true rfl, Nat.le_of_ble_eq_true rfl⟩ rfl hl.1 rfl (Nat.le_of_ble_eq_true rfl) dX9_lasting_234 ?_
        refine r_lload Z dX9_lasting_237 (lv_at hl 3 rfl) ?_
        refine r_iconst (v := 1) Z dX9_lasting_239 (by decide) ?_
        obtain ⟨q15, hq15, hF⟩ := bd_some hF
        refine r_invVi [] Z (c_X9_share ho hq15) cv_X9_share rfl (shp_lt ho (by decide)) (fun _ _ => ⟨_, ce_9 ho⟩) wm_719 rfl rfl ⟨Nat.le_of_ble_eq_true rfl, Nat.le_of_ble_eq_true rfl⟩ rfl hl.1 rfl (Nat.le_of_ble_eq_true rfl) dX9_lasting_240 ?_
        exact r_iret Z hQ hF dX9_lasting_243
      · replace hF := nif_some hc13 hF
        refine r_lload Z dX9_lasting_177 (lv_at hl 3 rfl) ?_
        refine r_aload_n Z dX9_lasting_179 rfl (lv_at hl 0 rfl) ?_
        refine g_9_23 Z ho wm_809 dX9_lasting_180 ?_
        refine r_iload Z dX9_lasting_183 (lv_at hl 4 rfl) ?_
        refine r_ishr Z dX9_lasting_185 ?_
        refine r_iconst (v := 1) Z dX9_lasting_186 (by decide) ?_
        refine r_iand Z dX9_lasting_187 ?_
        refine r_iconst (v := 1) Z dX9_lasting_188 (by decide) ?_
        refine r_icmp_ne Z 211 dX9_lasting_189 (by decide) (fun hc16 => ?_) (fun hc16 => ?_)
        · replace hF := nif_some hc16 hF
          refine r_lconst (v := 0) Z dX9_lasting_211 (by decide) ?_
          exact L212 v2 v3 v6 v4 0 M ls (lv_sub hl [0, 1, 2, 4] rfl) hF
        · replace hF := if_some hc16 hF
          refine r_aload_n Z dX9_lasting_192 rfl (lv_at hl 0 rfl) ?_
          refine r_aload_n Z dX9_lasting_193 rfl (lv_at hl 0 rfl) ?_
          refine g_9_23 Z ho wm_809 dX9_lasting_194 ?_
          refine r_iconst (v := 1) Z dX9_lasting_197 (by decide) ?_
          refine r_iload Z dX9_lasting_198 (lv_at hl 4 rfl) ?_
          refine r_ishl Z dX9_lasting_200 ?_
          refine r_iconst (v := (-1)) Z dX9_lasting_201 (by decide) ?_
          refine r_ixor Z dX9_lasting_202 ?_
          refine r_iand Z dX9_lasting_203 ?_
          refine r_iload_n Z dX9_lasting_204 rfl (lv_at hl 2 rfl) ?_
          obtain ⟨q17, hq17, hF⟩ := bd_some hF
          refine r_invVl [.long v4] Z (c_X9_worth ho hq17) cv_X9_worth rfl (shp_lt ho (by decide)) (fun _ _ => ⟨_, ce_9 ho⟩) wm_708 rfl rfl ⟨Nat.le_of_ble_eq_true rfl, Nat.le_of_ble_eq_true rfl⟩ rfl hl.1 rfl (Nat.le_of_ble_eq_true rfl) dX9_lasting_205 ?_
          refine r_goto Z 212 dX9_lasting_208 (by decide) ?_
          exact L212 v2 v3 v6 v4 q17.1 q17.2 ls (lv_sub hl [0, 1, 2, 4] rfl) hF
  have L79 : ∀ (n79 : Nat) (v1 : Int32) (v2 : Int32) (v3 : Int32) (v4 : Int32) (M : Mm) (ls : Array Slot), lv_has ls 8 [(0, .ref (ad o)), (1, .int v1), (2, .int v2), (3, .int v3), (4, .int v4)] → f_X9_lasting_b79 o n79 v1 v2 v3 v4 M = some q → G ad X M 79 ls [] := by
    intro n79
    induction n79 with
    | zero =>
      intro v1 v2 v3 v4 M ls hl hF
      cases hF
    | succ n79 ih79 =>
      have L91 : ∀ (n91 : Nat) (v1 : Int32) (v2 : Int32) (v3 : Int32) (v4 : Int32) (v5 : Int64) (v7 : Int32) (M : Mm) (ls : Array Slot), lv_has ls 8 [(0, .ref (ad o)), (1, .int v1), (2, .int v2), (3, .int v3), (4, .int v4), (5, .long v5), (7, .int v7)] → f_X9_lasting_b91 (f_X9_lasting_b79 o n79) o n91 v1 v2 v3 v4 v5 v7 M = some q → G ad X M 91 ls [] := by
        intro n91
        induction n91 with
        | zero =>
          intro v1 v2 v3 v4 v5 v7 M ls hl hF
          cases hF
        | succ n91 ih91 =>
          intro v1 v2 v3 v4 v5 v7 M ls hl hF
          replace hF : f_X9_lasting_b91B (f_X9_lasting_b79 o n79) (f_X9_lasting_b91 (f_X9_lasting_b79 o n79) o n91) o v1 v2 v3 v4 v5 v7 M = some q := hF
          unfold f_X9_lasting_b91B at hF
          refine r_iload Z dX9_lasting_91 (lv_at hl 6 rfl) ?_
          refine r_iload_n Z dX9_lasting_93 rfl (lv_at hl 3 rfl) ?_
          refine r_icmp_ge Z 144 dX9_lasting_94 (by decide) (fun hc1 => ?_) (fun hc1 => ?_)
          · replace hF := if_some hc1 hF
            refine r_aload_n Z dX9_lasting_144 rfl (lv_at hl 0 rfl) ?_
            refine g_9_15 Z ho wm_621 dX9_lasting_145 ?_
            refine r_bipush (v := 6) Z dX9_lasting_148 (by decide) ?_
            refine r_iload Z dX9_lasting_150 (lv_at hl 4 rfl) ?_
            refine r_imul Z dX9_lasting_152 ?_
            refine r_iload Z dX9_lasting_153 (lv_at hl 4 rfl) ?_
            refine r_iadd Z dX9_lasting_155 ?_
            refine r_lload Z dX9_lasting_156 (lv_at hl 5 rfl) ?_
            obtain ⟨hi2, hF⟩ := ck_some hF
            obtain ⟨M3, eM3, hF⟩ := nm_some hF
            refine r_lastore Z (shp_lt (sh_9_15 ho) (by decide)) (fun _ _ => ce_1036 (sh_9_15 ho)) hi2 dX9_lasting_158 ?_
            rw [← eM3]
            obtain ⟨t4, et4, hF⟩ := nm_some hF
            refine r_iinc (j := 4) Z t4 [(4, .int t4), (0, .ref (ad o)), (1, .int v1), (2, .int v2), (3, .int v3), (5, .long v5), (7, .int v7)] dX9_lasting_159 hl rfl (by rw [et4]; rfl) (by decide) rfl (fun ls hl => ?_)
            refine r_goto Z 79 dX9_lasting_162 (by decide) ?_
            exact ih79 v1 v2 v3 t4 M3 ls (lv_sub hl [1, 2, 3, 4, 0] rfl) hF
          · replace hF := nif_some hc1 hF
            refine r_aload_n Z dX9_lasting_97 rfl (lv_at hl 0 rfl) ?_
            refine g_9_15 Z ho wm_621 dX9_lasting_98 ?_
            refine r_bipush (v := 6) Z dX9_lasting_101 (by decide) ?_
            refine r_iload Z dX9_lasting_103 (lv_at hl 4 rfl) ?_
            refine r_imul Z dX9_lasting_105 ?_
            refine r_iload Z dX9_lasting_106 (lv_at hl 6 rfl) ?_
            refine r_iadd Z dX9_lasting_108 ?_
            refine r_aload_n Z dX9_lasting_109 rfl (lv_at hl 0 rfl) ?_
            refine r_iload_n Z dX9_lasting_110 rfl (lv_at hl 1 rfl) ?_
            refine r_iload_n Z dX9_lasting_111 rfl (lv_at hl 3 rfl) ?_
            refine r_iload Z dX9_lasting_112 (lv_at hl 4 rfl) ?_
            refine r_iload Z dX9_lasting_114 (lv_at hl 6 rfl) ?_
            obtain ⟨q5, hq5, hF⟩ := bd_some hF
            refine r_invVi [.int ((6 * v4) + v7), .ref (ad (fld o 15))] Z (c_X9_rateOf ho hq5) cv_X9_rateOf rfl (shp_lt ho (by decide)) (fun _ _ => ⟨_, ce_9 ho⟩) wm_805 rfl rfl ⟨Nat.le_of_ble_eq_true rfl, Nat.le_of_ble_eq_true rfl⟩ rfl hl.1 rfl (Nat.le_of_ble_eq_true rfl) dX9_lasting_116 ?_
            refine r_ineg Z dX9_lasting_119 ?_
            refine r_i2l Z dX9_lasting_120 ?_
            obtain ⟨hi6, hF⟩ := ck_some hF
            obtain ⟨M7, eM7, hF⟩ := nm_some hF
            refine r_lastore Z (shp_lt (sh_9_15 ho) (by decide)) (fun _ _ => ce_1036 (sh_9_15 ho)) hi6 dX9_lasting_121 ?_
            rw [← eM7]
            refine r_lload Z dX9_lasting_122 (lv_at hl 5 rfl) ?_
            refine r_aload_n Z dX9_lasting_124 rfl (lv_at hl 0 rfl) ?_
            refine r_iload_n Z dX9_lasting_125 rfl (lv_at hl 1 rfl) ?_
            refine r_iload_n Z dX9_lasting_126 rfl (lv_at hl 3 rfl) ?_
            refine r_iload Z dX9_lasting_127 (lv_at hl 4 rfl) ?_
            refine r_iload Z dX9_lasting_129 (lv_at hl 6 rfl) ?_
            obtain ⟨q8, hq8, hF⟩ := bd_some hF
            refine r_invVi [.long v5] Z (c_X9_rateOf ho hq8) cv_X9_rateOf rfl (shp_lt ho (by decide)) (fun _ _ => ⟨_, ce_9 ho⟩) wm_805 rfl rfl ⟨Nat.le_of_ble_eq_true rfl, Nat.le_of_ble_eq_true rfl⟩ rfl hl.1 rfl (Nat.le_of_ble_eq_true rfl) dX9_lasting_131 ?_
            refine r_i2l Z dX9_lasting_134 ?_
            refine r_ladd Z dX9_lasting_135 ?_
            obtain ⟨t9, et9, hF⟩ := nm_some hF
            rw [← et9]
            refine r_lstore Z [(5, .long t9), (0, .ref (ad o)), (1, .int v1), (2, .int v2), (3, .int v3), (4, .int v4), (7, .int v7)] dX9_lasting_136 hl (by decide) rfl (fun ls hl => ?_)
            obtain ⟨t10, et10, hF⟩ := nm_some hF
            refine r_iinc (j := 6) Z t10 [(7, .int t10), (5, .long t9), (0, .ref (ad o)), (1, .int v1), (2, .int v2), (3, .int v3), (4, .int v4)] dX9_lasting_138 hl rfl (by rw [et10]; rfl) (by decide) rfl (fun ls hl => ?_)
            refine r_goto Z 91 dX9_lasting_141 (by decide) ?_
            exact ih91 v1 v2 v3 v4 t9 t10 q8.2 ls (lv_sub hl [2, 3, 4, 5, 6, 1, 0] rfl) hF
      intro v1 v2 v3 v4 M ls hl hF
      replace hF : f_X9_lasting_b79B (f_X9_lasting_b79 o n79) o v1 v2 v3 v4 M = some q := hF
      unfold f_X9_lasting_b79B at hF
      refine r_iload Z dX9_lasting_79 (lv_at hl 4 rfl) ?_
      refine r_iload_n Z dX9_lasting_81 rfl (lv_at hl 3 rfl) ?_
      refine r_icmp_ge Z 165 dX9_lasting_82 (by decide) (fun hc18 => ?_) (fun hc18 => ?_)
      · replace hF := if_some hc18 hF
        refine r_lconst (v := 0) Z dX9_lasting_165 (by decide) ?_
        refine r_lstore Z [(4, .long 0), (0, .ref (ad o)), (1, .int v1), (2, .int v2), (3, .int v3)] dX9_lasting_166 hl (by decide) rfl (fun ls hl => ?_)
        refine r_iconst (v := 0) Z dX9_lasting_168 (by decide) ?_
        refine r_istore Z [(6, .int 0), (4, .long 0), (0, .ref (ad o)), (1, .int v1), (2, .int v2), (3, .int v3)] dX9_lasting_169 hl (by decide) rfl (fun ls hl => ?_)
        exact L171 _ v2 v3 0 0 M ls (lv_sub hl [2, 4, 5, 1, 0] rfl) hF
      · replace hF := nif_some hc18 hF
        refine r_lconst (v := 0) Z dX9_lasting_85 (by decide) ?_
        refine r_lstore Z [(5, .long 0), (0, .ref (ad o)), (1, .int v1), (2, .int v2), (3, .int v3), (4, .int v4)] dX9_lasting_86 hl (by decide) rfl (fun ls hl => ?_)
        refine r_iconst (v := 0) Z dX9_lasting_88 (by decide) ?_
        refine r_istore Z [(7, .int 0), (5, .long 0), (0, .ref (ad o)), (1, .int v1), (2, .int v2), (3, .int v3), (4, .int v4)] dX9_lasting_89 hl (by decide) rfl (fun ls hl => ?_)
        exact L91 _ v1 v2 v3 v4 0 0 M ls (lv_sub hl [2, 3, 4, 5, 6, 1, 0] rfl) hF
  unfold f_X9_lasting at hF
  refine r_aload_n Z dX9_lasting_0 rfl (lv_at hl 0 rfl) ?_
  refine r_iload_n Z dX9_lasting_1 rfl (lv_at hl 1 rfl) ?_
  obtain ⟨q19, hq19, hF⟩ := bd_some hF
  refine r_invVi [] Z (c_X9_askedChain ho hq19) cv_X9_askedChain rfl (shp_lt ho (by decide)) (fun _ _ => ⟨_, ce_9 ho⟩) wm_813 rfl rfl ⟨Nat.le_of_ble_eq_true rfl, Nat.le_of_ble_eq_true rfl⟩ rfl hl.1 rfl (Nat.le_of_ble_eq_true rfl) dX9_lasting_2 ?_
  refine r_istore_n Z [(3, .int q19.1), (0, .ref (ad o)), (1, .int x1), (2, .int x2)] dX9_lasting_5 rfl hl (by decide) rfl (fun ls hl => ?_)
  refine r_iload_n Z dX9_lasting_6 rfl (lv_at hl 0 rfl) ?_
  refine r_if_ge Z 12 dX9_lasting_7 (by decide) (fun hc20 => ?_) (fun hc20 => ?_)
  · replace hF := if_some hc20 hF
    refine r_aload_n Z dX9_lasting_12 rfl (lv_at hl 1 rfl) ?_
    refine r_iload_n Z dX9_lasting_13 rfl (lv_at hl 2 rfl) ?_
    refine r_iload_n Z dX9_lasting_14 rfl (lv_at hl 0 rfl) ?_
    obtain ⟨q21, hq21, hF⟩ := bd_some hF
    refine r_invVi [] Z (c_X9_areRates ho hq21) cv_X9_areRates rfl (shp_lt ho (by decide)) (fun _ _ => ⟨_, ce_9 ho⟩) wm_816 rfl rfl ⟨Nat.le_of_ble_eq_true rfl, Nat.le_of_ble_eq_true rfl⟩ rfl hl.1 rfl (Nat.le_of_ble_eq_true rfl) dX9_lasting_15 ?_
    refine r_if_ne Z 27 dX9_lasting_18 (by decide) (fun hc22 => ?_) (fun hc22 => ?_)
    · replace hF := nif_some hc22 hF
      refine r_iload_n Z dX9_lasting_27 rfl (lv_at hl 3 rfl) ?_
      refine r_iconst (v := 0) Z dX9_lasting_28 (by decide) ?_
      refine r_iload_n Z dX9_lasting_29 rfl (lv_at hl 0 rfl) ?_
      refine r_iconst (v := 1) Z dX9_lasting_30 (by decide) ?_
      refine r_isub Z dX9_lasting_31 ?_
      obtain ⟨q23, hq23, hF⟩ := bd_some hF
      refine r_invSi [] Z (c_X9_in hq23) cv_X9_in wm_639 rfl rfl ⟨Nat.le_of_ble_eq_true rfl, Nat.le_of_ble_eq_true rfl⟩ rfl hl.1 rfl (Nat.le_of_ble_eq_true rfl) dX9_lasting_32 ?_
      refine r_if_ne Z 44 dX9_lasting_35 (by decide) (fun hc24 => ?_) (fun hc24 => ?_)
      · replace hF := nif_some hc24 hF
        refine r_aload_n Z dX9_lasting_44 rfl (lv_at hl 1 rfl) ?_
        refine r_iload_n Z dX9_lasting_45 rfl (lv_at hl 2 rfl) ?_
        refine r_iload_n Z dX9_lasting_46 rfl (lv_at hl 0 rfl) ?_
        obtain ⟨q25, hq25, hF⟩ := bd_some hF
        refine r_invVi [] Z (c_X9_partsOf ho hq25) cv_X9_partsOf rfl (shp_lt ho (by decide)) (fun _ _ => ⟨_, ce_9 ho⟩) wm_819 rfl rfl ⟨Nat.le_of_ble_eq_true rfl, Nat.le_of_ble_eq_true rfl⟩ rfl hl.1 rfl (Nat.le_of_ble_eq_true rfl) dX9_lasting_47 ?_
        refine r_iconst (v := 1) Z dX9_lasting_50 (by decide) ?_
        refine r_icmp_le Z 57 dX9_lasting_51 (by decide) (fun hc26 => ?_) (fun hc26 => ?_)
        · replace hF := if_some hc26 hF
          refine r_aload_n Z dX9_lasting_57 rfl (lv_at hl 1 rfl) ?_
          refine g_9_23 Z ho wm_809 dX9_lasting_58 ?_
          refine r_iload_n Z dX9_lasting_61 rfl (lv_at hl 3 rfl) ?_
          refine r_ishr Z dX9_lasting_62 ?_
          refine r_iconst (v := 1) Z dX9_lasting_63 (by decide) ?_
          refine r_iand Z dX9_lasting_64 ?_
          refine r_if_ne Z 76 dX9_lasting_65 (by decide) (fun hc27 => ?_) (fun hc27 => ?_)
          · replace hF := nif_some hc27 hF
            refine r_iconst (v := 0) Z dX9_lasting_76 (by decide) ?_
            refine r_istore Z [(4, .int 0), (3, .int q19.1), (0, .ref (ad o)), (1, .int x1), (2, .int x2)] dX9_lasting_77 hl (by decide) rfl (fun ls hl => ?_)
            exact L79 _ x1 x2 q19.1 0 q25.2 ls (lv_sub hl [2, 3, 4, 1, 0] rfl) hF
          · replace hF := if_some hc27 hF
            refine r_aload_n Z dX9_lasting_68 rfl (lv_at hl 1 rfl) ?_
            refine r_lconst (v := 0) Z dX9_lasting_69 (by decide) ?_
            refine r_lconst (v := 1) Z dX9_lasting_70 (by decide) ?_
            refine r_iconst (v := 1) Z dX9_lasting_71 (by decide) ?_
            obtain ⟨q28, hq28, hF⟩ := bd_some hF
            refine r_invVi [] Z (c_X9_share ho hq28) cv_X9_share rfl (shp_lt ho (by decide)) (fun _ _ => ⟨_, ce_9 ho⟩) wm_719 rfl rfl ⟨Nat.le_of_ble_eq_true rfl, Nat.le_of_ble_eq_true rfl⟩ rfl hl.1 rfl (Nat.le_of_ble_eq_true rfl) dX9_lasting_72 ?_
            exact r_iret Z hQ hF dX9_lasting_75
        · replace hF := nif_some hc26 hF
          refine r_bipush (v := (-4)) Z dX9_lasting_54 (by decide) ?_
          exact r_iret Z hQ hF dX9_lasting_56
      · replace hF := if_some hc24 hF
        refine r_aload_n Z dX9_lasting_38 rfl (lv_at hl 1 rfl) ?_
        refine r_iconst (v := 2) Z dX9_lasting_39 (by decide) ?_
        obtain ⟨q29, hq29, hF⟩ := bd_some hF
        refine r_invVi [] Z (c_X9_meets ho hq29) cv_X9_meets rfl (shp_lt ho (by decide)) (fun _ _ => ⟨_, ce_9 ho⟩) wm_644 rfl rfl ⟨Nat.le_of_ble_eq_true rfl, Nat.le_of_ble_eq_true rfl⟩ rfl hl.1 rfl (Nat.le_of_ble_eq_true rfl) dX9_lasting_40 ?_
        exact r_iret Z hQ hF dX9_lasting_43
    · replace hF := if_some hc22 hF
      refine r_aload_n Z dX9_lasting_21 rfl (lv_at hl 1 rfl) ?_
      refine r_iconst (v := 3) Z dX9_lasting_22 (by decide) ?_
      obtain ⟨q30, hq30, hF⟩ := bd_some hF
      refine r_invVi [] Z (c_X9_meets ho hq30) cv_X9_meets rfl (shp_lt ho (by decide)) (fun _ _ => ⟨_, ce_9 ho⟩) wm_644 rfl rfl ⟨Nat.le_of_ble_eq_true rfl, Nat.le_of_ble_eq_true rfl⟩ rfl hl.1 rfl (Nat.le_of_ble_eq_true rfl) dX9_lasting_23 ?_
      exact r_iret Z hQ hF dX9_lasting_26
  · replace hF := nif_some hc20 hF
    refine r_iload_n Z dX9_lasting_10 rfl (lv_at hl 0 rfl) ?_
    exact r_iret Z hQ hF dX9_lasting_11
theorem dX9_lay_0 : decode cX9_lay 0 = .ok (.aload_n 0, 1) := by decide +kernel
theorem dX9_lay_1 : decode cX9_lay 1 = .ok (.iload_n 1, 1) := by decide +kernel
theorem dX9_lay_2 : decode cX9_lay 2 = .ok (.invokevirtual 93, 3) := by decide +kernel
theorem dX9_lay_5 : decode cX9_lay 5 = .ok (.istore 4, 2) := by decide +kernel
theorem dX9_lay_7 : decode cX9_lay 7 = .ok (.iload 4, 2) := by decide +kernel
theorem dX9_lay_9 : decode cX9_lay 9 = .ok (.ifCond .ge 6, 3) := by decide +kernel
theorem dX9_lay_12 : decode cX9_lay 12 = .ok (.iload 4, 2) := by decide +kernel
theorem dX9_lay_14 : decode cX9_lay 14 = .ok (.ireturn, 1) := by decide +kernel
theorem dX9_lay_15 : decode cX9_lay 15 = .ok (.iload_n 2, 1) := by decide +kernel
theorem dX9_lay_16 : decode cX9_lay 16 = .ok (.iconst 0, 1) := by decide +kernel
theorem dX9_lay_17 : decode cX9_lay 17 = .ok (.aload_n 0, 1) := by decide +kernel
theorem dX9_lay_18 : decode cX9_lay 18 = .ok (.getfield 17, 3) := by decide +kernel
theorem dX9_lay_21 : decode cX9_lay 21 = .ok (.iload_n 1, 1) := by decide +kernel
theorem dX9_lay_22 : decode cX9_lay 22 = .ok (.iaload, 1) := by decide +kernel
theorem dX9_lay_23 : decode cX9_lay 23 = .ok (.iconst 1, 1) := by decide +kernel
theorem dX9_lay_24 : decode cX9_lay 24 = .ok (.isub, 1) := by decide +kernel
theorem dX9_lay_25 : decode cX9_lay 25 = .ok (.invokestatic 81, 3) := by decide +kernel
theorem dX9_lay_28 : decode cX9_lay 28 = .ok (.ifCond .ne 9, 3) := by decide +kernel
theorem dX9_lay_31 : decode cX9_lay 31 = .ok (.aload_n 0, 1) := by decide +kernel
theorem dX9_lay_32 : decode cX9_lay 32 = .ok (.iconst 2, 1) := by decide +kernel
theorem dX9_lay_33 : decode cX9_lay 33 = .ok (.invokevirtual 89, 3) := by decide +kernel
theorem dX9_lay_36 : decode cX9_lay 36 = .ok (.ireturn, 1) := by decide +kernel
theorem dX9_lay_37 : decode cX9_lay 37 = .ok (.aload_n 0, 1) := by decide +kernel
theorem dX9_lay_38 : decode cX9_lay 38 = .ok (.aload_n 0, 1) := by decide +kernel
theorem dX9_lay_39 : decode cX9_lay 39 = .ok (.getfield 20, 3) := by decide +kernel
theorem dX9_lay_42 : decode cX9_lay 42 = .ok (.bipush 40, 2) := by decide +kernel
theorem dX9_lay_44 : decode cX9_lay 44 = .ok (.iload_n 1, 1) := by decide +kernel
theorem dX9_lay_45 : decode cX9_lay 45 = .ok (.imul, 1) := by decide +kernel
theorem dX9_lay_46 : decode cX9_lay 46 = .ok (.iload_n 2, 1) := by decide +kernel
theorem dX9_lay_47 : decode cX9_lay 47 = .ok (.iadd, 1) := by decide +kernel
theorem dX9_lay_48 : decode cX9_lay 48 = .ok (.iaload, 1) := by decide +kernel
theorem dX9_lay_49 : decode cX9_lay 49 = .ok (.putfield 71, 3) := by decide +kernel
theorem dX9_lay_52 : decode cX9_lay 52 = .ok (.aload_n 0, 1) := by decide +kernel
theorem dX9_lay_53 : decode cX9_lay 53 = .ok (.getfield 20, 3) := by decide +kernel
theorem dX9_lay_56 : decode cX9_lay 56 = .ok (.bipush 40, 2) := by decide +kernel
theorem dX9_lay_58 : decode cX9_lay 58 = .ok (.iload_n 1, 1) := by decide +kernel
theorem dX9_lay_59 : decode cX9_lay 59 = .ok (.imul, 1) := by decide +kernel
theorem dX9_lay_60 : decode cX9_lay 60 = .ok (.iload_n 2, 1) := by decide +kernel
theorem dX9_lay_61 : decode cX9_lay 61 = .ok (.iadd, 1) := by decide +kernel
theorem dX9_lay_62 : decode cX9_lay 62 = .ok (.iload_n 3, 1) := by decide +kernel
theorem dX9_lay_63 : decode cX9_lay 63 = .ok (.iastore, 1) := by decide +kernel
theorem dX9_lay_64 : decode cX9_lay 64 = .ok (.iconst 1, 1) := by decide +kernel
theorem dX9_lay_65 : decode cX9_lay 65 = .ok (.ireturn, 1) := by decide +kernel
theorem cv_X9_lay : wn_cV yX9_lay cX9_lay 5 (some .int) RX9 3 := ⟨wm_648, wm_868, wm_869, wm_637, by decide +kernel⟩
abbrev rm_X9_lay : Room := rmz 3 63
set_option maxHeartbeats 4000000 in
set_option maxRecDepth 100000 in
theorem c_X9_lay {ad : Nat → Nat} {o : Nat} {x1 : Int32} {x2 : Int32} {x3 : Int32} {M : Mm} {q : Int32 × Mm} (ho : shp o = 9) (hF : f_X9_lay o x1 x2 x3 M = some q) : KI ad yX9_lay cX9_lay 5 (some .int) rm_X9_lay [.ref (ad o), .int x1, .int x2, .int x3] M q.1 q.2 := by
  refine wn_enterI (own := RX9) (by decide) rfl (Nat.le_of_ble_eq_true rfl) (fun X ls Z hQ hl => ?_)
  have hl : lv_has ls 5 [(0, .ref (ad o)), (1, .int x1), (2, .int x2), (3, .int x3)] := hl
  unfold f_X9_lay at hF
  refine r_aload_n Z dX9_lay_0 rfl (lv_at hl 0 rfl) ?_
  refine r_iload_n Z dX9_lay_1 rfl (lv_at hl 1 rfl) ?_
  obtain ⟨q1, hq1, hF⟩ := bd_some hF
  refine r_invVi [] Z (c_X9_askedRow ho hq1) cv_X9_askedRow rfl (shp_lt ho (by decide)) (fun _ _ => ⟨_, ce_9 ho⟩) wm_649 rfl rfl ⟨Nat.le_of_ble_eq_true rfl, Nat.le_of_ble_eq_true rfl⟩ rfl hl.1 rfl (Nat.le_of_ble_eq_true rfl) dX9_lay_2 ?_
  refine r_istore Z [(4, .int q1.1), (0, .ref (ad o)), (1, .int x1), (2, .int x2), (3, .int x3)] dX9_lay_5 hl (by decide) rfl (fun ls hl => ?_)
  refine r_iload Z dX9_lay_7 (lv_at hl 0 rfl) ?_
  refine r_if_ge Z 15 dX9_lay_9 (by decide) (fun hc2 => ?_) (fun hc2 => ?_)
  · replace hF := if_some hc2 hF
    refine r_iload_n Z dX9_lay_15 rfl (lv_at hl 3 rfl) ?_
    refine r_iconst (v := 0) Z dX9_lay_16 (by decide) ?_
    refine r_aload_n Z dX9_lay_17 rfl (lv_at hl 1 rfl) ?_
    refine g_9_5 Z ho wm_610 dX9_lay_18 ?_
    refine r_iload_n Z dX9_lay_21 rfl (lv_at hl 2 rfl) ?_
    obtain ⟨hi3, hF⟩ := ck_some hF
    refine r_iaload Z (shp_lt (sh_9_5 ho) (by decide)) (fun _ _ => ce_106 (sh_9_5 ho)) hi3 dX9_lay_22 ?_
    refine r_iconst (v := 1) Z dX9_lay_23 (by decide) ?_
    refine r_isub Z dX9_lay_24 ?_
    obtain ⟨q4, hq4, hF⟩ := bd_some hF
    refine r_invSi [] Z (c_X9_in hq4) cv_X9_in wm_639 rfl rfl ⟨Nat.le_of_ble_eq_true rfl, Nat.le_of_ble_eq_true rfl⟩ rfl hl.1 rfl (Nat.le_of_ble_eq_true rfl) dX9_lay_25 ?_
    refine r_if_ne Z 37 dX9_lay_28 (by decide) (fun hc5 => ?_) (fun hc5 => ?_)
    · replace hF := nif_some hc5 hF
      refine r_aload_n Z dX9_lay_37 rfl (lv_at hl 1 rfl) ?_
      refine r_aload_n Z dX9_lay_38 rfl (lv_at hl 1 rfl) ?_
      refine g_9_6 Z ho wm_611 dX9_lay_39 ?_
      refine r_bipush (v := 40) Z dX9_lay_42 (by decide) ?_
      refine r_iload_n Z dX9_lay_44 rfl (lv_at hl 2 rfl) ?_
      refine r_imul Z dX9_lay_45 ?_
      refine r_iload_n Z dX9_lay_46 rfl (lv_at hl 3 rfl) ?_
      refine r_iadd Z dX9_lay_47 ?_
      obtain ⟨hi6, hF⟩ := ck_some hF
      refine r_iaload Z (shp_lt (sh_9_6 ho) (by decide)) (fun _ _ => ce_340 (sh_9_6 ho)) hi6 dX9_lay_48 ?_
      obtain ⟨M7, eM7, hF⟩ := nm_some hF
      refine p_9_2 Z ho wm_631 dX9_lay_49 ?_
      rw [← eM7]
      refine r_aload_n Z dX9_lay_52 rfl (lv_at hl 1 rfl) ?_
      refine g_9_6 Z ho wm_611 dX9_lay_53 ?_
      refine r_bipush (v := 40) Z dX9_lay_56 (by decide) ?_
      refine r_iload_n Z dX9_lay_58 rfl (lv_at hl 2 rfl) ?_
      refine r_imul Z dX9_lay_59 ?_
      refine r_iload_n Z dX9_lay_60 rfl (lv_at hl 3 rfl) ?_
      refine r_iadd Z dX9_lay_61 ?_
      refine r_iload_n Z dX9_lay_62 rfl (lv_at hl 4 rfl) ?_
      obtain ⟨hi8, hF⟩ := ck_some hF
      obtain ⟨M9, eM9, hF⟩ := nm_some hF
      refine r_iastore Z (shp_lt (sh_9_6 ho) (by decide)) (fun _ _ => ce_340 (sh_9_6 ho)) hi8 dX9_lay_63 ?_
      rw [← eM9]
      refine r_iconst (v := 1) Z dX9_lay_64 (by decide) ?_
      exact r_iret Z hQ hF dX9_lay_65
    · replace hF := if_some hc5 hF
      refine r_aload_n Z dX9_lay_31 rfl (lv_at hl 1 rfl) ?_
      refine r_iconst (v := 2) Z dX9_lay_32 (by decide) ?_
      obtain ⟨q10, hq10, hF⟩ := bd_some hF
      refine r_invVi [] Z (c_X9_meets ho hq10) cv_X9_meets rfl (shp_lt ho (by decide)) (fun _ _ => ⟨_, ce_9 ho⟩) wm_644 rfl rfl ⟨Nat.le_of_ble_eq_true rfl, Nat.le_of_ble_eq_true rfl⟩ rfl hl.1 rfl (Nat.le_of_ble_eq_true rfl) dX9_lay_33 ?_
      exact r_iret Z hQ hF dX9_lay_36
  · replace hF := nif_some hc2 hF
    refine r_iload Z dX9_lay_12 (lv_at hl 0 rfl) ?_
    exact r_iret Z hQ hF dX9_lay_14
theorem dX9_lower_0 : decode cX9_lower 0 = .ok (.aload_n 0, 1) := by decide +kernel
theorem dX9_lower_1 : decode cX9_lower 1 = .ok (.getfield 13, 3) := by decide +kernel
theorem dX9_lower_4 : decode cX9_lower 4 = .ok (.lreturn, 1) := by decide +kernel
theorem cv_X9_lower : wn_cV yX9_lower cX9_lower 1 (some .long) RX9 0 := ⟨wm_835, wm_1090, wm_1091, wm_637, by decide +kernel⟩
abbrev rm_X9_lower : Room := rmz 0 0
set_option maxHeartbeats 4000000 in
set_option maxRecDepth 100000 in
theorem c_X9_lower {ad : Nat → Nat} {o : Nat} {M : Mm} {q : Int64 × Mm} (ho : shp o = 9) (hF : f_X9_lower o M = some q) : KL ad yX9_lower cX9_lower 1 (some .long) rm_X9_lower [.ref (ad o)] M q.1 q.2 := by
  refine wn_enterL (own := RX9) (by decide) rfl (Nat.le_of_ble_eq_true rfl) (fun X ls Z hQ hl => ?_)
  have hl : lv_has ls 1 [(0, .ref (ad o))] := hl
  unfold f_X9_lower at hF
  refine r_aload_n Z dX9_lower_0 rfl (lv_at hl 0 rfl) ?_
  refine g_9_4 Z ho wm_609 dX9_lower_1 ?_
  exact r_lret Z hQ hF dX9_lower_4
theorem dX9_mark_0 : decode cX9_mark 0 = .ok (.iload_n 2, 1) := by decide +kernel
theorem dX9_mark_1 : decode cX9_mark 1 = .ok (.iconst 1, 1) := by decide +kernel
theorem dX9_mark_2 : decode cX9_mark 2 = .ok (.iconst 5, 1) := by decide +kernel
theorem dX9_mark_3 : decode cX9_mark 3 = .ok (.invokestatic 81, 3) := by decide +kernel
theorem dX9_mark_6 : decode cX9_mark 6 = .ok (.ifCond .ne 5, 3) := by decide +kernel
theorem dX9_mark_9 : decode cX9_mark 9 = .ok (.iconst (-1), 1) := by decide +kernel
theorem dX9_mark_10 : decode cX9_mark 10 = .ok (.ireturn, 1) := by decide +kernel
theorem dX9_mark_11 : decode cX9_mark 11 = .ok (.aload_n 0, 1) := by decide +kernel
theorem dX9_mark_12 : decode cX9_mark 12 = .ok (.iload_n 1, 1) := by decide +kernel
theorem dX9_mark_13 : decode cX9_mark 13 = .ok (.invokevirtual 107, 3) := by decide +kernel
theorem dX9_mark_16 : decode cX9_mark 16 = .ok (.istore_n 3, 1) := by decide +kernel
theorem dX9_mark_17 : decode cX9_mark 17 = .ok (.iload_n 3, 1) := by decide +kernel
theorem dX9_mark_18 : decode cX9_mark 18 = .ok (.ifCond .ge 5, 3) := by decide +kernel
theorem dX9_mark_21 : decode cX9_mark 21 = .ok (.iload_n 3, 1) := by decide +kernel
theorem dX9_mark_22 : decode cX9_mark 22 = .ok (.ireturn, 1) := by decide +kernel
theorem dX9_mark_23 : decode cX9_mark 23 = .ok (.aload_n 0, 1) := by decide +kernel
theorem dX9_mark_24 : decode cX9_mark 24 = .ok (.getfield 30, 3) := by decide +kernel
theorem dX9_mark_27 : decode cX9_mark 27 = .ok (.iload_n 1, 1) := by decide +kernel
theorem dX9_mark_28 : decode cX9_mark 28 = .ok (.iaload, 1) := by decide +kernel
theorem dX9_mark_29 : decode cX9_mark 29 = .ok (.iload_n 2, 1) := by decide +kernel
theorem dX9_mark_30 : decode cX9_mark 30 = .ok (.if_icmp .eq 28, 3) := by decide +kernel
theorem dX9_mark_33 : decode cX9_mark 33 = .ok (.iload_n 2, 1) := by decide +kernel
theorem dX9_mark_34 : decode cX9_mark 34 = .ok (.iconst 1, 1) := by decide +kernel
theorem dX9_mark_35 : decode cX9_mark 35 = .ok (.if_icmp .ne 17, 3) := by decide +kernel
theorem dX9_mark_38 : decode cX9_mark 38 = .ok (.aload_n 0, 1) := by decide +kernel
theorem dX9_mark_39 : decode cX9_mark 39 = .ok (.getfield 30, 3) := by decide +kernel
theorem dX9_mark_42 : decode cX9_mark 42 = .ok (.iload_n 1, 1) := by decide +kernel
theorem dX9_mark_43 : decode cX9_mark 43 = .ok (.iaload, 1) := by decide +kernel
theorem dX9_mark_44 : decode cX9_mark 44 = .ok (.iconst 1, 1) := by decide +kernel
theorem dX9_mark_45 : decode cX9_mark 45 = .ok (.iconst 3, 1) := by decide +kernel
theorem dX9_mark_46 : decode cX9_mark 46 = .ok (.invokestatic 81, 3) := by decide +kernel
theorem dX9_mark_49 : decode cX9_mark 49 = .ok (.ifCond .ne 9, 3) := by decide +kernel
theorem dX9_mark_52 : decode cX9_mark 52 = .ok (.aload_n 0, 1) := by decide +kernel
theorem dX9_mark_53 : decode cX9_mark 53 = .ok (.iconst 3, 1) := by decide +kernel
theorem dX9_mark_54 : decode cX9_mark 54 = .ok (.invokevirtual 89, 3) := by decide +kernel
theorem dX9_mark_57 : decode cX9_mark 57 = .ok (.ireturn, 1) := by decide +kernel
theorem dX9_mark_58 : decode cX9_mark 58 = .ok (.iconst 0, 1) := by decide +kernel
theorem dX9_mark_59 : decode cX9_mark 59 = .ok (.istore 4, 2) := by decide +kernel
theorem dX9_mark_61 : decode cX9_mark 61 = .ok (.iconst 0, 1) := by decide +kernel
theorem dX9_mark_62 : decode cX9_mark 62 = .ok (.istore 5, 2) := by decide +kernel
theorem dX9_mark_64 : decode cX9_mark 64 = .ok (.iload 5, 2) := by decide +kernel
theorem dX9_mark_66 : decode cX9_mark 66 = .ok (.iconst 4, 1) := by decide +kernel
theorem dX9_mark_67 : decode cX9_mark 67 = .ok (.if_icmp .ge 33, 3) := by decide +kernel
theorem dX9_mark_70 : decode cX9_mark 70 = .ok (.iload 4, 2) := by decide +kernel
theorem dX9_mark_72 : decode cX9_mark 72 = .ok (.aload_n 0, 1) := by decide +kernel
theorem dX9_mark_73 : decode cX9_mark 73 = .ok (.getfield 45, 3) := by decide +kernel
theorem dX9_mark_76 : decode cX9_mark 76 = .ok (.iconst 4, 1) := by decide +kernel
theorem dX9_mark_77 : decode cX9_mark 77 = .ok (.iload 5, 2) := by decide +kernel
theorem dX9_mark_79 : decode cX9_mark 79 = .ok (.imul, 1) := by decide +kernel
theorem dX9_mark_80 : decode cX9_mark 80 = .ok (.iload_n 1, 1) := by decide +kernel
theorem dX9_mark_81 : decode cX9_mark 81 = .ok (.iadd, 1) := by decide +kernel
theorem dX9_mark_82 : decode cX9_mark 82 = .ok (.iaload, 1) := by decide +kernel
theorem dX9_mark_83 : decode cX9_mark 83 = .ok (.ifCond .le 7, 3) := by decide +kernel
theorem dX9_mark_86 : decode cX9_mark 86 = .ok (.iconst 1, 1) := by decide +kernel
theorem dX9_mark_87 : decode cX9_mark 87 = .ok (.goto 4, 3) := by decide +kernel
theorem dX9_mark_90 : decode cX9_mark 90 = .ok (.iconst 0, 1) := by decide +kernel
theorem dX9_mark_91 : decode cX9_mark 91 = .ok (.iadd, 1) := by decide +kernel
theorem dX9_mark_92 : decode cX9_mark 92 = .ok (.istore 4, 2) := by decide +kernel
theorem dX9_mark_94 : decode cX9_mark 94 = .ok (.iinc 5 1, 3) := by decide +kernel
theorem dX9_mark_97 : decode cX9_mark 97 = .ok (.goto (-33), 3) := by decide +kernel
theorem dX9_mark_100 : decode cX9_mark 100 = .ok (.iload_n 2, 1) := by decide +kernel
theorem dX9_mark_101 : decode cX9_mark 101 = .ok (.iconst 1, 1) := by decide +kernel
theorem dX9_mark_102 : decode cX9_mark 102 = .ok (.if_icmp .ne 12, 3) := by decide +kernel
theorem dX9_mark_105 : decode cX9_mark 105 = .ok (.aload_n 0, 1) := by decide +kernel
theorem dX9_mark_106 : decode cX9_mark 106 = .ok (.getfield 33, 3) := by decide +kernel
theorem dX9_mark_109 : decode cX9_mark 109 = .ok (.iload_n 1, 1) := by decide +kernel
theorem dX9_mark_110 : decode cX9_mark 110 = .ok (.iaload, 1) := by decide +kernel
theorem dX9_mark_111 : decode cX9_mark 111 = .ok (.goto 52, 3) := by decide +kernel
theorem dX9_mark_114 : decode cX9_mark 114 = .ok (.iload_n 2, 1) := by decide +kernel
theorem dX9_mark_115 : decode cX9_mark 115 = .ok (.iconst 2, 1) := by decide +kernel
theorem dX9_mark_116 : decode cX9_mark 116 = .ok (.if_icmp .ne 8, 3) := by decide +kernel
theorem dX9_mark_119 : decode cX9_mark 119 = .ok (.iload 4, 2) := by decide +kernel
theorem dX9_mark_121 : decode cX9_mark 121 = .ok (.goto 42, 3) := by decide +kernel
theorem dX9_mark_124 : decode cX9_mark 124 = .ok (.iload_n 2, 1) := by decide +kernel
theorem dX9_mark_125 : decode cX9_mark 125 = .ok (.iconst 3, 1) := by decide +kernel
theorem dX9_mark_126 : decode cX9_mark 126 = .ok (.if_icmp .ne 15, 3) := by decide +kernel
theorem dX9_mark_129 : decode cX9_mark 129 = .ok (.bipush 12, 2) := by decide +kernel
theorem dX9_mark_131 : decode cX9_mark 131 = .ok (.aload_n 0, 1) := by decide +kernel
theorem dX9_mark_132 : decode cX9_mark 132 = .ok (.getfield 33, 3) := by decide +kernel
theorem dX9_mark_135 : decode cX9_mark 135 = .ok (.iload_n 1, 1) := by decide +kernel
theorem dX9_mark_136 : decode cX9_mark 136 = .ok (.iaload, 1) := by decide +kernel
theorem dX9_mark_137 : decode cX9_mark 137 = .ok (.idiv, 1) := by decide +kernel
theorem dX9_mark_138 : decode cX9_mark 138 = .ok (.goto 25, 3) := by decide +kernel
theorem dX9_mark_141 : decode cX9_mark 141 = .ok (.iload_n 2, 1) := by decide +kernel
theorem dX9_mark_142 : decode cX9_mark 142 = .ok (.iconst 4, 1) := by decide +kernel
theorem dX9_mark_143 : decode cX9_mark 143 = .ok (.if_icmp .ne 14, 3) := by decide +kernel
theorem dX9_mark_146 : decode cX9_mark 146 = .ok (.aload_n 0, 1) := by decide +kernel
theorem dX9_mark_147 : decode cX9_mark 147 = .ok (.getfield 33, 3) := by decide +kernel
theorem dX9_mark_150 : decode cX9_mark 150 = .ok (.iload_n 1, 1) := by decide +kernel
theorem dX9_mark_151 : decode cX9_mark 151 = .ok (.iaload, 1) := by decide +kernel
theorem dX9_mark_152 : decode cX9_mark 152 = .ok (.iconst 1, 1) := by decide +kernel
theorem dX9_mark_153 : decode cX9_mark 153 = .ok (.isub, 1) := by decide +kernel
theorem dX9_mark_154 : decode cX9_mark 154 = .ok (.goto 9, 3) := by decide +kernel
theorem dX9_mark_157 : decode cX9_mark 157 = .ok (.aload_n 0, 1) := by decide +kernel
theorem dX9_mark_158 : decode cX9_mark 158 = .ok (.getfield 39, 3) := by decide +kernel
theorem dX9_mark_161 : decode cX9_mark 161 = .ok (.iload_n 1, 1) := by decide +kernel
theorem dX9_mark_162 : decode cX9_mark 162 = .ok (.iaload, 1) := by decide +kernel
theorem dX9_mark_163 : decode cX9_mark 163 = .ok (.ireturn, 1) := by decide +kernel
theorem cv_X9_mark : wn_cV yX9_mark cX9_mark 6 (some .int) RX9 2 := ⟨wm_685, wm_940, wm_941, wm_637, by decide +kernel⟩
abbrev rm_X9_mark : Room := rmz 3 63
set_option maxHeartbeats 4000000 in
set_option maxRecDepth 100000 in
theorem c_X9_mark {ad : Nat → Nat} {o : Nat} {x1 : Int32} {x2 : Int32} {M : Mm} {q : Int32 × Mm} (ho : shp o = 9) (hF : f_X9_mark o x1 x2 M = some q) : KI ad yX9_mark cX9_mark 6 (some .int) rm_X9_mark [.ref (ad o), .int x1, .int x2] M q.1 q.2 := by
  refine wn_enterI (own := RX9) (by decide) rfl (Nat.le_of_ble_eq_true rfl) (fun X ls Z hQ hl => ?_)
  have hl : lv_has ls 6 [(0, .ref (ad o)), (1, .int x1), (2, .int x2)] := hl
  have L52 : ∀ (M : Mm) (ls : Array Slot), lv_has ls 6 [(0, .ref (ad o))] → f_X9_mark_b52 o M = some q → G ad X M 52 ls [] := by
    intro M ls hl hF
    unfold f_X9_mark_b52 at hF
    refine r_aload_n Z dX9_mark_52 rfl (lv_at hl 0 rfl) ?_
    refine r_iconst (v := 3) Z dX9_mark_53 (by decide) ?_
    obtain ⟨q1, hq1, hF⟩ := bd_some hF
    refine r_invVi [] Z (c_X9_meets ho hq1) cv_X9_meets rfl (shp_lt ho (by decide)) (fun _ _ => ⟨_, ce_9 ho⟩) wm_644 rfl rfl ⟨Nat.le_of_ble_eq_true rfl, Nat.le_of_ble_eq_true rfl⟩ rfl hl.1 rfl (Nat.le_of_ble_eq_true rfl) dX9_mark_54 ?_
    exact r_iret Z hQ hF dX9_mark_57
  have L64 : ∀ (n64 : Nat) (v1 : Int32) (v2 : Int32) (v4 : Int32) (v5 : Int32) (M : Mm) (ls : Array Slot), lv_has ls 6 [(0, .ref (ad o)), (1, .int v1), (2, .int v2), (4, .int v4), (5, .int v5)] → f_X9_mark_b64 o n64 v1 v2 v4 v5 M = some q → G ad X M 64 ls [] := by
    intro n64
    induction n64 with
    | zero =>
      intro v1 v2 v4 v5 M ls hl hF
      cases hF
    | succ n64 ih64 =>
      intro v1 v2 v4 v5 M ls hl hF
      replace hF : f_X9_mark_b64B (f_X9_mark_b64 o n64) o v1 v2 v4 v5 M = some q := hF
      unfold f_X9_mark_b64B at hF
      refine r_iload Z dX9_mark_64 (lv_at hl 4 rfl) ?_
      refine r_iconst (v := 4) Z dX9_mark_66 (by decide) ?_
      refine r_icmp_ge Z 100 dX9_mark_67 (by decide) (fun hc2 => ?_) (fun hc2 => ?_)
      · replace hF := if_some hc2 hF
        refine r_iload_n Z dX9_mark_100 rfl (lv_at hl 2 rfl) ?_
        refine r_iconst (v := 1) Z dX9_mark_101 (by decide) ?_
        refine r_icmp_ne Z 114 dX9_mark_102 (by decide) (fun hc3 => ?_) (fun hc3 => ?_)
        · replace hF := nif_some hc3 hF
          refine r_iload_n Z dX9_mark_114 rfl (lv_at hl 2 rfl) ?_
          refine r_iconst (v := 2) Z dX9_mark_115 (by decide) ?_
          refine r_icmp_ne Z 124 dX9_mark_116 (by decide) (fun hc4 => ?_) (fun hc4 => ?_)
          · replace hF := nif_some hc4 hF
            refine r_iload_n Z dX9_mark_124 rfl (lv_at hl 2 rfl) ?_
            refine r_iconst (v := 3) Z dX9_mark_125 (by decide) ?_
            refine r_icmp_ne Z 141 dX9_mark_126 (by decide) (fun hc5 => ?_) (fun hc5 => ?_)
            · replace hF := nif_some hc5 hF
              refine r_iload_n Z dX9_mark_141 rfl (lv_at hl 2 rfl) ?_
              refine r_iconst (v := 4) Z dX9_mark_142 (by decide) ?_
              refine r_icmp_ne Z 157 dX9_mark_143 (by decide) (fun hc6 => ?_) (fun hc6 => ?_)
              · replace hF := nif_some hc6 hF
                refine r_aload_n Z dX9_mark_157 rfl (lv_at hl 0 rfl) ?_
                refine g_9_12 Z ho wm_618 dX9_mark_158 ?_
                refine r_iload_n Z dX9_mark_161 rfl (lv_at hl 1 rfl) ?_
                obtain ⟨hi7, hF⟩ := ck_some hF
                refine r_iaload Z (shp_lt (sh_9_12 ho) (by decide)) (fun _ _ => ce_104 (sh_9_12 ho)) hi7 dX9_mark_162 ?_
                exact r_iret Z hQ hF dX9_mark_163
              · replace hF := if_some hc6 hF
                refine r_aload_n Z dX9_mark_146 rfl (lv_at hl 0 rfl) ?_
                refine g_9_10 Z ho wm_616 dX9_mark_147 ?_
                refine r_iload_n Z dX9_mark_150 rfl (lv_at hl 1 rfl) ?_
                obtain ⟨hi8, hF⟩ := ck_some hF
                refine r_iaload Z (shp_lt (sh_9_10 ho) (by decide)) (fun _ _ => ce_104 (sh_9_10 ho)) hi8 dX9_mark_151 ?_
                refine r_iconst (v := 1) Z dX9_mark_152 (by decide) ?_
                refine r_isub Z dX9_mark_153 ?_
                refine r_goto Z 163 dX9_mark_154 (by decide) ?_
                exact r_iret Z hQ hF dX9_mark_163
            · replace hF := if_some hc5 hF
              refine r_bipush (v := 12) Z dX9_mark_129 (by decide) ?_
              refine r_aload_n Z dX9_mark_131 rfl (lv_at hl 0 rfl) ?_
              refine g_9_10 Z ho wm_616 dX9_mark_132 ?_
              refine r_iload_n Z dX9_mark_135 rfl (lv_at hl 1 rfl) ?_
              obtain ⟨hi9, hF⟩ := ck_some hF
              refine r_iaload Z (shp_lt (sh_9_10 ho) (by decide)) (fun _ _ => ce_104 (sh_9_10 ho)) hi9 dX9_mark_136 ?_
              obtain ⟨hd10, hF⟩ := dvI_some hF
              refine r_idiv Z dX9_mark_137 hd10 ?_
              refine r_goto Z 163 dX9_mark_138 (by decide) ?_
              exact r_iret Z hQ hF dX9_mark_163
          · replace hF := if_some hc4 hF
            refine r_iload Z dX9_mark_119 (lv_at hl 3 rfl) ?_
            refine r_goto Z 163 dX9_mark_121 (by decide) ?_
            exact r_iret Z hQ hF dX9_mark_163
        · replace hF := if_some hc3 hF
          refine r_aload_n Z dX9_mark_105 rfl (lv_at hl 0 rfl) ?_
          refine g_9_10 Z ho wm_616 dX9_mark_106 ?_
          refine r_iload_n Z dX9_mark_109 rfl (lv_at hl 1 rfl) ?_
          obtain ⟨hi11, hF⟩ := ck_some hF
          refine r_iaload Z (shp_lt (sh_9_10 ho) (by decide)) (fun _ _ => ce_104 (sh_9_10 ho)) hi11 dX9_mark_110 ?_
          refine r_goto Z 163 dX9_mark_111 (by decide) ?_
          exact r_iret Z hQ hF dX9_mark_163
      · replace hF := nif_some hc2 hF
        refine r_iload Z dX9_mark_70 (lv_at hl 3 rfl) ?_
        refine r_aload_n Z dX9_mark_72 rfl (lv_at hl 0 rfl) ?_
        refine g_9_14 Z ho wm_620 dX9_mark_73 ?_
        refine r_iconst (v := 4) Z dX9_mark_76 (by decide) ?_
        refine r_iload Z dX9_mark_77 (lv_at hl 4 rfl) ?_
        refine r_imul Z dX9_mark_79 ?_
        refine r_iload_n Z dX9_mark_80 rfl (lv_at hl 1 rfl) ?_
        refine r_iadd Z dX9_mark_81 ?_
        obtain ⟨hi12, hF⟩ := ck_some hF
        refine r_iaload Z (shp_lt (sh_9_14 ho) (by decide)) (fun _ _ => ce_116 (sh_9_14 ho)) hi12 dX9_mark_82 ?_
        refine r_if_le Z 90 dX9_mark_83 (by decide) (fun hc13 => ?_) (fun hc13 => ?_)
        · replace hF := if_some hc13 hF
          refine r_iconst (v := 0) Z dX9_mark_90 (by decide) ?_
          refine r_iadd Z dX9_mark_91 ?_
          obtain ⟨t14, et14, hF⟩ := nm_some hF
          rw [← et14]
          refine r_istore Z [(4, .int t14), (0, .ref (ad o)), (1, .int v1), (2, .int v2), (5, .int v5)] dX9_mark_92 hl (by decide) rfl (fun ls hl => ?_)
          obtain ⟨t15, et15, hF⟩ := nm_some hF
          refine r_iinc (j := 4) Z t15 [(5, .int t15), (4, .int t14), (0, .ref (ad o)), (1, .int v1), (2, .int v2)] dX9_mark_94 hl rfl (by rw [et15]; rfl) (by decide) rfl (fun ls hl => ?_)
          refine r_goto Z 64 dX9_mark_97 (by decide) ?_
          exact ih64 v1 v2 t14 t15 M ls (lv_sub hl [2, 3, 4, 1, 0] rfl) hF
        · replace hF := nif_some hc13 hF
          refine r_iconst (v := 1) Z dX9_mark_86 (by decide) ?_
          refine r_goto Z 91 dX9_mark_87 (by decide) ?_
          refine r_iadd Z dX9_mark_91 ?_
          obtain ⟨t16, et16, hF⟩ := nm_some hF
          rw [← et16]
          refine r_istore Z [(4, .int t16), (0, .ref (ad o)), (1, .int v1), (2, .int v2), (5, .int v5)] dX9_mark_92 hl (by decide) rfl (fun ls hl => ?_)
          obtain ⟨t17, et17, hF⟩ := nm_some hF
          refine r_iinc (j := 4) Z t17 [(5, .int t17), (4, .int t16), (0, .ref (ad o)), (1, .int v1), (2, .int v2)] dX9_mark_94 hl rfl (by rw [et17]; rfl) (by decide) rfl (fun ls hl => ?_)
          refine r_goto Z 64 dX9_mark_97 (by decide) ?_
          exact ih64 v1 v2 t16 t17 M ls (lv_sub hl [2, 3, 4, 1, 0] rfl) hF
  unfold f_X9_mark at hF
  refine r_iload_n Z dX9_mark_0 rfl (lv_at hl 2 rfl) ?_
  refine r_iconst (v := 1) Z dX9_mark_1 (by decide) ?_
  refine r_iconst (v := 5) Z dX9_mark_2 (by decide) ?_
  obtain ⟨q18, hq18, hF⟩ := bd_some hF
  refine r_invSi [] Z (c_X9_in hq18) cv_X9_in wm_639 rfl rfl ⟨Nat.le_of_ble_eq_true rfl, Nat.le_of_ble_eq_true rfl⟩ rfl hl.1 rfl (Nat.le_of_ble_eq_true rfl) dX9_mark_3 ?_
  refine r_if_ne Z 11 dX9_mark_6 (by decide) (fun hc19 => ?_) (fun hc19 => ?_)
  · replace hF := nif_some hc19 hF
    refine r_aload_n Z dX9_mark_11 rfl (lv_at hl 0 rfl) ?_
    refine r_iload_n Z dX9_mark_12 rfl (lv_at hl 1 rfl) ?_
    obtain ⟨q20, hq20, hF⟩ := bd_some hF
    refine r_invVi [] Z (c_X9_askedFor ho hq20) cv_X9_askedFor rfl (shp_lt ho (by decide)) (fun _ _ => ⟨_, ce_9 ho⟩) wm_668 rfl rfl ⟨Nat.le_of_ble_eq_true rfl, Nat.le_of_ble_eq_true rfl⟩ rfl hl.1 rfl (Nat.le_of_ble_eq_true rfl) dX9_mark_13 ?_
    refine r_istore_n Z [(3, .int q20.1), (0, .ref (ad o)), (1, .int x1), (2, .int x2)] dX9_mark_16 rfl hl (by decide) rfl (fun ls hl => ?_)
    refine r_iload_n Z dX9_mark_17 rfl (lv_at hl 0 rfl) ?_
    refine r_if_ge Z 23 dX9_mark_18 (by decide) (fun hc21 => ?_) (fun hc21 => ?_)
    · replace hF := if_some hc21 hF
      refine r_aload_n Z dX9_mark_23 rfl (lv_at hl 1 rfl) ?_
      refine g_9_9 Z ho wm_615 dX9_mark_24 ?_
      refine r_iload_n Z dX9_mark_27 rfl (lv_at hl 2 rfl) ?_
      obtain ⟨hi22, hF⟩ := ck_some hF
      refine r_iaload Z (shp_lt (sh_9_9 ho) (by decide)) (fun _ _ => ce_104 (sh_9_9 ho)) hi22 dX9_mark_28 ?_
      refine r_iload_n Z dX9_mark_29 rfl (lv_at hl 3 rfl) ?_
      refine r_icmp_eq Z 58 dX9_mark_30 (by decide) (fun hc23 => ?_) (fun hc23 => ?_)
      · replace hF := if_some hc23 hF
        refine r_iconst (v := 0) Z dX9_mark_58 (by decide) ?_
        refine r_istore Z [(4, .int 0), (3, .int q20.1), (0, .ref (ad o)), (1, .int x1), (2, .int x2)] dX9_mark_59 hl (by decide) rfl (fun ls hl => ?_)
        refine r_iconst (v := 0) Z dX9_mark_61 (by decide) ?_
        refine r_istore Z [(5, .int 0), (4, .int 0), (3, .int q20.1), (0, .ref (ad o)), (1, .int x1), (2, .int x2)] dX9_mark_62 hl (by decide) rfl (fun ls hl => ?_)
        exact L64 _ x1 x2 0 0 q20.2 ls (lv_sub hl [3, 4, 5, 1, 0] rfl) hF
      · replace hF := nif_some hc23 hF
        refine r_iload_n Z dX9_mark_33 rfl (lv_at hl 3 rfl) ?_
        refine r_iconst (v := 1) Z dX9_mark_34 (by decide) ?_
        refine r_icmp_ne Z 52 dX9_mark_35 (by decide) (fun hc24 => ?_) (fun hc24 => ?_)
        · replace hF := nif_some hc24 hF
          exact L52 q20.2 ls (lv_sub hl [1] rfl) hF
        · replace hF := if_some hc24 hF
          refine r_aload_n Z dX9_mark_38 rfl (lv_at hl 1 rfl) ?_
          refine g_9_9 Z ho wm_615 dX9_mark_39 ?_
          refine r_iload_n Z dX9_mark_42 rfl (lv_at hl 2 rfl) ?_
          obtain ⟨hi25, hF⟩ := ck_some hF
          refine r_iaload Z (shp_lt (sh_9_9 ho) (by decide)) (fun _ _ => ce_104 (sh_9_9 ho)) hi25 dX9_mark_43 ?_
          refine r_iconst (v := 1) Z dX9_mark_44 (by decide) ?_
          refine r_iconst (v := 3) Z dX9_mark_45 (by decide) ?_
          obtain ⟨q26, hq26, hF⟩ := bd_some hF
          refine r_invSi [] Z (c_X9_in hq26) cv_X9_in wm_639 rfl rfl ⟨Nat.le_of_ble_eq_true rfl, Nat.le_of_ble_eq_true rfl⟩ rfl hl.1 rfl (Nat.le_of_ble_eq_true rfl) dX9_mark_46 ?_
          refine r_if_ne Z 58 dX9_mark_49 (by decide) (fun hc27 => ?_) (fun hc27 => ?_)
          · replace hF := nif_some hc27 hF
            refine r_iconst (v := 0) Z dX9_mark_58 (by decide) ?_
            refine r_istore Z [(4, .int 0), (3, .int q20.1), (0, .ref (ad o)), (1, .int x1), (2, .int x2)] dX9_mark_59 hl (by decide) rfl (fun ls hl => ?_)
            refine r_iconst (v := 0) Z dX9_mark_61 (by decide) ?_
            refine r_istore Z [(5, .int 0), (4, .int 0), (3, .int q20.1), (0, .ref (ad o)), (1, .int x1), (2, .int x2)] dX9_mark_62 hl (by decide) rfl (fun ls hl => ?_)
            exact L64 _ x1 x2 0 0 q26.2 ls (lv_sub hl [3, 4, 5, 1, 0] rfl) hF
          · replace hF := if_some hc27 hF
            exact L52 q26.2 ls (lv_sub hl [1] rfl) hF
    · replace hF := nif_some hc21 hF
      refine r_iload_n Z dX9_mark_21 rfl (lv_at hl 0 rfl) ?_
      exact r_iret Z hQ hF dX9_mark_22
  · replace hF := if_some hc19 hF
    refine r_iconst (v := (-1)) Z dX9_mark_9 (by decide) ?_
    exact r_iret Z hQ hF dX9_mark_10
theorem dX9_mean_0 : decode cX9_mean 0 = .ok (.aload_n 0, 1) := by decide +kernel
theorem dX9_mean_1 : decode cX9_mean 1 = .ok (.iload_n 1, 1) := by decide +kernel
theorem dX9_mean_2 : decode cX9_mean 2 = .ok (.invokevirtual 146, 3) := by decide +kernel
theorem dX9_mean_5 : decode cX9_mean 5 = .ok (.istore_n 3, 1) := by decide +kernel
theorem dX9_mean_6 : decode cX9_mean 6 = .ok (.iload_n 3, 1) := by decide +kernel
theorem dX9_mean_7 : decode cX9_mean 7 = .ok (.ifCond .ge 5, 3) := by decide +kernel
theorem dX9_mean_10 : decode cX9_mean 10 = .ok (.iload_n 3, 1) := by decide +kernel
theorem dX9_mean_11 : decode cX9_mean 11 = .ok (.ireturn, 1) := by decide +kernel
theorem dX9_mean_12 : decode cX9_mean 12 = .ok (.aload_n 0, 1) := by decide +kernel
theorem dX9_mean_13 : decode cX9_mean 13 = .ok (.invokevirtual 116, 3) := by decide +kernel
theorem dX9_mean_16 : decode cX9_mean 16 = .ok (.ifCond .eq 11, 3) := by decide +kernel
theorem dX9_mean_19 : decode cX9_mean 19 = .ok (.aload_n 0, 1) := by decide +kernel
theorem dX9_mean_20 : decode cX9_mean 20 = .ok (.iload_n 1, 1) := by decide +kernel
theorem dX9_mean_21 : decode cX9_mean 21 = .ok (.invokevirtual 156, 3) := by decide +kernel
theorem dX9_mean_24 : decode cX9_mean 24 = .ok (.ifCond .eq 6, 3) := by decide +kernel
theorem dX9_mean_27 : decode cX9_mean 27 = .ok (.bipush (-4), 2) := by decide +kernel
theorem dX9_mean_29 : decode cX9_mean 29 = .ok (.ireturn, 1) := by decide +kernel
theorem dX9_mean_30 : decode cX9_mean 30 = .ok (.iload_n 2, 1) := by decide +kernel
theorem dX9_mean_31 : decode cX9_mean 31 = .ok (.ifCond .eq 18, 3) := by decide +kernel
theorem dX9_mean_34 : decode cX9_mean 34 = .ok (.aload_n 0, 1) := by decide +kernel
theorem dX9_mean_35 : decode cX9_mean 35 = .ok (.getfield 131, 3) := by decide +kernel
theorem dX9_mean_38 : decode cX9_mean 38 = .ok (.lconst 0, 1) := by decide +kernel
theorem dX9_mean_39 : decode cX9_mean 39 = .ok (.lcmp, 1) := by decide +kernel
theorem dX9_mean_40 : decode cX9_mean 40 = .ok (.ifCond .ne 9, 3) := by decide +kernel
theorem dX9_mean_43 : decode cX9_mean 43 = .ok (.aload_n 0, 1) := by decide +kernel
theorem dX9_mean_44 : decode cX9_mean 44 = .ok (.iconst 4, 1) := by decide +kernel
theorem dX9_mean_45 : decode cX9_mean 45 = .ok (.invokevirtual 89, 3) := by decide +kernel
theorem dX9_mean_48 : decode cX9_mean 48 = .ok (.ireturn, 1) := by decide +kernel
theorem dX9_mean_49 : decode cX9_mean 49 = .ok (.aload_n 0, 1) := by decide +kernel
theorem dX9_mean_50 : decode cX9_mean 50 = .ok (.getfield 131, 3) := by decide +kernel
theorem dX9_mean_53 : decode cX9_mean 53 = .ok (.lstore 4, 2) := by decide +kernel
theorem dX9_mean_55 : decode cX9_mean 55 = .ok (.aload_n 0, 1) := by decide +kernel
theorem dX9_mean_56 : decode cX9_mean 56 = .ok (.getfield 134, 3) := by decide +kernel
theorem dX9_mean_59 : decode cX9_mean 59 = .ok (.aload_n 0, 1) := by decide +kernel
theorem dX9_mean_60 : decode cX9_mean 60 = .ok (.iload_n 1, 1) := by decide +kernel
theorem dX9_mean_61 : decode cX9_mean 61 = .ok (.invokevirtual 153, 3) := by decide +kernel
theorem dX9_mean_64 : decode cX9_mean 64 = .ok (.i2l, 1) := by decide +kernel
theorem dX9_mean_65 : decode cX9_mean 65 = .ok (.lmul, 1) := by decide +kernel
theorem dX9_mean_66 : decode cX9_mean 66 = .ok (.lstore 6, 2) := by decide +kernel
theorem dX9_mean_68 : decode cX9_mean 68 = .ok (.aload_n 0, 1) := by decide +kernel
theorem dX9_mean_69 : decode cX9_mean 69 = .ok (.getfield 30, 3) := by decide +kernel
theorem dX9_mean_72 : decode cX9_mean 72 = .ok (.iload_n 1, 1) := by decide +kernel
theorem dX9_mean_73 : decode cX9_mean 73 = .ok (.iaload, 1) := by decide +kernel
theorem dX9_mean_74 : decode cX9_mean 74 = .ok (.iconst 3, 1) := by decide +kernel
theorem dX9_mean_75 : decode cX9_mean 75 = .ok (.if_icmp .ne 8, 3) := by decide +kernel
theorem dX9_mean_78 : decode cX9_mean 78 = .ok (.lload 4, 2) := by decide +kernel
theorem dX9_mean_80 : decode cX9_mean 80 = .ok (.goto 27, 3) := by decide +kernel
theorem dX9_mean_83 : decode cX9_mean 83 = .ok (.aload_n 0, 1) := by decide +kernel
theorem dX9_mean_84 : decode cX9_mean 84 = .ok (.getfield 36, 3) := by decide +kernel
theorem dX9_mean_87 : decode cX9_mean 87 = .ok (.iload_n 1, 1) := by decide +kernel
theorem dX9_mean_88 : decode cX9_mean 88 = .ok (.iaload, 1) := by decide +kernel
theorem dX9_mean_89 : decode cX9_mean 89 = .ok (.iconst 2, 1) := by decide +kernel
theorem dX9_mean_90 : decode cX9_mean 90 = .ok (.if_icmp .ne 15, 3) := by decide +kernel
theorem dX9_mean_93 : decode cX9_mean 93 = .ok (.ldc2_w 159, 3) := by decide +kernel
theorem dX9_mean_96 : decode cX9_mean 96 = .ok (.lload 4, 2) := by decide +kernel
theorem dX9_mean_98 : decode cX9_mean 98 = .ok (.lmul, 1) := by decide +kernel
theorem dX9_mean_99 : decode cX9_mean 99 = .ok (.lload 6, 2) := by decide +kernel
theorem dX9_mean_101 : decode cX9_mean 101 = .ok (.lmul, 1) := by decide +kernel
theorem dX9_mean_102 : decode cX9_mean 102 = .ok (.goto 5, 3) := by decide +kernel
theorem dX9_mean_105 : decode cX9_mean 105 = .ok (.lload 4, 2) := by decide +kernel
theorem dX9_mean_107 : decode cX9_mean 107 = .ok (.lstore 8, 2) := by decide +kernel
theorem dX9_mean_109 : decode cX9_mean 109 = .ok (.aload_n 0, 1) := by decide +kernel
theorem dX9_mean_110 : decode cX9_mean 110 = .ok (.getfield 30, 3) := by decide +kernel
theorem dX9_mean_113 : decode cX9_mean 113 = .ok (.iload_n 1, 1) := by decide +kernel
theorem dX9_mean_114 : decode cX9_mean 114 = .ok (.iaload, 1) := by decide +kernel
theorem dX9_mean_115 : decode cX9_mean 115 = .ok (.iconst 3, 1) := by decide +kernel
theorem dX9_mean_116 : decode cX9_mean 116 = .ok (.if_icmp .ne 8, 3) := by decide +kernel
theorem dX9_mean_119 : decode cX9_mean 119 = .ok (.lload 6, 2) := by decide +kernel
theorem dX9_mean_121 : decode cX9_mean 121 = .ok (.goto 32, 3) := by decide +kernel
theorem dX9_mean_124 : decode cX9_mean 124 = .ok (.aload_n 0, 1) := by decide +kernel
theorem dX9_mean_125 : decode cX9_mean 125 = .ok (.getfield 36, 3) := by decide +kernel
theorem dX9_mean_128 : decode cX9_mean 128 = .ok (.iload_n 1, 1) := by decide +kernel
theorem dX9_mean_129 : decode cX9_mean 129 = .ok (.iaload, 1) := by decide +kernel
theorem dX9_mean_130 : decode cX9_mean 130 = .ok (.iconst 2, 1) := by decide +kernel
theorem dX9_mean_131 : decode cX9_mean 131 = .ok (.if_icmp .ne 17, 3) := by decide +kernel
theorem dX9_mean_134 : decode cX9_mean 134 = .ok (.lload 6, 2) := by decide +kernel
theorem dX9_mean_136 : decode cX9_mean 136 = .ok (.lload 6, 2) := by decide +kernel
theorem dX9_mean_138 : decode cX9_mean 138 = .ok (.lmul, 1) := by decide +kernel
theorem dX9_mean_139 : decode cX9_mean 139 = .ok (.lload 4, 2) := by decide +kernel
theorem dX9_mean_141 : decode cX9_mean 141 = .ok (.lload 4, 2) := by decide +kernel
theorem dX9_mean_143 : decode cX9_mean 143 = .ok (.lmul, 1) := by decide +kernel
theorem dX9_mean_144 : decode cX9_mean 144 = .ok (.lsub, 1) := by decide +kernel
theorem dX9_mean_145 : decode cX9_mean 145 = .ok (.goto 8, 3) := by decide +kernel
theorem dX9_mean_148 : decode cX9_mean 148 = .ok (.lload 6, 2) := by decide +kernel
theorem dX9_mean_150 : decode cX9_mean 150 = .ok (.lload 4, 2) := by decide +kernel
theorem dX9_mean_152 : decode cX9_mean 152 = .ok (.lsub, 1) := by decide +kernel
theorem dX9_mean_153 : decode cX9_mean 153 = .ok (.lstore 10, 2) := by decide +kernel
theorem dX9_mean_155 : decode cX9_mean 155 = .ok (.iload_n 2, 1) := by decide +kernel
theorem dX9_mean_156 : decode cX9_mean 156 = .ok (.ifCond .eq 25, 3) := by decide +kernel
theorem dX9_mean_159 : decode cX9_mean 159 = .ok (.aload_n 0, 1) := by decide +kernel
theorem dX9_mean_160 : decode cX9_mean 160 = .ok (.lload 8, 2) := by decide +kernel
theorem dX9_mean_162 : decode cX9_mean 162 = .ok (.aload_n 0, 1) := by decide +kernel
theorem dX9_mean_163 : decode cX9_mean 163 = .ok (.getfield 134, 3) := by decide +kernel
theorem dX9_mean_166 : decode cX9_mean 166 = .ok (.lmul, 1) := by decide +kernel
theorem dX9_mean_167 : decode cX9_mean 167 = .ok (.lload 10, 2) := by decide +kernel
theorem dX9_mean_169 : decode cX9_mean 169 = .ok (.aload_n 0, 1) := by decide +kernel
theorem dX9_mean_170 : decode cX9_mean 170 = .ok (.getfield 131, 3) := by decide +kernel
theorem dX9_mean_173 : decode cX9_mean 173 = .ok (.lmul, 1) := by decide +kernel
theorem dX9_mean_174 : decode cX9_mean 174 = .ok (.iconst 1, 1) := by decide +kernel
theorem dX9_mean_175 : decode cX9_mean 175 = .ok (.invokevirtual 149, 3) := by decide +kernel
theorem dX9_mean_178 : decode cX9_mean 178 = .ok (.goto 12, 3) := by decide +kernel
theorem dX9_mean_181 : decode cX9_mean 181 = .ok (.aload_n 0, 1) := by decide +kernel
theorem dX9_mean_182 : decode cX9_mean 182 = .ok (.lload 8, 2) := by decide +kernel
theorem dX9_mean_184 : decode cX9_mean 184 = .ok (.lload 10, 2) := by decide +kernel
theorem dX9_mean_186 : decode cX9_mean 186 = .ok (.iconst 1, 1) := by decide +kernel
theorem dX9_mean_187 : decode cX9_mean 187 = .ok (.invokevirtual 149, 3) := by decide +kernel
theorem dX9_mean_190 : decode cX9_mean 190 = .ok (.ireturn, 1) := by decide +kernel
theorem cv_X9_mean : wn_cV yX9_mean cX9_mean 12 (some .int) RX9 2 := ⟨wm_733, wm_970, wm_971, wm_637, by decide +kernel⟩
abbrev rm_X9_mean : Room := rmz 4 104
set_option maxHeartbeats 4000000 in
set_option maxRecDepth 100000 in
theorem c_X9_mean {ad : Nat → Nat} {o : Nat} {x1 : Int32} {x2 : Int32} {M : Mm} {q : Int32 × Mm} (ho : shp o = 9) (hF : f_X9_mean o x1 x2 M = some q) : KI ad yX9_mean cX9_mean 12 (some .int) rm_X9_mean [.ref (ad o), .int x1, .int x2] M q.1 q.2 := by
  refine wn_enterI (own := RX9) (by decide) rfl (Nat.le_of_ble_eq_true rfl) (fun X ls Z hQ hl => ?_)
  have hl : lv_has ls 12 [(0, .ref (ad o)), (1, .int x1), (2, .int x2)] := hl
  have L153 : ∀ (v2 : Int32) (v8 : Int64) (s0 : Int64) (M : Mm) (ls : Array Slot), lv_has ls 12 [(0, .ref (ad o)), (2, .int v2), (8, .long v8)] → f_X9_mean_b153 o v2 v8 s0 M = some q → G ad X M 153 ls [.long s0] := by
    intro v2 v8 s0 M ls hl hF
    unfold f_X9_mean_b153 at hF
    refine r_lstore Z [(10, .long s0), (0, .ref (ad o)), (2, .int v2), (8, .long v8)] dX9_mean_153 hl (by decide) rfl (fun ls hl => ?_)
    refine r_iload_n Z dX9_mean_155 rfl (lv_at hl 2 rfl) ?_
    refine r_if_eq Z 181 dX9_mean_156 (by decide) (fun hc1 => ?_) (fun hc1 => ?_)
    · replace hF := if_some hc1 hF
      refine r_aload_n Z dX9_mean_181 rfl (lv_at hl 1 rfl) ?_
      refine r_lload Z dX9_mean_182 (lv_at hl 3 rfl) ?_
      refine r_lload Z dX9_mean_184 (lv_at hl 0 rfl) ?_
      refine r_iconst (v := 1) Z dX9_mean_186 (by decide) ?_
      obtain ⟨q2, hq2, hF⟩ := bd_some hF
      refine r_invVi [] Z (c_X9_share ho hq2) cv_X9_share rfl (shp_lt ho (by decide)) (fun _ _ => ⟨_, ce_9 ho⟩) wm_719 rfl rfl ⟨Nat.le_of_ble_eq_true rfl, Nat.le_of_ble_eq_true rfl⟩ rfl hl.1 rfl (Nat.le_of_ble_eq_true rfl) dX9_mean_187 ?_
      exact r_iret Z hQ hF dX9_mean_190
    · replace hF := nif_some hc1 hF
      refine r_aload_n Z dX9_mean_159 rfl (lv_at hl 1 rfl) ?_
      refine r_lload Z dX9_mean_160 (lv_at hl 3 rfl) ?_
      refine r_aload_n Z dX9_mean_162 rfl (lv_at hl 1 rfl) ?_
      refine g_9_19 Z ho wm_706 dX9_mean_163 ?_
      refine r_lmul Z dX9_mean_166 ?_
      refine r_lload Z dX9_mean_167 (lv_at hl 0 rfl) ?_
      refine r_aload_n Z dX9_mean_169 rfl (lv_at hl 1 rfl) ?_
      refine g_9_18 Z ho wm_705 dX9_mean_170 ?_
      refine r_lmul Z dX9_mean_173 ?_
      refine r_iconst (v := 1) Z dX9_mean_174 (by decide) ?_
      obtain ⟨q3, hq3, hF⟩ := bd_some hF
      refine r_invVi [] Z (c_X9_share ho hq3) cv_X9_share rfl (shp_lt ho (by decide)) (fun _ _ => ⟨_, ce_9 ho⟩) wm_719 rfl rfl ⟨Nat.le_of_ble_eq_true rfl, Nat.le_of_ble_eq_true rfl⟩ rfl hl.1 rfl (Nat.le_of_ble_eq_true rfl) dX9_mean_175 ?_
      refine r_goto Z 190 dX9_mean_178 (by decide) ?_
      exact r_iret Z hQ hF dX9_mean_190
  have L107 : ∀ (v1 : Int32) (v2 : Int32) (v4 : Int64) (v6 : Int64) (s0 : Int64) (M : Mm) (ls : Array Slot), lv_has ls 12 [(0, .ref (ad o)), (1, .int v1), (2, .int v2), (4, .long v4), (6, .long v6)] → f_X9_mean_b107 o v1 v2 v4 v6 s0 M = some q → G ad X M 107 ls [.long s0] := by
    intro v1 v2 v4 v6 s0 M ls hl hF
    unfold f_X9_mean_b107 at hF
    refine r_lstore Z [(8, .long s0), (0, .ref (ad o)), (1, .int v1), (2, .int v2), (4, .long v4), (6, .long v6)] dX9_mean_107 hl (by decide) rfl (fun ls hl => ?_)
    refine r_aload_n Z dX9_mean_109 rfl (lv_at hl 1 rfl) ?_
    refine g_9_9 Z ho wm_615 dX9_mean_110 ?_
    refine r_iload_n Z dX9_mean_113 rfl (lv_at hl 2 rfl) ?_
    obtain ⟨hi4, hF⟩ := ck_some hF
    refine r_iaload Z (shp_lt (sh_9_9 ho) (by decide)) (fun _ _ => ce_104 (sh_9_9 ho)) hi4 dX9_mean_114 ?_
    refine r_iconst (v := 3) Z dX9_mean_115 (by decide) ?_
    refine r_icmp_ne Z 124 dX9_mean_116 (by decide) (fun hc5 => ?_) (fun hc5 => ?_)
    · replace hF := nif_some hc5 hF
      refine r_aload_n Z dX9_mean_124 rfl (lv_at hl 1 rfl) ?_
      refine g_9_11 Z ho wm_617 dX9_mean_125 ?_
      refine r_iload_n Z dX9_mean_128 rfl (lv_at hl 2 rfl) ?_
      obtain ⟨hi6, hF⟩ := ck_some hF
      refine r_iaload Z (shp_lt (sh_9_11 ho) (by decide)) (fun _ _ => ce_104 (sh_9_11 ho)) hi6 dX9_mean_129 ?_
      refine r_iconst (v := 2) Z dX9_mean_130 (by decide) ?_
      refine r_icmp_ne Z 148 dX9_mean_131 (by decide) (fun hc7 => ?_) (fun hc7 => ?_)
      · replace hF := nif_some hc7 hF
        refine r_lload Z dX9_mean_148 (lv_at hl 5 rfl) ?_
        refine r_lload Z dX9_mean_150 (lv_at hl 4 rfl) ?_
        refine r_lsub Z dX9_mean_152 ?_
        exact L153 v2 s0 (v6 - v4) M ls (lv_sub hl [1, 3, 0] rfl) hF
      · replace hF := if_some hc7 hF
        refine r_lload Z dX9_mean_134 (lv_at hl 5 rfl) ?_
        refine r_lload Z dX9_mean_136 (lv_at hl 5 rfl) ?_
        refine r_lmul Z dX9_mean_138 ?_
        refine r_lload Z dX9_mean_139 (lv_at hl 4 rfl) ?_
        refine r_lload Z dX9_mean_141 (lv_at hl 4 rfl) ?_
        refine r_lmul Z dX9_mean_143 ?_
        refine r_lsub Z dX9_mean_144 ?_
        refine r_goto Z 153 dX9_mean_145 (by decide) ?_
        exact L153 v2 s0 ((v6 * v6) - (v4 * v4)) M ls (lv_sub hl [1, 3, 0] rfl) hF
    · replace hF := if_some hc5 hF
      refine r_lload Z dX9_mean_119 (lv_at hl 5 rfl) ?_
      refine r_goto Z 153 dX9_mean_121 (by decide) ?_
      exact L153 v2 s0 v6 M ls (lv_sub hl [1, 3, 0] rfl) hF
  have L49 : ∀ (v1 : Int32) (v2 : Int32) (M : Mm) (ls : Array Slot), lv_has ls 12 [(0, .ref (ad o)), (1, .int v1), (2, .int v2)] → f_X9_mean_b49 o v1 v2 M = some q → G ad X M 49 ls [] := by
    intro v1 v2 M ls hl hF
    unfold f_X9_mean_b49 at hF
    refine r_aload_n Z dX9_mean_49 rfl (lv_at hl 0 rfl) ?_
    refine g_9_18 Z ho wm_705 dX9_mean_50 ?_
    obtain ⟨t8, et8, hF⟩ := nm_some hF
    rw [← et8]
    refine r_lstore Z [(4, .long t8), (0, .ref (ad o)), (1, .int v1), (2, .int v2)] dX9_mean_53 hl (by decide) rfl (fun ls hl => ?_)
    refine r_aload_n Z dX9_mean_55 rfl (lv_at hl 1 rfl) ?_
    refine g_9_19 Z ho wm_706 dX9_mean_56 ?_
    refine r_aload_n Z dX9_mean_59 rfl (lv_at hl 1 rfl) ?_
    refine r_iload_n Z dX9_mean_60 rfl (lv_at hl 2 rfl) ?_
    obtain ⟨q9, hq9, hF⟩ := bd_some hF
    refine r_invVi [.long (mJ M o 19)] Z (c_X9_bears ho hq9) cv_X9_bears rfl (shp_lt ho (by decide)) (fun _ _ => ⟨_, ce_9 ho⟩) wm_725 rfl rfl ⟨Nat.le_of_ble_eq_true rfl, Nat.le_of_ble_eq_true rfl⟩ rfl hl.1 rfl (Nat.le_of_ble_eq_true rfl) dX9_mean_61 ?_
    refine r_i2l Z dX9_mean_64 ?_
    refine r_lmul Z dX9_mean_65 ?_
    obtain ⟨t10, et10, hF⟩ := nm_some hF
    rw [← et10]
    refine r_lstore Z [(6, .long t10), (4, .long t8), (0, .ref (ad o)), (1, .int v1), (2, .int v2)] dX9_mean_66 hl (by decide) rfl (fun ls hl => ?_)
    refine r_aload_n Z dX9_mean_68 rfl (lv_at hl 2 rfl) ?_
    refine g_9_9 Z ho wm_615 dX9_mean_69 ?_
    refine r_iload_n Z dX9_mean_72 rfl (lv_at hl 3 rfl) ?_
    obtain ⟨hi11, hF⟩ := ck_some hF
    refine r_iaload Z (shp_lt (sh_9_9 ho) (by decide)) (fun _ _ => ce_104 (sh_9_9 ho)) hi11 dX9_mean_73 ?_
    refine r_iconst (v := 3) Z dX9_mean_74 (by decide) ?_
    refine r_icmp_ne Z 83 dX9_mean_75 (by decide) (fun hc12 => ?_) (fun hc12 => ?_)
    · replace hF := nif_some hc12 hF
      refine r_aload_n Z dX9_mean_83 rfl (lv_at hl 2 rfl) ?_
      refine g_9_11 Z ho wm_617 dX9_mean_84 ?_
      refine r_iload_n Z dX9_mean_87 rfl (lv_at hl 3 rfl) ?_
      obtain ⟨hi13, hF⟩ := ck_some hF
      refine r_iaload Z (shp_lt (sh_9_11 ho) (by decide)) (fun _ _ => ce_104 (sh_9_11 ho)) hi13 dX9_mean_88 ?_
      refine r_iconst (v := 2) Z dX9_mean_89 (by decide) ?_
      refine r_icmp_ne Z 105 dX9_mean_90 (by decide) (fun hc14 => ?_) (fun hc14 => ?_)
      · replace hF := nif_some hc14 hF
        refine r_lload Z dX9_mean_105 (lv_at hl 1 rfl) ?_
        exact L107 v1 v2 t8 t10 t8 q9.2 ls (lv_sub hl [2, 3, 4, 1, 0] rfl) hF
      · replace hF := if_some hc14 hF
        refine r_ldc2 Z wm_732 dX9_mean_93 ?_
        refine r_lload Z dX9_mean_96 (lv_at hl 1 rfl) ?_
        refine r_lmul Z dX9_mean_98 ?_
        refine r_lload Z dX9_mean_99 (lv_at hl 0 rfl) ?_
        refine r_lmul Z dX9_mean_101 ?_
        refine r_goto Z 107 dX9_mean_102 (by decide) ?_
        exact L107 v1 v2 t8 t10 ((2 * t8) * t10) q9.2 ls (lv_sub hl [2, 3, 4, 1, 0] rfl) hF
    · replace hF := if_some hc12 hF
      refine r_lload Z dX9_mean_78 (lv_at hl 1 rfl) ?_
      refine r_goto Z 107 dX9_mean_80 (by decide) ?_
      exact L107 v1 v2 t8 t10 t8 q9.2 ls (lv_sub hl [2, 3, 4, 1, 0] rfl) hF
  unfold f_X9_mean at hF
  refine r_aload_n Z dX9_mean_0 rfl (lv_at hl 0 rfl) ?_
  refine r_iload_n Z dX9_mean_1 rfl (lv_at hl 1 rfl) ?_
  obtain ⟨q15, hq15, hF⟩ := bd_some hF
  refine r_invVi [] Z (c_X9_askedFlow ho hq15) cv_X9_askedFlow rfl (shp_lt ho (by decide)) (fun _ _ => ⟨_, ce_9 ho⟩) wm_716 rfl rfl ⟨Nat.le_of_ble_eq_true rfl, Nat.le_of_ble_eq_true rfl⟩ rfl hl.1 rfl (Nat.le_of_ble_eq_true rfl) dX9_mean_2 ?_
  refine r_istore_n Z [(3, .int q15.1), (0, .ref (ad o)), (1, .int x1), (2, .int x2)] dX9_mean_5 rfl hl (by decide) rfl (fun ls hl => ?_)
  refine r_iload_n Z dX9_mean_6 rfl (lv_at hl 0 rfl) ?_
  refine r_if_ge Z 12 dX9_mean_7 (by decide) (fun hc16 => ?_) (fun hc16 => ?_)
  · replace hF := if_some hc16 hF
    refine r_aload_n Z dX9_mean_12 rfl (lv_at hl 1 rfl) ?_
    obtain ⟨q17, hq17, hF⟩ := bd_some hF
    refine r_invVi [] Z (c_X9_isProduct ho hq17) cv_X9_isProduct rfl (shp_lt ho (by decide)) (fun _ _ => ⟨_, ce_9 ho⟩) wm_688 rfl rfl ⟨Nat.le_of_ble_eq_true rfl, Nat.le_of_ble_eq_true rfl⟩ rfl hl.1 rfl (Nat.le_of_ble_eq_true rfl) dX9_mean_13 ?_
    refine r_if_eq Z 27 dX9_mean_16 (by decide) (fun hc18 => ?_) (fun hc18 => ?_)
    · replace hF := if_some hc18 hF
      refine r_bipush (v := (-4)) Z dX9_mean_27 (by decide) ?_
      exact r_iret Z hQ hF dX9_mean_29
    · replace hF := nif_some hc18 hF
      refine r_aload_n Z dX9_mean_19 rfl (lv_at hl 1 rfl) ?_
      refine r_iload_n Z dX9_mean_20 rfl (lv_at hl 2 rfl) ?_
      obtain ⟨q19, hq19, hF⟩ := bd_some hF
      refine r_invVi [] Z (c_X9_isFull ho hq19) cv_X9_isFull rfl (shp_lt ho (by decide)) (fun _ _ => ⟨_, ce_9 ho⟩) wm_728 rfl rfl ⟨Nat.le_of_ble_eq_true rfl, Nat.le_of_ble_eq_true rfl⟩ rfl hl.1 rfl (Nat.le_of_ble_eq_true rfl) dX9_mean_21 ?_
      refine r_if_eq Z 30 dX9_mean_24 (by decide) (fun hc20 => ?_) (fun hc20 => ?_)
      · replace hF := if_some hc20 hF
        refine r_iload_n Z dX9_mean_30 rfl (lv_at hl 3 rfl) ?_
        refine r_if_eq Z 49 dX9_mean_31 (by decide) (fun hc21 => ?_) (fun hc21 => ?_)
        · replace hF := if_some hc21 hF
          exact L49 x1 x2 q19.2 ls (lv_sub hl [1, 2, 3] rfl) hF
        · replace hF := nif_some hc21 hF
          refine r_aload_n Z dX9_mean_34 rfl (lv_at hl 1 rfl) ?_
          refine g_9_18 Z ho wm_705 dX9_mean_35 ?_
          refine r_lconst (v := 0) Z dX9_mean_38 (by decide) ?_
          refine r_lcmp Z dX9_mean_39 ?_
          refine r_if_ne Z 49 dX9_mean_40 (by decide) (fun hc22 => ?_) (fun hc22 => ?_)
          · replace hF := nif_some hc22 hF
            exact L49 x1 x2 q19.2 ls (lv_sub hl [1, 2, 3] rfl) hF
          · replace hF := if_some hc22 hF
            refine r_aload_n Z dX9_mean_43 rfl (lv_at hl 1 rfl) ?_
            refine r_iconst (v := 4) Z dX9_mean_44 (by decide) ?_
            obtain ⟨q23, hq23, hF⟩ := bd_some hF
            refine r_invVi [] Z (c_X9_meets ho hq23) cv_X9_meets rfl (shp_lt ho (by decide)) (fun _ _ => ⟨_, ce_9 ho⟩) wm_644 rfl rfl ⟨Nat.le_of_ble_eq_true rfl, Nat.le_of_ble_eq_true rfl⟩ rfl hl.1 rfl (Nat.le_of_ble_eq_true rfl) dX9_mean_45 ?_
            exact r_iret Z hQ hF dX9_mean_48
      · replace hF := nif_some hc20 hF
        refine r_bipush (v := (-4)) Z dX9_mean_27 (by decide) ?_
        exact r_iret Z hQ hF dX9_mean_29
  · replace hF := nif_some hc16 hF
    refine r_iload_n Z dX9_mean_10 rfl (lv_at hl 0 rfl) ?_
    exact r_iret Z hQ hF dX9_mean_11
theorem dX9_meanOf_0 : decode cX9_meanOf 0 = .ok (.iload_n 2, 1) := by decide +kernel
theorem dX9_meanOf_1 : decode cX9_meanOf 1 = .ok (.invokestatic 192, 3) := by decide +kernel
theorem dX9_meanOf_4 : decode cX9_meanOf 4 = .ok (.ifCond .ne 5, 3) := by decide +kernel
theorem dX9_meanOf_7 : decode cX9_meanOf 7 = .ok (.iconst (-1), 1) := by decide +kernel
theorem dX9_meanOf_8 : decode cX9_meanOf 8 = .ok (.ireturn, 1) := by decide +kernel
theorem dX9_meanOf_9 : decode cX9_meanOf 9 = .ok (.aload_n 0, 1) := by decide +kernel
theorem dX9_meanOf_10 : decode cX9_meanOf 10 = .ok (.iload_n 1, 1) := by decide +kernel
theorem dX9_meanOf_11 : decode cX9_meanOf 11 = .ok (.invokevirtual 170, 3) := by decide +kernel
theorem dX9_meanOf_14 : decode cX9_meanOf 14 = .ok (.istore_n 3, 1) := by decide +kernel
theorem dX9_meanOf_15 : decode cX9_meanOf 15 = .ok (.iload_n 3, 1) := by decide +kernel
theorem dX9_meanOf_16 : decode cX9_meanOf 16 = .ok (.ifCond .ge 7, 3) := by decide +kernel
theorem dX9_meanOf_19 : decode cX9_meanOf 19 = .ok (.iload_n 3, 1) := by decide +kernel
theorem dX9_meanOf_20 : decode cX9_meanOf 20 = .ok (.goto 21, 3) := by decide +kernel
theorem dX9_meanOf_23 : decode cX9_meanOf 23 = .ok (.aload_n 0, 1) := by decide +kernel
theorem dX9_meanOf_24 : decode cX9_meanOf 24 = .ok (.aload_n 0, 1) := by decide +kernel
theorem dX9_meanOf_25 : decode cX9_meanOf 25 = .ok (.iload_n 2, 1) := by decide +kernel
theorem dX9_meanOf_26 : decode cX9_meanOf 26 = .ok (.iload_n 1, 1) := by decide +kernel
theorem dX9_meanOf_27 : decode cX9_meanOf 27 = .ok (.invokevirtual 189, 3) := by decide +kernel
theorem dX9_meanOf_30 : decode cX9_meanOf 30 = .ok (.aload_n 0, 1) := by decide +kernel
theorem dX9_meanOf_31 : decode cX9_meanOf 31 = .ok (.iload_n 2, 1) := by decide +kernel
theorem dX9_meanOf_32 : decode cX9_meanOf 32 = .ok (.bipush (-9), 2) := by decide +kernel
theorem dX9_meanOf_34 : decode cX9_meanOf 34 = .ok (.invokevirtual 189, 3) := by decide +kernel
theorem dX9_meanOf_37 : decode cX9_meanOf 37 = .ok (.iconst 1, 1) := by decide +kernel
theorem dX9_meanOf_38 : decode cX9_meanOf 38 = .ok (.invokevirtual 149, 3) := by decide +kernel
theorem dX9_meanOf_41 : decode cX9_meanOf 41 = .ok (.ireturn, 1) := by decide +kernel
theorem cv_X9_meanOf : wn_cV yX9_meanOf cX9_meanOf 4 (some .int) RX9 2 := ⟨wm_779, wm_1000, wm_1001, wm_637, by decide +kernel⟩
abbrev rm_X9_meanOf : Room := rmz 4 100
set_option maxHeartbeats 4000000 in
set_option maxRecDepth 100000 in
theorem c_X9_meanOf {ad : Nat → Nat} {o : Nat} {x1 : Int32} {x2 : Int32} {M : Mm} {q : Int32 × Mm} (ho : shp o = 9) (hF : f_X9_meanOf o x1 x2 M = some q) : KI ad yX9_meanOf cX9_meanOf 4 (some .int) rm_X9_meanOf [.ref (ad o), .int x1, .int x2] M q.1 q.2 := by
  refine wn_enterI (own := RX9) (by decide) rfl (Nat.le_of_ble_eq_true rfl) (fun X ls Z hQ hl => ?_)
  have hl : lv_has ls 4 [(0, .ref (ad o)), (1, .int x1), (2, .int x2)] := hl
  unfold f_X9_meanOf at hF
  refine r_iload_n Z dX9_meanOf_0 rfl (lv_at hl 2 rfl) ?_
  obtain ⟨q1, hq1, hF⟩ := bd_some hF
  refine r_invSi [] Z (c_X9_isMany hq1) cv_X9_isMany wm_776 rfl rfl ⟨Nat.le_of_ble_eq_true rfl, Nat.le_of_ble_eq_true rfl⟩ rfl hl.1 rfl (Nat.le_of_ble_eq_true rfl) dX9_meanOf_1 ?_
  refine r_if_ne Z 9 dX9_meanOf_4 (by decide) (fun hc2 => ?_) (fun hc2 => ?_)
  · replace hF := nif_some hc2 hF
    refine r_aload_n Z dX9_meanOf_9 rfl (lv_at hl 0 rfl) ?_
    refine r_iload_n Z dX9_meanOf_10 rfl (lv_at hl 1 rfl) ?_
    obtain ⟨q3, hq3, hF⟩ := bd_some hF
    refine r_invVi [] Z (c_X9_askedClosed ho hq3) cv_X9_askedClosed rfl (shp_lt ho (by decide)) (fun _ _ => ⟨_, ce_9 ho⟩) wm_748 rfl rfl ⟨Nat.le_of_ble_eq_true rfl, Nat.le_of_ble_eq_true rfl⟩ rfl hl.1 rfl (Nat.le_of_ble_eq_true rfl) dX9_meanOf_11 ?_
    refine r_istore_n Z [(3, .int q3.1), (0, .ref (ad o)), (1, .int x1), (2, .int x2)] dX9_meanOf_14 rfl hl (by decide) rfl (fun ls hl => ?_)
    refine r_iload_n Z dX9_meanOf_15 rfl (lv_at hl 0 rfl) ?_
    refine r_if_ge Z 23 dX9_meanOf_16 (by decide) (fun hc4 => ?_) (fun hc4 => ?_)
    · replace hF := if_some hc4 hF
      refine r_aload_n Z dX9_meanOf_23 rfl (lv_at hl 1 rfl) ?_
      refine r_aload_n Z dX9_meanOf_24 rfl (lv_at hl 1 rfl) ?_
      refine r_iload_n Z dX9_meanOf_25 rfl (lv_at hl 3 rfl) ?_
      refine r_iload_n Z dX9_meanOf_26 rfl (lv_at hl 2 rfl) ?_
      obtain ⟨q5, hq5, hF⟩ := bd_some hF
      refine r_invVl [.ref (ad o)] Z (c_X9_sumOf ho hq5) cv_X9_sumOf rfl (shp_lt ho (by decide)) (fun _ _ => ⟨_, ce_9 ho⟩) wm_770 rfl rfl ⟨Nat.le_of_ble_eq_true rfl, Nat.le_of_ble_eq_true rfl⟩ rfl hl.1 rfl (Nat.le_of_ble_eq_true rfl) dX9_meanOf_27 ?_
      refine r_aload_n Z dX9_meanOf_30 rfl (lv_at hl 1 rfl) ?_
      refine r_iload_n Z dX9_meanOf_31 rfl (lv_at hl 3 rfl) ?_
      refine r_bipush (v := (-9)) Z dX9_meanOf_32 (by decide) ?_
      obtain ⟨q6, hq6, hF⟩ := bd_some hF
      refine r_invVl [.long q5.1, .ref (ad o)] Z (c_X9_sumOf ho hq6) cv_X9_sumOf rfl (shp_lt ho (by decide)) (fun _ _ => ⟨_, ce_9 ho⟩) wm_770 rfl rfl ⟨Nat.le_of_ble_eq_true rfl, Nat.le_of_ble_eq_true rfl⟩ rfl hl.1 rfl (Nat.le_of_ble_eq_true rfl) dX9_meanOf_34 ?_
      refine r_iconst (v := 1) Z dX9_meanOf_37 (by decide) ?_
      obtain ⟨q7, hq7, hF⟩ := bd_some hF
      refine r_invVi [] Z (c_X9_share ho hq7) cv_X9_share rfl (shp_lt ho (by decide)) (fun _ _ => ⟨_, ce_9 ho⟩) wm_719 rfl rfl ⟨Nat.le_of_ble_eq_true rfl, Nat.le_of_ble_eq_true rfl⟩ rfl hl.1 rfl (Nat.le_of_ble_eq_true rfl) dX9_meanOf_38 ?_
      exact r_iret Z hQ hF dX9_meanOf_41
    · replace hF := nif_some hc4 hF
      refine r_iload_n Z dX9_meanOf_19 rfl (lv_at hl 0 rfl) ?_
      refine r_goto Z 41 dX9_meanOf_20 (by decide) ?_
      exact r_iret Z hQ hF dX9_meanOf_41
  · replace hF := if_some hc2 hF
    refine r_iconst (v := (-1)) Z dX9_meanOf_7 (by decide) ?_
    exact r_iret Z hQ hF dX9_meanOf_8
theorem dX9_narrow_0 : decode cX9_narrow 0 = .ok (.aload_n 0, 1) := by decide +kernel
theorem dX9_narrow_1 : decode cX9_narrow 1 = .ok (.invokevirtual 164, 3) := by decide +kernel
theorem dX9_narrow_4 : decode cX9_narrow 4 = .ok (.ifCond .ne 6, 3) := by decide +kernel
theorem dX9_narrow_7 : decode cX9_narrow 7 = .ok (.bipush (-4), 2) := by decide +kernel
theorem dX9_narrow_9 : decode cX9_narrow 9 = .ok (.ireturn, 1) := by decide +kernel
theorem dX9_narrow_10 : decode cX9_narrow 10 = .ok (.aload_n 0, 1) := by decide +kernel
theorem dX9_narrow_11 : decode cX9_narrow 11 = .ok (.invokevirtual 167, 3) := by decide +kernel
theorem dX9_narrow_14 : decode cX9_narrow 14 = .ok (.aload_n 0, 1) := by decide +kernel
theorem dX9_narrow_15 : decode cX9_narrow 15 = .ok (.invokevirtual 197, 3) := by decide +kernel
theorem dX9_narrow_18 : decode cX9_narrow 18 = .ok (.ireturn, 1) := by decide +kernel
theorem cv_X9_narrow : wn_cV yX9_narrow cX9_narrow 1 (some .int) RX9 0 := ⟨wm_785, wm_1012, wm_1013, wm_637, by decide +kernel⟩
abbrev rm_X9_narrow : Room := rmz 3 78
set_option maxHeartbeats 4000000 in
set_option maxRecDepth 100000 in
theorem c_X9_narrow {ad : Nat → Nat} {o : Nat} {M : Mm} {q : Int32 × Mm} (ho : shp o = 9) (hF : f_X9_narrow o M = some q) : KI ad yX9_narrow cX9_narrow 1 (some .int) rm_X9_narrow [.ref (ad o)] M q.1 q.2 := by
  refine wn_enterI (own := RX9) (by decide) rfl (Nat.le_of_ble_eq_true rfl) (fun X ls Z hQ hl => ?_)
  have hl : lv_has ls 1 [(0, .ref (ad o))] := hl
  unfold f_X9_narrow at hF
  refine r_aload_n Z dX9_narrow_0 rfl (lv_at hl 0 rfl) ?_
  obtain ⟨q1, hq1, hF⟩ := bd_some hF
  refine r_invVi [] Z (c_X9_isClosed ho hq1) cv_X9_isClosed rfl (shp_lt ho (by decide)) (fun _ _ => ⟨_, ce_9 ho⟩) wm_740 rfl rfl ⟨Nat.le_of_ble_eq_true rfl, Nat.le_of_ble_eq_true rfl⟩ rfl hl.1 rfl (Nat.le_of_ble_eq_true rfl) dX9_narrow_1 ?_
  refine r_if_ne Z 10 dX9_narrow_4 (by decide) (fun hc2 => ?_) (fun hc2 => ?_)
  · replace hF := nif_some hc2 hF
    refine r_aload_n Z dX9_narrow_10 rfl (lv_at hl 0 rfl) ?_
    obtain ⟨M3, hM3, hF⟩ := bd_some hF
    refine r_invVv [] Z (c_X9_setVisits ho hM3) cv_X9_setVisits rfl (shp_lt ho (by decide)) (fun _ _ => ⟨_, ce_9 ho⟩) wm_744 rfl rfl ⟨Nat.le_of_ble_eq_true rfl, Nat.le_of_ble_eq_true rfl⟩ rfl hl.1 rfl (Nat.le_of_ble_eq_true rfl) dX9_narrow_11 ?_
    refine r_aload_n Z dX9_narrow_14 rfl (lv_at hl 0 rfl) ?_
    obtain ⟨q4, hq4, hF⟩ := bd_some hF
    refine r_invVi [] Z (c_X9_narrowOf ho hq4) cv_X9_narrowOf rfl (shp_lt ho (by decide)) (fun _ _ => ⟨_, ce_9 ho⟩) wm_782 rfl rfl ⟨Nat.le_of_ble_eq_true rfl, Nat.le_of_ble_eq_true rfl⟩ rfl hl.1 rfl (Nat.le_of_ble_eq_true rfl) dX9_narrow_15 ?_
    exact r_iret Z hQ hF dX9_narrow_18
  · replace hF := if_some hc2 hF
    refine r_bipush (v := (-4)) Z dX9_narrow_7 (by decide) ?_
    exact r_iret Z hQ hF dX9_narrow_9
theorem dX9_parts_0 : decode cX9_parts 0 = .ok (.aload_n 0, 1) := by decide +kernel
theorem dX9_parts_1 : decode cX9_parts 1 = .ok (.iload_n 1, 1) := by decide +kernel
theorem dX9_parts_2 : decode cX9_parts 2 = .ok (.invokevirtual 222, 3) := by decide +kernel
theorem dX9_parts_5 : decode cX9_parts 5 = .ok (.istore_n 2, 1) := by decide +kernel
theorem dX9_parts_6 : decode cX9_parts 6 = .ok (.iload_n 2, 1) := by decide +kernel
theorem dX9_parts_7 : decode cX9_parts 7 = .ok (.ifCond .ge 5, 3) := by decide +kernel
theorem dX9_parts_10 : decode cX9_parts 10 = .ok (.iload_n 2, 1) := by decide +kernel
theorem dX9_parts_11 : decode cX9_parts 11 = .ok (.ireturn, 1) := by decide +kernel
theorem dX9_parts_12 : decode cX9_parts 12 = .ok (.aload_n 0, 1) := by decide +kernel
theorem dX9_parts_13 : decode cX9_parts 13 = .ok (.iload_n 1, 1) := by decide +kernel
theorem dX9_parts_14 : decode cX9_parts 14 = .ok (.iload_n 2, 1) := by decide +kernel
theorem dX9_parts_15 : decode cX9_parts 15 = .ok (.invokevirtual 225, 3) := by decide +kernel
theorem dX9_parts_18 : decode cX9_parts 18 = .ok (.ifCond .ne 9, 3) := by decide +kernel
theorem dX9_parts_21 : decode cX9_parts 21 = .ok (.aload_n 0, 1) := by decide +kernel
theorem dX9_parts_22 : decode cX9_parts 22 = .ok (.iconst 3, 1) := by decide +kernel
theorem dX9_parts_23 : decode cX9_parts 23 = .ok (.invokevirtual 89, 3) := by decide +kernel
theorem dX9_parts_26 : decode cX9_parts 26 = .ok (.ireturn, 1) := by decide +kernel
theorem dX9_parts_27 : decode cX9_parts 27 = .ok (.aload_n 0, 1) := by decide +kernel
theorem dX9_parts_28 : decode cX9_parts 28 = .ok (.iload_n 1, 1) := by decide +kernel
theorem dX9_parts_29 : decode cX9_parts 29 = .ok (.iload_n 2, 1) := by decide +kernel
theorem dX9_parts_30 : decode cX9_parts 30 = .ok (.invokevirtual 229, 3) := by decide +kernel
theorem dX9_parts_33 : decode cX9_parts 33 = .ok (.istore_n 3, 1) := by decide +kernel
theorem dX9_parts_34 : decode cX9_parts 34 = .ok (.aload_n 0, 1) := by decide +kernel
theorem dX9_parts_35 : decode cX9_parts 35 = .ok (.aload_n 0, 1) := by decide +kernel
theorem dX9_parts_36 : decode cX9_parts 36 = .ok (.getfield 215, 3) := by decide +kernel
theorem dX9_parts_39 : decode cX9_parts 39 = .ok (.iload_n 3, 1) := by decide +kernel
theorem dX9_parts_40 : decode cX9_parts 40 = .ok (.invokevirtual 96, 3) := by decide +kernel
theorem dX9_parts_43 : decode cX9_parts 43 = .ok (.ireturn, 1) := by decide +kernel
theorem cv_X9_parts : wn_cV yX9_parts cX9_parts 4 (some .int) RX9 1 := ⟨wm_823, wm_1054, wm_1055, wm_637, by decide +kernel⟩
abbrev rm_X9_parts : Room := rmz 4 86
set_option maxHeartbeats 4000000 in
set_option maxRecDepth 100000 in
theorem c_X9_parts {ad : Nat → Nat} {o : Nat} {x1 : Int32} {M : Mm} {q : Int32 × Mm} (ho : shp o = 9) (hF : f_X9_parts o x1 M = some q) : KI ad yX9_parts cX9_parts 4 (some .int) rm_X9_parts [.ref (ad o), .int x1] M q.1 q.2 := by
  refine wn_enterI (own := RX9) (by decide) rfl (Nat.le_of_ble_eq_true rfl) (fun X ls Z hQ hl => ?_)
  have hl : lv_has ls 4 [(0, .ref (ad o)), (1, .int x1)] := hl
  unfold f_X9_parts at hF
  refine r_aload_n Z dX9_parts_0 rfl (lv_at hl 0 rfl) ?_
  refine r_iload_n Z dX9_parts_1 rfl (lv_at hl 1 rfl) ?_
  obtain ⟨q1, hq1, hF⟩ := bd_some hF
  refine r_invVi [] Z (c_X9_askedChain ho hq1) cv_X9_askedChain rfl (shp_lt ho (by decide)) (fun _ _ => ⟨_, ce_9 ho⟩) wm_813 rfl rfl ⟨Nat.le_of_ble_eq_true rfl, Nat.le_of_ble_eq_true rfl⟩ rfl hl.1 rfl (Nat.le_of_ble_eq_true rfl) dX9_parts_2 ?_
  refine r_istore_n Z [(2, .int q1.1), (0, .ref (ad o)), (1, .int x1)] dX9_parts_5 rfl hl (by decide) rfl (fun ls hl => ?_)
  refine r_iload_n Z dX9_parts_6 rfl (lv_at hl 0 rfl) ?_
  refine r_if_ge Z 12 dX9_parts_7 (by decide) (fun hc2 => ?_) (fun hc2 => ?_)
  · replace hF := if_some hc2 hF
    refine r_aload_n Z dX9_parts_12 rfl (lv_at hl 1 rfl) ?_
    refine r_iload_n Z dX9_parts_13 rfl (lv_at hl 2 rfl) ?_
    refine r_iload_n Z dX9_parts_14 rfl (lv_at hl 0 rfl) ?_
    obtain ⟨q3, hq3, hF⟩ := bd_some hF
    refine r_invVi [] Z (c_X9_areRates ho hq3) cv_X9_areRates rfl (shp_lt ho (by decide)) (fun _ _ => ⟨_, ce_9 ho⟩) wm_816 rfl rfl ⟨Nat.le_of_ble_eq_true rfl, Nat.le_of_ble_eq_true rfl⟩ rfl hl.1 rfl (Nat.le_of_ble_eq_true rfl) dX9_parts_15 ?_
    refine r_if_ne Z 27 dX9_parts_18 (by decide) (fun hc4 => ?_) (fun hc4 => ?_)
    · replace hF := nif_some hc4 hF
      refine r_aload_n Z dX9_parts_27 rfl (lv_at hl 1 rfl) ?_
      refine r_iload_n Z dX9_parts_28 rfl (lv_at hl 2 rfl) ?_
      refine r_iload_n Z dX9_parts_29 rfl (lv_at hl 0 rfl) ?_
      obtain ⟨q5, hq5, hF⟩ := bd_some hF
      refine r_invVi [] Z (c_X9_partsOf ho hq5) cv_X9_partsOf rfl (shp_lt ho (by decide)) (fun _ _ => ⟨_, ce_9 ho⟩) wm_819 rfl rfl ⟨Nat.le_of_ble_eq_true rfl, Nat.le_of_ble_eq_true rfl⟩ rfl hl.1 rfl (Nat.le_of_ble_eq_true rfl) dX9_parts_30 ?_
      refine r_istore_n Z [(3, .int q5.1), (2, .int q1.1), (0, .ref (ad o)), (1, .int x1)] dX9_parts_33 rfl hl (by decide) rfl (fun ls hl => ?_)
      refine r_aload_n Z dX9_parts_34 rfl (lv_at hl 2 rfl) ?_
      refine r_aload_n Z dX9_parts_35 rfl (lv_at hl 2 rfl) ?_
      refine g_9_23 Z ho wm_809 dX9_parts_36 ?_
      refine r_iload_n Z dX9_parts_39 rfl (lv_at hl 0 rfl) ?_
      obtain ⟨q6, hq6, hF⟩ := bd_some hF
      refine r_invVi [] Z (c_X9_ask ho hq6) cv_X9_ask rfl (shp_lt ho (by decide)) (fun _ _ => ⟨_, ce_9 ho⟩) wm_655 rfl rfl ⟨Nat.le_of_ble_eq_true rfl, Nat.le_of_ble_eq_true rfl⟩ rfl hl.1 rfl (Nat.le_of_ble_eq_true rfl) dX9_parts_40 ?_
      exact r_iret Z hQ hF dX9_parts_43
    · replace hF := if_some hc4 hF
      refine r_aload_n Z dX9_parts_21 rfl (lv_at hl 1 rfl) ?_
      refine r_iconst (v := 3) Z dX9_parts_22 (by decide) ?_
      obtain ⟨q7, hq7, hF⟩ := bd_some hF
      refine r_invVi [] Z (c_X9_meets ho hq7) cv_X9_meets rfl (shp_lt ho (by decide)) (fun _ _ => ⟨_, ce_9 ho⟩) wm_644 rfl rfl ⟨Nat.le_of_ble_eq_true rfl, Nat.le_of_ble_eq_true rfl⟩ rfl hl.1 rfl (Nat.le_of_ble_eq_true rfl) dX9_parts_23 ?_
      exact r_iret Z hQ hF dX9_parts_26
  · replace hF := nif_some hc2 hF
    refine r_iload_n Z dX9_parts_10 rfl (lv_at hl 0 rfl) ?_
    exact r_iret Z hQ hF dX9_parts_11
theorem dX9_power_0 : decode cX9_power 0 = .ok (.lconst 1, 1) := by decide +kernel
theorem dX9_power_1 : decode cX9_power 1 = .ok (.lstore_n 3, 1) := by decide +kernel
theorem dX9_power_2 : decode cX9_power 2 = .ok (.iconst 0, 1) := by decide +kernel
theorem dX9_power_3 : decode cX9_power 3 = .ok (.istore 5, 2) := by decide +kernel
theorem dX9_power_5 : decode cX9_power 5 = .ok (.iload 5, 2) := by decide +kernel
theorem dX9_power_7 : decode cX9_power 7 = .ok (.iload_n 2, 1) := by decide +kernel
theorem dX9_power_8 : decode cX9_power 8 = .ok (.if_icmp .ge 13, 3) := by decide +kernel
theorem dX9_power_11 : decode cX9_power 11 = .ok (.lload_n 3, 1) := by decide +kernel
theorem dX9_power_12 : decode cX9_power 12 = .ok (.lload_n 0, 1) := by decide +kernel
theorem dX9_power_13 : decode cX9_power 13 = .ok (.lmul, 1) := by decide +kernel
theorem dX9_power_14 : decode cX9_power 14 = .ok (.lstore_n 3, 1) := by decide +kernel
theorem dX9_power_15 : decode cX9_power 15 = .ok (.iinc 5 1, 3) := by decide +kernel
theorem dX9_power_18 : decode cX9_power 18 = .ok (.goto (-13), 3) := by decide +kernel
theorem dX9_power_21 : decode cX9_power 21 = .ok (.lload_n 3, 1) := by decide +kernel
theorem dX9_power_22 : decode cX9_power 22 = .ok (.lreturn, 1) := by decide +kernel
theorem cv_X9_power : wn_cS yX9_power cX9_power 6 (some .long) 2 := ⟨wm_797, wm_799, wm_637, by decide +kernel⟩
abbrev rm_X9_power : Room := rmz 0 0
set_option maxHeartbeats 4000000 in
set_option maxRecDepth 100000 in
theorem c_X9_power {ad : Nat → Nat} {x1 : Int64} {x2 : Int32} {M : Mm} {q : Int64 × Mm} (hF : f_X9_power x1 x2 M = some q) : KL ad yX9_power cX9_power 6 (some .long) rm_X9_power [.long x1, .int x2] M q.1 q.2 := by
  refine wn_enterL (own := RX9) (by decide) rfl (Nat.le_of_ble_eq_true rfl) (fun X ls Z hQ hl => ?_)
  have hl : lv_has ls 6 [(0, .long x1), (2, .int x2)] := hl
  have L5 : ∀ (n5 : Nat) (v0 : Int64) (v2 : Int32) (v3 : Int64) (v5 : Int32) (M : Mm) (ls : Array Slot), lv_has ls 6 [(0, .long v0), (2, .int v2), (3, .long v3), (5, .int v5)] → f_X9_power_b5 n5 v0 v2 v3 v5 M = some q → G ad X M 5 ls [] := by
    intro n5
    induction n5 with
    | zero =>
      intro v0 v2 v3 v5 M ls hl hF
      cases hF
    | succ n5 ih5 =>
      intro v0 v2 v3 v5 M ls hl hF
      replace hF : f_X9_power_b5B (f_X9_power_b5 n5) v0 v2 v3 v5 M = some q := hF
      unfold f_X9_power_b5B at hF
      refine r_iload Z dX9_power_5 (lv_at hl 3 rfl) ?_
      refine r_iload_n Z dX9_power_7 rfl (lv_at hl 1 rfl) ?_
      refine r_icmp_ge Z 21 dX9_power_8 (by decide) (fun hc1 => ?_) (fun hc1 => ?_)
      · replace hF := if_some hc1 hF
        refine r_lload_n Z dX9_power_21 rfl (lv_at hl 2 rfl) ?_
        exact r_lret Z hQ hF dX9_power_22
      · replace hF := nif_some hc1 hF
        refine r_lload_n Z dX9_power_11 rfl (lv_at hl 2 rfl) ?_
        refine r_lload_n Z dX9_power_12 rfl (lv_at hl 0 rfl) ?_
        refine r_lmul Z dX9_power_13 ?_
        obtain ⟨t2, et2, hF⟩ := nm_some hF
        rw [← et2]
        refine r_lstore_n Z [(3, .long t2), (0, .long v0), (2, .int v2), (5, .int v5)] dX9_power_14 rfl hl (by decide) rfl (fun ls hl => ?_)
        obtain ⟨t3, et3, hF⟩ := nm_some hF
        refine r_iinc (j := 3) Z t3 [(5, .int t3), (3, .long t2), (0, .long v0), (2, .int v2)] dX9_power_15 hl rfl (by rw [et3]; rfl) (by decide) rfl (fun ls hl => ?_)
        refine r_goto Z 5 dX9_power_18 (by decide) ?_
        exact ih5 v0 v2 t2 t3 M ls (lv_sub hl [2, 3, 1, 0] rfl) hF
  unfold f_X9_power at hF
  refine r_lconst (v := 1) Z dX9_power_0 (by decide) ?_
  refine r_lstore_n Z [(3, .long 1), (0, .long x1), (2, .int x2)] dX9_power_1 rfl hl (by decide) rfl (fun ls hl => ?_)
  refine r_iconst (v := 0) Z dX9_power_2 (by decide) ?_
  refine r_istore Z [(5, .int 0), (3, .long 1), (0, .long x1), (2, .int x2)] dX9_power_3 hl (by decide) rfl (fun ls hl => ?_)
  exact L5 _ x1 x2 1 0 M ls (lv_sub hl [2, 3, 1, 0] rfl) hF
theorem dX9_product_0 : decode cX9_product 0 = .ok (.aload_n 0, 1) := by decide +kernel
theorem dX9_product_1 : decode cX9_product 1 = .ok (.invokevirtual 116, 3) := by decide +kernel
theorem dX9_product_4 : decode cX9_product 4 = .ok (.ifCond .eq 7, 3) := by decide +kernel
theorem dX9_product_7 : decode cX9_product 7 = .ok (.iconst 1, 1) := by decide +kernel
theorem dX9_product_8 : decode cX9_product 8 = .ok (.goto 4, 3) := by decide +kernel
theorem dX9_product_11 : decode cX9_product 11 = .ok (.iconst 0, 1) := by decide +kernel
theorem dX9_product_12 : decode cX9_product 12 = .ok (.ireturn, 1) := by decide +kernel
theorem cv_X9_product : wn_cV yX9_product cX9_product 1 (some .int) RX9 0 := ⟨wm_687, wm_946, wm_947, wm_637, by decide +kernel⟩
abbrev rm_X9_product : Room := rmz 1 22
set_option maxHeartbeats 4000000 in
set_option maxRecDepth 100000 in
theorem c_X9_product {ad : Nat → Nat} {o : Nat} {M : Mm} {q : Int32 × Mm} (ho : shp o = 9) (hF : f_X9_product o M = some q) : KI ad yX9_product cX9_product 1 (some .int) rm_X9_product [.ref (ad o)] M q.1 q.2 := by
  refine wn_enterI (own := RX9) (by decide) rfl (Nat.le_of_ble_eq_true rfl) (fun X ls Z hQ hl => ?_)
  have hl : lv_has ls 1 [(0, .ref (ad o))] := hl
  unfold f_X9_product at hF
  refine r_aload_n Z dX9_product_0 rfl (lv_at hl 0 rfl) ?_
  obtain ⟨q1, hq1, hF⟩ := bd_some hF
  refine r_invVi [] Z (c_X9_isProduct ho hq1) cv_X9_isProduct rfl (shp_lt ho (by decide)) (fun _ _ => ⟨_, ce_9 ho⟩) wm_688 rfl rfl ⟨Nat.le_of_ble_eq_true rfl, Nat.le_of_ble_eq_true rfl⟩ rfl hl.1 rfl (Nat.le_of_ble_eq_true rfl) dX9_product_1 ?_
  refine r_if_eq Z 11 dX9_product_4 (by decide) (fun hc2 => ?_) (fun hc2 => ?_)
  · replace hF := if_some hc2 hF
    refine r_iconst (v := 0) Z dX9_product_11 (by decide) ?_
    exact r_iret Z hQ hF dX9_product_12
  · replace hF := nif_some hc2 hF
    refine r_iconst (v := 1) Z dX9_product_7 (by decide) ?_
    refine r_goto Z 12 dX9_product_8 (by decide) ?_
    exact r_iret Z hQ hF dX9_product_12

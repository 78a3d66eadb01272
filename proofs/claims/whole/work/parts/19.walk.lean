theorem dX9_clear_0 : decode cX9_clear 0 = .ok (.lconst 1, 1) := by decide +kernel
theorem dX9_clear_1 : decode cX9_clear 1 = .ok (.lstore_n 2, 1) := by decide +kernel
theorem dX9_clear_2 : decode cX9_clear 2 = .ok (.iconst 1, 1) := by decide +kernel
theorem dX9_clear_3 : decode cX9_clear 3 = .ok (.istore 4, 2) := by decide +kernel
theorem dX9_clear_5 : decode cX9_clear 5 = .ok (.iconst 0, 1) := by decide +kernel
theorem dX9_clear_6 : decode cX9_clear 6 = .ok (.istore 5, 2) := by decide +kernel
theorem dX9_clear_8 : decode cX9_clear 8 = .ok (.iload 5, 2) := by decide +kernel
theorem dX9_clear_10 : decode cX9_clear 10 = .ok (.iload_n 1, 1) := by decide +kernel
theorem dX9_clear_11 : decode cX9_clear 11 = .ok (.iconst 1, 1) := by decide +kernel
theorem dX9_clear_12 : decode cX9_clear 12 = .ok (.isub, 1) := by decide +kernel
theorem dX9_clear_13 : decode cX9_clear 13 = .ok (.if_icmp .ge 266, 3) := by decide +kernel
theorem dX9_clear_16 : decode cX9_clear 16 = .ok (.iload 5, 2) := by decide +kernel
theorem dX9_clear_18 : decode cX9_clear 18 = .ok (.istore 6, 2) := by decide +kernel
theorem dX9_clear_20 : decode cX9_clear 20 = .ok (.iload 6, 2) := by decide +kernel
theorem dX9_clear_22 : decode cX9_clear 22 = .ok (.iload_n 1, 1) := by decide +kernel
theorem dX9_clear_23 : decode cX9_clear 23 = .ok (.if_icmp .ge 27, 3) := by decide +kernel
theorem dX9_clear_26 : decode cX9_clear 26 = .ok (.aload_n 0, 1) := by decide +kernel
theorem dX9_clear_27 : decode cX9_clear 27 = .ok (.getfield 55, 3) := by decide +kernel
theorem dX9_clear_30 : decode cX9_clear 30 = .ok (.bipush 6, 2) := by decide +kernel
theorem dX9_clear_32 : decode cX9_clear 32 = .ok (.iload 6, 2) := by decide +kernel
theorem dX9_clear_34 : decode cX9_clear 34 = .ok (.imul, 1) := by decide +kernel
theorem dX9_clear_35 : decode cX9_clear 35 = .ok (.iload 5, 2) := by decide +kernel
theorem dX9_clear_37 : decode cX9_clear 37 = .ok (.iadd, 1) := by decide +kernel
theorem dX9_clear_38 : decode cX9_clear 38 = .ok (.laload, 1) := by decide +kernel
theorem dX9_clear_39 : decode cX9_clear 39 = .ok (.lconst 0, 1) := by decide +kernel
theorem dX9_clear_40 : decode cX9_clear 40 = .ok (.lcmp, 1) := by decide +kernel
theorem dX9_clear_41 : decode cX9_clear 41 = .ok (.ifCond .ne 9, 3) := by decide +kernel
theorem dX9_clear_44 : decode cX9_clear 44 = .ok (.iinc 6 1, 3) := by decide +kernel
theorem dX9_clear_47 : decode cX9_clear 47 = .ok (.goto (-27), 3) := by decide +kernel
theorem dX9_clear_50 : decode cX9_clear 50 = .ok (.iload 6, 2) := by decide +kernel
theorem dX9_clear_52 : decode cX9_clear 52 = .ok (.iload_n 1, 1) := by decide +kernel
theorem dX9_clear_53 : decode cX9_clear 53 = .ok (.if_icmp .ne 5, 3) := by decide +kernel
theorem dX9_clear_56 : decode cX9_clear 56 = .ok (.lconst 0, 1) := by decide +kernel
theorem dX9_clear_57 : decode cX9_clear 57 = .ok (.lreturn, 1) := by decide +kernel
theorem dX9_clear_58 : decode cX9_clear 58 = .ok (.iconst 0, 1) := by decide +kernel
theorem dX9_clear_59 : decode cX9_clear 59 = .ok (.istore 7, 2) := by decide +kernel
theorem dX9_clear_61 : decode cX9_clear 61 = .ok (.iload 7, 2) := by decide +kernel
theorem dX9_clear_63 : decode cX9_clear 63 = .ok (.iload_n 1, 1) := by decide +kernel
theorem dX9_clear_64 : decode cX9_clear 64 = .ok (.if_icmp .ge 72, 3) := by decide +kernel
theorem dX9_clear_67 : decode cX9_clear 67 = .ok (.iload 6, 2) := by decide +kernel
theorem dX9_clear_69 : decode cX9_clear 69 = .ok (.iload 5, 2) := by decide +kernel
theorem dX9_clear_71 : decode cX9_clear 71 = .ok (.if_icmp .eq 65, 3) := by decide +kernel
theorem dX9_clear_74 : decode cX9_clear 74 = .ok (.aload_n 0, 1) := by decide +kernel
theorem dX9_clear_75 : decode cX9_clear 75 = .ok (.getfield 55, 3) := by decide +kernel
theorem dX9_clear_78 : decode cX9_clear 78 = .ok (.bipush 6, 2) := by decide +kernel
theorem dX9_clear_80 : decode cX9_clear 80 = .ok (.iload 6, 2) := by decide +kernel
theorem dX9_clear_82 : decode cX9_clear 82 = .ok (.imul, 1) := by decide +kernel
theorem dX9_clear_83 : decode cX9_clear 83 = .ok (.iload 7, 2) := by decide +kernel
theorem dX9_clear_85 : decode cX9_clear 85 = .ok (.iadd, 1) := by decide +kernel
theorem dX9_clear_86 : decode cX9_clear 86 = .ok (.laload, 1) := by decide +kernel
theorem dX9_clear_87 : decode cX9_clear 87 = .ok (.lstore 8, 2) := by decide +kernel
theorem dX9_clear_89 : decode cX9_clear 89 = .ok (.aload_n 0, 1) := by decide +kernel
theorem dX9_clear_90 : decode cX9_clear 90 = .ok (.getfield 55, 3) := by decide +kernel
theorem dX9_clear_93 : decode cX9_clear 93 = .ok (.bipush 6, 2) := by decide +kernel
theorem dX9_clear_95 : decode cX9_clear 95 = .ok (.iload 6, 2) := by decide +kernel
theorem dX9_clear_97 : decode cX9_clear 97 = .ok (.imul, 1) := by decide +kernel
theorem dX9_clear_98 : decode cX9_clear 98 = .ok (.iload 7, 2) := by decide +kernel
theorem dX9_clear_100 : decode cX9_clear 100 = .ok (.iadd, 1) := by decide +kernel
theorem dX9_clear_101 : decode cX9_clear 101 = .ok (.aload_n 0, 1) := by decide +kernel
theorem dX9_clear_102 : decode cX9_clear 102 = .ok (.getfield 55, 3) := by decide +kernel
theorem dX9_clear_105 : decode cX9_clear 105 = .ok (.bipush 6, 2) := by decide +kernel
theorem dX9_clear_107 : decode cX9_clear 107 = .ok (.iload 5, 2) := by decide +kernel
theorem dX9_clear_109 : decode cX9_clear 109 = .ok (.imul, 1) := by decide +kernel
theorem dX9_clear_110 : decode cX9_clear 110 = .ok (.iload 7, 2) := by decide +kernel
theorem dX9_clear_112 : decode cX9_clear 112 = .ok (.iadd, 1) := by decide +kernel
theorem dX9_clear_113 : decode cX9_clear 113 = .ok (.laload, 1) := by decide +kernel
theorem dX9_clear_114 : decode cX9_clear 114 = .ok (.lastore, 1) := by decide +kernel
theorem dX9_clear_115 : decode cX9_clear 115 = .ok (.aload_n 0, 1) := by decide +kernel
theorem dX9_clear_116 : decode cX9_clear 116 = .ok (.getfield 55, 3) := by decide +kernel
theorem dX9_clear_119 : decode cX9_clear 119 = .ok (.bipush 6, 2) := by decide +kernel
theorem dX9_clear_121 : decode cX9_clear 121 = .ok (.iload 5, 2) := by decide +kernel
theorem dX9_clear_123 : decode cX9_clear 123 = .ok (.imul, 1) := by decide +kernel
theorem dX9_clear_124 : decode cX9_clear 124 = .ok (.iload 7, 2) := by decide +kernel
theorem dX9_clear_126 : decode cX9_clear 126 = .ok (.iadd, 1) := by decide +kernel
theorem dX9_clear_127 : decode cX9_clear 127 = .ok (.lload 8, 2) := by decide +kernel
theorem dX9_clear_129 : decode cX9_clear 129 = .ok (.lastore, 1) := by decide +kernel
theorem dX9_clear_130 : decode cX9_clear 130 = .ok (.iinc 7 1, 3) := by decide +kernel
theorem dX9_clear_133 : decode cX9_clear 133 = .ok (.goto (-72), 3) := by decide +kernel
theorem dX9_clear_136 : decode cX9_clear 136 = .ok (.iload 6, 2) := by decide +kernel
theorem dX9_clear_138 : decode cX9_clear 138 = .ok (.iload 5, 2) := by decide +kernel
theorem dX9_clear_140 : decode cX9_clear 140 = .ok (.if_icmp .ne 8, 3) := by decide +kernel
theorem dX9_clear_143 : decode cX9_clear 143 = .ok (.iload 4, 2) := by decide +kernel
theorem dX9_clear_145 : decode cX9_clear 145 = .ok (.goto 6, 3) := by decide +kernel
theorem dX9_clear_148 : decode cX9_clear 148 = .ok (.iload 4, 2) := by decide +kernel
theorem dX9_clear_150 : decode cX9_clear 150 = .ok (.ineg, 1) := by decide +kernel
theorem dX9_clear_151 : decode cX9_clear 151 = .ok (.istore 4, 2) := by decide +kernel
theorem dX9_clear_153 : decode cX9_clear 153 = .ok (.iload 5, 2) := by decide +kernel
theorem dX9_clear_155 : decode cX9_clear 155 = .ok (.iconst 1, 1) := by decide +kernel
theorem dX9_clear_156 : decode cX9_clear 156 = .ok (.iadd, 1) := by decide +kernel
theorem dX9_clear_157 : decode cX9_clear 157 = .ok (.istore 7, 2) := by decide +kernel
theorem dX9_clear_159 : decode cX9_clear 159 = .ok (.iload 7, 2) := by decide +kernel
theorem dX9_clear_161 : decode cX9_clear 161 = .ok (.iload_n 1, 1) := by decide +kernel
theorem dX9_clear_162 : decode cX9_clear 162 = .ok (.if_icmp .ge 97, 3) := by decide +kernel
theorem dX9_clear_165 : decode cX9_clear 165 = .ok (.iload 5, 2) := by decide +kernel
theorem dX9_clear_167 : decode cX9_clear 167 = .ok (.iconst 1, 1) := by decide +kernel
theorem dX9_clear_168 : decode cX9_clear 168 = .ok (.iadd, 1) := by decide +kernel
theorem dX9_clear_169 : decode cX9_clear 169 = .ok (.istore 8, 2) := by decide +kernel
theorem dX9_clear_171 : decode cX9_clear 171 = .ok (.iload 8, 2) := by decide +kernel
theorem dX9_clear_173 : decode cX9_clear 173 = .ok (.iload_n 1, 1) := by decide +kernel
theorem dX9_clear_174 : decode cX9_clear 174 = .ok (.if_icmp .ge 79, 3) := by decide +kernel
theorem dX9_clear_177 : decode cX9_clear 177 = .ok (.aload_n 0, 1) := by decide +kernel
theorem dX9_clear_178 : decode cX9_clear 178 = .ok (.getfield 55, 3) := by decide +kernel
theorem dX9_clear_181 : decode cX9_clear 181 = .ok (.bipush 6, 2) := by decide +kernel
theorem dX9_clear_183 : decode cX9_clear 183 = .ok (.iload 7, 2) := by decide +kernel
theorem dX9_clear_185 : decode cX9_clear 185 = .ok (.imul, 1) := by decide +kernel
theorem dX9_clear_186 : decode cX9_clear 186 = .ok (.iload 8, 2) := by decide +kernel
theorem dX9_clear_188 : decode cX9_clear 188 = .ok (.iadd, 1) := by decide +kernel
theorem dX9_clear_189 : decode cX9_clear 189 = .ok (.aload_n 0, 1) := by decide +kernel
theorem dX9_clear_190 : decode cX9_clear 190 = .ok (.getfield 55, 3) := by decide +kernel
theorem dX9_clear_193 : decode cX9_clear 193 = .ok (.bipush 6, 2) := by decide +kernel
theorem dX9_clear_195 : decode cX9_clear 195 = .ok (.iload 7, 2) := by decide +kernel
theorem dX9_clear_197 : decode cX9_clear 197 = .ok (.imul, 1) := by decide +kernel
theorem dX9_clear_198 : decode cX9_clear 198 = .ok (.iload 8, 2) := by decide +kernel
theorem dX9_clear_200 : decode cX9_clear 200 = .ok (.iadd, 1) := by decide +kernel
theorem dX9_clear_201 : decode cX9_clear 201 = .ok (.laload, 1) := by decide +kernel
theorem dX9_clear_202 : decode cX9_clear 202 = .ok (.aload_n 0, 1) := by decide +kernel
theorem dX9_clear_203 : decode cX9_clear 203 = .ok (.getfield 55, 3) := by decide +kernel
theorem dX9_clear_206 : decode cX9_clear 206 = .ok (.bipush 6, 2) := by decide +kernel
theorem dX9_clear_208 : decode cX9_clear 208 = .ok (.iload 5, 2) := by decide +kernel
theorem dX9_clear_210 : decode cX9_clear 210 = .ok (.imul, 1) := by decide +kernel
theorem dX9_clear_211 : decode cX9_clear 211 = .ok (.iload 5, 2) := by decide +kernel
theorem dX9_clear_213 : decode cX9_clear 213 = .ok (.iadd, 1) := by decide +kernel
theorem dX9_clear_214 : decode cX9_clear 214 = .ok (.laload, 1) := by decide +kernel
theorem dX9_clear_215 : decode cX9_clear 215 = .ok (.lmul, 1) := by decide +kernel
theorem dX9_clear_216 : decode cX9_clear 216 = .ok (.aload_n 0, 1) := by decide +kernel
theorem dX9_clear_217 : decode cX9_clear 217 = .ok (.getfield 55, 3) := by decide +kernel
theorem dX9_clear_220 : decode cX9_clear 220 = .ok (.bipush 6, 2) := by decide +kernel
theorem dX9_clear_222 : decode cX9_clear 222 = .ok (.iload 7, 2) := by decide +kernel
theorem dX9_clear_224 : decode cX9_clear 224 = .ok (.imul, 1) := by decide +kernel
theorem dX9_clear_225 : decode cX9_clear 225 = .ok (.iload 5, 2) := by decide +kernel
theorem dX9_clear_227 : decode cX9_clear 227 = .ok (.iadd, 1) := by decide +kernel
theorem dX9_clear_228 : decode cX9_clear 228 = .ok (.laload, 1) := by decide +kernel
theorem dX9_clear_229 : decode cX9_clear 229 = .ok (.aload_n 0, 1) := by decide +kernel
theorem dX9_clear_230 : decode cX9_clear 230 = .ok (.getfield 55, 3) := by decide +kernel
theorem dX9_clear_233 : decode cX9_clear 233 = .ok (.bipush 6, 2) := by decide +kernel
theorem dX9_clear_235 : decode cX9_clear 235 = .ok (.iload 5, 2) := by decide +kernel
theorem dX9_clear_237 : decode cX9_clear 237 = .ok (.imul, 1) := by decide +kernel
theorem dX9_clear_238 : decode cX9_clear 238 = .ok (.iload 8, 2) := by decide +kernel
theorem dX9_clear_240 : decode cX9_clear 240 = .ok (.iadd, 1) := by decide +kernel
theorem dX9_clear_241 : decode cX9_clear 241 = .ok (.laload, 1) := by decide +kernel
theorem dX9_clear_242 : decode cX9_clear 242 = .ok (.lmul, 1) := by decide +kernel
theorem dX9_clear_243 : decode cX9_clear 243 = .ok (.lsub, 1) := by decide +kernel
theorem dX9_clear_244 : decode cX9_clear 244 = .ok (.lload_n 2, 1) := by decide +kernel
theorem dX9_clear_245 : decode cX9_clear 245 = .ok (.ldiv, 1) := by decide +kernel
theorem dX9_clear_246 : decode cX9_clear 246 = .ok (.lastore, 1) := by decide +kernel
theorem dX9_clear_247 : decode cX9_clear 247 = .ok (.iinc 8 1, 3) := by decide +kernel
theorem dX9_clear_250 : decode cX9_clear 250 = .ok (.goto (-79), 3) := by decide +kernel
theorem dX9_clear_253 : decode cX9_clear 253 = .ok (.iinc 7 1, 3) := by decide +kernel
theorem dX9_clear_256 : decode cX9_clear 256 = .ok (.goto (-97), 3) := by decide +kernel
theorem dX9_clear_259 : decode cX9_clear 259 = .ok (.aload_n 0, 1) := by decide +kernel
theorem dX9_clear_260 : decode cX9_clear 260 = .ok (.getfield 55, 3) := by decide +kernel
theorem dX9_clear_263 : decode cX9_clear 263 = .ok (.bipush 6, 2) := by decide +kernel
theorem dX9_clear_265 : decode cX9_clear 265 = .ok (.iload 5, 2) := by decide +kernel
theorem dX9_clear_267 : decode cX9_clear 267 = .ok (.imul, 1) := by decide +kernel
theorem dX9_clear_268 : decode cX9_clear 268 = .ok (.iload 5, 2) := by decide +kernel
theorem dX9_clear_270 : decode cX9_clear 270 = .ok (.iadd, 1) := by decide +kernel
theorem dX9_clear_271 : decode cX9_clear 271 = .ok (.laload, 1) := by decide +kernel
theorem dX9_clear_272 : decode cX9_clear 272 = .ok (.lstore_n 2, 1) := by decide +kernel
theorem dX9_clear_273 : decode cX9_clear 273 = .ok (.iinc 5 1, 3) := by decide +kernel
theorem dX9_clear_276 : decode cX9_clear 276 = .ok (.goto (-268), 3) := by decide +kernel
theorem dX9_clear_279 : decode cX9_clear 279 = .ok (.iload_n 1, 1) := by decide +kernel
theorem dX9_clear_280 : decode cX9_clear 280 = .ok (.ifCond .ne 7, 3) := by decide +kernel
theorem dX9_clear_283 : decode cX9_clear 283 = .ok (.lconst 1, 1) := by decide +kernel
theorem dX9_clear_284 : decode cX9_clear 284 = .ok (.goto 22, 3) := by decide +kernel
theorem dX9_clear_287 : decode cX9_clear 287 = .ok (.iload 4, 2) := by decide +kernel
theorem dX9_clear_289 : decode cX9_clear 289 = .ok (.i2l, 1) := by decide +kernel
theorem dX9_clear_290 : decode cX9_clear 290 = .ok (.aload_n 0, 1) := by decide +kernel
theorem dX9_clear_291 : decode cX9_clear 291 = .ok (.getfield 55, 3) := by decide +kernel
theorem dX9_clear_294 : decode cX9_clear 294 = .ok (.bipush 6, 2) := by decide +kernel
theorem dX9_clear_296 : decode cX9_clear 296 = .ok (.iload_n 1, 1) := by decide +kernel
theorem dX9_clear_297 : decode cX9_clear 297 = .ok (.iconst 1, 1) := by decide +kernel
theorem dX9_clear_298 : decode cX9_clear 298 = .ok (.isub, 1) := by decide +kernel
theorem dX9_clear_299 : decode cX9_clear 299 = .ok (.imul, 1) := by decide +kernel
theorem dX9_clear_300 : decode cX9_clear 300 = .ok (.iload_n 1, 1) := by decide +kernel
theorem dX9_clear_301 : decode cX9_clear 301 = .ok (.iadd, 1) := by decide +kernel
theorem dX9_clear_302 : decode cX9_clear 302 = .ok (.iconst 1, 1) := by decide +kernel
theorem dX9_clear_303 : decode cX9_clear 303 = .ok (.isub, 1) := by decide +kernel
theorem dX9_clear_304 : decode cX9_clear 304 = .ok (.laload, 1) := by decide +kernel
theorem dX9_clear_305 : decode cX9_clear 305 = .ok (.lmul, 1) := by decide +kernel
theorem dX9_clear_306 : decode cX9_clear 306 = .ok (.lreturn, 1) := by decide +kernel
theorem cv_X9_clear : wn_cV yX9_clear cX9_clear 10 (some .long) RX9 1 := ⟨wm_691, wm_694, wm_695, wm_637, by decide +kernel⟩
abbrev rm_X9_clear : Room := rmz 0 0
set_option maxHeartbeats 4000000 in
set_option maxRecDepth 100000 in
theorem c_X9_clear {ad : Nat → Nat} {o : Nat} {x1 : Int32} {M : Mm} {q : Int64 × Mm} (ho : shp o = 9) (hF : f_X9_clear o x1 M = some q) : KL ad yX9_clear cX9_clear 10 (some .long) rm_X9_clear [.ref (ad o), .int x1] M q.1 q.2 := by
  refine wn_enterL (own := RX9) (by decide) rfl (Nat.le_of_ble_eq_true rfl) (fun X ls Z hQ hl => ?_)
  have hl : lv_has ls 10 [(0, .ref (ad o)), (1, .int x1)] := hl
  have L8 : ∀ (n8 : Nat) (v1 : Int32) (v2 : Int64) (v4 : Int32) (v5 : Int32) (M : Mm) (ls : Array Slot), lv_has ls 10 [(0, .ref (ad o)), (1, .int v1), (2, .long v2), (4, .int v4), (5, .int v5)] → f_X9_clear_b8 o n8 v1 v2 v4 v5 M = some q → G ad X M 8 ls [] := by
    intro n8
    induction n8 with
    | zero =>
      intro v1 v2 v4 v5 M ls hl hF
      cases hF
    | succ n8 ih8 =>
      have L159 : ∀ (n159 : Nat) (v1 : Int32) (v2 : Int64) (v4 : Int32) (v5 : Int32) (v7 : Int32) (M : Mm) (ls : Array Slot), lv_has ls 10 [(0, .ref (ad o)), (1, .int v1), (2, .long v2), (4, .int v4), (5, .int v5), (7, .int v7)] → f_X9_clear_b159 (f_X9_clear_b8 o n8) o n159 v1 v2 v4 v5 v7 M = some q → G ad X M 159 ls [] := by
        intro n159
        induction n159 with
        | zero =>
          intro v1 v2 v4 v5 v7 M ls hl hF
          cases hF
        | succ n159 ih159 =>
          have L171 : ∀ (n171 : Nat) (v1 : Int32) (v2 : Int64) (v4 : Int32) (v5 : Int32) (v7 : Int32) (v8 : Int32) (M : Mm) (ls : Array Slot), lv_has ls 10 [(0, .ref (ad o)), (1, .int v1), (2, .long v2), (4, .int v4), (5, .int v5), (7, .int v7), (8, .int v8)] → f_X9_clear_b171 (f_X9_clear_b8 o n8) (f_X9_clear_b159 (f_X9_clear_b8 o n8) o n159) o n171 v1 v2 v4 v5 v7 v8 M = some q → G ad X M 171 ls [] := by
            intro n171
            induction n171 with
            | zero =>
              intro v1 v2 v4 v5 v7 v8 M ls hl hF
              cases hF
            | succ n171 ih171 =>
              intro v1 v2 v4 v5 v7 v8 M ls hl hF
              replace hF : f_X9_clear_b171B (f_X9_clear_b8 o n8) (f_X9_clear_b159 (f_X9_clear_b8 o n8) o n159) (f_X9_clear_b171 (f_X9_clear_b8 o n8) (f_X9_clear_b159 (f_X9_clear_b8 o n8) o n159) o n171) o v1 v2 v4 v5 v7 v8 M = some q := hF
              unfold f_X9_clear_b171B at hF
              refine r_iload Z dX9_clear_171 (lv_at hl 6 rfl) ?_
              refine r_iload_n Z dX9_clear_173 rfl (lv_at hl 1 rfl) ?_
              refine r_icmp_ge Z 253 dX9_clear_174 (by decide) (fun hc1 => ?_) (fun hc1 => ?_)
              · replace hF := if_some hc1 hF
                obtain ⟨t2, et2, hF⟩ := nm_some hF
                refine r_iinc (j := 5) Z t2 [(7, .int t2), (0, .ref (ad o)), (1, .int v1), (2, .long v2), (4, .int v4), (5, .int v5), (8, .int v8)] dX9_clear_253 hl rfl (by rw [et2]; rfl) (by decide) rfl (fun ls hl => ?_)
                refine r_goto Z 159 dX9_clear_256 (by decide) ?_
                exact ih159 v1 v2 v4 v5 t2 M ls (lv_sub hl [1, 2, 3, 4, 5, 0] rfl) hF
              · replace hF := nif_some hc1 hF
                refine r_aload_n Z dX9_clear_177 rfl (lv_at hl 0 rfl) ?_
                refine g_9_17 Z ho wm_623 dX9_clear_178 ?_
                refine r_bipush (v := 6) Z dX9_clear_181 (by decide) ?_
                refine r_iload Z dX9_clear_183 (lv_at hl 5 rfl) ?_
                refine r_imul Z dX9_clear_185 ?_
                refine r_iload Z dX9_clear_186 (lv_at hl 6 rfl) ?_
                refine r_iadd Z dX9_clear_188 ?_
                refine r_aload_n Z dX9_clear_189 rfl (lv_at hl 0 rfl) ?_
                refine g_9_17 Z ho wm_623 dX9_clear_190 ?_
                refine r_bipush (v := 6) Z dX9_clear_193 (by decide) ?_
                refine r_iload Z dX9_clear_195 (lv_at hl 5 rfl) ?_
                refine r_imul Z dX9_clear_197 ?_
                refine r_iload Z dX9_clear_198 (lv_at hl 6 rfl) ?_
                refine r_iadd Z dX9_clear_200 ?_
                obtain ⟨hi3, hF⟩ := ck_some hF
                refine r_laload Z (shp_lt (sh_9_17 ho) (by decide)) (fun _ _ => ce_1036 (sh_9_17 ho)) hi3 dX9_clear_201 ?_
                refine r_aload_n Z dX9_clear_202 rfl (lv_at hl 0 rfl) ?_
                refine g_9_17 Z ho wm_623 dX9_clear_203 ?_
                refine r_bipush (v := 6) Z dX9_clear_206 (by decide) ?_
                refine r_iload Z dX9_clear_208 (lv_at hl 4 rfl) ?_
                refine r_imul Z dX9_clear_210 ?_
                refine r_iload Z dX9_clear_211 (lv_at hl 4 rfl) ?_
                refine r_iadd Z dX9_clear_213 ?_
                obtain ⟨hi4, hF⟩ := ck_some hF
                refine r_laload Z (shp_lt (sh_9_17 ho) (by decide)) (fun _ _ => ce_1036 (sh_9_17 ho)) hi4 dX9_clear_214 ?_
                refine r_lmul Z dX9_clear_215 ?_
                refine r_aload_n Z dX9_clear_216 rfl (lv_at hl 0 rfl) ?_
                refine g_9_17 Z ho wm_623 dX9_clear_217 ?_
                refine r_bipush (v := 6) Z dX9_clear_220 (by decide) ?_
                refine r_iload Z dX9_clear_222 (lv_at hl 5 rfl) ?_
                refine r_imul Z dX9_clear_224 ?_
                refine r_iload Z dX9_clear_225 (lv_at hl 4 rfl) ?_
                refine r_iadd Z dX9_clear_227 ?_
                obtain ⟨hi5, hF⟩ := ck_some hF
                refine r_laload Z (shp_lt (sh_9_17 ho) (by decide)) (fun _ _ => ce_1036 (sh_9_17 ho)) hi5 dX9_clear_228 ?_
                refine r_aload_n Z dX9_clear_229 rfl (lv_at hl 0 rfl) ?_
                refine g_9_17 Z ho wm_623 dX9_clear_230 ?_
                refine r_bipush (v := 6) Z dX9_clear_233 (by decide) ?_
                refine r_iload Z dX9_clear_235 (lv_at hl 4 rfl) ?_
                refine r_imul Z dX9_clear_237 ?_
                refine r_iload Z dX9_clear_238 (lv_at hl 6 rfl) ?_
                refine r_iadd Z dX9_clear_240 ?_
                obtain ⟨hi6, hF⟩ := ck_some hF
                refine r_laload Z (shp_lt (sh_9_17 ho) (by decide)) (fun _ _ => ce_1036 (sh_9_17 ho)) hi6 dX9_clear_241 ?_
                refine r_lmul Z dX9_clear_242 ?_
                refine r_lsub Z dX9_clear_243 ?_
                refine r_lload_n Z dX9_clear_244 rfl (lv_at hl 2 rfl) ?_
                obtain ⟨hd7, hF⟩ := dvJ_some hF
                refine r_ldiv Z dX9_clear_245 hd7 ?_
                obtain ⟨hi8, hF⟩ := ck_some hF
                obtain ⟨M9, eM9, hF⟩ := nm_some hF
                refine r_lastore Z (shp_lt (sh_9_17 ho) (by decide)) (fun _ _ => ce_1036 (sh_9_17 ho)) hi8 dX9_clear_246 ?_
                rw [← eM9]
                obtain ⟨t10, et10, hF⟩ := nm_some hF
                refine r_iinc (j := 6) Z t10 [(8, .int t10), (0, .ref (ad o)), (1, .int v1), (2, .long v2), (4, .int v4), (5, .int v5), (7, .int v7)] dX9_clear_247 hl rfl (by rw [et10]; rfl) (by decide) rfl (fun ls hl => ?_)
                refine r_goto Z 171 dX9_clear_250 (by decide) ?_
                exact ih171 v1 v2 v4 v5 v7 t10 M9 ls (lv_sub hl [1, 2, 3, 4, 5, 6, 0] rfl) hF
          intro v1 v2 v4 v5 v7 M ls hl hF
          replace hF : f_X9_clear_b159B (f_X9_clear_b8 o n8) (f_X9_clear_b159 (f_X9_clear_b8 o n8) o n159) o v1 v2 v4 v5 v7 M = some q := hF
          unfold f_X9_clear_b159B at hF
          refine r_iload Z dX9_clear_159 (lv_at hl 5 rfl) ?_
          refine r_iload_n Z dX9_clear_161 rfl (lv_at hl 1 rfl) ?_
          refine r_icmp_ge Z 259 dX9_clear_162 (by decide) (fun hc11 => ?_) (fun hc11 => ?_)
          · replace hF := if_some hc11 hF
            refine r_aload_n Z dX9_clear_259 rfl (lv_at hl 0 rfl) ?_
            refine g_9_17 Z ho wm_623 dX9_clear_260 ?_
            refine r_bipush (v := 6) Z dX9_clear_263 (by decide) ?_
            refine r_iload Z dX9_clear_265 (lv_at hl 4 rfl) ?_
            refine r_imul Z dX9_clear_267 ?_
            refine r_iload Z dX9_clear_268 (lv_at hl 4 rfl) ?_
            refine r_iadd Z dX9_clear_270 ?_
            obtain ⟨hi12, hF⟩ := ck_some hF
            refine r_laload Z (shp_lt (sh_9_17 ho) (by decide)) (fun _ _ => ce_1036 (sh_9_17 ho)) hi12 dX9_clear_271 ?_
            obtain ⟨t13, et13, hF⟩ := nm_some hF
            rw [← et13]
            refine r_lstore_n Z [(2, .long t13), (0, .ref (ad o)), (1, .int v1), (4, .int v4), (5, .int v5), (7, .int v7)] dX9_clear_272 rfl hl (by decide) rfl (fun ls hl => ?_)
            obtain ⟨t14, et14, hF⟩ := nm_some hF
            refine r_iinc (j := 4) Z t14 [(5, .int t14), (2, .long t13), (0, .ref (ad o)), (1, .int v1), (4, .int v4), (7, .int v7)] dX9_clear_273 hl rfl (by rw [et14]; rfl) (by decide) rfl (fun ls hl => ?_)
            refine r_goto Z 8 dX9_clear_276 (by decide) ?_
            exact ih8 v1 t13 v4 t14 M ls (lv_sub hl [2, 3, 1, 4, 0] rfl) hF
          · replace hF := nif_some hc11 hF
            refine r_iload Z dX9_clear_165 (lv_at hl 4 rfl) ?_
            refine r_iconst (v := 1) Z dX9_clear_167 (by decide) ?_
            refine r_iadd Z dX9_clear_168 ?_
            obtain ⟨t15, et15, hF⟩ := nm_some hF
            rw [← et15]
            refine r_istore Z [(8, .int t15), (0, .ref (ad o)), (1, .int v1), (2, .long v2), (4, .int v4), (5, .int v5), (7, .int v7)] dX9_clear_169 hl (by decide) rfl (fun ls hl => ?_)
            exact L171 _ v1 v2 v4 v5 v7 t15 M ls (lv_sub hl [1, 2, 3, 4, 5, 6, 0] rfl) hF
      have L136 : ∀ (v1 : Int32) (v2 : Int64) (v4 : Int32) (v5 : Int32) (v6 : Int32) (M : Mm) (ls : Array Slot), lv_has ls 10 [(0, .ref (ad o)), (1, .int v1), (2, .long v2), (4, .int v4), (5, .int v5), (6, .int v6)] → f_X9_clear_b136 (f_X9_clear_b8 o n8) o v1 v2 v4 v5 v6 M = some q → G ad X M 136 ls [] := by
        intro v1 v2 v4 v5 v6 M ls hl hF
        unfold f_X9_clear_b136 at hF
        refine r_iload Z dX9_clear_136 (lv_at hl 5 rfl) ?_
        refine r_iload Z dX9_clear_138 (lv_at hl 4 rfl) ?_
        refine r_icmp_ne Z 148 dX9_clear_140 (by decide) (fun hc16 => ?_) (fun hc16 => ?_)
        · replace hF := nif_some hc16 hF
          refine r_iload Z dX9_clear_148 (lv_at hl 3 rfl) ?_
          refine r_ineg Z dX9_clear_150 ?_
          obtain ⟨t17, et17, hF⟩ := nm_some hF
          rw [← et17]
          refine r_istore Z [(4, .int t17), (0, .ref (ad o)), (1, .int v1), (2, .long v2), (5, .int v5), (6, .int v6)] dX9_clear_151 hl (by decide) rfl (fun ls hl => ?_)
          refine r_iload Z dX9_clear_153 (lv_at hl 4 rfl) ?_
          refine r_iconst (v := 1) Z dX9_clear_155 (by decide) ?_
          refine r_iadd Z dX9_clear_156 ?_
          obtain ⟨t18, et18, hF⟩ := nm_some hF
          rw [← et18]
          refine r_istore Z [(7, .int t18), (4, .int t17), (0, .ref (ad o)), (1, .int v1), (2, .long v2), (5, .int v5), (6, .int v6)] dX9_clear_157 hl (by decide) rfl (fun ls hl => ?_)
          exact L159 _ v1 v2 t17 v5 t18 M ls (lv_sub hl [2, 3, 4, 1, 5, 0] rfl) hF
        · replace hF := if_some hc16 hF
          refine r_iload Z dX9_clear_143 (lv_at hl 3 rfl) ?_
          refine r_goto Z 151 dX9_clear_145 (by decide) ?_
          refine r_istore Z [(4, .int v4), (0, .ref (ad o)), (1, .int v1), (2, .long v2), (5, .int v5), (6, .int v6)] dX9_clear_151 hl (by decide) rfl (fun ls hl => ?_)
          refine r_iload Z dX9_clear_153 (lv_at hl 4 rfl) ?_
          refine r_iconst (v := 1) Z dX9_clear_155 (by decide) ?_
          refine r_iadd Z dX9_clear_156 ?_
          obtain ⟨t19, et19, hF⟩ := nm_some hF
          rw [← et19]
          refine r_istore Z [(7, .int t19), (4, .int v4), (0, .ref (ad o)), (1, .int v1), (2, .long v2), (5, .int v5), (6, .int v6)] dX9_clear_157 hl (by decide) rfl (fun ls hl => ?_)
          exact L159 _ v1 v2 v4 v5 t19 M ls (lv_sub hl [2, 3, 4, 1, 5, 0] rfl) hF
      have L61 : ∀ (n61 : Nat) (v1 : Int32) (v2 : Int64) (v4 : Int32) (v5 : Int32) (v6 : Int32) (v7 : Int32) (M : Mm) (ls : Array Slot), lv_has ls 10 [(0, .ref (ad o)), (1, .int v1), (2, .long v2), (4, .int v4), (5, .int v5), (6, .int v6), (7, .int v7)] → f_X9_clear_b61 (f_X9_clear_b8 o n8) o n61 v1 v2 v4 v5 v6 v7 M = some q → G ad X M 61 ls [] := by
        intro n61
        induction n61 with
        | zero =>
          intro v1 v2 v4 v5 v6 v7 M ls hl hF
          cases hF
        | succ n61 ih61 =>
          intro v1 v2 v4 v5 v6 v7 M ls hl hF
          replace hF : f_X9_clear_b61B (f_X9_clear_b8 o n8) (f_X9_clear_b61 (f_X9_clear_b8 o n8) o n61) o v1 v2 v4 v5 v6 v7 M = some q := hF
          unfold f_X9_clear_b61B at hF
          refine r_iload Z dX9_clear_61 (lv_at hl 6 rfl) ?_
          refine r_iload_n Z dX9_clear_63 rfl (lv_at hl 1 rfl) ?_
          refine r_icmp_ge Z 136 dX9_clear_64 (by decide) (fun hc20 => ?_) (fun hc20 => ?_)
          · replace hF := if_some hc20 hF
            exact L136 v1 v2 v4 v5 v6 M ls (lv_sub hl [0, 1, 2, 3, 4, 5] rfl) hF
          · replace hF := nif_some hc20 hF
            refine r_iload Z dX9_clear_67 (lv_at hl 5 rfl) ?_
            refine r_iload Z dX9_clear_69 (lv_at hl 4 rfl) ?_
            refine r_icmp_eq Z 136 dX9_clear_71 (by decide) (fun hc21 => ?_) (fun hc21 => ?_)
            · replace hF := if_some hc21 hF
              exact L136 v1 v2 v4 v5 v6 M ls (lv_sub hl [0, 1, 2, 3, 4, 5] rfl) hF
            · replace hF := nif_some hc21 hF
              refine r_aload_n Z dX9_clear_74 rfl (lv_at hl 0 rfl) ?_
              refine g_9_17 Z ho wm_623 dX9_clear_75 ?_
              refine r_bipush (v := 6) Z dX9_clear_78 (by decide) ?_
              refine r_iload Z dX9_clear_80 (lv_at hl 5 rfl) ?_
              refine r_imul Z dX9_clear_82 ?_
              refine r_iload Z dX9_clear_83 (lv_at hl 6 rfl) ?_
              refine r_iadd Z dX9_clear_85 ?_
              obtain ⟨hi22, hF⟩ := ck_some hF
              refine r_laload Z (shp_lt (sh_9_17 ho) (by decide)) (fun _ _ => ce_1036 (sh_9_17 ho)) hi22 dX9_clear_86 ?_
              obtain ⟨t23, et23, hF⟩ := nm_some hF
              rw [← et23]
              refine r_lstore Z [(8, .long t23), (0, .ref (ad o)), (1, .int v1), (2, .long v2), (4, .int v4), (5, .int v5), (6, .int v6), (7, .int v7)] dX9_clear_87 hl (by decide) rfl (fun ls hl => ?_)
              refine r_aload_n Z dX9_clear_89 rfl (lv_at hl 1 rfl) ?_
              refine g_9_17 Z ho wm_623 dX9_clear_90 ?_
              refine r_bipush (v := 6) Z dX9_clear_93 (by decide) ?_
              refine r_iload Z dX9_clear_95 (lv_at hl 6 rfl) ?_
              refine r_imul Z dX9_clear_97 ?_
              refine r_iload Z dX9_clear_98 (lv_at hl 7 rfl) ?_
              refine r_iadd Z dX9_clear_100 ?_
              refine r_aload_n Z dX9_clear_101 rfl (lv_at hl 1 rfl) ?_
              refine g_9_17 Z ho wm_623 dX9_clear_102 ?_
              refine r_bipush (v := 6) Z dX9_clear_105 (by decide) ?_
              refine r_iload Z dX9_clear_107 (lv_at hl 5 rfl) ?_
              refine r_imul Z dX9_clear_109 ?_
              refine r_iload Z dX9_clear_110 (lv_at hl 7 rfl) ?_
              refine r_iadd Z dX9_clear_112 ?_
              obtain ⟨hi24, hF⟩ := ck_some hF
              refine r_laload Z (shp_lt (sh_9_17 ho) (by decide)) (fun _ _ => ce_1036 (sh_9_17 ho)) hi24 dX9_clear_113 ?_
              obtain ⟨hi25, hF⟩ := ck_some hF
              obtain ⟨M26, eM26, hF⟩ := nm_some hF
              refine r_lastore Z (shp_lt (sh_9_17 ho) (by decide)) (fun _ _ => ce_1036 (sh_9_17 ho)) hi25 dX9_clear_114 ?_
              rw [← eM26]
              refine r_aload_n Z dX9_clear_115 rfl (lv_at hl 1 rfl) ?_
              refine g_9_17 Z ho wm_623 dX9_clear_116 ?_
              refine r_bipush (v := 6) Z dX9_clear_119 (by decide) ?_
              refine r_iload Z dX9_clear_121 (lv_at hl 5 rfl) ?_
              refine r_imul Z dX9_clear_123 ?_
              refine r_iload Z dX9_clear_124 (lv_at hl 7 rfl) ?_
              refine r_iadd Z dX9_clear_126 ?_
              refine r_lload Z dX9_clear_127 (lv_at hl 0 rfl) ?_
              obtain ⟨hi27, hF⟩ := ck_some hF
              obtain ⟨M28, eM28, hF⟩ := nm_some hF
              refine r_lastore Z (shp_lt (sh_9_17 ho) (by decide)) (fun _ _ => ce_1036 (sh_9_17 ho)) hi27 dX9_clear_129 ?_
              rw [← eM28]
              obtain ⟨t29, et29, hF⟩ := nm_some hF
              refine r_iinc (j := 7) Z t29 [(7, .int t29), (8, .long t23), (0, .ref (ad o)), (1, .int v1), (2, .long v2), (4, .int v4), (5, .int v5), (6, .int v6)] dX9_clear_130 hl rfl (by rw [et29]; rfl) (by decide) rfl (fun ls hl => ?_)
              refine r_goto Z 61 dX9_clear_133 (by decide) ?_
              exact ih61 v1 v2 v4 v5 v6 t29 M28 ls (lv_sub hl [2, 3, 4, 5, 6, 7, 0] rfl) hF
      have L50 : ∀ (v1 : Int32) (v2 : Int64) (v4 : Int32) (v5 : Int32) (v6 : Int32) (M : Mm) (ls : Array Slot), lv_has ls 10 [(0, .ref (ad o)), (1, .int v1), (2, .long v2), (4, .int v4), (5, .int v5), (6, .int v6)] → f_X9_clear_b50 (f_X9_clear_b8 o n8) o v1 v2 v4 v5 v6 M = some q → G ad X M 50 ls [] := by
        intro v1 v2 v4 v5 v6 M ls hl hF
        unfold f_X9_clear_b50 at hF
        refine r_iload Z dX9_clear_50 (lv_at hl 5 rfl) ?_
        refine r_iload_n Z dX9_clear_52 rfl (lv_at hl 1 rfl) ?_
        refine r_icmp_ne Z 58 dX9_clear_53 (by decide) (fun hc30 => ?_) (fun hc30 => ?_)
        · replace hF := nif_some hc30 hF
          refine r_iconst (v := 0) Z dX9_clear_58 (by decide) ?_
          refine r_istore Z [(7, .int 0), (0, .ref (ad o)), (1, .int v1), (2, .long v2), (4, .int v4), (5, .int v5), (6, .int v6)] dX9_clear_59 hl (by decide) rfl (fun ls hl => ?_)
          exact L61 _ v1 v2 v4 v5 v6 0 M ls (lv_sub hl [1, 2, 3, 4, 5, 6, 0] rfl) hF
        · replace hF := if_some hc30 hF
          refine r_lconst (v := 0) Z dX9_clear_56 (by decide) ?_
          exact r_lret Z hQ hF dX9_clear_57
      have L20 : ∀ (n20 : Nat) (v1 : Int32) (v2 : Int64) (v4 : Int32) (v5 : Int32) (v6 : Int32) (M : Mm) (ls : Array Slot), lv_has ls 10 [(0, .ref (ad o)), (1, .int v1), (2, .long v2), (4, .int v4), (5, .int v5), (6, .int v6)] → f_X9_clear_b20 (f_X9_clear_b8 o n8) o n20 v1 v2 v4 v5 v6 M = some q → G ad X M 20 ls [] := by
        intro n20
        induction n20 with
        | zero =>
          intro v1 v2 v4 v5 v6 M ls hl hF
          cases hF
        | succ n20 ih20 =>
          intro v1 v2 v4 v5 v6 M ls hl hF
          replace hF : f_X9_clear_b20B (f_X9_clear_b8 o n8) (f_X9_clear_b20 (f_X9_clear_b8 o n8) o n20) o v1 v2 v4 v5 v6 M = some q := hF
          unfold f_X9_clear_b20B at hF
          refine r_iload Z dX9_clear_20 (lv_at hl 5 rfl) ?_
          refine r_iload_n Z dX9_clear_22 rfl (lv_at hl 1 rfl) ?_
          refine r_icmp_ge Z 50 dX9_clear_23 (by decide) (fun hc31 => ?_) (fun hc31 => ?_)
          · replace hF := if_some hc31 hF
            exact L50 v1 v2 v4 v5 v6 M ls (lv_sub hl [0, 1, 2, 3, 4, 5] rfl) hF
          · replace hF := nif_some hc31 hF
            refine r_aload_n Z dX9_clear_26 rfl (lv_at hl 0 rfl) ?_
            refine g_9_17 Z ho wm_623 dX9_clear_27 ?_
            refine r_bipush (v := 6) Z dX9_clear_30 (by decide) ?_
            refine r_iload Z dX9_clear_32 (lv_at hl 5 rfl) ?_
            refine r_imul Z dX9_clear_34 ?_
            refine r_iload Z dX9_clear_35 (lv_at hl 4 rfl) ?_
            refine r_iadd Z dX9_clear_37 ?_
            obtain ⟨hi32, hF⟩ := ck_some hF
            refine r_laload Z (shp_lt (sh_9_17 ho) (by decide)) (fun _ _ => ce_1036 (sh_9_17 ho)) hi32 dX9_clear_38 ?_
            refine r_lconst (v := 0) Z dX9_clear_39 (by decide) ?_
            refine r_lcmp Z dX9_clear_40 ?_
            refine r_if_ne Z 50 dX9_clear_41 (by decide) (fun hc33 => ?_) (fun hc33 => ?_)
            · replace hF := nif_some hc33 hF
              exact L50 v1 v2 v4 v5 v6 M ls (lv_sub hl [0, 1, 2, 3, 4, 5] rfl) hF
            · replace hF := if_some hc33 hF
              obtain ⟨t34, et34, hF⟩ := nm_some hF
              refine r_iinc (j := 5) Z t34 [(6, .int t34), (0, .ref (ad o)), (1, .int v1), (2, .long v2), (4, .int v4), (5, .int v5)] dX9_clear_44 hl rfl (by rw [et34]; rfl) (by decide) rfl (fun ls hl => ?_)
              refine r_goto Z 20 dX9_clear_47 (by decide) ?_
              exact ih20 v1 v2 v4 v5 t34 M ls (lv_sub hl [1, 2, 3, 4, 5, 0] rfl) hF
      intro v1 v2 v4 v5 M ls hl hF
      replace hF : f_X9_clear_b8B (f_X9_clear_b8 o n8) o v1 v2 v4 v5 M = some q := hF
      unfold f_X9_clear_b8B at hF
      refine r_iload Z dX9_clear_8 (lv_at hl 4 rfl) ?_
      refine r_iload_n Z dX9_clear_10 rfl (lv_at hl 1 rfl) ?_
      refine r_iconst (v := 1) Z dX9_clear_11 (by decide) ?_
      refine r_isub Z dX9_clear_12 ?_
      refine r_icmp_ge Z 279 dX9_clear_13 (by decide) (fun hc35 => ?_) (fun hc35 => ?_)
      · replace hF := if_some hc35 hF
        refine r_iload_n Z dX9_clear_279 rfl (lv_at hl 1 rfl) ?_
        refine r_if_ne Z 287 dX9_clear_280 (by decide) (fun hc36 => ?_) (fun hc36 => ?_)
        · replace hF := nif_some hc36 hF
          refine r_iload Z dX9_clear_287 (lv_at hl 3 rfl) ?_
          refine r_i2l Z dX9_clear_289 ?_
          refine r_aload_n Z dX9_clear_290 rfl (lv_at hl 0 rfl) ?_
          refine g_9_17 Z ho wm_623 dX9_clear_291 ?_
          refine r_bipush (v := 6) Z dX9_clear_294 (by decide) ?_
          refine r_iload_n Z dX9_clear_296 rfl (lv_at hl 1 rfl) ?_
          refine r_iconst (v := 1) Z dX9_clear_297 (by decide) ?_
          refine r_isub Z dX9_clear_298 ?_
          refine r_imul Z dX9_clear_299 ?_
          refine r_iload_n Z dX9_clear_300 rfl (lv_at hl 1 rfl) ?_
          refine r_iadd Z dX9_clear_301 ?_
          refine r_iconst (v := 1) Z dX9_clear_302 (by decide) ?_
          refine r_isub Z dX9_clear_303 ?_
          obtain ⟨hi37, hF⟩ := ck_some hF
          refine r_laload Z (shp_lt (sh_9_17 ho) (by decide)) (fun _ _ => ce_1036 (sh_9_17 ho)) hi37 dX9_clear_304 ?_
          refine r_lmul Z dX9_clear_305 ?_
          exact r_lret Z hQ hF dX9_clear_306
        · replace hF := if_some hc36 hF
          refine r_lconst (v := 1) Z dX9_clear_283 (by decide) ?_
          refine r_goto Z 306 dX9_clear_284 (by decide) ?_
          exact r_lret Z hQ hF dX9_clear_306
      · replace hF := nif_some hc35 hF
        refine r_iload Z dX9_clear_16 (lv_at hl 4 rfl) ?_
        refine r_istore Z [(6, .int v5), (0, .ref (ad o)), (1, .int v1), (2, .long v2), (4, .int v4), (5, .int v5)] dX9_clear_18 hl (by decide) rfl (fun ls hl => ?_)
        exact L20 _ v1 v2 v4 v5 v5 M ls (lv_sub hl [1, 2, 3, 4, 5, 0] rfl) hF
  unfold f_X9_clear at hF
  refine r_lconst (v := 1) Z dX9_clear_0 (by decide) ?_
  refine r_lstore_n Z [(2, .long 1), (0, .ref (ad o)), (1, .int x1)] dX9_clear_1 rfl hl (by decide) rfl (fun ls hl => ?_)
  refine r_iconst (v := 1) Z dX9_clear_2 (by decide) ?_
  refine r_istore Z [(4, .int 1), (2, .long 1), (0, .ref (ad o)), (1, .int x1)] dX9_clear_3 hl (by decide) rfl (fun ls hl => ?_)
  refine r_iconst (v := 0) Z dX9_clear_5 (by decide) ?_
  refine r_istore Z [(5, .int 0), (4, .int 1), (2, .long 1), (0, .ref (ad o)), (1, .int x1)] dX9_clear_6 hl (by decide) rfl (fun ls hl => ?_)
  exact L8 _ x1 1 1 0 M ls (lv_sub hl [3, 4, 2, 1, 0] rfl) hF
theorem dX9_worth_0 : decode cX9_worth 0 = .ok (.iconst 0, 1) := by decide +kernel
theorem dX9_worth_1 : decode cX9_worth 1 = .ok (.istore_n 3, 1) := by decide +kernel
theorem dX9_worth_2 : decode cX9_worth 2 = .ok (.iconst 0, 1) := by decide +kernel
theorem dX9_worth_3 : decode cX9_worth 3 = .ok (.istore 4, 2) := by decide +kernel
theorem dX9_worth_5 : decode cX9_worth 5 = .ok (.iload 4, 2) := by decide +kernel
theorem dX9_worth_7 : decode cX9_worth 7 = .ok (.iload_n 2, 1) := by decide +kernel
theorem dX9_worth_8 : decode cX9_worth 8 = .ok (.if_icmp .ge 30, 3) := by decide +kernel
theorem dX9_worth_11 : decode cX9_worth 11 = .ok (.iload_n 1, 1) := by decide +kernel
theorem dX9_worth_12 : decode cX9_worth 12 = .ok (.iload 4, 2) := by decide +kernel
theorem dX9_worth_14 : decode cX9_worth 14 = .ok (.ishr, 1) := by decide +kernel
theorem dX9_worth_15 : decode cX9_worth 15 = .ok (.iconst 1, 1) := by decide +kernel
theorem dX9_worth_16 : decode cX9_worth 16 = .ok (.iand, 1) := by decide +kernel
theorem dX9_worth_17 : decode cX9_worth 17 = .ok (.iconst 1, 1) := by decide +kernel
theorem dX9_worth_18 : decode cX9_worth 18 = .ok (.if_icmp .ne 14, 3) := by decide +kernel
theorem dX9_worth_21 : decode cX9_worth 21 = .ok (.aload_n 0, 1) := by decide +kernel
theorem dX9_worth_22 : decode cX9_worth 22 = .ok (.getfield 52, 3) := by decide +kernel
theorem dX9_worth_25 : decode cX9_worth 25 = .ok (.iload_n 3, 1) := by decide +kernel
theorem dX9_worth_26 : decode cX9_worth 26 = .ok (.iload 4, 2) := by decide +kernel
theorem dX9_worth_28 : decode cX9_worth 28 = .ok (.iastore, 1) := by decide +kernel
theorem dX9_worth_29 : decode cX9_worth 29 = .ok (.iinc 3 1, 3) := by decide +kernel
theorem dX9_worth_32 : decode cX9_worth 32 = .ok (.iinc 4 1, 3) := by decide +kernel
theorem dX9_worth_35 : decode cX9_worth 35 = .ok (.goto (-30), 3) := by decide +kernel
theorem dX9_worth_38 : decode cX9_worth 38 = .ok (.iconst 0, 1) := by decide +kernel
theorem dX9_worth_39 : decode cX9_worth 39 = .ok (.istore 4, 2) := by decide +kernel
theorem dX9_worth_41 : decode cX9_worth 41 = .ok (.iload 4, 2) := by decide +kernel
theorem dX9_worth_43 : decode cX9_worth 43 = .ok (.iload_n 3, 1) := by decide +kernel
theorem dX9_worth_44 : decode cX9_worth 44 = .ok (.if_icmp .ge 60, 3) := by decide +kernel
theorem dX9_worth_47 : decode cX9_worth 47 = .ok (.iconst 0, 1) := by decide +kernel
theorem dX9_worth_48 : decode cX9_worth 48 = .ok (.istore 5, 2) := by decide +kernel
theorem dX9_worth_50 : decode cX9_worth 50 = .ok (.iload 5, 2) := by decide +kernel
theorem dX9_worth_52 : decode cX9_worth 52 = .ok (.iload_n 3, 1) := by decide +kernel
theorem dX9_worth_53 : decode cX9_worth 53 = .ok (.if_icmp .ge 45, 3) := by decide +kernel
theorem dX9_worth_56 : decode cX9_worth 56 = .ok (.aload_n 0, 1) := by decide +kernel
theorem dX9_worth_57 : decode cX9_worth 57 = .ok (.getfield 55, 3) := by decide +kernel
theorem dX9_worth_60 : decode cX9_worth 60 = .ok (.bipush 6, 2) := by decide +kernel
theorem dX9_worth_62 : decode cX9_worth 62 = .ok (.iload 4, 2) := by decide +kernel
theorem dX9_worth_64 : decode cX9_worth 64 = .ok (.imul, 1) := by decide +kernel
theorem dX9_worth_65 : decode cX9_worth 65 = .ok (.iload 5, 2) := by decide +kernel
theorem dX9_worth_67 : decode cX9_worth 67 = .ok (.iadd, 1) := by decide +kernel
theorem dX9_worth_68 : decode cX9_worth 68 = .ok (.aload_n 0, 1) := by decide +kernel
theorem dX9_worth_69 : decode cX9_worth 69 = .ok (.getfield 48, 3) := by decide +kernel
theorem dX9_worth_72 : decode cX9_worth 72 = .ok (.bipush 6, 2) := by decide +kernel
theorem dX9_worth_74 : decode cX9_worth 74 = .ok (.aload_n 0, 1) := by decide +kernel
theorem dX9_worth_75 : decode cX9_worth 75 = .ok (.getfield 52, 3) := by decide +kernel
theorem dX9_worth_78 : decode cX9_worth 78 = .ok (.iload 4, 2) := by decide +kernel
theorem dX9_worth_80 : decode cX9_worth 80 = .ok (.iaload, 1) := by decide +kernel
theorem dX9_worth_81 : decode cX9_worth 81 = .ok (.imul, 1) := by decide +kernel
theorem dX9_worth_82 : decode cX9_worth 82 = .ok (.aload_n 0, 1) := by decide +kernel
theorem dX9_worth_83 : decode cX9_worth 83 = .ok (.getfield 52, 3) := by decide +kernel
theorem dX9_worth_86 : decode cX9_worth 86 = .ok (.iload 5, 2) := by decide +kernel
theorem dX9_worth_88 : decode cX9_worth 88 = .ok (.iaload, 1) := by decide +kernel
theorem dX9_worth_89 : decode cX9_worth 89 = .ok (.iadd, 1) := by decide +kernel
theorem dX9_worth_90 : decode cX9_worth 90 = .ok (.laload, 1) := by decide +kernel
theorem dX9_worth_91 : decode cX9_worth 91 = .ok (.lastore, 1) := by decide +kernel
theorem dX9_worth_92 : decode cX9_worth 92 = .ok (.iinc 5 1, 3) := by decide +kernel
theorem dX9_worth_95 : decode cX9_worth 95 = .ok (.goto (-45), 3) := by decide +kernel
theorem dX9_worth_98 : decode cX9_worth 98 = .ok (.iinc 4 1, 3) := by decide +kernel
theorem dX9_worth_101 : decode cX9_worth 101 = .ok (.goto (-60), 3) := by decide +kernel
theorem dX9_worth_104 : decode cX9_worth 104 = .ok (.aload_n 0, 1) := by decide +kernel
theorem dX9_worth_105 : decode cX9_worth 105 = .ok (.iload_n 3, 1) := by decide +kernel
theorem dX9_worth_106 : decode cX9_worth 106 = .ok (.invokevirtual 120, 3) := by decide +kernel
theorem dX9_worth_109 : decode cX9_worth 109 = .ok (.lreturn, 1) := by decide +kernel
theorem cv_X9_worth : wn_cV yX9_worth cX9_worth 6 (some .long) RX9 2 := ⟨wm_692, wm_709, wm_710, wm_637, by decide +kernel⟩
abbrev rm_X9_worth : Room := rmz 1 29
set_option maxHeartbeats 4000000 in
set_option maxRecDepth 100000 in
theorem c_X9_worth {ad : Nat → Nat} {o : Nat} {x1 : Int32} {x2 : Int32} {M : Mm} {q : Int64 × Mm} (ho : shp o = 9) (hF : f_X9_worth o x1 x2 M = some q) : KL ad yX9_worth cX9_worth 6 (some .long) rm_X9_worth [.ref (ad o), .int x1, .int x2] M q.1 q.2 := by
  refine wn_enterL (own := RX9) (by decide) rfl (Nat.le_of_ble_eq_true rfl) (fun X ls Z hQ hl => ?_)
  have hl : lv_has ls 6 [(0, .ref (ad o)), (1, .int x1), (2, .int x2)] := hl
  have L41 : ∀ (n41 : Nat) (v3 : Int32) (v4 : Int32) (M : Mm) (ls : Array Slot), lv_has ls 6 [(0, .ref (ad o)), (3, .int v3), (4, .int v4)] → f_X9_worth_b41 o n41 v3 v4 M = some q → G ad X M 41 ls [] := by
    intro n41
    induction n41 with
    | zero =>
      intro v3 v4 M ls hl hF
      cases hF
    | succ n41 ih41 =>
      have L50 : ∀ (n50 : Nat) (v3 : Int32) (v4 : Int32) (v5 : Int32) (M : Mm) (ls : Array Slot), lv_has ls 6 [(0, .ref (ad o)), (3, .int v3), (4, .int v4), (5, .int v5)] → f_X9_worth_b50 (f_X9_worth_b41 o n41) o n50 v3 v4 v5 M = some q → G ad X M 50 ls [] := by
        intro n50
        induction n50 with
        | zero =>
          intro v3 v4 v5 M ls hl hF
          cases hF
        | succ n50 ih50 =>
          intro v3 v4 v5 M ls hl hF
          replace hF : f_X9_worth_b50B (f_X9_worth_b41 o n41) (f_X9_worth_b50 (f_X9_worth_b41 o n41) o n50) o v3 v4 v5 M = some q := hF
          unfold f_X9_worth_b50B at hF
          refine r_iload Z dX9_worth_50 (lv_at hl 3 rfl) ?_
          refine r_iload_n Z dX9_worth_52 rfl (lv_at hl 1 rfl) ?_
          refine r_icmp_ge Z 98 dX9_worth_53 (by decide) (fun hc1 => ?_) (fun hc1 => ?_)
          · replace hF := if_some hc1 hF
            obtain ⟨t2, et2, hF⟩ := nm_some hF
            refine r_iinc (j := 2) Z t2 [(4, .int t2), (0, .ref (ad o)), (3, .int v3), (5, .int v5)] dX9_worth_98 hl rfl (by rw [et2]; rfl) (by decide) rfl (fun ls hl => ?_)
            refine r_goto Z 41 dX9_worth_101 (by decide) ?_
            exact ih41 v3 t2 M ls (lv_sub hl [1, 2, 0] rfl) hF
          · replace hF := nif_some hc1 hF
            refine r_aload_n Z dX9_worth_56 rfl (lv_at hl 0 rfl) ?_
            refine g_9_17 Z ho wm_623 dX9_worth_57 ?_
            refine r_bipush (v := 6) Z dX9_worth_60 (by decide) ?_
            refine r_iload Z dX9_worth_62 (lv_at hl 2 rfl) ?_
            refine r_imul Z dX9_worth_64 ?_
            refine r_iload Z dX9_worth_65 (lv_at hl 3 rfl) ?_
            refine r_iadd Z dX9_worth_67 ?_
            refine r_aload_n Z dX9_worth_68 rfl (lv_at hl 0 rfl) ?_
            refine g_9_15 Z ho wm_621 dX9_worth_69 ?_
            refine r_bipush (v := 6) Z dX9_worth_72 (by decide) ?_
            refine r_aload_n Z dX9_worth_74 rfl (lv_at hl 0 rfl) ?_
            refine g_9_16 Z ho wm_622 dX9_worth_75 ?_
            refine r_iload Z dX9_worth_78 (lv_at hl 2 rfl) ?_
            obtain ⟨hi3, hF⟩ := ck_some hF
            refine r_iaload Z (shp_lt (sh_9_16 ho) (by decide)) (fun _ _ => ce_106 (sh_9_16 ho)) hi3 dX9_worth_80 ?_
            refine r_imul Z dX9_worth_81 ?_
            refine r_aload_n Z dX9_worth_82 rfl (lv_at hl 0 rfl) ?_
            refine g_9_16 Z ho wm_622 dX9_worth_83 ?_
            refine r_iload Z dX9_worth_86 (lv_at hl 3 rfl) ?_
            obtain ⟨hi4, hF⟩ := ck_some hF
            refine r_iaload Z (shp_lt (sh_9_16 ho) (by decide)) (fun _ _ => ce_106 (sh_9_16 ho)) hi4 dX9_worth_88 ?_
            refine r_iadd Z dX9_worth_89 ?_
            obtain ⟨hi5, hF⟩ := ck_some hF
            refine r_laload Z (shp_lt (sh_9_15 ho) (by decide)) (fun _ _ => ce_1036 (sh_9_15 ho)) hi5 dX9_worth_90 ?_
            obtain ⟨hi6, hF⟩ := ck_some hF
            obtain ⟨M7, eM7, hF⟩ := nm_some hF
            refine r_lastore Z (shp_lt (sh_9_17 ho) (by decide)) (fun _ _ => ce_1036 (sh_9_17 ho)) hi6 dX9_worth_91 ?_
            rw [← eM7]
            obtain ⟨t8, et8, hF⟩ := nm_some hF
            refine r_iinc (j := 3) Z t8 [(5, .int t8), (0, .ref (ad o)), (3, .int v3), (4, .int v4)] dX9_worth_92 hl rfl (by rw [et8]; rfl) (by decide) rfl (fun ls hl => ?_)
            refine r_goto Z 50 dX9_worth_95 (by decide) ?_
            exact ih50 v3 v4 t8 M7 ls (lv_sub hl [1, 2, 3, 0] rfl) hF
      intro v3 v4 M ls hl hF
      replace hF : f_X9_worth_b41B (f_X9_worth_b41 o n41) o v3 v4 M = some q := hF
      unfold f_X9_worth_b41B at hF
      refine r_iload Z dX9_worth_41 (lv_at hl 2 rfl) ?_
      refine r_iload_n Z dX9_worth_43 rfl (lv_at hl 1 rfl) ?_
      refine r_icmp_ge Z 104 dX9_worth_44 (by decide) (fun hc9 => ?_) (fun hc9 => ?_)
      · replace hF := if_some hc9 hF
        refine r_aload_n Z dX9_worth_104 rfl (lv_at hl 0 rfl) ?_
        refine r_iload_n Z dX9_worth_105 rfl (lv_at hl 1 rfl) ?_
        obtain ⟨q10, hq10, hF⟩ := bd_some hF
        refine r_invVl [] Z (c_X9_clear ho hq10) cv_X9_clear rfl (shp_lt ho (by decide)) (fun _ _ => ⟨_, ce_9 ho⟩) wm_693 rfl rfl ⟨Nat.le_of_ble_eq_true rfl, Nat.le_of_ble_eq_true rfl⟩ rfl hl.1 rfl (Nat.le_of_ble_eq_true rfl) dX9_worth_106 ?_
        exact r_lret Z hQ hF dX9_worth_109
      · replace hF := nif_some hc9 hF
        refine r_iconst (v := 0) Z dX9_worth_47 (by decide) ?_
        refine r_istore Z [(5, .int 0), (0, .ref (ad o)), (3, .int v3), (4, .int v4)] dX9_worth_48 hl (by decide) rfl (fun ls hl => ?_)
        exact L50 _ v3 v4 0 M ls (lv_sub hl [1, 2, 3, 0] rfl) hF
  have L5 : ∀ (n5 : Nat) (v1 : Int32) (v2 : Int32) (v3 : Int32) (v4 : Int32) (M : Mm) (ls : Array Slot), lv_has ls 6 [(0, .ref (ad o)), (1, .int v1), (2, .int v2), (3, .int v3), (4, .int v4)] → f_X9_worth_b5 o n5 v1 v2 v3 v4 M = some q → G ad X M 5 ls [] := by
    intro n5
    induction n5 with
    | zero =>
      intro v1 v2 v3 v4 M ls hl hF
      cases hF
    | succ n5 ih5 =>
      intro v1 v2 v3 v4 M ls hl hF
      replace hF : f_X9_worth_b5B (f_X9_worth_b5 o n5) o v1 v2 v3 v4 M = some q := hF
      unfold f_X9_worth_b5B at hF
      refine r_iload Z dX9_worth_5 (lv_at hl 4 rfl) ?_
      refine r_iload_n Z dX9_worth_7 rfl (lv_at hl 2 rfl) ?_
      refine r_icmp_ge Z 38 dX9_worth_8 (by decide) (fun hc11 => ?_) (fun hc11 => ?_)
      · replace hF := if_some hc11 hF
        refine r_iconst (v := 0) Z dX9_worth_38 (by decide) ?_
        refine r_istore Z [(4, .int 0), (0, .ref (ad o)), (1, .int v1), (2, .int v2), (3, .int v3)] dX9_worth_39 hl (by decide) rfl (fun ls hl => ?_)
        exact L41 _ v3 0 M ls (lv_sub hl [1, 4, 0] rfl) hF
      · replace hF := nif_some hc11 hF
        refine r_iload_n Z dX9_worth_11 rfl (lv_at hl 1 rfl) ?_
        refine r_iload Z dX9_worth_12 (lv_at hl 4 rfl) ?_
        refine r_ishr Z dX9_worth_14 ?_
        refine r_iconst (v := 1) Z dX9_worth_15 (by decide) ?_
        refine r_iand Z dX9_worth_16 ?_
        refine r_iconst (v := 1) Z dX9_worth_17 (by decide) ?_
        refine r_icmp_ne Z 32 dX9_worth_18 (by decide) (fun hc12 => ?_) (fun hc12 => ?_)
        · replace hF := nif_some hc12 hF
          obtain ⟨t13, et13, hF⟩ := nm_some hF
          refine r_iinc (j := 4) Z t13 [(4, .int t13), (0, .ref (ad o)), (1, .int v1), (2, .int v2), (3, .int v3)] dX9_worth_32 hl rfl (by rw [et13]; rfl) (by decide) rfl (fun ls hl => ?_)
          refine r_goto Z 5 dX9_worth_35 (by decide) ?_
          exact ih5 v1 v2 v3 t13 M ls (lv_sub hl [1, 2, 3, 4, 0] rfl) hF
        · replace hF := if_some hc12 hF
          refine r_aload_n Z dX9_worth_21 rfl (lv_at hl 0 rfl) ?_
          refine g_9_16 Z ho wm_622 dX9_worth_22 ?_
          refine r_iload_n Z dX9_worth_25 rfl (lv_at hl 3 rfl) ?_
          refine r_iload Z dX9_worth_26 (lv_at hl 4 rfl) ?_
          obtain ⟨hi14, hF⟩ := ck_some hF
          obtain ⟨M15, eM15, hF⟩ := nm_some hF
          refine r_iastore Z (shp_lt (sh_9_16 ho) (by decide)) (fun _ _ => ce_106 (sh_9_16 ho)) hi14 dX9_worth_28 ?_
          rw [← eM15]
          obtain ⟨t16, et16, hF⟩ := nm_some hF
          refine r_iinc (j := 3) Z t16 [(3, .int t16), (0, .ref (ad o)), (1, .int v1), (2, .int v2), (4, .int v4)] dX9_worth_29 hl rfl (by rw [et16]; rfl) (by decide) rfl (fun ls hl => ?_)
          obtain ⟨t17, et17, hF⟩ := nm_some hF
          refine r_iinc (j := 4) Z t17 [(4, .int t17), (3, .int t16), (0, .ref (ad o)), (1, .int v1), (2, .int v2)] dX9_worth_32 hl rfl (by rw [et17]; rfl) (by decide) rfl (fun ls hl => ?_)
          refine r_goto Z 5 dX9_worth_35 (by decide) ?_
          exact ih5 v1 v2 t16 t17 M15 ls (lv_sub hl [2, 3, 4, 1, 0] rfl) hF
  unfold f_X9_worth at hF
  refine r_iconst (v := 0) Z dX9_worth_0 (by decide) ?_
  refine r_istore_n Z [(3, .int 0), (0, .ref (ad o)), (1, .int x1), (2, .int x2)] dX9_worth_1 rfl hl (by decide) rfl (fun ls hl => ?_)
  refine r_iconst (v := 0) Z dX9_worth_2 (by decide) ?_
  refine r_istore Z [(4, .int 0), (3, .int 0), (0, .ref (ad o)), (1, .int x1), (2, .int x2)] dX9_worth_3 hl (by decide) rfl (fun ls hl => ?_)
  exact L5 _ x1 x2 0 0 M ls (lv_sub hl [2, 3, 4, 1, 0] rfl) hF
theorem dX9_divisor_0 : decode cX9_divisor 0 = .ok (.lload_n 0, 1) := by decide +kernel
theorem dX9_divisor_1 : decode cX9_divisor 1 = .ok (.lconst 0, 1) := by decide +kernel
theorem dX9_divisor_2 : decode cX9_divisor 2 = .ok (.lcmp, 1) := by decide +kernel
theorem dX9_divisor_3 : decode cX9_divisor 3 = .ok (.ifCond .ge 8, 3) := by decide +kernel
theorem dX9_divisor_6 : decode cX9_divisor 6 = .ok (.lload_n 0, 1) := by decide +kernel
theorem dX9_divisor_7 : decode cX9_divisor 7 = .ok (.lneg, 1) := by decide +kernel
theorem dX9_divisor_8 : decode cX9_divisor 8 = .ok (.goto 4, 3) := by decide +kernel
theorem dX9_divisor_11 : decode cX9_divisor 11 = .ok (.lload_n 0, 1) := by decide +kernel
theorem dX9_divisor_12 : decode cX9_divisor 12 = .ok (.lstore 4, 2) := by decide +kernel
theorem dX9_divisor_14 : decode cX9_divisor 14 = .ok (.lload_n 2, 1) := by decide +kernel
theorem dX9_divisor_15 : decode cX9_divisor 15 = .ok (.lconst 0, 1) := by decide +kernel
theorem dX9_divisor_16 : decode cX9_divisor 16 = .ok (.lcmp, 1) := by decide +kernel
theorem dX9_divisor_17 : decode cX9_divisor 17 = .ok (.ifCond .ge 8, 3) := by decide +kernel
theorem dX9_divisor_20 : decode cX9_divisor 20 = .ok (.lload_n 2, 1) := by decide +kernel
theorem dX9_divisor_21 : decode cX9_divisor 21 = .ok (.lneg, 1) := by decide +kernel
theorem dX9_divisor_22 : decode cX9_divisor 22 = .ok (.goto 4, 3) := by decide +kernel
theorem dX9_divisor_25 : decode cX9_divisor 25 = .ok (.lload_n 2, 1) := by decide +kernel
theorem dX9_divisor_26 : decode cX9_divisor 26 = .ok (.lstore 6, 2) := by decide +kernel
theorem dX9_divisor_28 : decode cX9_divisor 28 = .ok (.lload 6, 2) := by decide +kernel
theorem dX9_divisor_30 : decode cX9_divisor 30 = .ok (.lconst 0, 1) := by decide +kernel
theorem dX9_divisor_31 : decode cX9_divisor 31 = .ok (.lcmp, 1) := by decide +kernel
theorem dX9_divisor_32 : decode cX9_divisor 32 = .ok (.ifCond .eq 21, 3) := by decide +kernel
theorem dX9_divisor_35 : decode cX9_divisor 35 = .ok (.lload 4, 2) := by decide +kernel
theorem dX9_divisor_37 : decode cX9_divisor 37 = .ok (.lload 6, 2) := by decide +kernel
theorem dX9_divisor_39 : decode cX9_divisor 39 = .ok (.lrem, 1) := by decide +kernel
theorem dX9_divisor_40 : decode cX9_divisor 40 = .ok (.lstore 8, 2) := by decide +kernel
theorem dX9_divisor_42 : decode cX9_divisor 42 = .ok (.lload 6, 2) := by decide +kernel
theorem dX9_divisor_44 : decode cX9_divisor 44 = .ok (.lstore 4, 2) := by decide +kernel
theorem dX9_divisor_46 : decode cX9_divisor 46 = .ok (.lload 8, 2) := by decide +kernel
theorem dX9_divisor_48 : decode cX9_divisor 48 = .ok (.lstore 6, 2) := by decide +kernel
theorem dX9_divisor_50 : decode cX9_divisor 50 = .ok (.goto (-22), 3) := by decide +kernel
theorem dX9_divisor_53 : decode cX9_divisor 53 = .ok (.lload 4, 2) := by decide +kernel
theorem dX9_divisor_55 : decode cX9_divisor 55 = .ok (.lreturn, 1) := by decide +kernel
theorem cv_X9_divisor : wn_cS yX9_divisor cX9_divisor 10 (some .long) 2 := ⟨wm_632, wm_636, wm_637, by decide +kernel⟩
abbrev rm_X9_divisor : Room := rmz 0 0
set_option maxHeartbeats 4000000 in
set_option maxRecDepth 100000 in
theorem c_X9_divisor {ad : Nat → Nat} {x1 : Int64} {x2 : Int64} {M : Mm} {q : Int64 × Mm} (hF : f_X9_divisor x1 x2 M = some q) : KL ad yX9_divisor cX9_divisor 10 (some .long) rm_X9_divisor [.long x1, .long x2] M q.1 q.2 := by
  refine wn_enterL (own := RX9) (by decide) rfl (Nat.le_of_ble_eq_true rfl) (fun X ls Z hQ hl => ?_)
  have hl : lv_has ls 10 [(0, .long x1), (2, .long x2)] := hl
  have L28 : ∀ (n28 : Nat) (v4 : Int64) (v6 : Int64) (M : Mm) (ls : Array Slot), lv_has ls 10 [(4, .long v4), (6, .long v6)] → f_X9_divisor_b28 n28 v4 v6 M = some q → G ad X M 28 ls [] := by
    intro n28
    induction n28 with
    | zero =>
      intro v4 v6 M ls hl hF
      cases hF
    | succ n28 ih28 =>
      intro v4 v6 M ls hl hF
      replace hF : f_X9_divisor_b28B (f_X9_divisor_b28 n28) v4 v6 M = some q := hF
      unfold f_X9_divisor_b28B at hF
      refine r_lload Z dX9_divisor_28 (lv_at hl 1 rfl) ?_
      refine r_lconst (v := 0) Z dX9_divisor_30 (by decide) ?_
      refine r_lcmp Z dX9_divisor_31 ?_
      refine r_if_eq Z 53 dX9_divisor_32 (by decide) (fun hc1 => ?_) (fun hc1 => ?_)
      · replace hF := if_some hc1 hF
        refine r_lload Z dX9_divisor_53 (lv_at hl 0 rfl) ?_
        exact r_lret Z hQ hF dX9_divisor_55
      · replace hF := nif_some hc1 hF
        refine r_lload Z dX9_divisor_35 (lv_at hl 0 rfl) ?_
        refine r_lload Z dX9_divisor_37 (lv_at hl 1 rfl) ?_
        obtain ⟨hd2, hF⟩ := dvJ_some hF
        refine r_lrem Z dX9_divisor_39 hd2 ?_
        obtain ⟨t3, et3, hF⟩ := nm_some hF
        rw [← et3]
        refine r_lstore Z [(8, .long t3), (4, .long v4), (6, .long v6)] dX9_divisor_40 hl (by decide) rfl (fun ls hl => ?_)
        refine r_lload Z dX9_divisor_42 (lv_at hl 2 rfl) ?_
        refine r_lstore Z [(4, .long v6), (8, .long t3), (6, .long v6)] dX9_divisor_44 hl (by decide) rfl (fun ls hl => ?_)
        refine r_lload Z dX9_divisor_46 (lv_at hl 1 rfl) ?_
        refine r_lstore Z [(6, .long t3), (4, .long v6), (8, .long t3)] dX9_divisor_48 hl (by decide) rfl (fun ls hl => ?_)
        refine r_goto Z 28 dX9_divisor_50 (by decide) ?_
        exact ih28 v6 t3 M ls (lv_sub hl [1, 0] rfl) hF
  have L26 : ∀ (v4 : Int64) (s0 : Int64) (M : Mm) (ls : Array Slot), lv_has ls 10 [(4, .long v4)] → f_X9_divisor_b26 v4 s0 M = some q → G ad X M 26 ls [.long s0] := by
    intro v4 s0 M ls hl hF
    unfold f_X9_divisor_b26 at hF
    refine r_lstore Z [(6, .long s0), (4, .long v4)] dX9_divisor_26 hl (by decide) rfl (fun ls hl => ?_)
    exact L28 _ v4 s0 M ls (lv_sub hl [1, 0] rfl) hF
  have L12 : ∀ (v2 : Int64) (s0 : Int64) (M : Mm) (ls : Array Slot), lv_has ls 10 [(2, .long v2)] → f_X9_divisor_b12 v2 s0 M = some q → G ad X M 12 ls [.long s0] := by
    intro v2 s0 M ls hl hF
    unfold f_X9_divisor_b12 at hF
    refine r_lstore Z [(4, .long s0), (2, .long v2)] dX9_divisor_12 hl (by decide) rfl (fun ls hl => ?_)
    refine r_lload_n Z dX9_divisor_14 rfl (lv_at hl 1 rfl) ?_
    refine r_lconst (v := 0) Z dX9_divisor_15 (by decide) ?_
    refine r_lcmp Z dX9_divisor_16 ?_
    refine r_if_ge Z 25 dX9_divisor_17 (by decide) (fun hc4 => ?_) (fun hc4 => ?_)
    · replace hF := if_some hc4 hF
      refine r_lload_n Z dX9_divisor_25 rfl (lv_at hl 1 rfl) ?_
      exact L26 s0 v2 M ls (lv_sub hl [0] rfl) hF
    · replace hF := nif_some hc4 hF
      refine r_lload_n Z dX9_divisor_20 rfl (lv_at hl 1 rfl) ?_
      refine r_lneg Z dX9_divisor_21 ?_
      refine r_goto Z 26 dX9_divisor_22 (by decide) ?_
      exact L26 s0 (-v2) M ls (lv_sub hl [0] rfl) hF
  unfold f_X9_divisor at hF
  refine r_lload_n Z dX9_divisor_0 rfl (lv_at hl 0 rfl) ?_
  refine r_lconst (v := 0) Z dX9_divisor_1 (by decide) ?_
  refine r_lcmp Z dX9_divisor_2 ?_
  refine r_if_ge Z 11 dX9_divisor_3 (by decide) (fun hc5 => ?_) (fun hc5 => ?_)
  · replace hF := if_some hc5 hF
    refine r_lload_n Z dX9_divisor_11 rfl (lv_at hl 0 rfl) ?_
    exact L12 x2 x1 M ls (lv_sub hl [1] rfl) hF
  · replace hF := nif_some hc5 hF
    refine r_lload_n Z dX9_divisor_6 rfl (lv_at hl 0 rfl) ?_
    refine r_lneg Z dX9_divisor_7 ?_
    refine r_goto Z 12 dX9_divisor_8 (by decide) ?_
    exact L12 x2 (-x1) M ls (lv_sub hl [1] rfl) hF
theorem dX9_setVisits_0 : decode cX9_setVisits 0 = .ok (.iconst 0, 1) := by decide +kernel
theorem dX9_setVisits_1 : decode cX9_setVisits 1 = .ok (.istore_n 1, 1) := by decide +kernel
theorem dX9_setVisits_2 : decode cX9_setVisits 2 = .ok (.iconst 0, 1) := by decide +kernel
theorem dX9_setVisits_3 : decode cX9_setVisits 3 = .ok (.istore_n 2, 1) := by decide +kernel
theorem dX9_setVisits_4 : decode cX9_setVisits 4 = .ok (.iload_n 2, 1) := by decide +kernel
theorem dX9_setVisits_5 : decode cX9_setVisits 5 = .ok (.iconst 4, 1) := by decide +kernel
theorem dX9_setVisits_6 : decode cX9_setVisits 6 = .ok (.if_icmp .ge 74, 3) := by decide +kernel
theorem dX9_setVisits_9 : decode cX9_setVisits 9 = .ok (.iload_n 1, 1) := by decide +kernel
theorem dX9_setVisits_10 : decode cX9_setVisits 10 = .ok (.aload_n 0, 1) := by decide +kernel
theorem dX9_setVisits_11 : decode cX9_setVisits 11 = .ok (.getfield 26, 3) := by decide +kernel
theorem dX9_setVisits_14 : decode cX9_setVisits 14 = .ok (.iload_n 2, 1) := by decide +kernel
theorem dX9_setVisits_15 : decode cX9_setVisits 15 = .ok (.baload, 1) := by decide +kernel
theorem dX9_setVisits_16 : decode cX9_setVisits 16 = .ok (.ifCond .eq 9, 3) := by decide +kernel
theorem dX9_setVisits_19 : decode cX9_setVisits 19 = .ok (.iconst 1, 1) := by decide +kernel
theorem dX9_setVisits_20 : decode cX9_setVisits 20 = .ok (.iload_n 2, 1) := by decide +kernel
theorem dX9_setVisits_21 : decode cX9_setVisits 21 = .ok (.ishl, 1) := by decide +kernel
theorem dX9_setVisits_22 : decode cX9_setVisits 22 = .ok (.goto 4, 3) := by decide +kernel
theorem dX9_setVisits_25 : decode cX9_setVisits 25 = .ok (.iconst 0, 1) := by decide +kernel
theorem dX9_setVisits_26 : decode cX9_setVisits 26 = .ok (.ior, 1) := by decide +kernel
theorem dX9_setVisits_27 : decode cX9_setVisits 27 = .ok (.istore_n 1, 1) := by decide +kernel
theorem dX9_setVisits_28 : decode cX9_setVisits 28 = .ok (.iconst 0, 1) := by decide +kernel
theorem dX9_setVisits_29 : decode cX9_setVisits 29 = .ok (.istore_n 3, 1) := by decide +kernel
theorem dX9_setVisits_30 : decode cX9_setVisits 30 = .ok (.iload_n 3, 1) := by decide +kernel
theorem dX9_setVisits_31 : decode cX9_setVisits 31 = .ok (.iconst 4, 1) := by decide +kernel
theorem dX9_setVisits_32 : decode cX9_setVisits 32 = .ok (.if_icmp .ge 42, 3) := by decide +kernel
theorem dX9_setVisits_35 : decode cX9_setVisits 35 = .ok (.aload_n 0, 1) := by decide +kernel
theorem dX9_setVisits_36 : decode cX9_setVisits 36 = .ok (.getfield 48, 3) := by decide +kernel
theorem dX9_setVisits_39 : decode cX9_setVisits 39 = .ok (.bipush 6, 2) := by decide +kernel
theorem dX9_setVisits_41 : decode cX9_setVisits 41 = .ok (.iload_n 2, 1) := by decide +kernel
theorem dX9_setVisits_42 : decode cX9_setVisits 42 = .ok (.imul, 1) := by decide +kernel
theorem dX9_setVisits_43 : decode cX9_setVisits 43 = .ok (.iload_n 3, 1) := by decide +kernel
theorem dX9_setVisits_44 : decode cX9_setVisits 44 = .ok (.iadd, 1) := by decide +kernel
theorem dX9_setVisits_45 : decode cX9_setVisits 45 = .ok (.iload_n 2, 1) := by decide +kernel
theorem dX9_setVisits_46 : decode cX9_setVisits 46 = .ok (.iload_n 3, 1) := by decide +kernel
theorem dX9_setVisits_47 : decode cX9_setVisits 47 = .ok (.if_icmp .ne 7, 3) := by decide +kernel
theorem dX9_setVisits_50 : decode cX9_setVisits 50 = .ok (.iconst 4, 1) := by decide +kernel
theorem dX9_setVisits_51 : decode cX9_setVisits 51 = .ok (.goto 4, 3) := by decide +kernel
theorem dX9_setVisits_54 : decode cX9_setVisits 54 = .ok (.iconst 0, 1) := by decide +kernel
theorem dX9_setVisits_55 : decode cX9_setVisits 55 = .ok (.aload_n 0, 1) := by decide +kernel
theorem dX9_setVisits_56 : decode cX9_setVisits 56 = .ok (.getfield 45, 3) := by decide +kernel
theorem dX9_setVisits_59 : decode cX9_setVisits 59 = .ok (.iconst 4, 1) := by decide +kernel
theorem dX9_setVisits_60 : decode cX9_setVisits 60 = .ok (.iload_n 2, 1) := by decide +kernel
theorem dX9_setVisits_61 : decode cX9_setVisits 61 = .ok (.imul, 1) := by decide +kernel
theorem dX9_setVisits_62 : decode cX9_setVisits 62 = .ok (.iload_n 3, 1) := by decide +kernel
theorem dX9_setVisits_63 : decode cX9_setVisits 63 = .ok (.iadd, 1) := by decide +kernel
theorem dX9_setVisits_64 : decode cX9_setVisits 64 = .ok (.iaload, 1) := by decide +kernel
theorem dX9_setVisits_65 : decode cX9_setVisits 65 = .ok (.isub, 1) := by decide +kernel
theorem dX9_setVisits_66 : decode cX9_setVisits 66 = .ok (.i2l, 1) := by decide +kernel
theorem dX9_setVisits_67 : decode cX9_setVisits 67 = .ok (.lastore, 1) := by decide +kernel
theorem dX9_setVisits_68 : decode cX9_setVisits 68 = .ok (.iinc 3 1, 3) := by decide +kernel
theorem dX9_setVisits_71 : decode cX9_setVisits 71 = .ok (.goto (-41), 3) := by decide +kernel
theorem dX9_setVisits_74 : decode cX9_setVisits 74 = .ok (.iinc 2 1, 3) := by decide +kernel
theorem dX9_setVisits_77 : decode cX9_setVisits 77 = .ok (.goto (-73), 3) := by decide +kernel
theorem dX9_setVisits_80 : decode cX9_setVisits 80 = .ok (.lconst 0, 1) := by decide +kernel
theorem dX9_setVisits_81 : decode cX9_setVisits 81 = .ok (.lstore_n 2, 1) := by decide +kernel
theorem dX9_setVisits_82 : decode cX9_setVisits 82 = .ok (.iconst 0, 1) := by decide +kernel
theorem dX9_setVisits_83 : decode cX9_setVisits 83 = .ok (.istore 4, 2) := by decide +kernel
theorem dX9_setVisits_85 : decode cX9_setVisits 85 = .ok (.iload 4, 2) := by decide +kernel
theorem dX9_setVisits_87 : decode cX9_setVisits 87 = .ok (.iconst 4, 1) := by decide +kernel
theorem dX9_setVisits_88 : decode cX9_setVisits 88 = .ok (.if_icmp .ge 55, 3) := by decide +kernel
theorem dX9_setVisits_91 : decode cX9_setVisits 91 = .ok (.aload_n 0, 1) := by decide +kernel
theorem dX9_setVisits_92 : decode cX9_setVisits 92 = .ok (.getfield 58, 3) := by decide +kernel
theorem dX9_setVisits_95 : decode cX9_setVisits 95 = .ok (.iload 4, 2) := by decide +kernel
theorem dX9_setVisits_97 : decode cX9_setVisits 97 = .ok (.aload_n 0, 1) := by decide +kernel
theorem dX9_setVisits_98 : decode cX9_setVisits 98 = .ok (.getfield 26, 3) := by decide +kernel
theorem dX9_setVisits_101 : decode cX9_setVisits 101 = .ok (.iload 4, 2) := by decide +kernel
theorem dX9_setVisits_103 : decode cX9_setVisits 103 = .ok (.baload, 1) := by decide +kernel
theorem dX9_setVisits_104 : decode cX9_setVisits 104 = .ok (.ifCond .eq 19, 3) := by decide +kernel
theorem dX9_setVisits_107 : decode cX9_setVisits 107 = .ok (.aload_n 0, 1) := by decide +kernel
theorem dX9_setVisits_108 : decode cX9_setVisits 108 = .ok (.iload_n 1, 1) := by decide +kernel
theorem dX9_setVisits_109 : decode cX9_setVisits 109 = .ok (.iconst 1, 1) := by decide +kernel
theorem dX9_setVisits_110 : decode cX9_setVisits 110 = .ok (.iload 4, 2) := by decide +kernel
theorem dX9_setVisits_112 : decode cX9_setVisits 112 = .ok (.ishl, 1) := by decide +kernel
theorem dX9_setVisits_113 : decode cX9_setVisits 113 = .ok (.iconst (-1), 1) := by decide +kernel
theorem dX9_setVisits_114 : decode cX9_setVisits 114 = .ok (.ixor, 1) := by decide +kernel
theorem dX9_setVisits_115 : decode cX9_setVisits 115 = .ok (.iand, 1) := by decide +kernel
theorem dX9_setVisits_116 : decode cX9_setVisits 116 = .ok (.iconst 4, 1) := by decide +kernel
theorem dX9_setVisits_117 : decode cX9_setVisits 117 = .ok (.invokevirtual 137, 3) := by decide +kernel
theorem dX9_setVisits_120 : decode cX9_setVisits 120 = .ok (.goto 4, 3) := by decide +kernel
theorem dX9_setVisits_123 : decode cX9_setVisits 123 = .ok (.lconst 0, 1) := by decide +kernel
theorem dX9_setVisits_124 : decode cX9_setVisits 124 = .ok (.lastore, 1) := by decide +kernel
theorem dX9_setVisits_125 : decode cX9_setVisits 125 = .ok (.lload_n 2, 1) := by decide +kernel
theorem dX9_setVisits_126 : decode cX9_setVisits 126 = .ok (.aload_n 0, 1) := by decide +kernel
theorem dX9_setVisits_127 : decode cX9_setVisits 127 = .ok (.getfield 58, 3) := by decide +kernel
theorem dX9_setVisits_130 : decode cX9_setVisits 130 = .ok (.iload 4, 2) := by decide +kernel
theorem dX9_setVisits_132 : decode cX9_setVisits 132 = .ok (.laload, 1) := by decide +kernel
theorem dX9_setVisits_133 : decode cX9_setVisits 133 = .ok (.invokestatic 74, 3) := by decide +kernel
theorem dX9_setVisits_136 : decode cX9_setVisits 136 = .ok (.lstore_n 2, 1) := by decide +kernel
theorem dX9_setVisits_137 : decode cX9_setVisits 137 = .ok (.iinc 4 1, 3) := by decide +kernel
theorem dX9_setVisits_140 : decode cX9_setVisits 140 = .ok (.goto (-55), 3) := by decide +kernel
theorem dX9_setVisits_143 : decode cX9_setVisits 143 = .ok (.iconst 0, 1) := by decide +kernel
theorem dX9_setVisits_144 : decode cX9_setVisits 144 = .ok (.istore 4, 2) := by decide +kernel
theorem dX9_setVisits_146 : decode cX9_setVisits 146 = .ok (.iload 4, 2) := by decide +kernel
theorem dX9_setVisits_148 : decode cX9_setVisits 148 = .ok (.iconst 4, 1) := by decide +kernel
theorem dX9_setVisits_149 : decode cX9_setVisits 149 = .ok (.if_icmp .ge 20, 3) := by decide +kernel
theorem dX9_setVisits_152 : decode cX9_setVisits 152 = .ok (.aload_n 0, 1) := by decide +kernel
theorem dX9_setVisits_153 : decode cX9_setVisits 153 = .ok (.getfield 58, 3) := by decide +kernel
theorem dX9_setVisits_156 : decode cX9_setVisits 156 = .ok (.iload 4, 2) := by decide +kernel
theorem dX9_setVisits_158 : decode cX9_setVisits 158 = .ok (.dup2, 1) := by decide +kernel
theorem dX9_setVisits_159 : decode cX9_setVisits 159 = .ok (.laload, 1) := by decide +kernel
theorem dX9_setVisits_160 : decode cX9_setVisits 160 = .ok (.lload_n 2, 1) := by decide +kernel
theorem dX9_setVisits_161 : decode cX9_setVisits 161 = .ok (.ldiv, 1) := by decide +kernel
theorem dX9_setVisits_162 : decode cX9_setVisits 162 = .ok (.lastore, 1) := by decide +kernel
theorem dX9_setVisits_163 : decode cX9_setVisits 163 = .ok (.iinc 4 1, 3) := by decide +kernel
theorem dX9_setVisits_166 : decode cX9_setVisits 166 = .ok (.goto (-20), 3) := by decide +kernel
theorem dX9_setVisits_169 : decode cX9_setVisits 169 = .ok (.return_, 1) := by decide +kernel
theorem cv_X9_setVisits : wn_cV yX9_setVisits cX9_setVisits 5 none RX9 0 := ⟨wm_743, wm_745, wm_746, wm_637, by decide +kernel⟩
abbrev rm_X9_setVisits : Room := rmz 2 54
set_option maxHeartbeats 4000000 in
set_option maxRecDepth 100000 in
theorem c_X9_setVisits {ad : Nat → Nat} {o : Nat} {M : Mm} {q : Mm} (ho : shp o = 9) (hF : f_X9_setVisits o M = some q) : KV ad yX9_setVisits cX9_setVisits 5 none rm_X9_setVisits [.ref (ad o)] M q := by
  refine wn_enterV (own := RX9) (by decide) rfl (Nat.le_of_ble_eq_true rfl) (fun X ls Z hQ hl => ?_)
  have hl : lv_has ls 5 [(0, .ref (ad o))] := hl
  have L146 : ∀ (n146 : Nat) (v2 : Int64) (v4 : Int32) (M : Mm) (ls : Array Slot), lv_has ls 5 [(0, .ref (ad o)), (2, .long v2), (4, .int v4)] → f_X9_setVisits_b146 o n146 v2 v4 M = some q → G ad X M 146 ls [] := by
    intro n146
    induction n146 with
    | zero =>
      intro v2 v4 M ls hl hF
      cases hF
    | succ n146 ih146 =>
      intro v2 v4 M ls hl hF
      replace hF : f_X9_setVisits_b146B (f_X9_setVisits_b146 o n146) o v2 v4 M = some q := hF
      unfold f_X9_setVisits_b146B at hF
      refine r_iload Z dX9_setVisits_146 (lv_at hl 2 rfl) ?_
      refine r_iconst (v := 4) Z dX9_setVisits_148 (by decide) ?_
      refine r_icmp_ge Z 169 dX9_setVisits_149 (by decide) (fun hc14 => ?_) (fun hc14 => ?_)
      · replace hF := if_some hc14 hF
        exact r_vret Z hQ hF dX9_setVisits_169
      · replace hF := nif_some hc14 hF
        refine r_aload_n Z dX9_setVisits_152 rfl (lv_at hl 0 rfl) ?_
        refine g_9_20 Z ho wm_624 dX9_setVisits_153 ?_
        refine r_iload Z dX9_setVisits_156 (lv_at hl 2 rfl) ?_
        refine r_dup2 Z dX9_setVisits_158 rfl rfl ?_
        obtain ⟨hi15, hF⟩ := ck_some hF
        refine r_laload Z (shp_lt (sh_9_20 ho) (by decide)) (fun _ _ => ce_1004 (sh_9_20 ho)) hi15 dX9_setVisits_159 ?_
        refine r_lload_n Z dX9_setVisits_160 rfl (lv_at hl 1 rfl) ?_
        obtain ⟨hd16, hF⟩ := dvJ_some hF
        refine r_ldiv Z dX9_setVisits_161 hd16 ?_
        obtain ⟨hi17, hF⟩ := ck_some hF
        obtain ⟨M18, eM18, hF⟩ := nm_some hF
        refine r_lastore Z (shp_lt (sh_9_20 ho) (by decide)) (fun _ _ => ce_1004 (sh_9_20 ho)) hi17 dX9_setVisits_162 ?_
        rw [← eM18]
        obtain ⟨t19, et19, hF⟩ := nm_some hF
        refine r_iinc (j := 2) Z t19 [(4, .int t19), (0, .ref (ad o)), (2, .long v2)] dX9_setVisits_163 hl rfl (by rw [et19]; rfl) (by decide) rfl (fun ls hl => ?_)
        refine r_goto Z 146 dX9_setVisits_166 (by decide) ?_
        exact ih146 v2 t19 M18 ls (lv_sub hl [1, 2, 0] rfl) hF
  have L85 : ∀ (n85 : Nat) (v1 : Int32) (v2 : Int64) (v4 : Int32) (M : Mm) (ls : Array Slot), lv_has ls 5 [(0, .ref (ad o)), (1, .int v1), (2, .long v2), (4, .int v4)] → f_X9_setVisits_b85 o n85 v1 v2 v4 M = some q → G ad X M 85 ls [] := by
    intro n85
    induction n85 with
    | zero =>
      intro v1 v2 v4 M ls hl hF
      cases hF
    | succ n85 ih85 =>
      have L124 : ∀ (v1 : Int32) (v2 : Int64) (v4 : Int32) (s0 : Nat) (s1 : Int32) (s2 : Int64) (M : Mm) (ls : Array Slot), shp s0 = 1004 → lv_has ls 5 [(0, .ref (ad o)), (1, .int v1), (2, .long v2), (4, .int v4)] → f_X9_setVisits_b124 (f_X9_setVisits_b85 o n85) o v1 v2 v4 s0 s1 s2 M = some q → G ad X M 124 ls [.long s2, .int s1, .ref (ad s0)] := by
        intro v1 v2 v4 s0 s1 s2 M ls hs0 hl hF
        unfold f_X9_setVisits_b124 at hF
        obtain ⟨hi9, hF⟩ := ck_some hF
        obtain ⟨M10, eM10, hF⟩ := nm_some hF
        refine r_lastore Z (shp_lt hs0 (by decide)) (fun _ _ => ce_1004 hs0) hi9 dX9_setVisits_124 ?_
        rw [← eM10]
        refine r_lload_n Z dX9_setVisits_125 rfl (lv_at hl 2 rfl) ?_
        refine r_aload_n Z dX9_setVisits_126 rfl (lv_at hl 0 rfl) ?_
        refine g_9_20 Z ho wm_624 dX9_setVisits_127 ?_
        refine r_iload Z dX9_setVisits_130 (lv_at hl 3 rfl) ?_
        obtain ⟨hi11, hF⟩ := ck_some hF
        refine r_laload Z (shp_lt (sh_9_20 ho) (by decide)) (fun _ _ => ce_1004 (sh_9_20 ho)) hi11 dX9_setVisits_132 ?_
        obtain ⟨q12, hq12, hF⟩ := bd_some hF
        refine r_invSl [] Z (c_X9_divisor hq12) cv_X9_divisor wm_635 rfl rfl ⟨Nat.le_of_ble_eq_true rfl, Nat.le_of_ble_eq_true rfl⟩ rfl hl.1 rfl (Nat.le_of_ble_eq_true rfl) dX9_setVisits_133 ?_
        refine r_lstore_n Z [(2, .long q12.1), (0, .ref (ad o)), (1, .int v1), (4, .int v4)] dX9_setVisits_136 rfl hl (by decide) rfl (fun ls hl => ?_)
        obtain ⟨t13, et13, hF⟩ := nm_some hF
        refine r_iinc (j := 3) Z t13 [(4, .int t13), (2, .long q12.1), (0, .ref (ad o)), (1, .int v1)] dX9_setVisits_137 hl rfl (by rw [et13]; rfl) (by decide) rfl (fun ls hl => ?_)
        refine r_goto Z 85 dX9_setVisits_140 (by decide) ?_
        exact ih85 v1 q12.1 t13 q12.2 ls (lv_sub hl [2, 3, 1, 0] rfl) hF
      intro v1 v2 v4 M ls hl hF
      replace hF : f_X9_setVisits_b85B (f_X9_setVisits_b85 o n85) o v1 v2 v4 M = some q := hF
      unfold f_X9_setVisits_b85B at hF
      refine r_iload Z dX9_setVisits_85 (lv_at hl 3 rfl) ?_
      refine r_iconst (v := 4) Z dX9_setVisits_87 (by decide) ?_
      refine r_icmp_ge Z 143 dX9_setVisits_88 (by decide) (fun hc20 => ?_) (fun hc20 => ?_)
      · replace hF := if_some hc20 hF
        refine r_iconst (v := 0) Z dX9_setVisits_143 (by decide) ?_
        refine r_istore Z [(4, .int 0), (0, .ref (ad o)), (1, .int v1), (2, .long v2)] dX9_setVisits_144 hl (by decide) rfl (fun ls hl => ?_)
        exact L146 _ v2 0 M ls (lv_sub hl [1, 3, 0] rfl) hF
      · replace hF := nif_some hc20 hF
        refine r_aload_n Z dX9_setVisits_91 rfl (lv_at hl 0 rfl) ?_
        refine g_9_20 Z ho wm_624 dX9_setVisits_92 ?_
        refine r_iload Z dX9_setVisits_95 (lv_at hl 3 rfl) ?_
        refine r_aload_n Z dX9_setVisits_97 rfl (lv_at hl 0 rfl) ?_
        refine g_9_8 Z ho wm_614 dX9_setVisits_98 ?_
        refine r_iload Z dX9_setVisits_101 (lv_at hl 3 rfl) ?_
        obtain ⟨hi21, hF⟩ := ck_some hF
        refine r_zaload Z (shp_lt (sh_9_8 ho) (by decide)) (fun _ _ => ce_2004 (sh_9_8 ho)) hi21 dX9_setVisits_103 ?_
        refine r_if_eq Z 123 dX9_setVisits_104 (by decide) (fun hc22 => ?_) (fun hc22 => ?_)
        · replace hF := if_some hc22 hF
          refine r_lconst (v := 0) Z dX9_setVisits_123 (by decide) ?_
          exact L124 v1 v2 v4 (fld o 20) v4 0 M ls (sh_9_20 ho) (lv_sub hl [0, 1, 2, 3] rfl) hF
        · replace hF := nif_some hc22 hF
          refine r_aload_n Z dX9_setVisits_107 rfl (lv_at hl 0 rfl) ?_
          refine r_iload_n Z dX9_setVisits_108 rfl (lv_at hl 1 rfl) ?_
          refine r_iconst (v := 1) Z dX9_setVisits_109 (by decide) ?_
          refine r_iload Z dX9_setVisits_110 (lv_at hl 3 rfl) ?_
          refine r_ishl Z dX9_setVisits_112 ?_
          refine r_iconst (v := (-1)) Z dX9_setVisits_113 (by decide) ?_
          refine r_ixor Z dX9_setVisits_114 ?_
          refine r_iand Z dX9_setVisits_115 ?_
          refine r_iconst (v := 4) Z dX9_setVisits_116 (by decide) ?_
          obtain ⟨q23, hq23, hF⟩ := bd_some hF
          refine r_invVl [.int v4, .ref (ad (fld o 20))] Z (c_X9_worth ho hq23) cv_X9_worth rfl (shp_lt ho (by decide)) (fun _ _ => ⟨_, ce_9 ho⟩) wm_708 rfl rfl ⟨Nat.le_of_ble_eq_true rfl, Nat.le_of_ble_eq_true rfl⟩ rfl hl.1 rfl (Nat.le_of_ble_eq_true rfl) dX9_setVisits_117 ?_
          refine r_goto Z 124 dX9_setVisits_120 (by decide) ?_
          exact L124 v1 v2 v4 (fld o 20) v4 q23.1 q23.2 ls (sh_9_20 ho) (lv_sub hl [0, 1, 2, 3] rfl) hF
  have L4 : ∀ (n4 : Nat) (v1 : Int32) (v2 : Int32) (M : Mm) (ls : Array Slot), lv_has ls 5 [(0, .ref (ad o)), (1, .int v1), (2, .int v2)] → f_X9_setVisits_b4 o n4 v1 v2 M = some q → G ad X M 4 ls [] := by
    intro n4
    induction n4 with
    | zero =>
      intro v1 v2 M ls hl hF
      cases hF
    | succ n4 ih4 =>
      have L30 : ∀ (n30 : Nat) (v1 : Int32) (v2 : Int32) (v3 : Int32) (M : Mm) (ls : Array Slot), lv_has ls 5 [(0, .ref (ad o)), (1, .int v1), (2, .int v2), (3, .int v3)] → f_X9_setVisits_b30 (f_X9_setVisits_b4 o n4) o n30 v1 v2 v3 M = some q → G ad X M 30 ls [] := by
        intro n30
        induction n30 with
        | zero =>
          intro v1 v2 v3 M ls hl hF
          cases hF
        | succ n30 ih30 =>
          have L55 : ∀ (v1 : Int32) (v2 : Int32) (v3 : Int32) (s0 : Nat) (s1 : Int32) (s2 : Int32) (M : Mm) (ls : Array Slot), shp s0 = 1036 → lv_has ls 5 [(0, .ref (ad o)), (1, .int v1), (2, .int v2), (3, .int v3)] → f_X9_setVisits_b55 (f_X9_setVisits_b4 o n4) (f_X9_setVisits_b30 (f_X9_setVisits_b4 o n4) o n30) o v1 v2 v3 s0 s1 s2 M = some q → G ad X M 55 ls [.int s2, .int s1, .ref (ad s0)] := by
            intro v1 v2 v3 s0 s1 s2 M ls hs0 hl hF
            unfold f_X9_setVisits_b55 at hF
            refine r_aload_n Z dX9_setVisits_55 rfl (lv_at hl 0 rfl) ?_
            refine g_9_14 Z ho wm_620 dX9_setVisits_56 ?_
            refine r_iconst (v := 4) Z dX9_setVisits_59 (by decide) ?_
            refine r_iload_n Z dX9_setVisits_60 rfl (lv_at hl 2 rfl) ?_
            refine r_imul Z dX9_setVisits_61 ?_
            refine r_iload_n Z dX9_setVisits_62 rfl (lv_at hl 3 rfl) ?_
            refine r_iadd Z dX9_setVisits_63 ?_
            obtain ⟨hi1, hF⟩ := ck_some hF
            refine r_iaload Z (shp_lt (sh_9_14 ho) (by decide)) (fun _ _ => ce_116 (sh_9_14 ho)) hi1 dX9_setVisits_64 ?_
            refine r_isub Z dX9_setVisits_65 ?_
            refine r_i2l Z dX9_setVisits_66 ?_
            obtain ⟨hi2, hF⟩ := ck_some hF
            obtain ⟨M3, eM3, hF⟩ := nm_some hF
            refine r_lastore Z (shp_lt hs0 (by decide)) (fun _ _ => ce_1036 hs0) hi2 dX9_setVisits_67 ?_
            rw [← eM3]
            obtain ⟨t4, et4, hF⟩ := nm_some hF
            refine r_iinc (j := 3) Z t4 [(3, .int t4), (0, .ref (ad o)), (1, .int v1), (2, .int v2)] dX9_setVisits_68 hl rfl (by rw [et4]; rfl) (by decide) rfl (fun ls hl => ?_)
            refine r_goto Z 30 dX9_setVisits_71 (by decide) ?_
            exact ih30 v1 v2 t4 M3 ls (lv_sub hl [1, 2, 3, 0] rfl) hF
          intro v1 v2 v3 M ls hl hF
          replace hF : f_X9_setVisits_b30B (f_X9_setVisits_b4 o n4) (f_X9_setVisits_b30 (f_X9_setVisits_b4 o n4) o n30) o v1 v2 v3 M = some q := hF
          unfold f_X9_setVisits_b30B at hF
          refine r_iload_n Z dX9_setVisits_30 rfl (lv_at hl 3 rfl) ?_
          refine r_iconst (v := 4) Z dX9_setVisits_31 (by decide) ?_
          refine r_icmp_ge Z 74 dX9_setVisits_32 (by decide) (fun hc5 => ?_) (fun hc5 => ?_)
          · replace hF := if_some hc5 hF
            obtain ⟨t6, et6, hF⟩ := nm_some hF
            refine r_iinc (j := 2) Z t6 [(2, .int t6), (0, .ref (ad o)), (1, .int v1), (3, .int v3)] dX9_setVisits_74 hl rfl (by rw [et6]; rfl) (by decide) rfl (fun ls hl => ?_)
            refine r_goto Z 4 dX9_setVisits_77 (by decide) ?_
            exact ih4 v1 t6 M ls (lv_sub hl [1, 2, 0] rfl) hF
          · replace hF := nif_some hc5 hF
            refine r_aload_n Z dX9_setVisits_35 rfl (lv_at hl 0 rfl) ?_
            refine g_9_15 Z ho wm_621 dX9_setVisits_36 ?_
            refine r_bipush (v := 6) Z dX9_setVisits_39 (by decide) ?_
            refine r_iload_n Z dX9_setVisits_41 rfl (lv_at hl 2 rfl) ?_
            refine r_imul Z dX9_setVisits_42 ?_
            refine r_iload_n Z dX9_setVisits_43 rfl (lv_at hl 3 rfl) ?_
            refine r_iadd Z dX9_setVisits_44 ?_
            refine r_iload_n Z dX9_setVisits_45 rfl (lv_at hl 2 rfl) ?_
            refine r_iload_n Z dX9_setVisits_46 rfl (lv_at hl 3 rfl) ?_
            refine r_icmp_ne Z 54 dX9_setVisits_47 (by decide) (fun hc7 => ?_) (fun hc7 => ?_)
            · replace hF := nif_some hc7 hF
              refine r_iconst (v := 0) Z dX9_setVisits_54 (by decide) ?_
              exact L55 v1 v2 v3 (fld o 15) ((6 * v2) + v3) 0 M ls (sh_9_15 ho) (lv_sub hl [0, 1, 2, 3] rfl) hF
            · replace hF := if_some hc7 hF
              refine r_iconst (v := 4) Z dX9_setVisits_50 (by decide) ?_
              refine r_goto Z 55 dX9_setVisits_51 (by decide) ?_
              exact L55 v1 v2 v3 (fld o 15) ((6 * v2) + v3) 4 M ls (sh_9_15 ho) (lv_sub hl [0, 1, 2, 3] rfl) hF
      have L26 : ∀ (v2 : Int32) (s0 : Int32) (s1 : Int32) (M : Mm) (ls : Array Slot), lv_has ls 5 [(0, .ref (ad o)), (2, .int v2)] → f_X9_setVisits_b26 (f_X9_setVisits_b4 o n4) o v2 s0 s1 M = some q → G ad X M 26 ls [.int s1, .int s0] := by
        intro v2 s0 s1 M ls hl hF
        unfold f_X9_setVisits_b26 at hF
        refine r_ior Z dX9_setVisits_26 ?_
        obtain ⟨t8, et8, hF⟩ := nm_some hF
        rw [← et8]
        refine r_istore_n Z [(1, .int t8), (0, .ref (ad o)), (2, .int v2)] dX9_setVisits_27 rfl hl (by decide) rfl (fun ls hl => ?_)
        refine r_iconst (v := 0) Z dX9_setVisits_28 (by decide) ?_
        refine r_istore_n Z [(3, .int 0), (1, .int t8), (0, .ref (ad o)), (2, .int v2)] dX9_setVisits_29 rfl hl (by decide) rfl (fun ls hl => ?_)
        exact L30 _ t8 v2 0 M ls (lv_sub hl [2, 1, 3, 0] rfl) hF
      intro v1 v2 M ls hl hF
      replace hF : f_X9_setVisits_b4B (f_X9_setVisits_b4 o n4) o v1 v2 M = some q := hF
      unfold f_X9_setVisits_b4B at hF
      refine r_iload_n Z dX9_setVisits_4 rfl (lv_at hl 2 rfl) ?_
      refine r_iconst (v := 4) Z dX9_setVisits_5 (by decide) ?_
      refine r_icmp_ge Z 80 dX9_setVisits_6 (by decide) (fun hc24 => ?_) (fun hc24 => ?_)
      · replace hF := if_some hc24 hF
        refine r_lconst (v := 0) Z dX9_setVisits_80 (by decide) ?_
        refine r_lstore_n Z [(2, .long 0), (0, .ref (ad o)), (1, .int v1)] dX9_setVisits_81 rfl hl (by decide) rfl (fun ls hl => ?_)
        refine r_iconst (v := 0) Z dX9_setVisits_82 (by decide) ?_
        refine r_istore Z [(4, .int 0), (2, .long 0), (0, .ref (ad o)), (1, .int v1)] dX9_setVisits_83 hl (by decide) rfl (fun ls hl => ?_)
        exact L85 _ v1 0 0 M ls (lv_sub hl [2, 3, 1, 0] rfl) hF
      · replace hF := nif_some hc24 hF
        refine r_iload_n Z dX9_setVisits_9 rfl (lv_at hl 1 rfl) ?_
        refine r_aload_n Z dX9_setVisits_10 rfl (lv_at hl 0 rfl) ?_
        refine g_9_8 Z ho wm_614 dX9_setVisits_11 ?_
        refine r_iload_n Z dX9_setVisits_14 rfl (lv_at hl 2 rfl) ?_
        obtain ⟨hi25, hF⟩ := ck_some hF
        refine r_zaload Z (shp_lt (sh_9_8 ho) (by decide)) (fun _ _ => ce_2004 (sh_9_8 ho)) hi25 dX9_setVisits_15 ?_
        refine r_if_eq Z 25 dX9_setVisits_16 (by decide) (fun hc26 => ?_) (fun hc26 => ?_)
        · replace hF := if_some hc26 hF
          refine r_iconst (v := 0) Z dX9_setVisits_25 (by decide) ?_
          exact L26 v2 v1 0 M ls (lv_sub hl [0, 2] rfl) hF
        · replace hF := nif_some hc26 hF
          refine r_iconst (v := 1) Z dX9_setVisits_19 (by decide) ?_
          refine r_iload_n Z dX9_setVisits_20 rfl (lv_at hl 2 rfl) ?_
          refine r_ishl Z dX9_setVisits_21 ?_
          refine r_goto Z 26 dX9_setVisits_22 (by decide) ?_
          exact L26 v2 v1 (1 <<< (v2 &&& 31)) M ls (lv_sub hl [0, 2] rfl) hF
  unfold f_X9_setVisits at hF
  refine r_iconst (v := 0) Z dX9_setVisits_0 (by decide) ?_
  refine r_istore_n Z [(1, .int 0), (0, .ref (ad o))] dX9_setVisits_1 rfl hl (by decide) rfl (fun ls hl => ?_)
  refine r_iconst (v := 0) Z dX9_setVisits_2 (by decide) ?_
  refine r_istore_n Z [(2, .int 0), (1, .int 0), (0, .ref (ad o))] dX9_setVisits_3 rfl hl (by decide) rfl (fun ls hl => ?_)
  exact L4 _ 0 0 M ls (lv_sub hl [2, 1, 0] rfl) hF
theorem dX9_askedClosed_0 : decode cX9_askedClosed 0 = .ok (.aload_n 0, 1) := by decide +kernel
theorem dX9_askedClosed_1 : decode cX9_askedClosed 1 = .ok (.iload_n 1, 1) := by decide +kernel
theorem dX9_askedClosed_2 : decode cX9_askedClosed 2 = .ok (.invokevirtual 107, 3) := by decide +kernel
theorem dX9_askedClosed_5 : decode cX9_askedClosed 5 = .ok (.istore_n 2, 1) := by decide +kernel
theorem dX9_askedClosed_6 : decode cX9_askedClosed 6 = .ok (.iload_n 2, 1) := by decide +kernel
theorem dX9_askedClosed_7 : decode cX9_askedClosed 7 = .ok (.ifCond .ge 5, 3) := by decide +kernel
theorem dX9_askedClosed_10 : decode cX9_askedClosed 10 = .ok (.iload_n 2, 1) := by decide +kernel
theorem dX9_askedClosed_11 : decode cX9_askedClosed 11 = .ok (.ireturn, 1) := by decide +kernel
theorem dX9_askedClosed_12 : decode cX9_askedClosed 12 = .ok (.aload_n 0, 1) := by decide +kernel
theorem dX9_askedClosed_13 : decode cX9_askedClosed 13 = .ok (.invokevirtual 164, 3) := by decide +kernel
theorem dX9_askedClosed_16 : decode cX9_askedClosed 16 = .ok (.ifCond .ne 6, 3) := by decide +kernel
theorem dX9_askedClosed_19 : decode cX9_askedClosed 19 = .ok (.bipush (-4), 2) := by decide +kernel
theorem dX9_askedClosed_21 : decode cX9_askedClosed 21 = .ok (.ireturn, 1) := by decide +kernel
theorem dX9_askedClosed_22 : decode cX9_askedClosed 22 = .ok (.aload_n 0, 1) := by decide +kernel
theorem dX9_askedClosed_23 : decode cX9_askedClosed 23 = .ok (.invokevirtual 167, 3) := by decide +kernel
theorem dX9_askedClosed_26 : decode cX9_askedClosed 26 = .ok (.iconst 0, 1) := by decide +kernel
theorem dX9_askedClosed_27 : decode cX9_askedClosed 27 = .ok (.ireturn, 1) := by decide +kernel
theorem cv_X9_askedClosed : wn_cV yX9_askedClosed cX9_askedClosed 3 (some .int) RX9 1 := ⟨wm_747, wm_749, wm_750, wm_637, by decide +kernel⟩
abbrev rm_X9_askedClosed : Room := rmz 3 78
set_option maxHeartbeats 4000000 in
set_option maxRecDepth 100000 in
theorem c_X9_askedClosed {ad : Nat → Nat} {o : Nat} {x1 : Int32} {M : Mm} {q : Int32 × Mm} (ho : shp o = 9) (hF : f_X9_askedClosed o x1 M = some q) : KI ad yX9_askedClosed cX9_askedClosed 3 (some .int) rm_X9_askedClosed [.ref (ad o), .int x1] M q.1 q.2 := by
  refine wn_enterI (own := RX9) (by decide) rfl (Nat.le_of_ble_eq_true rfl) (fun X ls Z hQ hl => ?_)
  have hl : lv_has ls 3 [(0, .ref (ad o)), (1, .int x1)] := hl
  unfold f_X9_askedClosed at hF
  refine r_aload_n Z dX9_askedClosed_0 rfl (lv_at hl 0 rfl) ?_
  refine r_iload_n Z dX9_askedClosed_1 rfl (lv_at hl 1 rfl) ?_
  obtain ⟨q1, hq1, hF⟩ := bd_some hF
  refine r_invVi [] Z (c_X9_askedFor ho hq1) cv_X9_askedFor rfl (shp_lt ho (by decide)) (fun _ _ => ⟨_, ce_9 ho⟩) wm_668 rfl rfl ⟨Nat.le_of_ble_eq_true rfl, Nat.le_of_ble_eq_true rfl⟩ rfl hl.1 rfl (Nat.le_of_ble_eq_true rfl) dX9_askedClosed_2 ?_
  refine r_istore_n Z [(2, .int q1.1), (0, .ref (ad o)), (1, .int x1)] dX9_askedClosed_5 rfl hl (by decide) rfl (fun ls hl => ?_)
  refine r_iload_n Z dX9_askedClosed_6 rfl (lv_at hl 0 rfl) ?_
  refine r_if_ge Z 12 dX9_askedClosed_7 (by decide) (fun hc2 => ?_) (fun hc2 => ?_)
  · replace hF := if_some hc2 hF
    refine r_aload_n Z dX9_askedClosed_12 rfl (lv_at hl 1 rfl) ?_
    obtain ⟨q3, hq3, hF⟩ := bd_some hF
    refine r_invVi [] Z (c_X9_isClosed ho hq3) cv_X9_isClosed rfl (shp_lt ho (by decide)) (fun _ _ => ⟨_, ce_9 ho⟩) wm_740 rfl rfl ⟨Nat.le_of_ble_eq_true rfl, Nat.le_of_ble_eq_true rfl⟩ rfl hl.1 rfl (Nat.le_of_ble_eq_true rfl) dX9_askedClosed_13 ?_
    refine r_if_ne Z 22 dX9_askedClosed_16 (by decide) (fun hc4 => ?_) (fun hc4 => ?_)
    · replace hF := nif_some hc4 hF
      refine r_aload_n Z dX9_askedClosed_22 rfl (lv_at hl 1 rfl) ?_
      obtain ⟨M5, hM5, hF⟩ := bd_some hF
      refine r_invVv [] Z (c_X9_setVisits ho hM5) cv_X9_setVisits rfl (shp_lt ho (by decide)) (fun _ _ => ⟨_, ce_9 ho⟩) wm_744 rfl rfl ⟨Nat.le_of_ble_eq_true rfl, Nat.le_of_ble_eq_true rfl⟩ rfl hl.1 rfl (Nat.le_of_ble_eq_true rfl) dX9_askedClosed_23 ?_
      refine r_iconst (v := 0) Z dX9_askedClosed_26 (by decide) ?_
      exact r_iret Z hQ hF dX9_askedClosed_27
    · replace hF := if_some hc4 hF
      refine r_bipush (v := (-4)) Z dX9_askedClosed_19 (by decide) ?_
      exact r_iret Z hQ hF dX9_askedClosed_21
  · replace hF := nif_some hc2 hF
    refine r_iload_n Z dX9_askedClosed_10 rfl (lv_at hl 0 rfl) ?_
    exact r_iret Z hQ hF dX9_askedClosed_11
theorem dX9_reached_0 : decode cX9_reached 0 = .ok (.iconst 0, 1) := by decide +kernel
theorem dX9_reached_1 : decode cX9_reached 1 = .ok (.istore_n 1, 1) := by decide +kernel
theorem dX9_reached_2 : decode cX9_reached 2 = .ok (.iconst 0, 1) := by decide +kernel
theorem dX9_reached_3 : decode cX9_reached 3 = .ok (.istore_n 2, 1) := by decide +kernel
theorem dX9_reached_4 : decode cX9_reached 4 = .ok (.iload_n 2, 1) := by decide +kernel
theorem dX9_reached_5 : decode cX9_reached 5 = .ok (.iconst 4, 1) := by decide +kernel
theorem dX9_reached_6 : decode cX9_reached 6 = .ok (.if_icmp .gt 99, 3) := by decide +kernel
theorem dX9_reached_9 : decode cX9_reached 9 = .ok (.iconst 0, 1) := by decide +kernel
theorem dX9_reached_10 : decode cX9_reached 10 = .ok (.istore_n 3, 1) := by decide +kernel
theorem dX9_reached_11 : decode cX9_reached 11 = .ok (.iload_n 3, 1) := by decide +kernel
theorem dX9_reached_12 : decode cX9_reached 12 = .ok (.iconst 4, 1) := by decide +kernel
theorem dX9_reached_13 : decode cX9_reached 13 = .ok (.if_icmp .ge 86, 3) := by decide +kernel
theorem dX9_reached_16 : decode cX9_reached 16 = .ok (.iload_n 1, 1) := by decide +kernel
theorem dX9_reached_17 : decode cX9_reached 17 = .ok (.aload_n 0, 1) := by decide +kernel
theorem dX9_reached_18 : decode cX9_reached 18 = .ok (.getfield 26, 3) := by decide +kernel
theorem dX9_reached_21 : decode cX9_reached 21 = .ok (.iload_n 3, 1) := by decide +kernel
theorem dX9_reached_22 : decode cX9_reached 22 = .ok (.baload, 1) := by decide +kernel
theorem dX9_reached_23 : decode cX9_reached 23 = .ok (.ifCond .eq 18, 3) := by decide +kernel
theorem dX9_reached_26 : decode cX9_reached 26 = .ok (.aload_n 0, 1) := by decide +kernel
theorem dX9_reached_27 : decode cX9_reached 27 = .ok (.getfield 42, 3) := by decide +kernel
theorem dX9_reached_30 : decode cX9_reached 30 = .ok (.iload_n 3, 1) := by decide +kernel
theorem dX9_reached_31 : decode cX9_reached 31 = .ok (.iaload, 1) := by decide +kernel
theorem dX9_reached_32 : decode cX9_reached 32 = .ok (.ifCond .le 9, 3) := by decide +kernel
theorem dX9_reached_35 : decode cX9_reached 35 = .ok (.iconst 1, 1) := by decide +kernel
theorem dX9_reached_36 : decode cX9_reached 36 = .ok (.iload_n 3, 1) := by decide +kernel
theorem dX9_reached_37 : decode cX9_reached 37 = .ok (.ishl, 1) := by decide +kernel
theorem dX9_reached_38 : decode cX9_reached 38 = .ok (.goto 4, 3) := by decide +kernel
theorem dX9_reached_41 : decode cX9_reached 41 = .ok (.iconst 0, 1) := by decide +kernel
theorem dX9_reached_42 : decode cX9_reached 42 = .ok (.ior, 1) := by decide +kernel
theorem dX9_reached_43 : decode cX9_reached 43 = .ok (.istore_n 1, 1) := by decide +kernel
theorem dX9_reached_44 : decode cX9_reached 44 = .ok (.iconst 0, 1) := by decide +kernel
theorem dX9_reached_45 : decode cX9_reached 45 = .ok (.istore 4, 2) := by decide +kernel
theorem dX9_reached_47 : decode cX9_reached 47 = .ok (.iload 4, 2) := by decide +kernel
theorem dX9_reached_49 : decode cX9_reached 49 = .ok (.iconst 4, 1) := by decide +kernel
theorem dX9_reached_50 : decode cX9_reached 50 = .ok (.if_icmp .ge 43, 3) := by decide +kernel
theorem dX9_reached_53 : decode cX9_reached 53 = .ok (.iload_n 1, 1) := by decide +kernel
theorem dX9_reached_54 : decode cX9_reached 54 = .ok (.iload_n 1, 1) := by decide +kernel
theorem dX9_reached_55 : decode cX9_reached 55 = .ok (.iload_n 3, 1) := by decide +kernel
theorem dX9_reached_56 : decode cX9_reached 56 = .ok (.ishr, 1) := by decide +kernel
theorem dX9_reached_57 : decode cX9_reached 57 = .ok (.iconst 1, 1) := by decide +kernel
theorem dX9_reached_58 : decode cX9_reached 58 = .ok (.iand, 1) := by decide +kernel
theorem dX9_reached_59 : decode cX9_reached 59 = .ok (.iconst 1, 1) := by decide +kernel
theorem dX9_reached_60 : decode cX9_reached 60 = .ok (.if_icmp .ne 24, 3) := by decide +kernel
theorem dX9_reached_63 : decode cX9_reached 63 = .ok (.aload_n 0, 1) := by decide +kernel
theorem dX9_reached_64 : decode cX9_reached 64 = .ok (.getfield 45, 3) := by decide +kernel
theorem dX9_reached_67 : decode cX9_reached 67 = .ok (.iconst 4, 1) := by decide +kernel
theorem dX9_reached_68 : decode cX9_reached 68 = .ok (.iload_n 3, 1) := by decide +kernel
theorem dX9_reached_69 : decode cX9_reached 69 = .ok (.imul, 1) := by decide +kernel
theorem dX9_reached_70 : decode cX9_reached 70 = .ok (.iload 4, 2) := by decide +kernel
theorem dX9_reached_72 : decode cX9_reached 72 = .ok (.iadd, 1) := by decide +kernel
theorem dX9_reached_73 : decode cX9_reached 73 = .ok (.iaload, 1) := by decide +kernel
theorem dX9_reached_74 : decode cX9_reached 74 = .ok (.ifCond .le 10, 3) := by decide +kernel
theorem dX9_reached_77 : decode cX9_reached 77 = .ok (.iconst 1, 1) := by decide +kernel
theorem dX9_reached_78 : decode cX9_reached 78 = .ok (.iload 4, 2) := by decide +kernel
theorem dX9_reached_80 : decode cX9_reached 80 = .ok (.ishl, 1) := by decide +kernel
theorem dX9_reached_81 : decode cX9_reached 81 = .ok (.goto 4, 3) := by decide +kernel
theorem dX9_reached_84 : decode cX9_reached 84 = .ok (.iconst 0, 1) := by decide +kernel
theorem dX9_reached_85 : decode cX9_reached 85 = .ok (.ior, 1) := by decide +kernel
theorem dX9_reached_86 : decode cX9_reached 86 = .ok (.istore_n 1, 1) := by decide +kernel
theorem dX9_reached_87 : decode cX9_reached 87 = .ok (.iinc 4 1, 3) := by decide +kernel
theorem dX9_reached_90 : decode cX9_reached 90 = .ok (.goto (-43), 3) := by decide +kernel
theorem dX9_reached_93 : decode cX9_reached 93 = .ok (.iinc 3 1, 3) := by decide +kernel
theorem dX9_reached_96 : decode cX9_reached 96 = .ok (.goto (-85), 3) := by decide +kernel
theorem dX9_reached_99 : decode cX9_reached 99 = .ok (.iinc 2 1, 3) := by decide +kernel
theorem dX9_reached_102 : decode cX9_reached 102 = .ok (.goto (-98), 3) := by decide +kernel
theorem dX9_reached_105 : decode cX9_reached 105 = .ok (.iload_n 1, 1) := by decide +kernel
theorem dX9_reached_106 : decode cX9_reached 106 = .ok (.ireturn, 1) := by decide +kernel
theorem cv_X9_reached : wn_cV yX9_reached cX9_reached 5 (some .int) RX9 0 := ⟨wm_696, wm_699, wm_700, wm_637, by decide +kernel⟩
abbrev rm_X9_reached : Room := rmz 0 0
set_option maxHeartbeats 4000000 in
set_option maxRecDepth 100000 in
theorem c_X9_reached {ad : Nat → Nat} {o : Nat} {M : Mm} {q : Int32 × Mm} (ho : shp o = 9) (hF : f_X9_reached o M = some q) : KI ad yX9_reached cX9_reached 5 (some .int) rm_X9_reached [.ref (ad o)] M q.1 q.2 := by
  refine wn_enterI (own := RX9) (by decide) rfl (Nat.le_of_ble_eq_true rfl) (fun X ls Z hQ hl => ?_)
  have hl : lv_has ls 5 [(0, .ref (ad o))] := hl
  have L4 : ∀ (n4 : Nat) (v1 : Int32) (v2 : Int32) (M : Mm) (ls : Array Slot), lv_has ls 5 [(0, .ref (ad o)), (1, .int v1), (2, .int v2)] → f_X9_reached_b4 o n4 v1 v2 M = some q → G ad X M 4 ls [] := by
    intro n4
    induction n4 with
    | zero =>
      intro v1 v2 M ls hl hF
      cases hF
    | succ n4 ih4 =>
      have L11 : ∀ (n11 : Nat) (v1 : Int32) (v2 : Int32) (v3 : Int32) (M : Mm) (ls : Array Slot), lv_has ls 5 [(0, .ref (ad o)), (1, .int v1), (2, .int v2), (3, .int v3)] → f_X9_reached_b11 (f_X9_reached_b4 o n4) o n11 v1 v2 v3 M = some q → G ad X M 11 ls [] := by
        intro n11
        induction n11 with
        | zero =>
          intro v1 v2 v3 M ls hl hF
          cases hF
        | succ n11 ih11 =>
          have L47 : ∀ (n47 : Nat) (v1 : Int32) (v2 : Int32) (v3 : Int32) (v4 : Int32) (M : Mm) (ls : Array Slot), lv_has ls 5 [(0, .ref (ad o)), (1, .int v1), (2, .int v2), (3, .int v3), (4, .int v4)] → f_X9_reached_b47 (f_X9_reached_b4 o n4) (f_X9_reached_b11 (f_X9_reached_b4 o n4) o n11) o n47 v1 v2 v3 v4 M = some q → G ad X M 47 ls [] := by
            intro n47
            induction n47 with
            | zero =>
              intro v1 v2 v3 v4 M ls hl hF
              cases hF
            | succ n47 ih47 =>
              have L85 : ∀ (v2 : Int32) (v3 : Int32) (v4 : Int32) (s0 : Int32) (s1 : Int32) (M : Mm) (ls : Array Slot), lv_has ls 5 [(0, .ref (ad o)), (2, .int v2), (3, .int v3), (4, .int v4)] → f_X9_reached_b85 (f_X9_reached_b4 o n4) (f_X9_reached_b11 (f_X9_reached_b4 o n4) o n11) (f_X9_reached_b47 (f_X9_reached_b4 o n4) (f_X9_reached_b11 (f_X9_reached_b4 o n4) o n11) o n47) o v2 v3 v4 s0 s1 M = some q → G ad X M 85 ls [.int s1, .int s0] := by
                intro v2 v3 v4 s0 s1 M ls hl hF
                unfold f_X9_reached_b85 at hF
                refine r_ior Z dX9_reached_85 ?_
                obtain ⟨t1, et1, hF⟩ := nm_some hF
                rw [← et1]
                refine r_istore_n Z [(1, .int t1), (0, .ref (ad o)), (2, .int v2), (3, .int v3), (4, .int v4)] dX9_reached_86 rfl hl (by decide) rfl (fun ls hl => ?_)
                obtain ⟨t2, et2, hF⟩ := nm_some hF
                refine r_iinc (j := 4) Z t2 [(4, .int t2), (1, .int t1), (0, .ref (ad o)), (2, .int v2), (3, .int v3)] dX9_reached_87 hl rfl (by rw [et2]; rfl) (by decide) rfl (fun ls hl => ?_)
                refine r_goto Z 47 dX9_reached_90 (by decide) ?_
                exact ih47 t1 v2 v3 t2 M ls (lv_sub hl [2, 1, 3, 4, 0] rfl) hF
              have L84 : ∀ (v2 : Int32) (v3 : Int32) (v4 : Int32) (s0 : Int32) (M : Mm) (ls : Array Slot), lv_has ls 5 [(0, .ref (ad o)), (2, .int v2), (3, .int v3), (4, .int v4)] → f_X9_reached_b84 (f_X9_reached_b4 o n4) (f_X9_reached_b11 (f_X9_reached_b4 o n4) o n11) (f_X9_reached_b47 (f_X9_reached_b4 o n4) (f_X9_reached_b11 (f_X9_reached_b4 o n4) o n11) o n47) o v2 v3 v4 s0 M = some q → G ad X M 84 ls [.int s0] := by
                intro v2 v3 v4 s0 M ls hl hF
                unfold f_X9_reached_b84 at hF
                refine r_iconst (v := 0) Z dX9_reached_84 (by decide) ?_
                exact L85 v2 v3 v4 s0 0 M ls (lv_sub hl [0, 1, 2, 3] rfl) hF
              intro v1 v2 v3 v4 M ls hl hF
              replace hF : f_X9_reached_b47B (f_X9_reached_b4 o n4) (f_X9_reached_b11 (f_X9_reached_b4 o n4) o n11) (f_X9_reached_b47 (f_X9_reached_b4 o n4) (f_X9_reached_b11 (f_X9_reached_b4 o n4) o n11) o n47) o v1 v2 v3 v4 M = some q := hF
              unfold f_X9_reached_b47B at hF
              refine r_iload Z dX9_reached_47 (lv_at hl 4 rfl) ?_
              refine r_iconst (v := 4) Z dX9_reached_49 (by decide) ?_
              refine r_icmp_ge Z 93 dX9_reached_50 (by decide) (fun hc3 => ?_) (fun hc3 => ?_)
              · replace hF := if_some hc3 hF
                obtain ⟨t4, et4, hF⟩ := nm_some hF
                refine r_iinc (j := 3) Z t4 [(3, .int t4), (0, .ref (ad o)), (1, .int v1), (2, .int v2), (4, .int v4)] dX9_reached_93 hl rfl (by rw [et4]; rfl) (by decide) rfl (fun ls hl => ?_)
                refine r_goto Z 11 dX9_reached_96 (by decide) ?_
                exact ih11 v1 v2 t4 M ls (lv_sub hl [1, 2, 3, 0] rfl) hF
              · replace hF := nif_some hc3 hF
                refine r_iload_n Z dX9_reached_53 rfl (lv_at hl 1 rfl) ?_
                refine r_iload_n Z dX9_reached_54 rfl (lv_at hl 1 rfl) ?_
                refine r_iload_n Z dX9_reached_55 rfl (lv_at hl 3 rfl) ?_
                refine r_ishr Z dX9_reached_56 ?_
                refine r_iconst (v := 1) Z dX9_reached_57 (by decide) ?_
                refine r_iand Z dX9_reached_58 ?_
                refine r_iconst (v := 1) Z dX9_reached_59 (by decide) ?_
                refine r_icmp_ne Z 84 dX9_reached_60 (by decide) (fun hc5 => ?_) (fun hc5 => ?_)
                · replace hF := nif_some hc5 hF
                  exact L84 v2 v3 v4 v1 M ls (lv_sub hl [0, 2, 3, 4] rfl) hF
                · replace hF := if_some hc5 hF
                  refine r_aload_n Z dX9_reached_63 rfl (lv_at hl 0 rfl) ?_
                  refine g_9_14 Z ho wm_620 dX9_reached_64 ?_
                  refine r_iconst (v := 4) Z dX9_reached_67 (by decide) ?_
                  refine r_iload_n Z dX9_reached_68 rfl (lv_at hl 3 rfl) ?_
                  refine r_imul Z dX9_reached_69 ?_
                  refine r_iload Z dX9_reached_70 (lv_at hl 4 rfl) ?_
                  refine r_iadd Z dX9_reached_72 ?_
                  obtain ⟨hi6, hF⟩ := ck_some hF
                  refine r_iaload Z (shp_lt (sh_9_14 ho) (by decide)) (fun _ _ => ce_116 (sh_9_14 ho)) hi6 dX9_reached_73 ?_
                  refine r_if_le Z 84 dX9_reached_74 (by decide) (fun hc7 => ?_) (fun hc7 => ?_)
                  · replace hF := if_some hc7 hF
                    exact L84 v2 v3 v4 v1 M ls (lv_sub hl [0, 2, 3, 4] rfl) hF
                  · replace hF := nif_some hc7 hF
                    refine r_iconst (v := 1) Z dX9_reached_77 (by decide) ?_
                    refine r_iload Z dX9_reached_78 (lv_at hl 4 rfl) ?_
                    refine r_ishl Z dX9_reached_80 ?_
                    refine r_goto Z 85 dX9_reached_81 (by decide) ?_
                    exact L85 v2 v3 v4 v1 (1 <<< (v4 &&& 31)) M ls (lv_sub hl [0, 2, 3, 4] rfl) hF
          have L42 : ∀ (v2 : Int32) (v3 : Int32) (s0 : Int32) (s1 : Int32) (M : Mm) (ls : Array Slot), lv_has ls 5 [(0, .ref (ad o)), (2, .int v2), (3, .int v3)] → f_X9_reached_b42 (f_X9_reached_b4 o n4) (f_X9_reached_b11 (f_X9_reached_b4 o n4) o n11) o v2 v3 s0 s1 M = some q → G ad X M 42 ls [.int s1, .int s0] := by
            intro v2 v3 s0 s1 M ls hl hF
            unfold f_X9_reached_b42 at hF
            refine r_ior Z dX9_reached_42 ?_
            obtain ⟨t8, et8, hF⟩ := nm_some hF
            rw [← et8]
            refine r_istore_n Z [(1, .int t8), (0, .ref (ad o)), (2, .int v2), (3, .int v3)] dX9_reached_43 rfl hl (by decide) rfl (fun ls hl => ?_)
            refine r_iconst (v := 0) Z dX9_reached_44 (by decide) ?_
            refine r_istore Z [(4, .int 0), (1, .int t8), (0, .ref (ad o)), (2, .int v2), (3, .int v3)] dX9_reached_45 hl (by decide) rfl (fun ls hl => ?_)
            exact L47 _ t8 v2 v3 0 M ls (lv_sub hl [2, 1, 3, 4, 0] rfl) hF
          have L41 : ∀ (v2 : Int32) (v3 : Int32) (s0 : Int32) (M : Mm) (ls : Array Slot), lv_has ls 5 [(0, .ref (ad o)), (2, .int v2), (3, .int v3)] → f_X9_reached_b41 (f_X9_reached_b4 o n4) (f_X9_reached_b11 (f_X9_reached_b4 o n4) o n11) o v2 v3 s0 M = some q → G ad X M 41 ls [.int s0] := by
            intro v2 v3 s0 M ls hl hF
            unfold f_X9_reached_b41 at hF
            refine r_iconst (v := 0) Z dX9_reached_41 (by decide) ?_
            exact L42 v2 v3 s0 0 M ls (lv_sub hl [0, 1, 2] rfl) hF
          intro v1 v2 v3 M ls hl hF
          replace hF : f_X9_reached_b11B (f_X9_reached_b4 o n4) (f_X9_reached_b11 (f_X9_reached_b4 o n4) o n11) o v1 v2 v3 M = some q := hF
          unfold f_X9_reached_b11B at hF
          refine r_iload_n Z dX9_reached_11 rfl (lv_at hl 3 rfl) ?_
          refine r_iconst (v := 4) Z dX9_reached_12 (by decide) ?_
          refine r_icmp_ge Z 99 dX9_reached_13 (by decide) (fun hc9 => ?_) (fun hc9 => ?_)
          · replace hF := if_some hc9 hF
            obtain ⟨t10, et10, hF⟩ := nm_some hF
            refine r_iinc (j := 2) Z t10 [(2, .int t10), (0, .ref (ad o)), (1, .int v1), (3, .int v3)] dX9_reached_99 hl rfl (by rw [et10]; rfl) (by decide) rfl (fun ls hl => ?_)
            refine r_goto Z 4 dX9_reached_102 (by decide) ?_
            exact ih4 v1 t10 M ls (lv_sub hl [1, 2, 0] rfl) hF
          · replace hF := nif_some hc9 hF
            refine r_iload_n Z dX9_reached_16 rfl (lv_at hl 1 rfl) ?_
            refine r_aload_n Z dX9_reached_17 rfl (lv_at hl 0 rfl) ?_
            refine g_9_8 Z ho wm_614 dX9_reached_18 ?_
            refine r_iload_n Z dX9_reached_21 rfl (lv_at hl 3 rfl) ?_
            obtain ⟨hi11, hF⟩ := ck_some hF
            refine r_zaload Z (shp_lt (sh_9_8 ho) (by decide)) (fun _ _ => ce_2004 (sh_9_8 ho)) hi11 dX9_reached_22 ?_
            refine r_if_eq Z 41 dX9_reached_23 (by decide) (fun hc12 => ?_) (fun hc12 => ?_)
            · replace hF := if_some hc12 hF
              exact L41 v2 v3 v1 M ls (lv_sub hl [0, 2, 3] rfl) hF
            · replace hF := nif_some hc12 hF
              refine r_aload_n Z dX9_reached_26 rfl (lv_at hl 0 rfl) ?_
              refine g_9_13 Z ho wm_619 dX9_reached_27 ?_
              refine r_iload_n Z dX9_reached_30 rfl (lv_at hl 3 rfl) ?_
              obtain ⟨hi13, hF⟩ := ck_some hF
              refine r_iaload Z (shp_lt (sh_9_13 ho) (by decide)) (fun _ _ => ce_104 (sh_9_13 ho)) hi13 dX9_reached_31 ?_
              refine r_if_le Z 41 dX9_reached_32 (by decide) (fun hc14 => ?_) (fun hc14 => ?_)
              · replace hF := if_some hc14 hF
                exact L41 v2 v3 v1 M ls (lv_sub hl [0, 2, 3] rfl) hF
              · replace hF := nif_some hc14 hF
                refine r_iconst (v := 1) Z dX9_reached_35 (by decide) ?_
                refine r_iload_n Z dX9_reached_36 rfl (lv_at hl 3 rfl) ?_
                refine r_ishl Z dX9_reached_37 ?_
                refine r_goto Z 42 dX9_reached_38 (by decide) ?_
                exact L42 v2 v3 v1 (1 <<< (v3 &&& 31)) M ls (lv_sub hl [0, 2, 3] rfl) hF
      intro v1 v2 M ls hl hF
      replace hF : f_X9_reached_b4B (f_X9_reached_b4 o n4) o v1 v2 M = some q := hF
      unfold f_X9_reached_b4B at hF
      refine r_iload_n Z dX9_reached_4 rfl (lv_at hl 2 rfl) ?_
      refine r_iconst (v := 4) Z dX9_reached_5 (by decide) ?_
      refine r_icmp_gt Z 105 dX9_reached_6 (by decide) (fun hc15 => ?_) (fun hc15 => ?_)
      · replace hF := if_some hc15 hF
        refine r_iload_n Z dX9_reached_105 rfl (lv_at hl 1 rfl) ?_
        exact r_iret Z hQ hF dX9_reached_106
      · replace hF := nif_some hc15 hF
        refine r_iconst (v := 0) Z dX9_reached_9 (by decide) ?_
        refine r_istore_n Z [(3, .int 0), (0, .ref (ad o)), (1, .int v1), (2, .int v2)] dX9_reached_10 rfl hl (by decide) rfl (fun ls hl => ?_)
        exact L11 _ v1 v2 0 M ls (lv_sub hl [1, 2, 3, 0] rfl) hF
  unfold f_X9_reached at hF
  refine r_iconst (v := 0) Z dX9_reached_0 (by decide) ?_
  refine r_istore_n Z [(1, .int 0), (0, .ref (ad o))] dX9_reached_1 rfl hl (by decide) rfl (fun ls hl => ?_)
  refine r_iconst (v := 0) Z dX9_reached_2 (by decide) ?_
  refine r_istore_n Z [(2, .int 0), (1, .int 0), (0, .ref (ad o))] dX9_reached_3 rfl hl (by decide) rfl (fun ls hl => ?_)
  exact L4 _ 0 0 M ls (lv_sub hl [2, 1, 0] rfl) hF
theorem dX9_keptOf_0 : decode cX9_keptOf 0 = .ok (.iconst 0, 1) := by decide +kernel
theorem dX9_keptOf_1 : decode cX9_keptOf 1 = .ok (.istore_n 1, 1) := by decide +kernel
theorem dX9_keptOf_2 : decode cX9_keptOf 2 = .ok (.iconst 0, 1) := by decide +kernel
theorem dX9_keptOf_3 : decode cX9_keptOf 3 = .ok (.istore_n 2, 1) := by decide +kernel
theorem dX9_keptOf_4 : decode cX9_keptOf 4 = .ok (.iload_n 2, 1) := by decide +kernel
theorem dX9_keptOf_5 : decode cX9_keptOf 5 = .ok (.iconst 4, 1) := by decide +kernel
theorem dX9_keptOf_6 : decode cX9_keptOf 6 = .ok (.if_icmp .gt 99, 3) := by decide +kernel
theorem dX9_keptOf_9 : decode cX9_keptOf 9 = .ok (.iconst 0, 1) := by decide +kernel
theorem dX9_keptOf_10 : decode cX9_keptOf 10 = .ok (.istore_n 3, 1) := by decide +kernel
theorem dX9_keptOf_11 : decode cX9_keptOf 11 = .ok (.iload_n 3, 1) := by decide +kernel
theorem dX9_keptOf_12 : decode cX9_keptOf 12 = .ok (.iconst 4, 1) := by decide +kernel
theorem dX9_keptOf_13 : decode cX9_keptOf 13 = .ok (.if_icmp .ge 86, 3) := by decide +kernel
theorem dX9_keptOf_16 : decode cX9_keptOf 16 = .ok (.iload_n 1, 1) := by decide +kernel
theorem dX9_keptOf_17 : decode cX9_keptOf 17 = .ok (.aload_n 0, 1) := by decide +kernel
theorem dX9_keptOf_18 : decode cX9_keptOf 18 = .ok (.getfield 26, 3) := by decide +kernel
theorem dX9_keptOf_21 : decode cX9_keptOf 21 = .ok (.iload_n 3, 1) := by decide +kernel
theorem dX9_keptOf_22 : decode cX9_keptOf 22 = .ok (.baload, 1) := by decide +kernel
theorem dX9_keptOf_23 : decode cX9_keptOf 23 = .ok (.ifCond .eq 18, 3) := by decide +kernel
theorem dX9_keptOf_26 : decode cX9_keptOf 26 = .ok (.aload_n 0, 1) := by decide +kernel
theorem dX9_keptOf_27 : decode cX9_keptOf 27 = .ok (.iload_n 3, 1) := by decide +kernel
theorem dX9_keptOf_28 : decode cX9_keptOf 28 = .ok (.invokevirtual 110, 3) := by decide +kernel
theorem dX9_keptOf_31 : decode cX9_keptOf 31 = .ok (.iconst 4, 1) := by decide +kernel
theorem dX9_keptOf_32 : decode cX9_keptOf 32 = .ok (.if_icmp .ge 9, 3) := by decide +kernel
theorem dX9_keptOf_35 : decode cX9_keptOf 35 = .ok (.iconst 1, 1) := by decide +kernel
theorem dX9_keptOf_36 : decode cX9_keptOf 36 = .ok (.iload_n 3, 1) := by decide +kernel
theorem dX9_keptOf_37 : decode cX9_keptOf 37 = .ok (.ishl, 1) := by decide +kernel
theorem dX9_keptOf_38 : decode cX9_keptOf 38 = .ok (.goto 4, 3) := by decide +kernel
theorem dX9_keptOf_41 : decode cX9_keptOf 41 = .ok (.iconst 0, 1) := by decide +kernel
theorem dX9_keptOf_42 : decode cX9_keptOf 42 = .ok (.ior, 1) := by decide +kernel
theorem dX9_keptOf_43 : decode cX9_keptOf 43 = .ok (.istore_n 1, 1) := by decide +kernel
theorem dX9_keptOf_44 : decode cX9_keptOf 44 = .ok (.iconst 0, 1) := by decide +kernel
theorem dX9_keptOf_45 : decode cX9_keptOf 45 = .ok (.istore 4, 2) := by decide +kernel
theorem dX9_keptOf_47 : decode cX9_keptOf 47 = .ok (.iload 4, 2) := by decide +kernel
theorem dX9_keptOf_49 : decode cX9_keptOf 49 = .ok (.iconst 4, 1) := by decide +kernel
theorem dX9_keptOf_50 : decode cX9_keptOf 50 = .ok (.if_icmp .ge 43, 3) := by decide +kernel
theorem dX9_keptOf_53 : decode cX9_keptOf 53 = .ok (.iload_n 1, 1) := by decide +kernel
theorem dX9_keptOf_54 : decode cX9_keptOf 54 = .ok (.iload_n 1, 1) := by decide +kernel
theorem dX9_keptOf_55 : decode cX9_keptOf 55 = .ok (.iload 4, 2) := by decide +kernel
theorem dX9_keptOf_57 : decode cX9_keptOf 57 = .ok (.ishr, 1) := by decide +kernel
theorem dX9_keptOf_58 : decode cX9_keptOf 58 = .ok (.iconst 1, 1) := by decide +kernel
theorem dX9_keptOf_59 : decode cX9_keptOf 59 = .ok (.iand, 1) := by decide +kernel
theorem dX9_keptOf_60 : decode cX9_keptOf 60 = .ok (.iconst 1, 1) := by decide +kernel
theorem dX9_keptOf_61 : decode cX9_keptOf 61 = .ok (.if_icmp .ne 23, 3) := by decide +kernel
theorem dX9_keptOf_64 : decode cX9_keptOf 64 = .ok (.aload_n 0, 1) := by decide +kernel
theorem dX9_keptOf_65 : decode cX9_keptOf 65 = .ok (.getfield 45, 3) := by decide +kernel
theorem dX9_keptOf_68 : decode cX9_keptOf 68 = .ok (.iconst 4, 1) := by decide +kernel
theorem dX9_keptOf_69 : decode cX9_keptOf 69 = .ok (.iload_n 3, 1) := by decide +kernel
theorem dX9_keptOf_70 : decode cX9_keptOf 70 = .ok (.imul, 1) := by decide +kernel
theorem dX9_keptOf_71 : decode cX9_keptOf 71 = .ok (.iload 4, 2) := by decide +kernel
theorem dX9_keptOf_73 : decode cX9_keptOf 73 = .ok (.iadd, 1) := by decide +kernel
theorem dX9_keptOf_74 : decode cX9_keptOf 74 = .ok (.iaload, 1) := by decide +kernel
theorem dX9_keptOf_75 : decode cX9_keptOf 75 = .ok (.ifCond .le 9, 3) := by decide +kernel
theorem dX9_keptOf_78 : decode cX9_keptOf 78 = .ok (.iconst 1, 1) := by decide +kernel
theorem dX9_keptOf_79 : decode cX9_keptOf 79 = .ok (.iload_n 3, 1) := by decide +kernel
theorem dX9_keptOf_80 : decode cX9_keptOf 80 = .ok (.ishl, 1) := by decide +kernel
theorem dX9_keptOf_81 : decode cX9_keptOf 81 = .ok (.goto 4, 3) := by decide +kernel
theorem dX9_keptOf_84 : decode cX9_keptOf 84 = .ok (.iconst 0, 1) := by decide +kernel
theorem dX9_keptOf_85 : decode cX9_keptOf 85 = .ok (.ior, 1) := by decide +kernel
theorem dX9_keptOf_86 : decode cX9_keptOf 86 = .ok (.istore_n 1, 1) := by decide +kernel
theorem dX9_keptOf_87 : decode cX9_keptOf 87 = .ok (.iinc 4 1, 3) := by decide +kernel
theorem dX9_keptOf_90 : decode cX9_keptOf 90 = .ok (.goto (-43), 3) := by decide +kernel
theorem dX9_keptOf_93 : decode cX9_keptOf 93 = .ok (.iinc 3 1, 3) := by decide +kernel
theorem dX9_keptOf_96 : decode cX9_keptOf 96 = .ok (.goto (-85), 3) := by decide +kernel
theorem dX9_keptOf_99 : decode cX9_keptOf 99 = .ok (.iinc 2 1, 3) := by decide +kernel
theorem dX9_keptOf_102 : decode cX9_keptOf 102 = .ok (.goto (-98), 3) := by decide +kernel
theorem dX9_keptOf_105 : decode cX9_keptOf 105 = .ok (.aload_n 0, 1) := by decide +kernel
theorem dX9_keptOf_106 : decode cX9_keptOf 106 = .ok (.invokevirtual 124, 3) := by decide +kernel
theorem dX9_keptOf_109 : decode cX9_keptOf 109 = .ok (.iload_n 1, 1) := by decide +kernel
theorem dX9_keptOf_110 : decode cX9_keptOf 110 = .ok (.iconst (-1), 1) := by decide +kernel
theorem dX9_keptOf_111 : decode cX9_keptOf 111 = .ok (.ixor, 1) := by decide +kernel
theorem dX9_keptOf_112 : decode cX9_keptOf 112 = .ok (.iand, 1) := by decide +kernel
theorem dX9_keptOf_113 : decode cX9_keptOf 113 = .ok (.ireturn, 1) := by decide +kernel
theorem cv_X9_keptOf : wn_cV yX9_keptOf cX9_keptOf 5 (some .int) RX9 0 := ⟨wm_697, wm_703, wm_704, wm_637, by decide +kernel⟩
abbrev rm_X9_keptOf : Room := rmz 1 24
set_option maxHeartbeats 4000000 in
set_option maxRecDepth 100000 in
theorem c_X9_keptOf {ad : Nat → Nat} {o : Nat} {M : Mm} {q : Int32 × Mm} (ho : shp o = 9) (hF : f_X9_keptOf o M = some q) : KI ad yX9_keptOf cX9_keptOf 5 (some .int) rm_X9_keptOf [.ref (ad o)] M q.1 q.2 := by
  refine wn_enterI (own := RX9) (by decide) rfl (Nat.le_of_ble_eq_true rfl) (fun X ls Z hQ hl => ?_)
  have hl : lv_has ls 5 [(0, .ref (ad o))] := hl
  have L4 : ∀ (n4 : Nat) (v1 : Int32) (v2 : Int32) (M : Mm) (ls : Array Slot), lv_has ls 5 [(0, .ref (ad o)), (1, .int v1), (2, .int v2)] → f_X9_keptOf_b4 o n4 v1 v2 M = some q → G ad X M 4 ls [] := by
    intro n4
    induction n4 with
    | zero =>
      intro v1 v2 M ls hl hF
      cases hF
    | succ n4 ih4 =>
      have L11 : ∀ (n11 : Nat) (v1 : Int32) (v2 : Int32) (v3 : Int32) (M : Mm) (ls : Array Slot), lv_has ls 5 [(0, .ref (ad o)), (1, .int v1), (2, .int v2), (3, .int v3)] → f_X9_keptOf_b11 (f_X9_keptOf_b4 o n4) o n11 v1 v2 v3 M = some q → G ad X M 11 ls [] := by
        intro n11
        induction n11 with
        | zero =>
          intro v1 v2 v3 M ls hl hF
          cases hF
        | succ n11 ih11 =>
          have L47 : ∀ (n47 : Nat) (v1 : Int32) (v2 : Int32) (v3 : Int32) (v4 : Int32) (M : Mm) (ls : Array Slot), lv_has ls 5 [(0, .ref (ad o)), (1, .int v1), (2, .int v2), (3, .int v3), (4, .int v4)] → f_X9_keptOf_b47 (f_X9_keptOf_b4 o n4) (f_X9_keptOf_b11 (f_X9_keptOf_b4 o n4) o n11) o n47 v1 v2 v3 v4 M = some q → G ad X M 47 ls [] := by
            intro n47
            induction n47 with
            | zero =>
              intro v1 v2 v3 v4 M ls hl hF
              cases hF
            | succ n47 ih47 =>
              have L85 : ∀ (v2 : Int32) (v3 : Int32) (v4 : Int32) (s0 : Int32) (s1 : Int32) (M : Mm) (ls : Array Slot), lv_has ls 5 [(0, .ref (ad o)), (2, .int v2), (3, .int v3), (4, .int v4)] → f_X9_keptOf_b85 (f_X9_keptOf_b4 o n4) (f_X9_keptOf_b11 (f_X9_keptOf_b4 o n4) o n11) (f_X9_keptOf_b47 (f_X9_keptOf_b4 o n4) (f_X9_keptOf_b11 (f_X9_keptOf_b4 o n4) o n11) o n47) o v2 v3 v4 s0 s1 M = some q → G ad X M 85 ls [.int s1, .int s0] := by
                intro v2 v3 v4 s0 s1 M ls hl hF
                unfold f_X9_keptOf_b85 at hF
                refine r_ior Z dX9_keptOf_85 ?_
                obtain ⟨t1, et1, hF⟩ := nm_some hF
                rw [← et1]
                refine r_istore_n Z [(1, .int t1), (0, .ref (ad o)), (2, .int v2), (3, .int v3), (4, .int v4)] dX9_keptOf_86 rfl hl (by decide) rfl (fun ls hl => ?_)
                obtain ⟨t2, et2, hF⟩ := nm_some hF
                refine r_iinc (j := 4) Z t2 [(4, .int t2), (1, .int t1), (0, .ref (ad o)), (2, .int v2), (3, .int v3)] dX9_keptOf_87 hl rfl (by rw [et2]; rfl) (by decide) rfl (fun ls hl => ?_)
                refine r_goto Z 47 dX9_keptOf_90 (by decide) ?_
                exact ih47 t1 v2 v3 t2 M ls (lv_sub hl [2, 1, 3, 4, 0] rfl) hF
              have L84 : ∀ (v2 : Int32) (v3 : Int32) (v4 : Int32) (s0 : Int32) (M : Mm) (ls : Array Slot), lv_has ls 5 [(0, .ref (ad o)), (2, .int v2), (3, .int v3), (4, .int v4)] → f_X9_keptOf_b84 (f_X9_keptOf_b4 o n4) (f_X9_keptOf_b11 (f_X9_keptOf_b4 o n4) o n11) (f_X9_keptOf_b47 (f_X9_keptOf_b4 o n4) (f_X9_keptOf_b11 (f_X9_keptOf_b4 o n4) o n11) o n47) o v2 v3 v4 s0 M = some q → G ad X M 84 ls [.int s0] := by
                intro v2 v3 v4 s0 M ls hl hF
                unfold f_X9_keptOf_b84 at hF
                refine r_iconst (v := 0) Z dX9_keptOf_84 (by decide) ?_
                exact L85 v2 v3 v4 s0 0 M ls (lv_sub hl [0, 1, 2, 3] rfl) hF
              intro v1 v2 v3 v4 M ls hl hF
              replace hF : f_X9_keptOf_b47B (f_X9_keptOf_b4 o n4) (f_X9_keptOf_b11 (f_X9_keptOf_b4 o n4) o n11) (f_X9_keptOf_b47 (f_X9_keptOf_b4 o n4) (f_X9_keptOf_b11 (f_X9_keptOf_b4 o n4) o n11) o n47) o v1 v2 v3 v4 M = some q := hF
              unfold f_X9_keptOf_b47B at hF
              refine r_iload Z dX9_keptOf_47 (lv_at hl 4 rfl) ?_
              refine r_iconst (v := 4) Z dX9_keptOf_49 (by decide) ?_
              refine r_icmp_ge Z 93 dX9_keptOf_50 (by decide) (fun hc3 => ?_) (fun hc3 => ?_)
              · replace hF := if_some hc3 hF
                obtain ⟨t4, et4, hF⟩ := nm_some hF
                refine r_iinc (j := 3) Z t4 [(3, .int t4), (0, .ref (ad o)), (1, .int v1), (2, .int v2), (4, .int v4)] dX9_keptOf_93 hl rfl (by rw [et4]; rfl) (by decide) rfl (fun ls hl => ?_)
                refine r_goto Z 11 dX9_keptOf_96 (by decide) ?_
                exact ih11 v1 v2 t4 M ls (lv_sub hl [1, 2, 3, 0] rfl) hF
              · replace hF := nif_some hc3 hF
                refine r_iload_n Z dX9_keptOf_53 rfl (lv_at hl 1 rfl) ?_
                refine r_iload_n Z dX9_keptOf_54 rfl (lv_at hl 1 rfl) ?_
                refine r_iload Z dX9_keptOf_55 (lv_at hl 4 rfl) ?_
                refine r_ishr Z dX9_keptOf_57 ?_
                refine r_iconst (v := 1) Z dX9_keptOf_58 (by decide) ?_
                refine r_iand Z dX9_keptOf_59 ?_
                refine r_iconst (v := 1) Z dX9_keptOf_60 (by decide) ?_
                refine r_icmp_ne Z 84 dX9_keptOf_61 (by decide) (fun hc5 => ?_) (fun hc5 => ?_)
                · replace hF := nif_some hc5 hF
                  exact L84 v2 v3 v4 v1 M ls (lv_sub hl [0, 2, 3, 4] rfl) hF
                · replace hF := if_some hc5 hF
                  refine r_aload_n Z dX9_keptOf_64 rfl (lv_at hl 0 rfl) ?_
                  refine g_9_14 Z ho wm_620 dX9_keptOf_65 ?_
                  refine r_iconst (v := 4) Z dX9_keptOf_68 (by decide) ?_
                  refine r_iload_n Z dX9_keptOf_69 rfl (lv_at hl 3 rfl) ?_
                  refine r_imul Z dX9_keptOf_70 ?_
                  refine r_iload Z dX9_keptOf_71 (lv_at hl 4 rfl) ?_
                  refine r_iadd Z dX9_keptOf_73 ?_
                  obtain ⟨hi6, hF⟩ := ck_some hF
                  refine r_iaload Z (shp_lt (sh_9_14 ho) (by decide)) (fun _ _ => ce_116 (sh_9_14 ho)) hi6 dX9_keptOf_74 ?_
                  refine r_if_le Z 84 dX9_keptOf_75 (by decide) (fun hc7 => ?_) (fun hc7 => ?_)
                  · replace hF := if_some hc7 hF
                    exact L84 v2 v3 v4 v1 M ls (lv_sub hl [0, 2, 3, 4] rfl) hF
                  · replace hF := nif_some hc7 hF
                    refine r_iconst (v := 1) Z dX9_keptOf_78 (by decide) ?_
                    refine r_iload_n Z dX9_keptOf_79 rfl (lv_at hl 3 rfl) ?_
                    refine r_ishl Z dX9_keptOf_80 ?_
                    refine r_goto Z 85 dX9_keptOf_81 (by decide) ?_
                    exact L85 v2 v3 v4 v1 (1 <<< (v3 &&& 31)) M ls (lv_sub hl [0, 2, 3, 4] rfl) hF
          have L42 : ∀ (v2 : Int32) (v3 : Int32) (s0 : Int32) (s1 : Int32) (M : Mm) (ls : Array Slot), lv_has ls 5 [(0, .ref (ad o)), (2, .int v2), (3, .int v3)] → f_X9_keptOf_b42 (f_X9_keptOf_b4 o n4) (f_X9_keptOf_b11 (f_X9_keptOf_b4 o n4) o n11) o v2 v3 s0 s1 M = some q → G ad X M 42 ls [.int s1, .int s0] := by
            intro v2 v3 s0 s1 M ls hl hF
            unfold f_X9_keptOf_b42 at hF
            refine r_ior Z dX9_keptOf_42 ?_
            obtain ⟨t8, et8, hF⟩ := nm_some hF
            rw [← et8]
            refine r_istore_n Z [(1, .int t8), (0, .ref (ad o)), (2, .int v2), (3, .int v3)] dX9_keptOf_43 rfl hl (by decide) rfl (fun ls hl => ?_)
            refine r_iconst (v := 0) Z dX9_keptOf_44 (by decide) ?_
            refine r_istore Z [(4, .int 0), (1, .int t8), (0, .ref (ad o)), (2, .int v2), (3, .int v3)] dX9_keptOf_45 hl (by decide) rfl (fun ls hl => ?_)
            exact L47 _ t8 v2 v3 0 M ls (lv_sub hl [2, 1, 3, 4, 0] rfl) hF
          have L41 : ∀ (v2 : Int32) (v3 : Int32) (s0 : Int32) (M : Mm) (ls : Array Slot), lv_has ls 5 [(0, .ref (ad o)), (2, .int v2), (3, .int v3)] → f_X9_keptOf_b41 (f_X9_keptOf_b4 o n4) (f_X9_keptOf_b11 (f_X9_keptOf_b4 o n4) o n11) o v2 v3 s0 M = some q → G ad X M 41 ls [.int s0] := by
            intro v2 v3 s0 M ls hl hF
            unfold f_X9_keptOf_b41 at hF
            refine r_iconst (v := 0) Z dX9_keptOf_41 (by decide) ?_
            exact L42 v2 v3 s0 0 M ls (lv_sub hl [0, 1, 2] rfl) hF
          intro v1 v2 v3 M ls hl hF
          replace hF : f_X9_keptOf_b11B (f_X9_keptOf_b4 o n4) (f_X9_keptOf_b11 (f_X9_keptOf_b4 o n4) o n11) o v1 v2 v3 M = some q := hF
          unfold f_X9_keptOf_b11B at hF
          refine r_iload_n Z dX9_keptOf_11 rfl (lv_at hl 3 rfl) ?_
          refine r_iconst (v := 4) Z dX9_keptOf_12 (by decide) ?_
          refine r_icmp_ge Z 99 dX9_keptOf_13 (by decide) (fun hc9 => ?_) (fun hc9 => ?_)
          · replace hF := if_some hc9 hF
            obtain ⟨t10, et10, hF⟩ := nm_some hF
            refine r_iinc (j := 2) Z t10 [(2, .int t10), (0, .ref (ad o)), (1, .int v1), (3, .int v3)] dX9_keptOf_99 hl rfl (by rw [et10]; rfl) (by decide) rfl (fun ls hl => ?_)
            refine r_goto Z 4 dX9_keptOf_102 (by decide) ?_
            exact ih4 v1 t10 M ls (lv_sub hl [1, 2, 0] rfl) hF
          · replace hF := nif_some hc9 hF
            refine r_iload_n Z dX9_keptOf_16 rfl (lv_at hl 1 rfl) ?_
            refine r_aload_n Z dX9_keptOf_17 rfl (lv_at hl 0 rfl) ?_
            refine g_9_8 Z ho wm_614 dX9_keptOf_18 ?_
            refine r_iload_n Z dX9_keptOf_21 rfl (lv_at hl 3 rfl) ?_
            obtain ⟨hi11, hF⟩ := ck_some hF
            refine r_zaload Z (shp_lt (sh_9_8 ho) (by decide)) (fun _ _ => ce_2004 (sh_9_8 ho)) hi11 dX9_keptOf_22 ?_
            refine r_if_eq Z 41 dX9_keptOf_23 (by decide) (fun hc12 => ?_) (fun hc12 => ?_)
            · replace hF := if_some hc12 hF
              exact L41 v2 v3 v1 M ls (lv_sub hl [0, 2, 3] rfl) hF
            · replace hF := nif_some hc12 hF
              refine r_aload_n Z dX9_keptOf_26 rfl (lv_at hl 0 rfl) ?_
              refine r_iload_n Z dX9_keptOf_27 rfl (lv_at hl 3 rfl) ?_
              obtain ⟨q13, hq13, hF⟩ := bd_some hF
              refine r_invVi [.int v1] Z (c_X9_outOf ho hq13) cv_X9_outOf rfl (shp_lt ho (by decide)) (fun _ _ => ⟨_, ce_9 ho⟩) wm_676 rfl rfl ⟨Nat.le_of_ble_eq_true rfl, Nat.le_of_ble_eq_true rfl⟩ rfl hl.1 rfl (Nat.le_of_ble_eq_true rfl) dX9_keptOf_28 ?_
              refine r_iconst (v := 4) Z dX9_keptOf_31 (by decide) ?_
              refine r_icmp_ge Z 41 dX9_keptOf_32 (by decide) (fun hc14 => ?_) (fun hc14 => ?_)
              · replace hF := if_some hc14 hF
                exact L41 v2 v3 v1 q13.2 ls (lv_sub hl [0, 2, 3] rfl) hF
              · replace hF := nif_some hc14 hF
                refine r_iconst (v := 1) Z dX9_keptOf_35 (by decide) ?_
                refine r_iload_n Z dX9_keptOf_36 rfl (lv_at hl 3 rfl) ?_
                refine r_ishl Z dX9_keptOf_37 ?_
                refine r_goto Z 42 dX9_keptOf_38 (by decide) ?_
                exact L42 v2 v3 v1 (1 <<< (v3 &&& 31)) q13.2 ls (lv_sub hl [0, 2, 3] rfl) hF
      intro v1 v2 M ls hl hF
      replace hF : f_X9_keptOf_b4B (f_X9_keptOf_b4 o n4) o v1 v2 M = some q := hF
      unfold f_X9_keptOf_b4B at hF
      refine r_iload_n Z dX9_keptOf_4 rfl (lv_at hl 2 rfl) ?_
      refine r_iconst (v := 4) Z dX9_keptOf_5 (by decide) ?_
      refine r_icmp_gt Z 105 dX9_keptOf_6 (by decide) (fun hc15 => ?_) (fun hc15 => ?_)
      · replace hF := if_some hc15 hF
        refine r_aload_n Z dX9_keptOf_105 rfl (lv_at hl 0 rfl) ?_
        obtain ⟨q16, hq16, hF⟩ := bd_some hF
        refine r_invVi [] Z (c_X9_reached ho hq16) cv_X9_reached rfl (shp_lt ho (by decide)) (fun _ _ => ⟨_, ce_9 ho⟩) wm_698 rfl rfl ⟨Nat.le_of_ble_eq_true rfl, Nat.le_of_ble_eq_true rfl⟩ rfl hl.1 rfl (Nat.le_of_ble_eq_true rfl) dX9_keptOf_106 ?_
        refine r_iload_n Z dX9_keptOf_109 rfl (lv_at hl 1 rfl) ?_
        refine r_iconst (v := (-1)) Z dX9_keptOf_110 (by decide) ?_
        refine r_ixor Z dX9_keptOf_111 ?_
        refine r_iand Z dX9_keptOf_112 ?_
        exact r_iret Z hQ hF dX9_keptOf_113
      · replace hF := nif_some hc15 hF
        refine r_iconst (v := 0) Z dX9_keptOf_9 (by decide) ?_
        refine r_istore_n Z [(3, .int 0), (0, .ref (ad o)), (1, .int v1), (2, .int v2)] dX9_keptOf_10 rfl hl (by decide) rfl (fun ls hl => ?_)
        exact L11 _ v1 v2 0 M ls (lv_sub hl [1, 2, 3, 0] rfl) hF
  unfold f_X9_keptOf at hF
  refine r_iconst (v := 0) Z dX9_keptOf_0 (by decide) ?_
  refine r_istore_n Z [(1, .int 0), (0, .ref (ad o))] dX9_keptOf_1 rfl hl (by decide) rfl (fun ls hl => ?_)
  refine r_iconst (v := 0) Z dX9_keptOf_2 (by decide) ?_
  refine r_istore_n Z [(2, .int 0), (1, .int 0), (0, .ref (ad o))] dX9_keptOf_3 rfl hl (by decide) rfl (fun ls hl => ?_)
  exact L4 _ 0 0 M ls (lv_sub hl [2, 1, 0] rfl) hF

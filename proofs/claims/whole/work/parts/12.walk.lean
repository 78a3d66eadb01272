theorem dX3_serve_0 : decode cX3_serve 0 = .ok (.aload_n 0, 1) := by decide +kernel
theorem dX3_serve_1 : decode cX3_serve 1 = .ok (.getfield 16, 3) := by decide +kernel
theorem dX3_serve_4 : decode cX3_serve 4 = .ok (.ifCond .eq 18, 3) := by decide +kernel
theorem dX3_serve_7 : decode cX3_serve 7 = .ok (.aload_n 0, 1) := by decide +kernel
theorem dX3_serve_8 : decode cX3_serve 8 = .ok (.getfield 13, 3) := by decide +kernel
theorem dX3_serve_11 : decode cX3_serve 11 = .ok (.aload_n 0, 1) := by decide +kernel
theorem dX3_serve_12 : decode cX3_serve 12 = .ok (.getfield 7, 3) := by decide +kernel
theorem dX3_serve_15 : decode cX3_serve 15 = .ok (.if_icmp .ge 7, 3) := by decide +kernel
theorem dX3_serve_18 : decode cX3_serve 18 = .ok (.iconst 1, 1) := by decide +kernel
theorem dX3_serve_19 : decode cX3_serve 19 = .ok (.goto 4, 3) := by decide +kernel
theorem dX3_serve_22 : decode cX3_serve 22 = .ok (.iconst 0, 1) := by decide +kernel
theorem dX3_serve_23 : decode cX3_serve 23 = .ok (.istore_n 3, 1) := by decide +kernel
theorem dX3_serve_24 : decode cX3_serve 24 = .ok (.iload_n 1, 1) := by decide +kernel
theorem dX3_serve_25 : decode cX3_serve 25 = .ok (.iload_n 3, 1) := by decide +kernel
theorem dX3_serve_26 : decode cX3_serve 26 = .ok (.ifCond .eq 10, 3) := by decide +kernel
theorem dX3_serve_29 : decode cX3_serve 29 = .ok (.aload_n 0, 1) := by decide +kernel
theorem dX3_serve_30 : decode cX3_serve 30 = .ok (.getfield 13, 3) := by decide +kernel
theorem dX3_serve_33 : decode cX3_serve 33 = .ok (.goto 7, 3) := by decide +kernel
theorem dX3_serve_36 : decode cX3_serve 36 = .ok (.aload_n 0, 1) := by decide +kernel
theorem dX3_serve_37 : decode cX3_serve 37 = .ok (.getfield 7, 3) := by decide +kernel
theorem dX3_serve_40 : decode cX3_serve 40 = .ok (.invokestatic 20, 3) := by decide +kernel
theorem dX3_serve_43 : decode cX3_serve 43 = .ok (.istore 4, 2) := by decide +kernel
theorem dX3_serve_45 : decode cX3_serve 45 = .ok (.iload_n 3, 1) := by decide +kernel
theorem dX3_serve_46 : decode cX3_serve 46 = .ok (.ifCond .eq 14, 3) := by decide +kernel
theorem dX3_serve_49 : decode cX3_serve 49 = .ok (.aload_n 0, 1) := by decide +kernel
theorem dX3_serve_50 : decode cX3_serve 50 = .ok (.iload 4, 2) := by decide +kernel
theorem dX3_serve_52 : decode cX3_serve 52 = .ok (.iload_n 2, 1) := by decide +kernel
theorem dX3_serve_53 : decode cX3_serve 53 = .ok (.iadd, 1) := by decide +kernel
theorem dX3_serve_54 : decode cX3_serve 54 = .ok (.putfield 13, 3) := by decide +kernel
theorem dX3_serve_57 : decode cX3_serve 57 = .ok (.goto 11, 3) := by decide +kernel
theorem dX3_serve_60 : decode cX3_serve 60 = .ok (.aload_n 0, 1) := by decide +kernel
theorem dX3_serve_61 : decode cX3_serve 61 = .ok (.iload 4, 2) := by decide +kernel
theorem dX3_serve_63 : decode cX3_serve 63 = .ok (.iload_n 2, 1) := by decide +kernel
theorem dX3_serve_64 : decode cX3_serve 64 = .ok (.iadd, 1) := by decide +kernel
theorem dX3_serve_65 : decode cX3_serve 65 = .ok (.putfield 7, 3) := by decide +kernel
theorem dX3_serve_68 : decode cX3_serve 68 = .ok (.iload 4, 2) := by decide +kernel
theorem dX3_serve_70 : decode cX3_serve 70 = .ok (.iload_n 1, 1) := by decide +kernel
theorem dX3_serve_71 : decode cX3_serve 71 = .ok (.isub, 1) := by decide +kernel
theorem dX3_serve_72 : decode cX3_serve 72 = .ok (.ireturn, 1) := by decide +kernel
theorem cv_X3_serve : wn_cV yX3_serve cX3_serve 5 (some .int) RX3 2 := ⟨wm_148, wm_576, wm_577, wm_359, by decide +kernel⟩
abbrev rm_X3_serve : Room := rmz 1 13
set_option maxHeartbeats 4000000 in
set_option maxRecDepth 100000 in
theorem c_X3_serve {ad : Nat → Nat} {o : Nat} {x1 : Int32} {x2 : Int32} {M : Mm} {q : Int32 × Mm} (ho : shp o = 3) (hF : f_X3_serve o x1 x2 M = some q) : KI ad yX3_serve cX3_serve 5 (some .int) rm_X3_serve [.ref (ad o), .int x1, .int x2] M q.1 q.2 := by
  refine wn_enterI (own := RX3) (by decide) rfl (Nat.le_of_ble_eq_true rfl) (fun X ls Z hQ hl => ?_)
  have hl : lv_has ls 5 [(0, .ref (ad o)), (1, .int x1), (2, .int x2)] := hl
  have L40 : ∀ (v1 : Int32) (v2 : Int32) (v3 : Int32) (s0 : Int32) (s1 : Int32) (M : Mm) (ls : Array Slot), lv_has ls 5 [(0, .ref (ad o)), (1, .int v1), (2, .int v2), (3, .int v3)] → f_X3_serve_b40 o v1 v2 v3 s0 s1 M = some q → G ad X M 40 ls [.int s1, .int s0] := by
    intro v1 v2 v3 s0 s1 M ls hl hF
    unfold f_X3_serve_b40 at hF
    refine r_mmax Z wm_149 wm_150 wm_66 wm_151 (Nat.le_of_ble_eq_true rfl) (Nat.le_of_ble_eq_true rfl) hl.1 dX3_serve_40 ?_
    obtain ⟨t1, et1, hF⟩ := nm_some hF
    rw [← et1]
    refine r_istore Z [(4, .int t1), (0, .ref (ad o)), (1, .int v1), (2, .int v2), (3, .int v3)] dX3_serve_43 hl (by decide) rfl (fun ls hl => ?_)
    refine r_iload_n Z dX3_serve_45 rfl (lv_at hl 4 rfl) ?_
    refine r_if_eq Z 60 dX3_serve_46 (by decide) (fun hc2 => ?_) (fun hc2 => ?_)
    · replace hF := if_some hc2 hF
      refine r_aload_n Z dX3_serve_60 rfl (lv_at hl 1 rfl) ?_
      refine r_iload Z dX3_serve_61 (lv_at hl 0 rfl) ?_
      refine r_iload_n Z dX3_serve_63 rfl (lv_at hl 3 rfl) ?_
      refine r_iadd Z dX3_serve_64 ?_
      obtain ⟨M3, eM3, hF⟩ := nm_some hF
      refine p_3_0 Z ho wm_144 dX3_serve_65 ?_
      rw [← eM3]
      refine r_iload Z dX3_serve_68 (lv_at hl 0 rfl) ?_
      refine r_iload_n Z dX3_serve_70 rfl (lv_at hl 2 rfl) ?_
      refine r_isub Z dX3_serve_71 ?_
      exact r_iret Z hQ hF dX3_serve_72
    · replace hF := nif_some hc2 hF
      refine r_aload_n Z dX3_serve_49 rfl (lv_at hl 1 rfl) ?_
      refine r_iload Z dX3_serve_50 (lv_at hl 0 rfl) ?_
      refine r_iload_n Z dX3_serve_52 rfl (lv_at hl 3 rfl) ?_
      refine r_iadd Z dX3_serve_53 ?_
      obtain ⟨M4, eM4, hF⟩ := nm_some hF
      refine p_3_1 Z ho wm_145 dX3_serve_54 ?_
      rw [← eM4]
      refine r_goto Z 68 dX3_serve_57 (by decide) ?_
      refine r_iload Z dX3_serve_68 (lv_at hl 0 rfl) ?_
      refine r_iload_n Z dX3_serve_70 rfl (lv_at hl 2 rfl) ?_
      refine r_isub Z dX3_serve_71 ?_
      exact r_iret Z hQ hF dX3_serve_72
  have L23 : ∀ (v1 : Int32) (v2 : Int32) (s0 : Int32) (M : Mm) (ls : Array Slot), lv_has ls 5 [(0, .ref (ad o)), (1, .int v1), (2, .int v2)] → f_X3_serve_b23 o v1 v2 s0 M = some q → G ad X M 23 ls [.int s0] := by
    intro v1 v2 s0 M ls hl hF
    unfold f_X3_serve_b23 at hF
    refine r_istore_n Z [(3, .int s0), (0, .ref (ad o)), (1, .int v1), (2, .int v2)] dX3_serve_23 rfl hl (by decide) rfl (fun ls hl => ?_)
    refine r_iload_n Z dX3_serve_24 rfl (lv_at hl 2 rfl) ?_
    refine r_iload_n Z dX3_serve_25 rfl (lv_at hl 0 rfl) ?_
    refine r_if_eq Z 36 dX3_serve_26 (by decide) (fun hc5 => ?_) (fun hc5 => ?_)
    · replace hF := if_some hc5 hF
      refine r_aload_n Z dX3_serve_36 rfl (lv_at hl 1 rfl) ?_
      refine g_3_0 Z ho wm_144 dX3_serve_37 ?_
      exact L40 v1 v2 s0 v1 (mI M o 0) M ls (lv_sub hl [1, 2, 3, 0] rfl) hF
    · replace hF := nif_some hc5 hF
      refine r_aload_n Z dX3_serve_29 rfl (lv_at hl 1 rfl) ?_
      refine g_3_1 Z ho wm_145 dX3_serve_30 ?_
      refine r_goto Z 40 dX3_serve_33 (by decide) ?_
      exact L40 v1 v2 s0 v1 (mI M o 1) M ls (lv_sub hl [1, 2, 3, 0] rfl) hF
  have L22 : ∀ (v1 : Int32) (v2 : Int32) (M : Mm) (ls : Array Slot), lv_has ls 5 [(0, .ref (ad o)), (1, .int v1), (2, .int v2)] → f_X3_serve_b22 o v1 v2 M = some q → G ad X M 22 ls [] := by
    intro v1 v2 M ls hl hF
    unfold f_X3_serve_b22 at hF
    refine r_iconst (v := 0) Z dX3_serve_22 (by decide) ?_
    exact L23 v1 v2 0 M ls (lv_sub hl [0, 1, 2] rfl) hF
  unfold f_X3_serve at hF
  refine r_aload_n Z dX3_serve_0 rfl (lv_at hl 0 rfl) ?_
  refine g_3_2 Z ho wm_146 dX3_serve_1 ?_
  refine r_if_eq Z 22 dX3_serve_4 (by decide) (fun hc6 => ?_) (fun hc6 => ?_)
  · replace hF := if_some hc6 hF
    exact L22 x1 x2 M ls (lv_sub hl [0, 1, 2] rfl) hF
  · replace hF := nif_some hc6 hF
    refine r_aload_n Z dX3_serve_7 rfl (lv_at hl 0 rfl) ?_
    refine g_3_1 Z ho wm_145 dX3_serve_8 ?_
    refine r_aload_n Z dX3_serve_11 rfl (lv_at hl 0 rfl) ?_
    refine g_3_0 Z ho wm_144 dX3_serve_12 ?_
    refine r_icmp_ge Z 22 dX3_serve_15 (by decide) (fun hc7 => ?_) (fun hc7 => ?_)
    · replace hF := if_some hc7 hF
      exact L22 x1 x2 M ls (lv_sub hl [0, 1, 2] rfl) hF
    · replace hF := nif_some hc7 hF
      refine r_iconst (v := 1) Z dX3_serve_18 (by decide) ?_
      refine r_goto Z 23 dX3_serve_19 (by decide) ?_
      exact L23 x1 x2 1 M ls (lv_sub hl [0, 1, 2] rfl) hF
theorem dX4_has_0 : decode cX4_has 0 = .ok (.iload_n 1, 1) := by decide +kernel
theorem dX4_has_1 : decode cX4_has 1 = .ok (.ifCond .lt 24, 3) := by decide +kernel
theorem dX4_has_4 : decode cX4_has 4 = .ok (.iload_n 1, 1) := by decide +kernel
theorem dX4_has_5 : decode cX4_has 5 = .ok (.iconst 4, 1) := by decide +kernel
theorem dX4_has_6 : decode cX4_has 6 = .ok (.if_icmp .ge 19, 3) := by decide +kernel
theorem dX4_has_9 : decode cX4_has 9 = .ok (.aload_n 0, 1) := by decide +kernel
theorem dX4_has_10 : decode cX4_has 10 = .ok (.getfield 11, 3) := by decide +kernel
theorem dX4_has_13 : decode cX4_has 13 = .ok (.iload_n 1, 1) := by decide +kernel
theorem dX4_has_14 : decode cX4_has 14 = .ok (.aaload, 1) := by decide +kernel
theorem dX4_has_15 : decode cX4_has 15 = .ok (.invokevirtual 42, 3) := by decide +kernel
theorem dX4_has_18 : decode cX4_has 18 = .ok (.ifCond .eq 7, 3) := by decide +kernel
theorem dX4_has_21 : decode cX4_has 21 = .ok (.iconst 1, 1) := by decide +kernel
theorem dX4_has_22 : decode cX4_has 22 = .ok (.goto 4, 3) := by decide +kernel
theorem dX4_has_25 : decode cX4_has 25 = .ok (.iconst 0, 1) := by decide +kernel
theorem dX4_has_26 : decode cX4_has 26 = .ok (.ireturn, 1) := by decide +kernel
theorem cv_X4_has : wn_cV yX4_has cX4_has 2 (some .boolean) RX4 1 := ⟨wm_169, wm_178, wm_179, wm_180, by decide +kernel⟩
abbrev rm_X4_has : Room := rmz 1 20
set_option maxHeartbeats 4000000 in
set_option maxRecDepth 100000 in
theorem c_X4_has {ad : Nat → Nat} {o : Nat} {x1 : Int32} {M : Mm} {q : Int32 × Mm} (ho : shp o = 4) (hF : f_X4_has o x1 M = some q) : KI ad yX4_has cX4_has 2 (some .boolean) rm_X4_has [.ref (ad o), .int x1] M q.1 q.2 := by
  refine wn_enterI (own := RX4) (by decide) rfl (Nat.le_of_ble_eq_true rfl) (fun X ls Z hQ hl => ?_)
  have hl : lv_has ls 2 [(0, .ref (ad o)), (1, .int x1)] := hl
  unfold f_X4_has at hF
  refine r_iload_n Z dX4_has_0 rfl (lv_at hl 1 rfl) ?_
  refine r_if_lt Z 25 dX4_has_1 (by decide) (fun hc1 => ?_) (fun hc1 => ?_)
  · replace hF := if_some hc1 hF
    refine r_iconst (v := 0) Z dX4_has_25 (by decide) ?_
    exact r_zret Z hQ (by decide) hF dX4_has_26
  · replace hF := nif_some hc1 hF
    refine r_iload_n Z dX4_has_4 rfl (lv_at hl 1 rfl) ?_
    refine r_iconst (v := 4) Z dX4_has_5 (by decide) ?_
    refine r_icmp_ge Z 25 dX4_has_6 (by decide) (fun hc2 => ?_) (fun hc2 => ?_)
    · replace hF := if_some hc2 hF
      refine r_iconst (v := 0) Z dX4_has_25 (by decide) ?_
      exact r_zret Z hQ (by decide) hF dX4_has_26
    · replace hF := nif_some hc2 hF
      refine r_aload_n Z dX4_has_9 rfl (lv_at hl 0 rfl) ?_
      refine g_4_0 Z ho wm_154 dX4_has_10 ?_
      refine r_iload_n Z dX4_has_13 rfl (lv_at hl 1 rfl) ?_
      obtain ⟨hi3, hF⟩ := ck_some hF
      refine r_aald13 Z (sh_4_0 ho) hi3 dX4_has_14 ?_
      obtain ⟨q4, hq4, hF⟩ := bd_some hF
      refine r_invVi [] Z (c_X1_isThere (se_13 (sh_4_0 ho) hi3) hq4) cv_X1_isThere rfl (shp_lt (se_13 (sh_4_0 ho) hi3) (by decide)) (fun _ _ => ⟨_, ce_1 (se_13 (sh_4_0 ho) hi3)⟩) wm_170 rfl rfl ⟨Nat.le_of_ble_eq_true rfl, Nat.le_of_ble_eq_true rfl⟩ rfl hl.1 rfl (Nat.le_of_ble_eq_true rfl) dX4_has_15 ?_
      refine r_if_eq Z 25 dX4_has_18 (by decide) (fun hc5 => ?_) (fun hc5 => ?_)
      · replace hF := if_some hc5 hF
        refine r_iconst (v := 0) Z dX4_has_25 (by decide) ?_
        exact r_zret Z hQ (by decide) hF dX4_has_26
      · replace hF := nif_some hc5 hF
        refine r_iconst (v := 1) Z dX4_has_21 (by decide) ?_
        refine r_goto Z 26 dX4_has_22 (by decide) ?_
        exact r_zret Z hQ (by decide) hF dX4_has_26
theorem dX4_bitsReached_0 : decode cX4_bitsReached 0 = .ok (.iconst 0, 1) := by decide +kernel
theorem dX4_bitsReached_1 : decode cX4_bitsReached 1 = .ok (.istore_n 1, 1) := by decide +kernel
theorem dX4_bitsReached_2 : decode cX4_bitsReached 2 = .ok (.iconst 0, 1) := by decide +kernel
theorem dX4_bitsReached_3 : decode cX4_bitsReached 3 = .ok (.istore_n 2, 1) := by decide +kernel
theorem dX4_bitsReached_4 : decode cX4_bitsReached 4 = .ok (.iload_n 2, 1) := by decide +kernel
theorem dX4_bitsReached_5 : decode cX4_bitsReached 5 = .ok (.iconst 4, 1) := by decide +kernel
theorem dX4_bitsReached_6 : decode cX4_bitsReached 6 = .ok (.if_icmp .ge 35, 3) := by decide +kernel
theorem dX4_bitsReached_9 : decode cX4_bitsReached 9 = .ok (.aload_n 0, 1) := by decide +kernel
theorem dX4_bitsReached_10 : decode cX4_bitsReached 10 = .ok (.iload_n 2, 1) := by decide +kernel
theorem dX4_bitsReached_11 : decode cX4_bitsReached 11 = .ok (.invokevirtual 54, 3) := by decide +kernel
theorem dX4_bitsReached_14 : decode cX4_bitsReached 14 = .ok (.ifCond .eq 21, 3) := by decide +kernel
theorem dX4_bitsReached_17 : decode cX4_bitsReached 17 = .ok (.aload_n 0, 1) := by decide +kernel
theorem dX4_bitsReached_18 : decode cX4_bitsReached 18 = .ok (.getfield 11, 3) := by decide +kernel
theorem dX4_bitsReached_21 : decode cX4_bitsReached 21 = .ok (.iload_n 2, 1) := by decide +kernel
theorem dX4_bitsReached_22 : decode cX4_bitsReached 22 = .ok (.aaload, 1) := by decide +kernel
theorem dX4_bitsReached_23 : decode cX4_bitsReached 23 = .ok (.getfield 79, 3) := by decide +kernel
theorem dX4_bitsReached_26 : decode cX4_bitsReached 26 = .ok (.ifCond .le 9, 3) := by decide +kernel
theorem dX4_bitsReached_29 : decode cX4_bitsReached 29 = .ok (.iload_n 1, 1) := by decide +kernel
theorem dX4_bitsReached_30 : decode cX4_bitsReached 30 = .ok (.iconst 1, 1) := by decide +kernel
theorem dX4_bitsReached_31 : decode cX4_bitsReached 31 = .ok (.iload_n 2, 1) := by decide +kernel
theorem dX4_bitsReached_32 : decode cX4_bitsReached 32 = .ok (.ishl, 1) := by decide +kernel
theorem dX4_bitsReached_33 : decode cX4_bitsReached 33 = .ok (.ior, 1) := by decide +kernel
theorem dX4_bitsReached_34 : decode cX4_bitsReached 34 = .ok (.istore_n 1, 1) := by decide +kernel
theorem dX4_bitsReached_35 : decode cX4_bitsReached 35 = .ok (.iinc 2 1, 3) := by decide +kernel
theorem dX4_bitsReached_38 : decode cX4_bitsReached 38 = .ok (.goto (-34), 3) := by decide +kernel
theorem dX4_bitsReached_41 : decode cX4_bitsReached 41 = .ok (.aload_n 0, 1) := by decide +kernel
theorem dX4_bitsReached_42 : decode cX4_bitsReached 42 = .ok (.getfield 20, 3) := by decide +kernel
theorem dX4_bitsReached_45 : decode cX4_bitsReached 45 = .ok (.iload_n 1, 1) := by decide +kernel
theorem dX4_bitsReached_46 : decode cX4_bitsReached 46 = .ok (.invokevirtual 82, 3) := by decide +kernel
theorem dX4_bitsReached_49 : decode cX4_bitsReached 49 = .ok (.ireturn, 1) := by decide +kernel
theorem cv_X4_bitsReached : wn_cV yX4_bitsReached cX4_bitsReached 3 (some .int) RX4 0 := ⟨wm_194, wm_202, wm_203, wm_180, by decide +kernel⟩
abbrev rm_X4_bitsReached : Room := rmz 2 41
set_option maxHeartbeats 4000000 in
set_option maxRecDepth 100000 in
theorem c_X4_bitsReached {ad : Nat → Nat} {o : Nat} {M : Mm} {q : Int32 × Mm} (ho : shp o = 4) (hF : f_X4_bitsReached o M = some q) : KI ad yX4_bitsReached cX4_bitsReached 3 (some .int) rm_X4_bitsReached [.ref (ad o)] M q.1 q.2 := by
  refine wn_enterI (own := RX4) (by decide) rfl (Nat.le_of_ble_eq_true rfl) (fun X ls Z hQ hl => ?_)
  have hl : lv_has ls 3 [(0, .ref (ad o))] := hl
  have L4 : ∀ (n4 : Nat) (v1 : Int32) (v2 : Int32) (M : Mm) (ls : Array Slot), lv_has ls 3 [(0, .ref (ad o)), (1, .int v1), (2, .int v2)] → f_X4_bitsReached_b4 o n4 v1 v2 M = some q → G ad X M 4 ls [] := by
    intro n4
    induction n4 with
    | zero =>
      intro v1 v2 M ls hl hF
      cases hF
    | succ n4 ih4 =>
      intro v1 v2 M ls hl hF
      replace hF : f_X4_bitsReached_b4B (f_X4_bitsReached_b4 o n4) o v1 v2 M = some q := hF
      unfold f_X4_bitsReached_b4B at hF
      refine r_iload_n Z dX4_bitsReached_4 rfl (lv_at hl 2 rfl) ?_
      refine r_iconst (v := 4) Z dX4_bitsReached_5 (by decide) ?_
      refine r_icmp_ge Z 41 dX4_bitsReached_6 (by decide) (fun hc1 => ?_) (fun hc1 => ?_)
      · replace hF := if_some hc1 hF
        refine r_aload_n Z dX4_bitsReached_41 rfl (lv_at hl 0 rfl) ?_
        refine g_4_1 Z ho wm_157 dX4_bitsReached_42 ?_
        refine r_iload_n Z dX4_bitsReached_45 rfl (lv_at hl 1 rfl) ?_
        obtain ⟨q2, hq2, hF⟩ := bd_some hF
        refine r_invVi [] Z (c_X0_reachedFrom (sh_4_1 ho) hq2) cv_X0_reachedFrom rfl (shp_lt (sh_4_1 ho) (by decide)) (fun _ _ => ⟨_, ce_0 (sh_4_1 ho)⟩) wm_196 rfl rfl ⟨Nat.le_of_ble_eq_true rfl, Nat.le_of_ble_eq_true rfl⟩ rfl hl.1 rfl (Nat.le_of_ble_eq_true rfl) dX4_bitsReached_46 ?_
        exact r_iret Z hQ hF dX4_bitsReached_49
      · replace hF := nif_some hc1 hF
        refine r_aload_n Z dX4_bitsReached_9 rfl (lv_at hl 0 rfl) ?_
        refine r_iload_n Z dX4_bitsReached_10 rfl (lv_at hl 2 rfl) ?_
        obtain ⟨q3, hq3, hF⟩ := bd_some hF
        refine r_invVi [] Z (c_X4_has ho hq3) cv_X4_has rfl (shp_lt ho (by decide)) (fun _ _ => ⟨_, ce_4 ho⟩) wm_177 rfl rfl ⟨Nat.le_of_ble_eq_true rfl, Nat.le_of_ble_eq_true rfl⟩ rfl hl.1 rfl (Nat.le_of_ble_eq_true rfl) dX4_bitsReached_11 ?_
        refine r_if_eq Z 35 dX4_bitsReached_14 (by decide) (fun hc4 => ?_) (fun hc4 => ?_)
        · replace hF := if_some hc4 hF
          obtain ⟨t5, et5, hF⟩ := nm_some hF
          refine r_iinc (j := 2) Z t5 [(2, .int t5), (0, .ref (ad o)), (1, .int v1)] dX4_bitsReached_35 hl rfl (by rw [et5]; rfl) (by decide) rfl (fun ls hl => ?_)
          refine r_goto Z 4 dX4_bitsReached_38 (by decide) ?_
          exact ih4 v1 t5 q3.2 ls (lv_sub hl [1, 2, 0] rfl) hF
        · replace hF := nif_some hc4 hF
          refine r_aload_n Z dX4_bitsReached_17 rfl (lv_at hl 0 rfl) ?_
          refine g_4_0 Z ho wm_154 dX4_bitsReached_18 ?_
          refine r_iload_n Z dX4_bitsReached_21 rfl (lv_at hl 2 rfl) ?_
          obtain ⟨hi6, hF⟩ := ck_some hF
          refine r_aald13 Z (sh_4_0 ho) hi6 dX4_bitsReached_22 ?_
          refine g_1_5 Z (se_13 (sh_4_0 ho) hi6) wm_195 dX4_bitsReached_23 ?_
          refine r_if_le Z 35 dX4_bitsReached_26 (by decide) (fun hc7 => ?_) (fun hc7 => ?_)
          · replace hF := if_some hc7 hF
            obtain ⟨t8, et8, hF⟩ := nm_some hF
            refine r_iinc (j := 2) Z t8 [(2, .int t8), (0, .ref (ad o)), (1, .int v1)] dX4_bitsReached_35 hl rfl (by rw [et8]; rfl) (by decide) rfl (fun ls hl => ?_)
            refine r_goto Z 4 dX4_bitsReached_38 (by decide) ?_
            exact ih4 v1 t8 q3.2 ls (lv_sub hl [1, 2, 0] rfl) hF
          · replace hF := nif_some hc7 hF
            refine r_iload_n Z dX4_bitsReached_29 rfl (lv_at hl 1 rfl) ?_
            refine r_iconst (v := 1) Z dX4_bitsReached_30 (by decide) ?_
            refine r_iload_n Z dX4_bitsReached_31 rfl (lv_at hl 2 rfl) ?_
            refine r_ishl Z dX4_bitsReached_32 ?_
            refine r_ior Z dX4_bitsReached_33 ?_
            obtain ⟨t9, et9, hF⟩ := nm_some hF
            rw [← et9]
            refine r_istore_n Z [(1, .int t9), (0, .ref (ad o)), (2, .int v2)] dX4_bitsReached_34 rfl hl (by decide) rfl (fun ls hl => ?_)
            obtain ⟨t10, et10, hF⟩ := nm_some hF
            refine r_iinc (j := 2) Z t10 [(2, .int t10), (1, .int t9), (0, .ref (ad o))] dX4_bitsReached_35 hl rfl (by rw [et10]; rfl) (by decide) rfl (fun ls hl => ?_)
            refine r_goto Z 4 dX4_bitsReached_38 (by decide) ?_
            exact ih4 t9 t10 q3.2 ls (lv_sub hl [2, 1, 0] rfl) hF
  unfold f_X4_bitsReached at hF
  refine r_iconst (v := 0) Z dX4_bitsReached_0 (by decide) ?_
  refine r_istore_n Z [(1, .int 0), (0, .ref (ad o))] dX4_bitsReached_1 rfl hl (by decide) rfl (fun ls hl => ?_)
  refine r_iconst (v := 0) Z dX4_bitsReached_2 (by decide) ?_
  refine r_istore_n Z [(2, .int 0), (1, .int 0), (0, .ref (ad o))] dX4_bitsReached_3 rfl hl (by decide) rfl (fun ls hl => ?_)
  exact L4 _ 0 0 M ls (lv_sub hl [2, 1, 0] rfl) hF
theorem dX4_bitsThere_0 : decode cX4_bitsThere 0 = .ok (.iconst 0, 1) := by decide +kernel
theorem dX4_bitsThere_1 : decode cX4_bitsThere 1 = .ok (.istore_n 1, 1) := by decide +kernel
theorem dX4_bitsThere_2 : decode cX4_bitsThere 2 = .ok (.iconst 0, 1) := by decide +kernel
theorem dX4_bitsThere_3 : decode cX4_bitsThere 3 = .ok (.istore_n 2, 1) := by decide +kernel
theorem dX4_bitsThere_4 : decode cX4_bitsThere 4 = .ok (.iload_n 2, 1) := by decide +kernel
theorem dX4_bitsThere_5 : decode cX4_bitsThere 5 = .ok (.iconst 4, 1) := by decide +kernel
theorem dX4_bitsThere_6 : decode cX4_bitsThere 6 = .ok (.if_icmp .ge 23, 3) := by decide +kernel
theorem dX4_bitsThere_9 : decode cX4_bitsThere 9 = .ok (.aload_n 0, 1) := by decide +kernel
theorem dX4_bitsThere_10 : decode cX4_bitsThere 10 = .ok (.iload_n 2, 1) := by decide +kernel
theorem dX4_bitsThere_11 : decode cX4_bitsThere 11 = .ok (.invokevirtual 54, 3) := by decide +kernel
theorem dX4_bitsThere_14 : decode cX4_bitsThere 14 = .ok (.ifCond .eq 9, 3) := by decide +kernel
theorem dX4_bitsThere_17 : decode cX4_bitsThere 17 = .ok (.iload_n 1, 1) := by decide +kernel
theorem dX4_bitsThere_18 : decode cX4_bitsThere 18 = .ok (.iconst 1, 1) := by decide +kernel
theorem dX4_bitsThere_19 : decode cX4_bitsThere 19 = .ok (.iload_n 2, 1) := by decide +kernel
theorem dX4_bitsThere_20 : decode cX4_bitsThere 20 = .ok (.ishl, 1) := by decide +kernel
theorem dX4_bitsThere_21 : decode cX4_bitsThere 21 = .ok (.ior, 1) := by decide +kernel
theorem dX4_bitsThere_22 : decode cX4_bitsThere 22 = .ok (.istore_n 1, 1) := by decide +kernel
theorem dX4_bitsThere_23 : decode cX4_bitsThere 23 = .ok (.iinc 2 1, 3) := by decide +kernel
theorem dX4_bitsThere_26 : decode cX4_bitsThere 26 = .ok (.goto (-22), 3) := by decide +kernel
theorem dX4_bitsThere_29 : decode cX4_bitsThere 29 = .ok (.iload_n 1, 1) := by decide +kernel
theorem dX4_bitsThere_30 : decode cX4_bitsThere 30 = .ok (.ireturn, 1) := by decide +kernel
theorem cv_X4_bitsThere : wn_cV yX4_bitsThere cX4_bitsThere 3 (some .int) RX4 0 := ⟨wm_176, wm_223, wm_224, wm_180, by decide +kernel⟩
abbrev rm_X4_bitsThere : Room := rmz 2 41
set_option maxHeartbeats 4000000 in
set_option maxRecDepth 100000 in
theorem c_X4_bitsThere {ad : Nat → Nat} {o : Nat} {M : Mm} {q : Int32 × Mm} (ho : shp o = 4) (hF : f_X4_bitsThere o M = some q) : KI ad yX4_bitsThere cX4_bitsThere 3 (some .int) rm_X4_bitsThere [.ref (ad o)] M q.1 q.2 := by
  refine wn_enterI (own := RX4) (by decide) rfl (Nat.le_of_ble_eq_true rfl) (fun X ls Z hQ hl => ?_)
  have hl : lv_has ls 3 [(0, .ref (ad o))] := hl
  have L4 : ∀ (n4 : Nat) (v1 : Int32) (v2 : Int32) (M : Mm) (ls : Array Slot), lv_has ls 3 [(0, .ref (ad o)), (1, .int v1), (2, .int v2)] → f_X4_bitsThere_b4 o n4 v1 v2 M = some q → G ad X M 4 ls [] := by
    intro n4
    induction n4 with
    | zero =>
      intro v1 v2 M ls hl hF
      cases hF
    | succ n4 ih4 =>
      intro v1 v2 M ls hl hF
      replace hF : f_X4_bitsThere_b4B (f_X4_bitsThere_b4 o n4) o v1 v2 M = some q := hF
      unfold f_X4_bitsThere_b4B at hF
      refine r_iload_n Z dX4_bitsThere_4 rfl (lv_at hl 2 rfl) ?_
      refine r_iconst (v := 4) Z dX4_bitsThere_5 (by decide) ?_
      refine r_icmp_ge Z 29 dX4_bitsThere_6 (by decide) (fun hc1 => ?_) (fun hc1 => ?_)
      · replace hF := if_some hc1 hF
        refine r_iload_n Z dX4_bitsThere_29 rfl (lv_at hl 1 rfl) ?_
        exact r_iret Z hQ hF dX4_bitsThere_30
      · replace hF := nif_some hc1 hF
        refine r_aload_n Z dX4_bitsThere_9 rfl (lv_at hl 0 rfl) ?_
        refine r_iload_n Z dX4_bitsThere_10 rfl (lv_at hl 2 rfl) ?_
        obtain ⟨q2, hq2, hF⟩ := bd_some hF
        refine r_invVi [] Z (c_X4_has ho hq2) cv_X4_has rfl (shp_lt ho (by decide)) (fun _ _ => ⟨_, ce_4 ho⟩) wm_177 rfl rfl ⟨Nat.le_of_ble_eq_true rfl, Nat.le_of_ble_eq_true rfl⟩ rfl hl.1 rfl (Nat.le_of_ble_eq_true rfl) dX4_bitsThere_11 ?_
        refine r_if_eq Z 23 dX4_bitsThere_14 (by decide) (fun hc3 => ?_) (fun hc3 => ?_)
        · replace hF := if_some hc3 hF
          obtain ⟨t4, et4, hF⟩ := nm_some hF
          refine r_iinc (j := 2) Z t4 [(2, .int t4), (0, .ref (ad o)), (1, .int v1)] dX4_bitsThere_23 hl rfl (by rw [et4]; rfl) (by decide) rfl (fun ls hl => ?_)
          refine r_goto Z 4 dX4_bitsThere_26 (by decide) ?_
          exact ih4 v1 t4 q2.2 ls (lv_sub hl [1, 2, 0] rfl) hF
        · replace hF := nif_some hc3 hF
          refine r_iload_n Z dX4_bitsThere_17 rfl (lv_at hl 1 rfl) ?_
          refine r_iconst (v := 1) Z dX4_bitsThere_18 (by decide) ?_
          refine r_iload_n Z dX4_bitsThere_19 rfl (lv_at hl 2 rfl) ?_
          refine r_ishl Z dX4_bitsThere_20 ?_
          refine r_ior Z dX4_bitsThere_21 ?_
          obtain ⟨t5, et5, hF⟩ := nm_some hF
          rw [← et5]
          refine r_istore_n Z [(1, .int t5), (0, .ref (ad o)), (2, .int v2)] dX4_bitsThere_22 rfl hl (by decide) rfl (fun ls hl => ?_)
          obtain ⟨t6, et6, hF⟩ := nm_some hF
          refine r_iinc (j := 2) Z t6 [(2, .int t6), (1, .int t5), (0, .ref (ad o))] dX4_bitsThere_23 hl rfl (by rw [et6]; rfl) (by decide) rfl (fun ls hl => ?_)
          refine r_goto Z 4 dX4_bitsThere_26 (by decide) ?_
          exact ih4 t5 t6 q2.2 ls (lv_sub hl [2, 1, 0] rfl) hF
  unfold f_X4_bitsThere at hF
  refine r_iconst (v := 0) Z dX4_bitsThere_0 (by decide) ?_
  refine r_istore_n Z [(1, .int 0), (0, .ref (ad o))] dX4_bitsThere_1 rfl hl (by decide) rfl (fun ls hl => ?_)
  refine r_iconst (v := 0) Z dX4_bitsThere_2 (by decide) ?_
  refine r_istore_n Z [(2, .int 0), (1, .int 0), (0, .ref (ad o))] dX4_bitsThere_3 rfl hl (by decide) rfl (fun ls hl => ?_)
  exact L4 _ 0 0 M ls (lv_sub hl [2, 1, 0] rfl) hF
theorem dX4_flowDeterminant_0 : decode cX4_flowDeterminant 0 = .ok (.aload_n 0, 1) := by decide +kernel
theorem dX4_flowDeterminant_1 : decode cX4_flowDeterminant 1 = .ok (.getfield 27, 3) := by decide +kernel
theorem dX4_flowDeterminant_4 : decode cX4_flowDeterminant 4 = .ok (.iconst 4, 1) := by decide +kernel
theorem dX4_flowDeterminant_5 : decode cX4_flowDeterminant 5 = .ok (.putfield 115, 3) := by decide +kernel
theorem dX4_flowDeterminant_8 : decode cX4_flowDeterminant 8 = .ok (.iconst 0, 1) := by decide +kernel
theorem dX4_flowDeterminant_9 : decode cX4_flowDeterminant 9 = .ok (.istore_n 3, 1) := by decide +kernel
theorem dX4_flowDeterminant_10 : decode cX4_flowDeterminant 10 = .ok (.iload_n 3, 1) := by decide +kernel
theorem dX4_flowDeterminant_11 : decode cX4_flowDeterminant 11 = .ok (.iconst 4, 1) := by decide +kernel
theorem dX4_flowDeterminant_12 : decode cX4_flowDeterminant 12 = .ok (.if_icmp .ge 119, 3) := by decide +kernel
theorem dX4_flowDeterminant_15 : decode cX4_flowDeterminant 15 = .ok (.iconst 0, 1) := by decide +kernel
theorem dX4_flowDeterminant_16 : decode cX4_flowDeterminant 16 = .ok (.istore 4, 2) := by decide +kernel
theorem dX4_flowDeterminant_18 : decode cX4_flowDeterminant 18 = .ok (.iload 4, 2) := by decide +kernel
theorem dX4_flowDeterminant_20 : decode cX4_flowDeterminant 20 = .ok (.iconst 4, 1) := by decide +kernel
theorem dX4_flowDeterminant_21 : decode cX4_flowDeterminant 21 = .ok (.if_icmp .ge 104, 3) := by decide +kernel
theorem dX4_flowDeterminant_24 : decode cX4_flowDeterminant 24 = .ok (.iload_n 1, 1) := by decide +kernel
theorem dX4_flowDeterminant_25 : decode cX4_flowDeterminant 25 = .ok (.iload_n 3, 1) := by decide +kernel
theorem dX4_flowDeterminant_26 : decode cX4_flowDeterminant 26 = .ok (.ishr, 1) := by decide +kernel
theorem dX4_flowDeterminant_27 : decode cX4_flowDeterminant 27 = .ok (.iconst 1, 1) := by decide +kernel
theorem dX4_flowDeterminant_28 : decode cX4_flowDeterminant 28 = .ok (.iand, 1) := by decide +kernel
theorem dX4_flowDeterminant_29 : decode cX4_flowDeterminant 29 = .ok (.ifCond .eq 12, 3) := by decide +kernel
theorem dX4_flowDeterminant_32 : decode cX4_flowDeterminant 32 = .ok (.iload_n 1, 1) := by decide +kernel
theorem dX4_flowDeterminant_33 : decode cX4_flowDeterminant 33 = .ok (.iload 4, 2) := by decide +kernel
theorem dX4_flowDeterminant_35 : decode cX4_flowDeterminant 35 = .ok (.ishr, 1) := by decide +kernel
theorem dX4_flowDeterminant_36 : decode cX4_flowDeterminant 36 = .ok (.iconst 1, 1) := by decide +kernel
theorem dX4_flowDeterminant_37 : decode cX4_flowDeterminant 37 = .ok (.iand, 1) := by decide +kernel
theorem dX4_flowDeterminant_38 : decode cX4_flowDeterminant 38 = .ok (.ifCond .ne 7, 3) := by decide +kernel
theorem dX4_flowDeterminant_41 : decode cX4_flowDeterminant 41 = .ok (.iconst 1, 1) := by decide +kernel
theorem dX4_flowDeterminant_42 : decode cX4_flowDeterminant 42 = .ok (.goto 4, 3) := by decide +kernel
theorem dX4_flowDeterminant_45 : decode cX4_flowDeterminant 45 = .ok (.iconst 0, 1) := by decide +kernel
theorem dX4_flowDeterminant_46 : decode cX4_flowDeterminant 46 = .ok (.istore 5, 2) := by decide +kernel
theorem dX4_flowDeterminant_48 : decode cX4_flowDeterminant 48 = .ok (.iload_n 3, 1) := by decide +kernel
theorem dX4_flowDeterminant_49 : decode cX4_flowDeterminant 49 = .ok (.iload 4, 2) := by decide +kernel
theorem dX4_flowDeterminant_51 : decode cX4_flowDeterminant 51 = .ok (.if_icmp .ne 9, 3) := by decide +kernel
theorem dX4_flowDeterminant_54 : decode cX4_flowDeterminant 54 = .ok (.ldc2_w 99, 3) := by decide +kernel
theorem dX4_flowDeterminant_57 : decode cX4_flowDeterminant 57 = .ok (.goto 4, 3) := by decide +kernel
theorem dX4_flowDeterminant_60 : decode cX4_flowDeterminant 60 = .ok (.lconst 0, 1) := by decide +kernel
theorem dX4_flowDeterminant_61 : decode cX4_flowDeterminant 61 = .ok (.lstore 6, 2) := by decide +kernel
theorem dX4_flowDeterminant_63 : decode cX4_flowDeterminant 63 = .ok (.iload 5, 2) := by decide +kernel
theorem dX4_flowDeterminant_65 : decode cX4_flowDeterminant 65 = .ok (.ifCond .ne 21, 3) := by decide +kernel
theorem dX4_flowDeterminant_68 : decode cX4_flowDeterminant 68 = .ok (.lload 6, 2) := by decide +kernel
theorem dX4_flowDeterminant_70 : decode cX4_flowDeterminant 70 = .ok (.aload_n 0, 1) := by decide +kernel
theorem dX4_flowDeterminant_71 : decode cX4_flowDeterminant 71 = .ok (.getfield 11, 3) := by decide +kernel
theorem dX4_flowDeterminant_74 : decode cX4_flowDeterminant 74 = .ok (.iload_n 3, 1) := by decide +kernel
theorem dX4_flowDeterminant_75 : decode cX4_flowDeterminant 75 = .ok (.aaload, 1) := by decide +kernel
theorem dX4_flowDeterminant_76 : decode cX4_flowDeterminant 76 = .ok (.getfield 50, 3) := by decide +kernel
theorem dX4_flowDeterminant_79 : decode cX4_flowDeterminant 79 = .ok (.iload 4, 2) := by decide +kernel
theorem dX4_flowDeterminant_81 : decode cX4_flowDeterminant 81 = .ok (.iaload, 1) := by decide +kernel
theorem dX4_flowDeterminant_82 : decode cX4_flowDeterminant 82 = .ok (.i2l, 1) := by decide +kernel
theorem dX4_flowDeterminant_83 : decode cX4_flowDeterminant 83 = .ok (.lsub, 1) := by decide +kernel
theorem dX4_flowDeterminant_84 : decode cX4_flowDeterminant 84 = .ok (.lstore 6, 2) := by decide +kernel
theorem dX4_flowDeterminant_86 : decode cX4_flowDeterminant 86 = .ok (.aload_n 0, 1) := by decide +kernel
theorem dX4_flowDeterminant_87 : decode cX4_flowDeterminant 87 = .ok (.getfield 27, 3) := by decide +kernel
theorem dX4_flowDeterminant_90 : decode cX4_flowDeterminant 90 = .ok (.getfield 116, 3) := by decide +kernel
theorem dX4_flowDeterminant_93 : decode cX4_flowDeterminant 93 = .ok (.iload_n 3, 1) := by decide +kernel
theorem dX4_flowDeterminant_94 : decode cX4_flowDeterminant 94 = .ok (.aaload, 1) := by decide +kernel
theorem dX4_flowDeterminant_95 : decode cX4_flowDeterminant 95 = .ok (.iload 4, 2) := by decide +kernel
theorem dX4_flowDeterminant_97 : decode cX4_flowDeterminant 97 = .ok (.iload_n 3, 1) := by decide +kernel
theorem dX4_flowDeterminant_98 : decode cX4_flowDeterminant 98 = .ok (.iload_n 2, 1) := by decide +kernel
theorem dX4_flowDeterminant_99 : decode cX4_flowDeterminant 99 = .ok (.if_icmp .ne 17, 3) := by decide +kernel
theorem dX4_flowDeterminant_102 : decode cX4_flowDeterminant 102 = .ok (.aload_n 0, 1) := by decide +kernel
theorem dX4_flowDeterminant_103 : decode cX4_flowDeterminant 103 = .ok (.getfield 11, 3) := by decide +kernel
theorem dX4_flowDeterminant_106 : decode cX4_flowDeterminant 106 = .ok (.iload 4, 2) := by decide +kernel
theorem dX4_flowDeterminant_108 : decode cX4_flowDeterminant 108 = .ok (.aaload, 1) := by decide +kernel
theorem dX4_flowDeterminant_109 : decode cX4_flowDeterminant 109 = .ok (.getfield 79, 3) := by decide +kernel
theorem dX4_flowDeterminant_112 : decode cX4_flowDeterminant 112 = .ok (.i2l, 1) := by decide +kernel
theorem dX4_flowDeterminant_113 : decode cX4_flowDeterminant 113 = .ok (.goto 5, 3) := by decide +kernel
theorem dX4_flowDeterminant_116 : decode cX4_flowDeterminant 116 = .ok (.lload 6, 2) := by decide +kernel
theorem dX4_flowDeterminant_118 : decode cX4_flowDeterminant 118 = .ok (.lastore, 1) := by decide +kernel
theorem dX4_flowDeterminant_119 : decode cX4_flowDeterminant 119 = .ok (.iinc 4 1, 3) := by decide +kernel
theorem dX4_flowDeterminant_122 : decode cX4_flowDeterminant 122 = .ok (.goto (-104), 3) := by decide +kernel
theorem dX4_flowDeterminant_125 : decode cX4_flowDeterminant 125 = .ok (.iinc 3 1, 3) := by decide +kernel
theorem dX4_flowDeterminant_128 : decode cX4_flowDeterminant 128 = .ok (.goto (-118), 3) := by decide +kernel
theorem dX4_flowDeterminant_131 : decode cX4_flowDeterminant 131 = .ok (.aload_n 0, 1) := by decide +kernel
theorem dX4_flowDeterminant_132 : decode cX4_flowDeterminant 132 = .ok (.getfield 27, 3) := by decide +kernel
theorem dX4_flowDeterminant_135 : decode cX4_flowDeterminant 135 = .ok (.invokevirtual 120, 3) := by decide +kernel
theorem dX4_flowDeterminant_138 : decode cX4_flowDeterminant 138 = .ok (.lreturn, 1) := by decide +kernel
theorem cv_X4_flowDeterminant : wn_cV yX4_flowDeterminant cX4_flowDeterminant 8 (some .long) RX4 2 := ⟨wm_209, wm_214, wm_215, wm_180, by decide +kernel⟩
abbrev rm_X4_flowDeterminant : Room := rmz 2 54
set_option maxHeartbeats 4000000 in
set_option maxRecDepth 100000 in
theorem c_X4_flowDeterminant {ad : Nat → Nat} {o : Nat} {x1 : Int32} {x2 : Int32} {M : Mm} {q : Int64 × Mm} (ho : shp o = 4) (hF : f_X4_flowDeterminant o x1 x2 M = some q) : KL ad yX4_flowDeterminant cX4_flowDeterminant 8 (some .long) rm_X4_flowDeterminant [.ref (ad o), .int x1, .int x2] M q.1 q.2 := by
  refine wn_enterL (own := RX4) (by decide) rfl (Nat.le_of_ble_eq_true rfl) (fun X ls Z hQ hl => ?_)
  have hl : lv_has ls 8 [(0, .ref (ad o)), (1, .int x1), (2, .int x2)] := hl
  have L10 : ∀ (n10 : Nat) (v1 : Int32) (v2 : Int32) (v3 : Int32) (M : Mm) (ls : Array Slot), lv_has ls 8 [(0, .ref (ad o)), (1, .int v1), (2, .int v2), (3, .int v3)] → f_X4_flowDeterminant_b10 o n10 v1 v2 v3 M = some q → G ad X M 10 ls [] := by
    intro n10
    induction n10 with
    | zero =>
      intro v1 v2 v3 M ls hl hF
      cases hF
    | succ n10 ih10 =>
      have L18 : ∀ (n18 : Nat) (v1 : Int32) (v2 : Int32) (v3 : Int32) (v4 : Int32) (M : Mm) (ls : Array Slot), lv_has ls 8 [(0, .ref (ad o)), (1, .int v1), (2, .int v2), (3, .int v3), (4, .int v4)] → f_X4_flowDeterminant_b18 (f_X4_flowDeterminant_b10 o n10) o n18 v1 v2 v3 v4 M = some q → G ad X M 18 ls [] := by
        intro n18
        induction n18 with
        | zero =>
          intro v1 v2 v3 v4 M ls hl hF
          cases hF
        | succ n18 ih18 =>
          have L118 : ∀ (v1 : Int32) (v2 : Int32) (v3 : Int32) (v4 : Int32) (s0 : Nat) (s1 : Int32) (s2 : Int64) (M : Mm) (ls : Array Slot), shp s0 = 1006 → lv_has ls 8 [(0, .ref (ad o)), (1, .int v1), (2, .int v2), (3, .int v3), (4, .int v4)] → f_X4_flowDeterminant_b118 (f_X4_flowDeterminant_b10 o n10) (f_X4_flowDeterminant_b18 (f_X4_flowDeterminant_b10 o n10) o n18) o v1 v2 v3 v4 s0 s1 s2 M = some q → G ad X M 118 ls [.long s2, .int s1, .ref (ad s0)] := by
            intro v1 v2 v3 v4 s0 s1 s2 M ls hs0 hl hF
            unfold f_X4_flowDeterminant_b118 at hF
            obtain ⟨hi1, hF⟩ := ck_some hF
            obtain ⟨M2, eM2, hF⟩ := nm_some hF
            refine r_lastore Z (shp_lt hs0 (by decide)) (fun _ _ => ce_1006 hs0) hi1 dX4_flowDeterminant_118 ?_
            rw [← eM2]
            obtain ⟨t3, et3, hF⟩ := nm_some hF
            refine r_iinc (j := 4) Z t3 [(4, .int t3), (0, .ref (ad o)), (1, .int v1), (2, .int v2), (3, .int v3)] dX4_flowDeterminant_119 hl rfl (by rw [et3]; rfl) (by decide) rfl (fun ls hl => ?_)
            refine r_goto Z 18 dX4_flowDeterminant_122 (by decide) ?_
            exact ih18 v1 v2 v3 t3 M2 ls (lv_sub hl [1, 2, 3, 4, 0] rfl) hF
          have L86 : ∀ (v1 : Int32) (v2 : Int32) (v3 : Int32) (v4 : Int32) (v6 : Int64) (M : Mm) (ls : Array Slot), lv_has ls 8 [(0, .ref (ad o)), (1, .int v1), (2, .int v2), (3, .int v3), (4, .int v4), (6, .long v6)] → f_X4_flowDeterminant_b86 (f_X4_flowDeterminant_b10 o n10) (f_X4_flowDeterminant_b18 (f_X4_flowDeterminant_b10 o n10) o n18) o v1 v2 v3 v4 v6 M = some q → G ad X M 86 ls [] := by
            intro v1 v2 v3 v4 v6 M ls hl hF
            unfold f_X4_flowDeterminant_b86 at hF
            refine r_aload_n Z dX4_flowDeterminant_86 rfl (lv_at hl 0 rfl) ?_
            refine g_4_2 Z ho wm_159 dX4_flowDeterminant_87 ?_
            refine g_7_0 Z (sh_4_2 ho) wm_207 dX4_flowDeterminant_90 ?_
            refine r_iload_n Z dX4_flowDeterminant_93 rfl (lv_at hl 3 rfl) ?_
            obtain ⟨hi4, hF⟩ := ck_some hF
            refine r_aald16 Z (sh_7_0 (sh_4_2 ho)) hi4 dX4_flowDeterminant_94 ?_
            refine r_iload Z dX4_flowDeterminant_95 (lv_at hl 4 rfl) ?_
            refine r_iload_n Z dX4_flowDeterminant_97 rfl (lv_at hl 3 rfl) ?_
            refine r_iload_n Z dX4_flowDeterminant_98 rfl (lv_at hl 2 rfl) ?_
            refine r_icmp_ne Z 116 dX4_flowDeterminant_99 (by decide) (fun hc5 => ?_) (fun hc5 => ?_)
            · replace hF := nif_some hc5 hF
              refine r_lload Z dX4_flowDeterminant_116 (lv_at hl 5 rfl) ?_
              exact L118 v1 v2 v3 v4 (elm (fld (fld o 2) 0) (Int32.toNatClampNeg v3)) v4 v6 M ls (se_16 (sh_7_0 (sh_4_2 ho)) hi4) (lv_sub hl [0, 1, 2, 3, 4] rfl) hF
            · replace hF := if_some hc5 hF
              refine r_aload_n Z dX4_flowDeterminant_102 rfl (lv_at hl 0 rfl) ?_
              refine g_4_0 Z ho wm_154 dX4_flowDeterminant_103 ?_
              refine r_iload Z dX4_flowDeterminant_106 (lv_at hl 4 rfl) ?_
              obtain ⟨hi6, hF⟩ := ck_some hF
              refine r_aald13 Z (sh_4_0 ho) hi6 dX4_flowDeterminant_108 ?_
              refine g_1_5 Z (se_13 (sh_4_0 ho) hi6) wm_195 dX4_flowDeterminant_109 ?_
              refine r_i2l Z dX4_flowDeterminant_112 ?_
              refine r_goto Z 118 dX4_flowDeterminant_113 (by decide) ?_
              exact L118 v1 v2 v3 v4 (elm (fld (fld o 2) 0) (Int32.toNatClampNeg v3)) v4 (Int32.toInt64 (mI M (elm (fld o 0) (Int32.toNatClampNeg v4)) 5)) M ls (se_16 (sh_7_0 (sh_4_2 ho)) hi4) (lv_sub hl [0, 1, 2, 3, 4] rfl) hF
          have L61 : ∀ (v1 : Int32) (v2 : Int32) (v3 : Int32) (v4 : Int32) (v5 : Int32) (s0 : Int64) (M : Mm) (ls : Array Slot), lv_has ls 8 [(0, .ref (ad o)), (1, .int v1), (2, .int v2), (3, .int v3), (4, .int v4), (5, .int v5)] → f_X4_flowDeterminant_b61 (f_X4_flowDeterminant_b10 o n10) (f_X4_flowDeterminant_b18 (f_X4_flowDeterminant_b10 o n10) o n18) o v1 v2 v3 v4 v5 s0 M = some q → G ad X M 61 ls [.long s0] := by
            intro v1 v2 v3 v4 v5 s0 M ls hl hF
            unfold f_X4_flowDeterminant_b61 at hF
            refine r_lstore Z [(6, .long s0), (0, .ref (ad o)), (1, .int v1), (2, .int v2), (3, .int v3), (4, .int v4), (5, .int v5)] dX4_flowDeterminant_61 hl (by decide) rfl (fun ls hl => ?_)
            refine r_iload Z dX4_flowDeterminant_63 (lv_at hl 6 rfl) ?_
            refine r_if_ne Z 86 dX4_flowDeterminant_65 (by decide) (fun hc7 => ?_) (fun hc7 => ?_)
            · replace hF := nif_some hc7 hF
              exact L86 v1 v2 v3 v4 s0 M ls (lv_sub hl [1, 2, 3, 4, 5, 0] rfl) hF
            · replace hF := if_some hc7 hF
              refine r_lload Z dX4_flowDeterminant_68 (lv_at hl 0 rfl) ?_
              refine r_aload_n Z dX4_flowDeterminant_70 rfl (lv_at hl 1 rfl) ?_
              refine g_4_0 Z ho wm_154 dX4_flowDeterminant_71 ?_
              refine r_iload_n Z dX4_flowDeterminant_74 rfl (lv_at hl 4 rfl) ?_
              obtain ⟨hi8, hF⟩ := ck_some hF
              refine r_aald13 Z (sh_4_0 ho) hi8 dX4_flowDeterminant_75 ?_
              refine g_1_0 Z (se_13 (sh_4_0 ho) hi8) wm_172 dX4_flowDeterminant_76 ?_
              refine r_iload Z dX4_flowDeterminant_79 (lv_at hl 5 rfl) ?_
              obtain ⟨hi9, hF⟩ := ck_some hF
              refine r_iaload Z (shp_lt (sh_1_0 (se_13 (sh_4_0 ho) hi8)) (by decide)) (fun _ _ => ce_104 (sh_1_0 (se_13 (sh_4_0 ho) hi8))) hi9 dX4_flowDeterminant_81 ?_
              refine r_i2l Z dX4_flowDeterminant_82 ?_
              refine r_lsub Z dX4_flowDeterminant_83 ?_
              obtain ⟨t10, et10, hF⟩ := nm_some hF
              rw [← et10]
              refine r_lstore Z [(6, .long t10), (0, .ref (ad o)), (1, .int v1), (2, .int v2), (3, .int v3), (4, .int v4), (5, .int v5)] dX4_flowDeterminant_84 hl (by decide) rfl (fun ls hl => ?_)
              exact L86 v1 v2 v3 v4 t10 M ls (lv_sub hl [1, 2, 3, 4, 5, 0] rfl) hF
          have L46 : ∀ (v1 : Int32) (v2 : Int32) (v3 : Int32) (v4 : Int32) (s0 : Int32) (M : Mm) (ls : Array Slot), lv_has ls 8 [(0, .ref (ad o)), (1, .int v1), (2, .int v2), (3, .int v3), (4, .int v4)] → f_X4_flowDeterminant_b46 (f_X4_flowDeterminant_b10 o n10) (f_X4_flowDeterminant_b18 (f_X4_flowDeterminant_b10 o n10) o n18) o v1 v2 v3 v4 s0 M = some q → G ad X M 46 ls [.int s0] := by
            intro v1 v2 v3 v4 s0 M ls hl hF
            unfold f_X4_flowDeterminant_b46 at hF
            refine r_istore Z [(5, .int s0), (0, .ref (ad o)), (1, .int v1), (2, .int v2), (3, .int v3), (4, .int v4)] dX4_flowDeterminant_46 hl (by decide) rfl (fun ls hl => ?_)
            refine r_iload_n Z dX4_flowDeterminant_48 rfl (lv_at hl 4 rfl) ?_
            refine r_iload Z dX4_flowDeterminant_49 (lv_at hl 5 rfl) ?_
            refine r_icmp_ne Z 60 dX4_flowDeterminant_51 (by decide) (fun hc11 => ?_) (fun hc11 => ?_)
            · replace hF := nif_some hc11 hF
              refine r_lconst (v := 0) Z dX4_flowDeterminant_60 (by decide) ?_
              exact L61 v1 v2 v3 v4 s0 0 M ls (lv_sub hl [1, 2, 3, 4, 5, 0] rfl) hF
            · replace hF := if_some hc11 hF
              refine r_ldc2 Z wm_206 dX4_flowDeterminant_54 ?_
              refine r_goto Z 61 dX4_flowDeterminant_57 (by decide) ?_
              exact L61 v1 v2 v3 v4 s0 4 M ls (lv_sub hl [1, 2, 3, 4, 5, 0] rfl) hF
          have L41 : ∀ (v1 : Int32) (v2 : Int32) (v3 : Int32) (v4 : Int32) (M : Mm) (ls : Array Slot), lv_has ls 8 [(0, .ref (ad o)), (1, .int v1), (2, .int v2), (3, .int v3), (4, .int v4)] → f_X4_flowDeterminant_b41 (f_X4_flowDeterminant_b10 o n10) (f_X4_flowDeterminant_b18 (f_X4_flowDeterminant_b10 o n10) o n18) o v1 v2 v3 v4 M = some q → G ad X M 41 ls [] := by
            intro v1 v2 v3 v4 M ls hl hF
            unfold f_X4_flowDeterminant_b41 at hF
            refine r_iconst (v := 1) Z dX4_flowDeterminant_41 (by decide) ?_
            refine r_goto Z 46 dX4_flowDeterminant_42 (by decide) ?_
            exact L46 v1 v2 v3 v4 1 M ls (lv_sub hl [0, 1, 2, 3, 4] rfl) hF
          intro v1 v2 v3 v4 M ls hl hF
          replace hF : f_X4_flowDeterminant_b18B (f_X4_flowDeterminant_b10 o n10) (f_X4_flowDeterminant_b18 (f_X4_flowDeterminant_b10 o n10) o n18) o v1 v2 v3 v4 M = some q := hF
          unfold f_X4_flowDeterminant_b18B at hF
          refine r_iload Z dX4_flowDeterminant_18 (lv_at hl 4 rfl) ?_
          refine r_iconst (v := 4) Z dX4_flowDeterminant_20 (by decide) ?_
          refine r_icmp_ge Z 125 dX4_flowDeterminant_21 (by decide) (fun hc12 => ?_) (fun hc12 => ?_)
          · replace hF := if_some hc12 hF
            obtain ⟨t13, et13, hF⟩ := nm_some hF
            refine r_iinc (j := 3) Z t13 [(3, .int t13), (0, .ref (ad o)), (1, .int v1), (2, .int v2), (4, .int v4)] dX4_flowDeterminant_125 hl rfl (by rw [et13]; rfl) (by decide) rfl (fun ls hl => ?_)
            refine r_goto Z 10 dX4_flowDeterminant_128 (by decide) ?_
            exact ih10 v1 v2 t13 M ls (lv_sub hl [1, 2, 3, 0] rfl) hF
          · replace hF := nif_some hc12 hF
            refine r_iload_n Z dX4_flowDeterminant_24 rfl (lv_at hl 1 rfl) ?_
            refine r_iload_n Z dX4_flowDeterminant_25 rfl (lv_at hl 3 rfl) ?_
            refine r_ishr Z dX4_flowDeterminant_26 ?_
            refine r_iconst (v := 1) Z dX4_flowDeterminant_27 (by decide) ?_
            refine r_iand Z dX4_flowDeterminant_28 ?_
            refine r_if_eq Z 41 dX4_flowDeterminant_29 (by decide) (fun hc14 => ?_) (fun hc14 => ?_)
            · replace hF := if_some hc14 hF
              exact L41 v1 v2 v3 v4 M ls (lv_sub hl [0, 1, 2, 3, 4] rfl) hF
            · replace hF := nif_some hc14 hF
              refine r_iload_n Z dX4_flowDeterminant_32 rfl (lv_at hl 1 rfl) ?_
              refine r_iload Z dX4_flowDeterminant_33 (lv_at hl 4 rfl) ?_
              refine r_ishr Z dX4_flowDeterminant_35 ?_
              refine r_iconst (v := 1) Z dX4_flowDeterminant_36 (by decide) ?_
              refine r_iand Z dX4_flowDeterminant_37 ?_
              refine r_if_ne Z 45 dX4_flowDeterminant_38 (by decide) (fun hc15 => ?_) (fun hc15 => ?_)
              · replace hF := nif_some hc15 hF
                refine r_iconst (v := 0) Z dX4_flowDeterminant_45 (by decide) ?_
                exact L46 v1 v2 v3 v4 0 M ls (lv_sub hl [0, 1, 2, 3, 4] rfl) hF
              · replace hF := if_some hc15 hF
                exact L41 v1 v2 v3 v4 M ls (lv_sub hl [0, 1, 2, 3, 4] rfl) hF
      intro v1 v2 v3 M ls hl hF
      replace hF : f_X4_flowDeterminant_b10B (f_X4_flowDeterminant_b10 o n10) o v1 v2 v3 M = some q := hF
      unfold f_X4_flowDeterminant_b10B at hF
      refine r_iload_n Z dX4_flowDeterminant_10 rfl (lv_at hl 3 rfl) ?_
      refine r_iconst (v := 4) Z dX4_flowDeterminant_11 (by decide) ?_
      refine r_icmp_ge Z 131 dX4_flowDeterminant_12 (by decide) (fun hc16 => ?_) (fun hc16 => ?_)
      · replace hF := if_some hc16 hF
        refine r_aload_n Z dX4_flowDeterminant_131 rfl (lv_at hl 0 rfl) ?_
        refine g_4_2 Z ho wm_159 dX4_flowDeterminant_132 ?_
        obtain ⟨q17, hq17, hF⟩ := bd_some hF
        refine r_invVl [] Z (c_X7_determinant (sh_4_2 ho) hq17) cv_X7_determinant rfl (shp_lt (sh_4_2 ho) (by decide)) (fun _ _ => ⟨_, ce_7 (sh_4_2 ho)⟩) wm_208 rfl rfl ⟨Nat.le_of_ble_eq_true rfl, Nat.le_of_ble_eq_true rfl⟩ rfl hl.1 rfl (Nat.le_of_ble_eq_true rfl) dX4_flowDeterminant_135 ?_
        exact r_lret Z hQ hF dX4_flowDeterminant_138
      · replace hF := nif_some hc16 hF
        refine r_iconst (v := 0) Z dX4_flowDeterminant_15 (by decide) ?_
        refine r_istore Z [(4, .int 0), (0, .ref (ad o)), (1, .int v1), (2, .int v2), (3, .int v3)] dX4_flowDeterminant_16 hl (by decide) rfl (fun ls hl => ?_)
        exact L18 _ v1 v2 v3 0 M ls (lv_sub hl [1, 2, 3, 4, 0] rfl) hF
  unfold f_X4_flowDeterminant at hF
  refine r_aload_n Z dX4_flowDeterminant_0 rfl (lv_at hl 0 rfl) ?_
  refine g_4_2 Z ho wm_159 dX4_flowDeterminant_1 ?_
  refine r_iconst (v := 4) Z dX4_flowDeterminant_4 (by decide) ?_
  obtain ⟨M18, eM18, hF⟩ := nm_some hF
  refine p_7_1 Z (sh_4_2 ho) wm_205 dX4_flowDeterminant_5 ?_
  rw [← eM18]
  refine r_iconst (v := 0) Z dX4_flowDeterminant_8 (by decide) ?_
  refine r_istore_n Z [(3, .int 0), (0, .ref (ad o)), (1, .int x1), (2, .int x2)] dX4_flowDeterminant_9 rfl hl (by decide) rfl (fun ls hl => ?_)
  exact L10 _ x1 x2 0 M18 ls (lv_sub hl [1, 2, 3, 0] rfl) hF
theorem dX4_handsThere_0 : decode cX4_handsThere 0 = .ok (.iconst 0, 1) := by decide +kernel
theorem dX4_handsThere_1 : decode cX4_handsThere 1 = .ok (.istore_n 1, 1) := by decide +kernel
theorem dX4_handsThere_2 : decode cX4_handsThere 2 = .ok (.iconst 0, 1) := by decide +kernel
theorem dX4_handsThere_3 : decode cX4_handsThere 3 = .ok (.istore_n 2, 1) := by decide +kernel
theorem dX4_handsThere_4 : decode cX4_handsThere 4 = .ok (.iload_n 2, 1) := by decide +kernel
theorem dX4_handsThere_5 : decode cX4_handsThere 5 = .ok (.iconst 4, 1) := by decide +kernel
theorem dX4_handsThere_6 : decode cX4_handsThere 6 = .ok (.if_icmp .ge 42, 3) := by decide +kernel
theorem dX4_handsThere_9 : decode cX4_handsThere 9 = .ok (.aload_n 0, 1) := by decide +kernel
theorem dX4_handsThere_10 : decode cX4_handsThere 10 = .ok (.iload_n 2, 1) := by decide +kernel
theorem dX4_handsThere_11 : decode cX4_handsThere 11 = .ok (.invokevirtual 54, 3) := by decide +kernel
theorem dX4_handsThere_14 : decode cX4_handsThere 14 = .ok (.ifCond .eq 28, 3) := by decide +kernel
theorem dX4_handsThere_17 : decode cX4_handsThere 17 = .ok (.aload_n 0, 1) := by decide +kernel
theorem dX4_handsThere_18 : decode cX4_handsThere 18 = .ok (.getfield 11, 3) := by decide +kernel
theorem dX4_handsThere_21 : decode cX4_handsThere 21 = .ok (.iload_n 2, 1) := by decide +kernel
theorem dX4_handsThere_22 : decode cX4_handsThere 22 = .ok (.aaload, 1) := by decide +kernel
theorem dX4_handsThere_23 : decode cX4_handsThere 23 = .ok (.getfield 58, 3) := by decide +kernel
theorem dX4_handsThere_26 : decode cX4_handsThere 26 = .ok (.iconst 3, 1) := by decide +kernel
theorem dX4_handsThere_27 : decode cX4_handsThere 27 = .ok (.if_icmp .eq 15, 3) := by decide +kernel
theorem dX4_handsThere_30 : decode cX4_handsThere 30 = .ok (.iload_n 1, 1) := by decide +kernel
theorem dX4_handsThere_31 : decode cX4_handsThere 31 = .ok (.aload_n 0, 1) := by decide +kernel
theorem dX4_handsThere_32 : decode cX4_handsThere 32 = .ok (.getfield 11, 3) := by decide +kernel
theorem dX4_handsThere_35 : decode cX4_handsThere 35 = .ok (.iload_n 2, 1) := by decide +kernel
theorem dX4_handsThere_36 : decode cX4_handsThere 36 = .ok (.aaload, 1) := by decide +kernel
theorem dX4_handsThere_37 : decode cX4_handsThere 37 = .ok (.getfield 62, 3) := by decide +kernel
theorem dX4_handsThere_40 : decode cX4_handsThere 40 = .ok (.iadd, 1) := by decide +kernel
theorem dX4_handsThere_41 : decode cX4_handsThere 41 = .ok (.istore_n 1, 1) := by decide +kernel
theorem dX4_handsThere_42 : decode cX4_handsThere 42 = .ok (.iinc 2 1, 3) := by decide +kernel
theorem dX4_handsThere_45 : decode cX4_handsThere 45 = .ok (.goto (-41), 3) := by decide +kernel
theorem dX4_handsThere_48 : decode cX4_handsThere 48 = .ok (.iload_n 1, 1) := by decide +kernel
theorem dX4_handsThere_49 : decode cX4_handsThere 49 = .ok (.ireturn, 1) := by decide +kernel
theorem cv_X4_handsThere : wn_cV yX4_handsThere cX4_handsThere 3 (some .int) RX4 0 := ⟨wm_181, wm_590, wm_591, wm_180, by decide +kernel⟩
abbrev rm_X4_handsThere : Room := rmz 2 41
set_option maxHeartbeats 4000000 in
set_option maxRecDepth 100000 in
theorem c_X4_handsThere {ad : Nat → Nat} {o : Nat} {M : Mm} {q : Int32 × Mm} (ho : shp o = 4) (hF : f_X4_handsThere o M = some q) : KI ad yX4_handsThere cX4_handsThere 3 (some .int) rm_X4_handsThere [.ref (ad o)] M q.1 q.2 := by
  refine wn_enterI (own := RX4) (by decide) rfl (Nat.le_of_ble_eq_true rfl) (fun X ls Z hQ hl => ?_)
  have hl : lv_has ls 3 [(0, .ref (ad o))] := hl
  have L4 : ∀ (n4 : Nat) (v1 : Int32) (v2 : Int32) (M : Mm) (ls : Array Slot), lv_has ls 3 [(0, .ref (ad o)), (1, .int v1), (2, .int v2)] → f_X4_handsThere_b4 o n4 v1 v2 M = some q → G ad X M 4 ls [] := by
    intro n4
    induction n4 with
    | zero =>
      intro v1 v2 M ls hl hF
      cases hF
    | succ n4 ih4 =>
      intro v1 v2 M ls hl hF
      replace hF : f_X4_handsThere_b4B (f_X4_handsThere_b4 o n4) o v1 v2 M = some q := hF
      unfold f_X4_handsThere_b4B at hF
      refine r_iload_n Z dX4_handsThere_4 rfl (lv_at hl 2 rfl) ?_
      refine r_iconst (v := 4) Z dX4_handsThere_5 (by decide) ?_
      refine r_icmp_ge Z 48 dX4_handsThere_6 (by decide) (fun hc1 => ?_) (fun hc1 => ?_)
      · replace hF := if_some hc1 hF
        refine r_iload_n Z dX4_handsThere_48 rfl (lv_at hl 1 rfl) ?_
        exact r_iret Z hQ hF dX4_handsThere_49
      · replace hF := nif_some hc1 hF
        refine r_aload_n Z dX4_handsThere_9 rfl (lv_at hl 0 rfl) ?_
        refine r_iload_n Z dX4_handsThere_10 rfl (lv_at hl 2 rfl) ?_
        obtain ⟨q2, hq2, hF⟩ := bd_some hF
        refine r_invVi [] Z (c_X4_has ho hq2) cv_X4_has rfl (shp_lt ho (by decide)) (fun _ _ => ⟨_, ce_4 ho⟩) wm_177 rfl rfl ⟨Nat.le_of_ble_eq_true rfl, Nat.le_of_ble_eq_true rfl⟩ rfl hl.1 rfl (Nat.le_of_ble_eq_true rfl) dX4_handsThere_11 ?_
        refine r_if_eq Z 42 dX4_handsThere_14 (by decide) (fun hc3 => ?_) (fun hc3 => ?_)
        · replace hF := if_some hc3 hF
          obtain ⟨t4, et4, hF⟩ := nm_some hF
          refine r_iinc (j := 2) Z t4 [(2, .int t4), (0, .ref (ad o)), (1, .int v1)] dX4_handsThere_42 hl rfl (by rw [et4]; rfl) (by decide) rfl (fun ls hl => ?_)
          refine r_goto Z 4 dX4_handsThere_45 (by decide) ?_
          exact ih4 v1 t4 q2.2 ls (lv_sub hl [1, 2, 0] rfl) hF
        · replace hF := nif_some hc3 hF
          refine r_aload_n Z dX4_handsThere_17 rfl (lv_at hl 0 rfl) ?_
          refine g_4_0 Z ho wm_154 dX4_handsThere_18 ?_
          refine r_iload_n Z dX4_handsThere_21 rfl (lv_at hl 2 rfl) ?_
          obtain ⟨hi5, hF⟩ := ck_some hF
          refine r_aald13 Z (sh_4_0 ho) hi5 dX4_handsThere_22 ?_
          refine g_1_1 Z (se_13 (sh_4_0 ho) hi5) wm_182 dX4_handsThere_23 ?_
          refine r_iconst (v := 3) Z dX4_handsThere_26 (by decide) ?_
          refine r_icmp_eq Z 42 dX4_handsThere_27 (by decide) (fun hc6 => ?_) (fun hc6 => ?_)
          · replace hF := if_some hc6 hF
            obtain ⟨t7, et7, hF⟩ := nm_some hF
            refine r_iinc (j := 2) Z t7 [(2, .int t7), (0, .ref (ad o)), (1, .int v1)] dX4_handsThere_42 hl rfl (by rw [et7]; rfl) (by decide) rfl (fun ls hl => ?_)
            refine r_goto Z 4 dX4_handsThere_45 (by decide) ?_
            exact ih4 v1 t7 q2.2 ls (lv_sub hl [1, 2, 0] rfl) hF
          · replace hF := nif_some hc6 hF
            refine r_iload_n Z dX4_handsThere_30 rfl (lv_at hl 1 rfl) ?_
            refine r_aload_n Z dX4_handsThere_31 rfl (lv_at hl 0 rfl) ?_
            refine g_4_0 Z ho wm_154 dX4_handsThere_32 ?_
            refine r_iload_n Z dX4_handsThere_35 rfl (lv_at hl 2 rfl) ?_
            obtain ⟨hi8, hF⟩ := ck_some hF
            refine r_aald13 Z (sh_4_0 ho) hi8 dX4_handsThere_36 ?_
            refine g_1_3 Z (se_13 (sh_4_0 ho) hi8) wm_183 dX4_handsThere_37 ?_
            refine r_iadd Z dX4_handsThere_40 ?_
            obtain ⟨t9, et9, hF⟩ := nm_some hF
            rw [← et9]
            refine r_istore_n Z [(1, .int t9), (0, .ref (ad o)), (2, .int v2)] dX4_handsThere_41 rfl hl (by decide) rfl (fun ls hl => ?_)
            obtain ⟨t10, et10, hF⟩ := nm_some hF
            refine r_iinc (j := 2) Z t10 [(2, .int t10), (1, .int t9), (0, .ref (ad o))] dX4_handsThere_42 hl rfl (by rw [et10]; rfl) (by decide) rfl (fun ls hl => ?_)
            refine r_goto Z 4 dX4_handsThere_45 (by decide) ?_
            exact ih4 t9 t10 q2.2 ls (lv_sub hl [2, 1, 0] rfl) hF
  unfold f_X4_handsThere at hF
  refine r_iconst (v := 0) Z dX4_handsThere_0 (by decide) ?_
  refine r_istore_n Z [(1, .int 0), (0, .ref (ad o))] dX4_handsThere_1 rfl hl (by decide) rfl (fun ls hl => ?_)
  refine r_iconst (v := 0) Z dX4_handsThere_2 (by decide) ?_
  refine r_istore_n Z [(2, .int 0), (1, .int 0), (0, .ref (ad o))] dX4_handsThere_3 rfl hl (by decide) rfl (fun ls hl => ?_)
  exact L4 _ 0 0 M ls (lv_sub hl [2, 1, 0] rfl) hF
theorem dX4_isProduct_0 : decode cX4_isProduct 0 = .ok (.iconst 0, 1) := by decide +kernel
theorem dX4_isProduct_1 : decode cX4_isProduct 1 = .ok (.istore_n 1, 1) := by decide +kernel
theorem dX4_isProduct_2 : decode cX4_isProduct 2 = .ok (.iload_n 1, 1) := by decide +kernel
theorem dX4_isProduct_3 : decode cX4_isProduct 3 = .ok (.iconst 4, 1) := by decide +kernel
theorem dX4_isProduct_4 : decode cX4_isProduct 4 = .ok (.if_icmp .ge 37, 3) := by decide +kernel
theorem dX4_isProduct_7 : decode cX4_isProduct 7 = .ok (.aload_n 0, 1) := by decide +kernel
theorem dX4_isProduct_8 : decode cX4_isProduct 8 = .ok (.getfield 11, 3) := by decide +kernel
theorem dX4_isProduct_11 : decode cX4_isProduct 11 = .ok (.iload_n 1, 1) := by decide +kernel
theorem dX4_isProduct_12 : decode cX4_isProduct 12 = .ok (.aaload, 1) := by decide +kernel
theorem dX4_isProduct_13 : decode cX4_isProduct 13 = .ok (.getfield 58, 3) := by decide +kernel
theorem dX4_isProduct_16 : decode cX4_isProduct 16 = .ok (.iconst 4, 1) := by decide +kernel
theorem dX4_isProduct_17 : decode cX4_isProduct 17 = .ok (.if_icmp .eq 16, 3) := by decide +kernel
theorem dX4_isProduct_20 : decode cX4_isProduct 20 = .ok (.aload_n 0, 1) := by decide +kernel
theorem dX4_isProduct_21 : decode cX4_isProduct 21 = .ok (.getfield 11, 3) := by decide +kernel
theorem dX4_isProduct_24 : decode cX4_isProduct 24 = .ok (.iload_n 1, 1) := by decide +kernel
theorem dX4_isProduct_25 : decode cX4_isProduct 25 = .ok (.aaload, 1) := by decide +kernel
theorem dX4_isProduct_26 : decode cX4_isProduct 26 = .ok (.getfield 58, 3) := by decide +kernel
theorem dX4_isProduct_29 : decode cX4_isProduct 29 = .ok (.iconst 5, 1) := by decide +kernel
theorem dX4_isProduct_30 : decode cX4_isProduct 30 = .ok (.if_icmp .ne 5, 3) := by decide +kernel
theorem dX4_isProduct_33 : decode cX4_isProduct 33 = .ok (.iconst 0, 1) := by decide +kernel
theorem dX4_isProduct_34 : decode cX4_isProduct 34 = .ok (.ireturn, 1) := by decide +kernel
theorem dX4_isProduct_35 : decode cX4_isProduct 35 = .ok (.iinc 1 1, 3) := by decide +kernel
theorem dX4_isProduct_38 : decode cX4_isProduct 38 = .ok (.goto (-36), 3) := by decide +kernel
theorem dX4_isProduct_41 : decode cX4_isProduct 41 = .ok (.iconst 1, 1) := by decide +kernel
theorem dX4_isProduct_42 : decode cX4_isProduct 42 = .ok (.ireturn, 1) := by decide +kernel
theorem cv_X4_isProduct : wn_cV yX4_isProduct cX4_isProduct 2 (some .boolean) RX4 0 := ⟨wm_189, wm_226, wm_227, wm_180, by decide +kernel⟩
abbrev rm_X4_isProduct : Room := rmz 0 0
set_option maxHeartbeats 4000000 in
set_option maxRecDepth 100000 in
theorem c_X4_isProduct {ad : Nat → Nat} {o : Nat} {M : Mm} {q : Int32 × Mm} (ho : shp o = 4) (hF : f_X4_isProduct o M = some q) : KI ad yX4_isProduct cX4_isProduct 2 (some .boolean) rm_X4_isProduct [.ref (ad o)] M q.1 q.2 := by
  refine wn_enterI (own := RX4) (by decide) rfl (Nat.le_of_ble_eq_true rfl) (fun X ls Z hQ hl => ?_)
  have hl : lv_has ls 2 [(0, .ref (ad o))] := hl
  have L2 : ∀ (n2 : Nat) (v1 : Int32) (M : Mm) (ls : Array Slot), lv_has ls 2 [(0, .ref (ad o)), (1, .int v1)] → f_X4_isProduct_b2 o n2 v1 M = some q → G ad X M 2 ls [] := by
    intro n2
    induction n2 with
    | zero =>
      intro v1 M ls hl hF
      cases hF
    | succ n2 ih2 =>
      intro v1 M ls hl hF
      replace hF : f_X4_isProduct_b2B (f_X4_isProduct_b2 o n2) o v1 M = some q := hF
      unfold f_X4_isProduct_b2B at hF
      refine r_iload_n Z dX4_isProduct_2 rfl (lv_at hl 1 rfl) ?_
      refine r_iconst (v := 4) Z dX4_isProduct_3 (by decide) ?_
      refine r_icmp_ge Z 41 dX4_isProduct_4 (by decide) (fun hc1 => ?_) (fun hc1 => ?_)
      · replace hF := if_some hc1 hF
        refine r_iconst (v := 1) Z dX4_isProduct_41 (by decide) ?_
        exact r_zret Z hQ (by decide) hF dX4_isProduct_42
      · replace hF := nif_some hc1 hF
        refine r_aload_n Z dX4_isProduct_7 rfl (lv_at hl 0 rfl) ?_
        refine g_4_0 Z ho wm_154 dX4_isProduct_8 ?_
        refine r_iload_n Z dX4_isProduct_11 rfl (lv_at hl 1 rfl) ?_
        obtain ⟨hi2, hF⟩ := ck_some hF
        refine r_aald13 Z (sh_4_0 ho) hi2 dX4_isProduct_12 ?_
        refine g_1_1 Z (se_13 (sh_4_0 ho) hi2) wm_182 dX4_isProduct_13 ?_
        refine r_iconst (v := 4) Z dX4_isProduct_16 (by decide) ?_
        refine r_icmp_eq Z 33 dX4_isProduct_17 (by decide) (fun hc3 => ?_) (fun hc3 => ?_)
        · replace hF := if_some hc3 hF
          refine r_iconst (v := 0) Z dX4_isProduct_33 (by decide) ?_
          exact r_zret Z hQ (by decide) hF dX4_isProduct_34
        · replace hF := nif_some hc3 hF
          refine r_aload_n Z dX4_isProduct_20 rfl (lv_at hl 0 rfl) ?_
          refine g_4_0 Z ho wm_154 dX4_isProduct_21 ?_
          refine r_iload_n Z dX4_isProduct_24 rfl (lv_at hl 1 rfl) ?_
          obtain ⟨hi4, hF⟩ := ck_some hF
          refine r_aald13 Z (sh_4_0 ho) hi4 dX4_isProduct_25 ?_
          refine g_1_1 Z (se_13 (sh_4_0 ho) hi4) wm_182 dX4_isProduct_26 ?_
          refine r_iconst (v := 5) Z dX4_isProduct_29 (by decide) ?_
          refine r_icmp_ne Z 35 dX4_isProduct_30 (by decide) (fun hc5 => ?_) (fun hc5 => ?_)
          · replace hF := nif_some hc5 hF
            obtain ⟨t6, et6, hF⟩ := nm_some hF
            refine r_iinc (j := 1) Z t6 [(1, .int t6), (0, .ref (ad o))] dX4_isProduct_35 hl rfl (by rw [et6]; rfl) (by decide) rfl (fun ls hl => ?_)
            refine r_goto Z 2 dX4_isProduct_38 (by decide) ?_
            exact ih2 t6 M ls (lv_sub hl [1, 0] rfl) hF
          · replace hF := if_some hc5 hF
            refine r_iconst (v := 0) Z dX4_isProduct_33 (by decide) ?_
            exact r_zret Z hQ (by decide) hF dX4_isProduct_34
  unfold f_X4_isProduct at hF
  refine r_iconst (v := 0) Z dX4_isProduct_0 (by decide) ?_
  refine r_istore_n Z [(1, .int 0), (0, .ref (ad o))] dX4_isProduct_1 rfl hl (by decide) rfl (fun ls hl => ?_)
  exact L2 _ 0 M ls (lv_sub hl [1, 0] rfl) hF
theorem dX4_loadPaths_0 : decode cX4_loadPaths 0 = .ok (.aload_n 0, 1) := by decide +kernel
theorem dX4_loadPaths_1 : decode cX4_loadPaths 1 = .ok (.getfield 20, 3) := by decide +kernel
theorem dX4_loadPaths_4 : decode cX4_loadPaths 4 = .ok (.iconst 4, 1) := by decide +kernel
theorem dX4_loadPaths_5 : decode cX4_loadPaths 5 = .ok (.putfield 69, 3) := by decide +kernel
theorem dX4_loadPaths_8 : decode cX4_loadPaths 8 = .ok (.iconst 0, 1) := by decide +kernel
theorem dX4_loadPaths_9 : decode cX4_loadPaths 9 = .ok (.istore_n 1, 1) := by decide +kernel
theorem dX4_loadPaths_10 : decode cX4_loadPaths 10 = .ok (.iload_n 1, 1) := by decide +kernel
theorem dX4_loadPaths_11 : decode cX4_loadPaths 11 = .ok (.iconst 4, 1) := by decide +kernel
theorem dX4_loadPaths_12 : decode cX4_loadPaths 12 = .ok (.if_icmp .ge 44, 3) := by decide +kernel
theorem dX4_loadPaths_15 : decode cX4_loadPaths 15 = .ok (.iconst 0, 1) := by decide +kernel
theorem dX4_loadPaths_16 : decode cX4_loadPaths 16 = .ok (.istore_n 2, 1) := by decide +kernel
theorem dX4_loadPaths_17 : decode cX4_loadPaths 17 = .ok (.iload_n 2, 1) := by decide +kernel
theorem dX4_loadPaths_18 : decode cX4_loadPaths 18 = .ok (.iconst 4, 1) := by decide +kernel
theorem dX4_loadPaths_19 : decode cX4_loadPaths 19 = .ok (.if_icmp .ge 31, 3) := by decide +kernel
theorem dX4_loadPaths_22 : decode cX4_loadPaths 22 = .ok (.aload_n 0, 1) := by decide +kernel
theorem dX4_loadPaths_23 : decode cX4_loadPaths 23 = .ok (.getfield 20, 3) := by decide +kernel
theorem dX4_loadPaths_26 : decode cX4_loadPaths 26 = .ok (.getfield 72, 3) := by decide +kernel
theorem dX4_loadPaths_29 : decode cX4_loadPaths 29 = .ok (.iload_n 1, 1) := by decide +kernel
theorem dX4_loadPaths_30 : decode cX4_loadPaths 30 = .ok (.aaload, 1) := by decide +kernel
theorem dX4_loadPaths_31 : decode cX4_loadPaths 31 = .ok (.iload_n 2, 1) := by decide +kernel
theorem dX4_loadPaths_32 : decode cX4_loadPaths 32 = .ok (.aload_n 0, 1) := by decide +kernel
theorem dX4_loadPaths_33 : decode cX4_loadPaths 33 = .ok (.getfield 11, 3) := by decide +kernel
theorem dX4_loadPaths_36 : decode cX4_loadPaths 36 = .ok (.iload_n 1, 1) := by decide +kernel
theorem dX4_loadPaths_37 : decode cX4_loadPaths 37 = .ok (.aaload, 1) := by decide +kernel
theorem dX4_loadPaths_38 : decode cX4_loadPaths 38 = .ok (.getfield 50, 3) := by decide +kernel
theorem dX4_loadPaths_41 : decode cX4_loadPaths 41 = .ok (.iload_n 2, 1) := by decide +kernel
theorem dX4_loadPaths_42 : decode cX4_loadPaths 42 = .ok (.iaload, 1) := by decide +kernel
theorem dX4_loadPaths_43 : decode cX4_loadPaths 43 = .ok (.iastore, 1) := by decide +kernel
theorem dX4_loadPaths_44 : decode cX4_loadPaths 44 = .ok (.iinc 2 1, 3) := by decide +kernel
theorem dX4_loadPaths_47 : decode cX4_loadPaths 47 = .ok (.goto (-30), 3) := by decide +kernel
theorem dX4_loadPaths_50 : decode cX4_loadPaths 50 = .ok (.iinc 1 1, 3) := by decide +kernel
theorem dX4_loadPaths_53 : decode cX4_loadPaths 53 = .ok (.goto (-43), 3) := by decide +kernel
theorem dX4_loadPaths_56 : decode cX4_loadPaths 56 = .ok (.aload_n 0, 1) := by decide +kernel
theorem dX4_loadPaths_57 : decode cX4_loadPaths 57 = .ok (.getfield 20, 3) := by decide +kernel
theorem dX4_loadPaths_60 : decode cX4_loadPaths 60 = .ok (.invokevirtual 76, 3) := by decide +kernel
theorem dX4_loadPaths_63 : decode cX4_loadPaths 63 = .ok (.return_, 1) := by decide +kernel
theorem cv_X4_loadPaths : wn_cV yX4_loadPaths cX4_loadPaths 3 none RX4 0 := ⟨wm_190, wm_198, wm_199, wm_180, by decide +kernel⟩
abbrev rm_X4_loadPaths : Room := rmz 1 22
set_option maxHeartbeats 4000000 in
set_option maxRecDepth 100000 in
theorem c_X4_loadPaths {ad : Nat → Nat} {o : Nat} {M : Mm} {q : Mm} (ho : shp o = 4) (hF : f_X4_loadPaths o M = some q) : KV ad yX4_loadPaths cX4_loadPaths 3 none rm_X4_loadPaths [.ref (ad o)] M q := by
  refine wn_enterV (own := RX4) (by decide) rfl (Nat.le_of_ble_eq_true rfl) (fun X ls Z hQ hl => ?_)
  have hl : lv_has ls 3 [(0, .ref (ad o))] := hl
  have L10 : ∀ (n10 : Nat) (v1 : Int32) (M : Mm) (ls : Array Slot), lv_has ls 3 [(0, .ref (ad o)), (1, .int v1)] → f_X4_loadPaths_b10 o n10 v1 M = some q → G ad X M 10 ls [] := by
    intro n10
    induction n10 with
    | zero =>
      intro v1 M ls hl hF
      cases hF
    | succ n10 ih10 =>
      have L17 : ∀ (n17 : Nat) (v1 : Int32) (v2 : Int32) (M : Mm) (ls : Array Slot), lv_has ls 3 [(0, .ref (ad o)), (1, .int v1), (2, .int v2)] → f_X4_loadPaths_b17 (f_X4_loadPaths_b10 o n10) o n17 v1 v2 M = some q → G ad X M 17 ls [] := by
        intro n17
        induction n17 with
        | zero =>
          intro v1 v2 M ls hl hF
          cases hF
        | succ n17 ih17 =>
          intro v1 v2 M ls hl hF
          replace hF : f_X4_loadPaths_b17B (f_X4_loadPaths_b10 o n10) (f_X4_loadPaths_b17 (f_X4_loadPaths_b10 o n10) o n17) o v1 v2 M = some q := hF
          unfold f_X4_loadPaths_b17B at hF
          refine r_iload_n Z dX4_loadPaths_17 rfl (lv_at hl 2 rfl) ?_
          refine r_iconst (v := 4) Z dX4_loadPaths_18 (by decide) ?_
          refine r_icmp_ge Z 50 dX4_loadPaths_19 (by decide) (fun hc1 => ?_) (fun hc1 => ?_)
          · replace hF := if_some hc1 hF
            obtain ⟨t2, et2, hF⟩ := nm_some hF
            refine r_iinc (j := 1) Z t2 [(1, .int t2), (0, .ref (ad o)), (2, .int v2)] dX4_loadPaths_50 hl rfl (by rw [et2]; rfl) (by decide) rfl (fun ls hl => ?_)
            refine r_goto Z 10 dX4_loadPaths_53 (by decide) ?_
            exact ih10 t2 M ls (lv_sub hl [1, 0] rfl) hF
          · replace hF := nif_some hc1 hF
            refine r_aload_n Z dX4_loadPaths_22 rfl (lv_at hl 0 rfl) ?_
            refine g_4_1 Z ho wm_157 dX4_loadPaths_23 ?_
            refine g_0_0 Z (sh_4_1 ho) wm_192 dX4_loadPaths_26 ?_
            refine r_iload_n Z dX4_loadPaths_29 rfl (lv_at hl 1 rfl) ?_
            obtain ⟨hi3, hF⟩ := ck_some hF
            refine r_aald15 Z (sh_0_0 (sh_4_1 ho)) hi3 dX4_loadPaths_30 ?_
            refine r_iload_n Z dX4_loadPaths_31 rfl (lv_at hl 2 rfl) ?_
            refine r_aload_n Z dX4_loadPaths_32 rfl (lv_at hl 0 rfl) ?_
            refine g_4_0 Z ho wm_154 dX4_loadPaths_33 ?_
            refine r_iload_n Z dX4_loadPaths_36 rfl (lv_at hl 1 rfl) ?_
            obtain ⟨hi4, hF⟩ := ck_some hF
            refine r_aald13 Z (sh_4_0 ho) hi4 dX4_loadPaths_37 ?_
            refine g_1_0 Z (se_13 (sh_4_0 ho) hi4) wm_172 dX4_loadPaths_38 ?_
            refine r_iload_n Z dX4_loadPaths_41 rfl (lv_at hl 2 rfl) ?_
            obtain ⟨hi5, hF⟩ := ck_some hF
            refine r_iaload Z (shp_lt (sh_1_0 (se_13 (sh_4_0 ho) hi4)) (by decide)) (fun _ _ => ce_104 (sh_1_0 (se_13 (sh_4_0 ho) hi4))) hi5 dX4_loadPaths_42 ?_
            obtain ⟨hi6, hF⟩ := ck_some hF
            obtain ⟨M7, eM7, hF⟩ := nm_some hF
            refine r_iastore Z (shp_lt (se_15 (sh_0_0 (sh_4_1 ho)) hi3) (by decide)) (fun _ _ => ce_106 (se_15 (sh_0_0 (sh_4_1 ho)) hi3)) hi6 dX4_loadPaths_43 ?_
            rw [← eM7]
            obtain ⟨t8, et8, hF⟩ := nm_some hF
            refine r_iinc (j := 2) Z t8 [(2, .int t8), (0, .ref (ad o)), (1, .int v1)] dX4_loadPaths_44 hl rfl (by rw [et8]; rfl) (by decide) rfl (fun ls hl => ?_)
            refine r_goto Z 17 dX4_loadPaths_47 (by decide) ?_
            exact ih17 v1 t8 M7 ls (lv_sub hl [1, 2, 0] rfl) hF
      intro v1 M ls hl hF
      replace hF : f_X4_loadPaths_b10B (f_X4_loadPaths_b10 o n10) o v1 M = some q := hF
      unfold f_X4_loadPaths_b10B at hF
      refine r_iload_n Z dX4_loadPaths_10 rfl (lv_at hl 1 rfl) ?_
      refine r_iconst (v := 4) Z dX4_loadPaths_11 (by decide) ?_
      refine r_icmp_ge Z 56 dX4_loadPaths_12 (by decide) (fun hc9 => ?_) (fun hc9 => ?_)
      · replace hF := if_some hc9 hF
        refine r_aload_n Z dX4_loadPaths_56 rfl (lv_at hl 0 rfl) ?_
        refine g_4_1 Z ho wm_157 dX4_loadPaths_57 ?_
        obtain ⟨M10, hM10, hF⟩ := bd_some hF
        refine r_invVv [] Z (c_X0_noteLeads (sh_4_1 ho) hM10) cv_X0_noteLeads rfl (shp_lt (sh_4_1 ho) (by decide)) (fun _ _ => ⟨_, ce_0 (sh_4_1 ho)⟩) wm_193 rfl rfl ⟨Nat.le_of_ble_eq_true rfl, Nat.le_of_ble_eq_true rfl⟩ rfl hl.1 rfl (Nat.le_of_ble_eq_true rfl) dX4_loadPaths_60 ?_
        exact r_vret Z hQ hF dX4_loadPaths_63
      · replace hF := nif_some hc9 hF
        refine r_iconst (v := 0) Z dX4_loadPaths_15 (by decide) ?_
        refine r_istore_n Z [(2, .int 0), (0, .ref (ad o)), (1, .int v1)] dX4_loadPaths_16 rfl hl (by decide) rfl (fun ls hl => ?_)
        exact L17 _ v1 0 M ls (lv_sub hl [1, 2, 0] rfl) hF
  unfold f_X4_loadPaths at hF
  refine r_aload_n Z dX4_loadPaths_0 rfl (lv_at hl 0 rfl) ?_
  refine g_4_1 Z ho wm_157 dX4_loadPaths_1 ?_
  refine r_iconst (v := 4) Z dX4_loadPaths_4 (by decide) ?_
  obtain ⟨M11, eM11, hF⟩ := nm_some hF
  refine p_0_3 Z (sh_4_1 ho) wm_191 dX4_loadPaths_5 ?_
  rw [← eM11]
  refine r_iconst (v := 0) Z dX4_loadPaths_8 (by decide) ?_
  refine r_istore_n Z [(1, .int 0), (0, .ref (ad o))] dX4_loadPaths_9 rfl hl (by decide) rfl (fun ls hl => ?_)
  exact L10 _ 0 M11 ls (lv_sub hl [1, 0] rfl) hF
theorem dX4_isInnerOf_0 : decode cX4_isInnerOf 0 = .ok (.aload_n 0, 1) := by decide +kernel
theorem dX4_isInnerOf_1 : decode cX4_isInnerOf 1 = .ok (.getfield 11, 3) := by decide +kernel
theorem dX4_isInnerOf_4 : decode cX4_isInnerOf 4 = .ok (.iload_n 1, 1) := by decide +kernel
theorem dX4_isInnerOf_5 : decode cX4_isInnerOf 5 = .ok (.aaload, 1) := by decide +kernel
theorem dX4_isInnerOf_6 : decode cX4_isInnerOf 6 = .ok (.getfield 79, 3) := by decide +kernel
theorem dX4_isInnerOf_9 : decode cX4_isInnerOf 9 = .ok (.ifCond .ne 33, 3) := by decide +kernel
theorem dX4_isInnerOf_12 : decode cX4_isInnerOf 12 = .ok (.aload_n 0, 1) := by decide +kernel
theorem dX4_isInnerOf_13 : decode cX4_isInnerOf 13 = .ok (.getfield 11, 3) := by decide +kernel
theorem dX4_isInnerOf_16 : decode cX4_isInnerOf 16 = .ok (.iload_n 1, 1) := by decide +kernel
theorem dX4_isInnerOf_17 : decode cX4_isInnerOf 17 = .ok (.aaload, 1) := by decide +kernel
theorem dX4_isInnerOf_18 : decode cX4_isInnerOf 18 = .ok (.invokevirtual 88, 3) := by decide +kernel
theorem dX4_isInnerOf_21 : decode cX4_isInnerOf 21 = .ok (.ifCond .ne 21, 3) := by decide +kernel
theorem dX4_isInnerOf_24 : decode cX4_isInnerOf 24 = .ok (.aload_n 0, 1) := by decide +kernel
theorem dX4_isInnerOf_25 : decode cX4_isInnerOf 25 = .ok (.getfield 20, 3) := by decide +kernel
theorem dX4_isInnerOf_28 : decode cX4_isInnerOf 28 = .ok (.iconst 1, 1) := by decide +kernel
theorem dX4_isInnerOf_29 : decode cX4_isInnerOf 29 = .ok (.iload_n 1, 1) := by decide +kernel
theorem dX4_isInnerOf_30 : decode cX4_isInnerOf 30 = .ok (.ishl, 1) := by decide +kernel
theorem dX4_isInnerOf_31 : decode cX4_isInnerOf 31 = .ok (.invokevirtual 82, 3) := by decide +kernel
theorem dX4_isInnerOf_34 : decode cX4_isInnerOf 34 = .ok (.iload_n 2, 1) := by decide +kernel
theorem dX4_isInnerOf_35 : decode cX4_isInnerOf 35 = .ok (.if_icmp .ne 7, 3) := by decide +kernel
theorem dX4_isInnerOf_38 : decode cX4_isInnerOf 38 = .ok (.iconst 1, 1) := by decide +kernel
theorem dX4_isInnerOf_39 : decode cX4_isInnerOf 39 = .ok (.goto 4, 3) := by decide +kernel
theorem dX4_isInnerOf_42 : decode cX4_isInnerOf 42 = .ok (.iconst 0, 1) := by decide +kernel
theorem dX4_isInnerOf_43 : decode cX4_isInnerOf 43 = .ok (.ireturn, 1) := by decide +kernel
theorem cv_X4_isInnerOf : wn_cV yX4_isInnerOf cX4_isInnerOf 3 (some .boolean) RX4 2 := ⟨wm_221, wm_229, wm_230, wm_180, by decide +kernel⟩
abbrev rm_X4_isInnerOf : Room := rmz 1 24
set_option maxHeartbeats 4000000 in
set_option maxRecDepth 100000 in
theorem c_X4_isInnerOf {ad : Nat → Nat} {o : Nat} {x1 : Int32} {x2 : Int32} {M : Mm} {q : Int32 × Mm} (ho : shp o = 4) (hF : f_X4_isInnerOf o x1 x2 M = some q) : KI ad yX4_isInnerOf cX4_isInnerOf 3 (some .boolean) rm_X4_isInnerOf [.ref (ad o), .int x1, .int x2] M q.1 q.2 := by
  refine wn_enterI (own := RX4) (by decide) rfl (Nat.le_of_ble_eq_true rfl) (fun X ls Z hQ hl => ?_)
  have hl : lv_has ls 3 [(0, .ref (ad o)), (1, .int x1), (2, .int x2)] := hl
  unfold f_X4_isInnerOf at hF
  refine r_aload_n Z dX4_isInnerOf_0 rfl (lv_at hl 0 rfl) ?_
  refine g_4_0 Z ho wm_154 dX4_isInnerOf_1 ?_
  refine r_iload_n Z dX4_isInnerOf_4 rfl (lv_at hl 1 rfl) ?_
  obtain ⟨hi1, hF⟩ := ck_some hF
  refine r_aald13 Z (sh_4_0 ho) hi1 dX4_isInnerOf_5 ?_
  refine g_1_5 Z (se_13 (sh_4_0 ho) hi1) wm_195 dX4_isInnerOf_6 ?_
  refine r_if_ne Z 42 dX4_isInnerOf_9 (by decide) (fun hc2 => ?_) (fun hc2 => ?_)
  · replace hF := nif_some hc2 hF
    refine r_iconst (v := 0) Z dX4_isInnerOf_42 (by decide) ?_
    exact r_zret Z hQ (by decide) hF dX4_isInnerOf_43
  · replace hF := if_some hc2 hF
    refine r_aload_n Z dX4_isInnerOf_12 rfl (lv_at hl 0 rfl) ?_
    refine g_4_0 Z ho wm_154 dX4_isInnerOf_13 ?_
    refine r_iload_n Z dX4_isInnerOf_16 rfl (lv_at hl 1 rfl) ?_
    obtain ⟨hi3, hF⟩ := ck_some hF
    refine r_aald13 Z (sh_4_0 ho) hi3 dX4_isInnerOf_17 ?_
    obtain ⟨q4, hq4, hF⟩ := bd_some hF
    refine r_invVi [] Z (c_X1_leaving (se_13 (sh_4_0 ho) hi3) hq4) cv_X1_leaving rfl (shp_lt (se_13 (sh_4_0 ho) hi3) (by decide)) (fun _ _ => ⟨_, ce_1 (se_13 (sh_4_0 ho) hi3)⟩) wm_200 rfl rfl ⟨Nat.le_of_ble_eq_true rfl, Nat.le_of_ble_eq_true rfl⟩ rfl hl.1 rfl (Nat.le_of_ble_eq_true rfl) dX4_isInnerOf_18 ?_
    refine r_if_ne Z 42 dX4_isInnerOf_21 (by decide) (fun hc5 => ?_) (fun hc5 => ?_)
    · replace hF := nif_some hc5 hF
      refine r_iconst (v := 0) Z dX4_isInnerOf_42 (by decide) ?_
      exact r_zret Z hQ (by decide) hF dX4_isInnerOf_43
    · replace hF := if_some hc5 hF
      refine r_aload_n Z dX4_isInnerOf_24 rfl (lv_at hl 0 rfl) ?_
      refine g_4_1 Z ho wm_157 dX4_isInnerOf_25 ?_
      refine r_iconst (v := 1) Z dX4_isInnerOf_28 (by decide) ?_
      refine r_iload_n Z dX4_isInnerOf_29 rfl (lv_at hl 1 rfl) ?_
      refine r_ishl Z dX4_isInnerOf_30 ?_
      obtain ⟨q6, hq6, hF⟩ := bd_some hF
      refine r_invVi [] Z (c_X0_reachedFrom (sh_4_1 ho) hq6) cv_X0_reachedFrom rfl (shp_lt (sh_4_1 ho) (by decide)) (fun _ _ => ⟨_, ce_0 (sh_4_1 ho)⟩) wm_196 rfl rfl ⟨Nat.le_of_ble_eq_true rfl, Nat.le_of_ble_eq_true rfl⟩ rfl hl.1 rfl (Nat.le_of_ble_eq_true rfl) dX4_isInnerOf_31 ?_
      refine r_iload_n Z dX4_isInnerOf_34 rfl (lv_at hl 2 rfl) ?_
      refine r_icmp_ne Z 42 dX4_isInnerOf_35 (by decide) (fun hc7 => ?_) (fun hc7 => ?_)
      · replace hF := nif_some hc7 hF
        refine r_iconst (v := 0) Z dX4_isInnerOf_42 (by decide) ?_
        exact r_zret Z hQ (by decide) hF dX4_isInnerOf_43
      · replace hF := if_some hc7 hF
        refine r_iconst (v := 1) Z dX4_isInnerOf_38 (by decide) ?_
        refine r_goto Z 43 dX4_isInnerOf_39 (by decide) ?_
        exact r_zret Z hQ (by decide) hF dX4_isInnerOf_43
theorem dX4_isClosed_0 : decode cX4_isClosed 0 = .ok (.aload_n 0, 1) := by decide +kernel
theorem dX4_isClosed_1 : decode cX4_isClosed 1 = .ok (.invokevirtual 126, 3) := by decide +kernel
theorem dX4_isClosed_4 : decode cX4_isClosed 4 = .ok (.istore_n 1, 1) := by decide +kernel
theorem dX4_isClosed_5 : decode cX4_isClosed 5 = .ok (.iload_n 1, 1) := by decide +kernel
theorem dX4_isClosed_6 : decode cX4_isClosed 6 = .ok (.ifCond .eq 10, 3) := by decide +kernel
theorem dX4_isClosed_9 : decode cX4_isClosed 9 = .ok (.aload_n 0, 1) := by decide +kernel
theorem dX4_isClosed_10 : decode cX4_isClosed 10 = .ok (.invokevirtual 129, 3) := by decide +kernel
theorem dX4_isClosed_13 : decode cX4_isClosed 13 = .ok (.ifCond .ne 5, 3) := by decide +kernel
theorem dX4_isClosed_16 : decode cX4_isClosed 16 = .ok (.iconst 0, 1) := by decide +kernel
theorem dX4_isClosed_17 : decode cX4_isClosed 17 = .ok (.ireturn, 1) := by decide +kernel
theorem dX4_isClosed_18 : decode cX4_isClosed 18 = .ok (.aload_n 0, 1) := by decide +kernel
theorem dX4_isClosed_19 : decode cX4_isClosed 19 = .ok (.invokevirtual 85, 3) := by decide +kernel
theorem dX4_isClosed_22 : decode cX4_isClosed 22 = .ok (.iconst 0, 1) := by decide +kernel
theorem dX4_isClosed_23 : decode cX4_isClosed 23 = .ok (.istore_n 2, 1) := by decide +kernel
theorem dX4_isClosed_24 : decode cX4_isClosed 24 = .ok (.iload_n 2, 1) := by decide +kernel
theorem dX4_isClosed_25 : decode cX4_isClosed 25 = .ok (.iconst 4, 1) := by decide +kernel
theorem dX4_isClosed_26 : decode cX4_isClosed 26 = .ok (.if_icmp .ge 28, 3) := by decide +kernel
theorem dX4_isClosed_29 : decode cX4_isClosed 29 = .ok (.aload_n 0, 1) := by decide +kernel
theorem dX4_isClosed_30 : decode cX4_isClosed 30 = .ok (.iload_n 2, 1) := by decide +kernel
theorem dX4_isClosed_31 : decode cX4_isClosed 31 = .ok (.invokevirtual 54, 3) := by decide +kernel
theorem dX4_isClosed_34 : decode cX4_isClosed 34 = .ok (.ifCond .eq 14, 3) := by decide +kernel
theorem dX4_isClosed_37 : decode cX4_isClosed 37 = .ok (.aload_n 0, 1) := by decide +kernel
theorem dX4_isClosed_38 : decode cX4_isClosed 38 = .ok (.iload_n 2, 1) := by decide +kernel
theorem dX4_isClosed_39 : decode cX4_isClosed 39 = .ok (.iload_n 1, 1) := by decide +kernel
theorem dX4_isClosed_40 : decode cX4_isClosed 40 = .ok (.invokevirtual 132, 3) := by decide +kernel
theorem dX4_isClosed_43 : decode cX4_isClosed 43 = .ok (.ifCond .ne 5, 3) := by decide +kernel
theorem dX4_isClosed_46 : decode cX4_isClosed 46 = .ok (.iconst 0, 1) := by decide +kernel
theorem dX4_isClosed_47 : decode cX4_isClosed 47 = .ok (.ireturn, 1) := by decide +kernel
theorem dX4_isClosed_48 : decode cX4_isClosed 48 = .ok (.iinc 2 1, 3) := by decide +kernel
theorem dX4_isClosed_51 : decode cX4_isClosed 51 = .ok (.goto (-27), 3) := by decide +kernel
theorem dX4_isClosed_54 : decode cX4_isClosed 54 = .ok (.iconst 1, 1) := by decide +kernel
theorem dX4_isClosed_55 : decode cX4_isClosed 55 = .ok (.ireturn, 1) := by decide +kernel
theorem cv_X4_isClosed : wn_cV yX4_isClosed cX4_isClosed 3 (some .boolean) RX4 0 := ⟨wm_231, wm_474, wm_475, wm_180, by decide +kernel⟩
abbrev rm_X4_isClosed : Room := rmz 3 63
set_option maxHeartbeats 4000000 in
set_option maxRecDepth 100000 in
theorem c_X4_isClosed {ad : Nat → Nat} {o : Nat} {M : Mm} {q : Int32 × Mm} (ho : shp o = 4) (hF : f_X4_isClosed o M = some q) : KI ad yX4_isClosed cX4_isClosed 3 (some .boolean) rm_X4_isClosed [.ref (ad o)] M q.1 q.2 := by
  refine wn_enterI (own := RX4) (by decide) rfl (Nat.le_of_ble_eq_true rfl) (fun X ls Z hQ hl => ?_)
  have hl : lv_has ls 3 [(0, .ref (ad o))] := hl
  have L24 : ∀ (n24 : Nat) (v1 : Int32) (v2 : Int32) (M : Mm) (ls : Array Slot), lv_has ls 3 [(0, .ref (ad o)), (1, .int v1), (2, .int v2)] → f_X4_isClosed_b24 o n24 v1 v2 M = some q → G ad X M 24 ls [] := by
    intro n24
    induction n24 with
    | zero =>
      intro v1 v2 M ls hl hF
      cases hF
    | succ n24 ih24 =>
      intro v1 v2 M ls hl hF
      replace hF : f_X4_isClosed_b24B (f_X4_isClosed_b24 o n24) o v1 v2 M = some q := hF
      unfold f_X4_isClosed_b24B at hF
      refine r_iload_n Z dX4_isClosed_24 rfl (lv_at hl 2 rfl) ?_
      refine r_iconst (v := 4) Z dX4_isClosed_25 (by decide) ?_
      refine r_icmp_ge Z 54 dX4_isClosed_26 (by decide) (fun hc1 => ?_) (fun hc1 => ?_)
      · replace hF := if_some hc1 hF
        refine r_iconst (v := 1) Z dX4_isClosed_54 (by decide) ?_
        exact r_zret Z hQ (by decide) hF dX4_isClosed_55
      · replace hF := nif_some hc1 hF
        refine r_aload_n Z dX4_isClosed_29 rfl (lv_at hl 0 rfl) ?_
        refine r_iload_n Z dX4_isClosed_30 rfl (lv_at hl 2 rfl) ?_
        obtain ⟨q2, hq2, hF⟩ := bd_some hF
        refine r_invVi [] Z (c_X4_has ho hq2) cv_X4_has rfl (shp_lt ho (by decide)) (fun _ _ => ⟨_, ce_4 ho⟩) wm_177 rfl rfl ⟨Nat.le_of_ble_eq_true rfl, Nat.le_of_ble_eq_true rfl⟩ rfl hl.1 rfl (Nat.le_of_ble_eq_true rfl) dX4_isClosed_31 ?_
        refine r_if_eq Z 48 dX4_isClosed_34 (by decide) (fun hc3 => ?_) (fun hc3 => ?_)
        · replace hF := if_some hc3 hF
          obtain ⟨t4, et4, hF⟩ := nm_some hF
          refine r_iinc (j := 2) Z t4 [(2, .int t4), (0, .ref (ad o)), (1, .int v1)] dX4_isClosed_48 hl rfl (by rw [et4]; rfl) (by decide) rfl (fun ls hl => ?_)
          refine r_goto Z 24 dX4_isClosed_51 (by decide) ?_
          exact ih24 v1 t4 q2.2 ls (lv_sub hl [1, 2, 0] rfl) hF
        · replace hF := nif_some hc3 hF
          refine r_aload_n Z dX4_isClosed_37 rfl (lv_at hl 0 rfl) ?_
          refine r_iload_n Z dX4_isClosed_38 rfl (lv_at hl 2 rfl) ?_
          refine r_iload_n Z dX4_isClosed_39 rfl (lv_at hl 1 rfl) ?_
          obtain ⟨q5, hq5, hF⟩ := bd_some hF
          refine r_invVi [] Z (c_X4_isInnerOf ho hq5) cv_X4_isInnerOf rfl (shp_lt ho (by decide)) (fun _ _ => ⟨_, ce_4 ho⟩) wm_228 rfl rfl ⟨Nat.le_of_ble_eq_true rfl, Nat.le_of_ble_eq_true rfl⟩ rfl hl.1 rfl (Nat.le_of_ble_eq_true rfl) dX4_isClosed_40 ?_
          refine r_if_ne Z 48 dX4_isClosed_43 (by decide) (fun hc6 => ?_) (fun hc6 => ?_)
          · replace hF := nif_some hc6 hF
            obtain ⟨t7, et7, hF⟩ := nm_some hF
            refine r_iinc (j := 2) Z t7 [(2, .int t7), (0, .ref (ad o)), (1, .int v1)] dX4_isClosed_48 hl rfl (by rw [et7]; rfl) (by decide) rfl (fun ls hl => ?_)
            refine r_goto Z 24 dX4_isClosed_51 (by decide) ?_
            exact ih24 v1 t7 q5.2 ls (lv_sub hl [1, 2, 0] rfl) hF
          · replace hF := if_some hc6 hF
            refine r_iconst (v := 0) Z dX4_isClosed_46 (by decide) ?_
            exact r_zret Z hQ (by decide) hF dX4_isClosed_47
  unfold f_X4_isClosed at hF
  refine r_aload_n Z dX4_isClosed_0 rfl (lv_at hl 0 rfl) ?_
  obtain ⟨q8, hq8, hF⟩ := bd_some hF
  refine r_invVi [] Z (c_X4_bitsThere ho hq8) cv_X4_bitsThere rfl (shp_lt ho (by decide)) (fun _ _ => ⟨_, ce_4 ho⟩) wm_222 rfl rfl ⟨Nat.le_of_ble_eq_true rfl, Nat.le_of_ble_eq_true rfl⟩ rfl hl.1 rfl (Nat.le_of_ble_eq_true rfl) dX4_isClosed_1 ?_
  refine r_istore_n Z [(1, .int q8.1), (0, .ref (ad o))] dX4_isClosed_4 rfl hl (by decide) rfl (fun ls hl => ?_)
  refine r_iload_n Z dX4_isClosed_5 rfl (lv_at hl 0 rfl) ?_
  refine r_if_eq Z 16 dX4_isClosed_6 (by decide) (fun hc9 => ?_) (fun hc9 => ?_)
  · replace hF := if_some hc9 hF
    refine r_iconst (v := 0) Z dX4_isClosed_16 (by decide) ?_
    exact r_zret Z hQ (by decide) hF dX4_isClosed_17
  · replace hF := nif_some hc9 hF
    refine r_aload_n Z dX4_isClosed_9 rfl (lv_at hl 1 rfl) ?_
    obtain ⟨q10, hq10, hF⟩ := bd_some hF
    refine r_invVi [] Z (c_X4_isProduct ho hq10) cv_X4_isProduct rfl (shp_lt ho (by decide)) (fun _ _ => ⟨_, ce_4 ho⟩) wm_225 rfl rfl ⟨Nat.le_of_ble_eq_true rfl, Nat.le_of_ble_eq_true rfl⟩ rfl hl.1 rfl (Nat.le_of_ble_eq_true rfl) dX4_isClosed_10 ?_
    refine r_if_ne Z 18 dX4_isClosed_13 (by decide) (fun hc11 => ?_) (fun hc11 => ?_)
    · replace hF := nif_some hc11 hF
      refine r_aload_n Z dX4_isClosed_18 rfl (lv_at hl 1 rfl) ?_
      obtain ⟨M12, hM12, hF⟩ := bd_some hF
      refine r_invVv [] Z (c_X4_loadPaths ho hM12) cv_X4_loadPaths rfl (shp_lt ho (by decide)) (fun _ _ => ⟨_, ce_4 ho⟩) wm_197 rfl rfl ⟨Nat.le_of_ble_eq_true rfl, Nat.le_of_ble_eq_true rfl⟩ rfl hl.1 rfl (Nat.le_of_ble_eq_true rfl) dX4_isClosed_19 ?_
      refine r_iconst (v := 0) Z dX4_isClosed_22 (by decide) ?_
      refine r_istore_n Z [(2, .int 0), (1, .int q8.1), (0, .ref (ad o))] dX4_isClosed_23 rfl hl (by decide) rfl (fun ls hl => ?_)
      exact L24 _ q8.1 0 M12 ls (lv_sub hl [2, 1, 0] rfl) hF
    · replace hF := if_some hc11 hF
      refine r_iconst (v := 0) Z dX4_isClosed_16 (by decide) ?_
      exact r_zret Z hQ (by decide) hF dX4_isClosed_17
theorem dX4_isOverfull_0 : decode cX4_isOverfull 0 = .ok (.aload_n 0, 1) := by decide +kernel
theorem dX4_isOverfull_1 : decode cX4_isOverfull 1 = .ok (.iload_n 1, 1) := by decide +kernel
theorem dX4_isOverfull_2 : decode cX4_isOverfull 2 = .ok (.invokevirtual 54, 3) := by decide +kernel
theorem dX4_isOverfull_5 : decode cX4_isOverfull 5 = .ok (.ifCond .eq 38, 3) := by decide +kernel
theorem dX4_isOverfull_8 : decode cX4_isOverfull 8 = .ok (.aload_n 0, 1) := by decide +kernel
theorem dX4_isOverfull_9 : decode cX4_isOverfull 9 = .ok (.getfield 11, 3) := by decide +kernel
theorem dX4_isOverfull_12 : decode cX4_isOverfull 12 = .ok (.iload_n 1, 1) := by decide +kernel
theorem dX4_isOverfull_13 : decode cX4_isOverfull 13 = .ok (.aaload, 1) := by decide +kernel
theorem dX4_isOverfull_14 : decode cX4_isOverfull 14 = .ok (.getfield 58, 3) := by decide +kernel
theorem dX4_isOverfull_17 : decode cX4_isOverfull 17 = .ok (.iconst 3, 1) := by decide +kernel
theorem dX4_isOverfull_18 : decode cX4_isOverfull 18 = .ok (.if_icmp .eq 25, 3) := by decide +kernel
theorem dX4_isOverfull_21 : decode cX4_isOverfull 21 = .ok (.aload_n 0, 1) := by decide +kernel
theorem dX4_isOverfull_22 : decode cX4_isOverfull 22 = .ok (.getfield 38, 3) := by decide +kernel
theorem dX4_isOverfull_25 : decode cX4_isOverfull 25 = .ok (.getfield 105, 3) := by decide +kernel
theorem dX4_isOverfull_28 : decode cX4_isOverfull 28 = .ok (.aload_n 0, 1) := by decide +kernel
theorem dX4_isOverfull_29 : decode cX4_isOverfull 29 = .ok (.getfield 38, 3) := by decide +kernel
theorem dX4_isOverfull_32 : decode cX4_isOverfull 32 = .ok (.getfield 109, 3) := by decide +kernel
theorem dX4_isOverfull_35 : decode cX4_isOverfull 35 = .ok (.lcmp, 1) := by decide +kernel
theorem dX4_isOverfull_36 : decode cX4_isOverfull 36 = .ok (.ifCond .lt 7, 3) := by decide +kernel
theorem dX4_isOverfull_39 : decode cX4_isOverfull 39 = .ok (.iconst 1, 1) := by decide +kernel
theorem dX4_isOverfull_40 : decode cX4_isOverfull 40 = .ok (.goto 4, 3) := by decide +kernel
theorem dX4_isOverfull_43 : decode cX4_isOverfull 43 = .ok (.iconst 0, 1) := by decide +kernel
theorem dX4_isOverfull_44 : decode cX4_isOverfull 44 = .ok (.ireturn, 1) := by decide +kernel
theorem cv_X4_isOverfull : wn_cV yX4_isOverfull cX4_isOverfull 2 (some .boolean) RX4 1 := ⟨wm_218, wm_463, wm_464, wm_180, by decide +kernel⟩
abbrev rm_X4_isOverfull : Room := rmz 2 41
set_option maxHeartbeats 4000000 in
set_option maxRecDepth 100000 in
theorem c_X4_isOverfull {ad : Nat → Nat} {o : Nat} {x1 : Int32} {M : Mm} {q : Int32 × Mm} (ho : shp o = 4) (hF : f_X4_isOverfull o x1 M = some q) : KI ad yX4_isOverfull cX4_isOverfull 2 (some .boolean) rm_X4_isOverfull [.ref (ad o), .int x1] M q.1 q.2 := by
  refine wn_enterI (own := RX4) (by decide) rfl (Nat.le_of_ble_eq_true rfl) (fun X ls Z hQ hl => ?_)
  have hl : lv_has ls 2 [(0, .ref (ad o)), (1, .int x1)] := hl
  unfold f_X4_isOverfull at hF
  refine r_aload_n Z dX4_isOverfull_0 rfl (lv_at hl 0 rfl) ?_
  refine r_iload_n Z dX4_isOverfull_1 rfl (lv_at hl 1 rfl) ?_
  obtain ⟨q1, hq1, hF⟩ := bd_some hF
  refine r_invVi [] Z (c_X4_has ho hq1) cv_X4_has rfl (shp_lt ho (by decide)) (fun _ _ => ⟨_, ce_4 ho⟩) wm_177 rfl rfl ⟨Nat.le_of_ble_eq_true rfl, Nat.le_of_ble_eq_true rfl⟩ rfl hl.1 rfl (Nat.le_of_ble_eq_true rfl) dX4_isOverfull_2 ?_
  refine r_if_eq Z 43 dX4_isOverfull_5 (by decide) (fun hc2 => ?_) (fun hc2 => ?_)
  · replace hF := if_some hc2 hF
    refine r_iconst (v := 0) Z dX4_isOverfull_43 (by decide) ?_
    exact r_zret Z hQ (by decide) hF dX4_isOverfull_44
  · replace hF := nif_some hc2 hF
    refine r_aload_n Z dX4_isOverfull_8 rfl (lv_at hl 0 rfl) ?_
    refine g_4_0 Z ho wm_154 dX4_isOverfull_9 ?_
    refine r_iload_n Z dX4_isOverfull_12 rfl (lv_at hl 1 rfl) ?_
    obtain ⟨hi3, hF⟩ := ck_some hF
    refine r_aald13 Z (sh_4_0 ho) hi3 dX4_isOverfull_13 ?_
    refine g_1_1 Z (se_13 (sh_4_0 ho) hi3) wm_182 dX4_isOverfull_14 ?_
    refine r_iconst (v := 3) Z dX4_isOverfull_17 (by decide) ?_
    refine r_icmp_eq Z 43 dX4_isOverfull_18 (by decide) (fun hc4 => ?_) (fun hc4 => ?_)
    · replace hF := if_some hc4 hF
      refine r_iconst (v := 0) Z dX4_isOverfull_43 (by decide) ?_
      exact r_zret Z hQ (by decide) hF dX4_isOverfull_44
    · replace hF := nif_some hc4 hF
      refine r_aload_n Z dX4_isOverfull_21 rfl (lv_at hl 0 rfl) ?_
      refine g_4_4 Z ho wm_163 dX4_isOverfull_22 ?_
      refine g_2_0 Z (sh_4_4 ho) wm_210 dX4_isOverfull_25 ?_
      refine r_aload_n Z dX4_isOverfull_28 rfl (lv_at hl 0 rfl) ?_
      refine g_4_4 Z ho wm_163 dX4_isOverfull_29 ?_
      refine g_2_1 Z (sh_4_4 ho) wm_211 dX4_isOverfull_32 ?_
      refine r_lcmp Z dX4_isOverfull_35 ?_
      refine r_if_lt Z 43 dX4_isOverfull_36 (by decide) (fun hc5 => ?_) (fun hc5 => ?_)
      · replace hF := if_some hc5 hF
        refine r_iconst (v := 0) Z dX4_isOverfull_43 (by decide) ?_
        exact r_zret Z hQ (by decide) hF dX4_isOverfull_44
      · replace hF := nif_some hc5 hF
        refine r_iconst (v := 1) Z dX4_isOverfull_39 (by decide) ?_
        refine r_goto Z 44 dX4_isOverfull_40 (by decide) ?_
        exact r_zret Z hQ (by decide) hF dX4_isOverfull_44
theorem dX4_keptBits_0 : decode cX4_keptBits 0 = .ok (.aload_n 0, 1) := by decide +kernel
theorem dX4_keptBits_1 : decode cX4_keptBits 1 = .ok (.invokevirtual 85, 3) := by decide +kernel
theorem dX4_keptBits_4 : decode cX4_keptBits 4 = .ok (.iconst 0, 1) := by decide +kernel
theorem dX4_keptBits_5 : decode cX4_keptBits 5 = .ok (.istore_n 1, 1) := by decide +kernel
theorem dX4_keptBits_6 : decode cX4_keptBits 6 = .ok (.iconst 0, 1) := by decide +kernel
theorem dX4_keptBits_7 : decode cX4_keptBits 7 = .ok (.istore_n 2, 1) := by decide +kernel
theorem dX4_keptBits_8 : decode cX4_keptBits 8 = .ok (.iload_n 2, 1) := by decide +kernel
theorem dX4_keptBits_9 : decode cX4_keptBits 9 = .ok (.iconst 4, 1) := by decide +kernel
theorem dX4_keptBits_10 : decode cX4_keptBits 10 = .ok (.if_icmp .ge 35, 3) := by decide +kernel
theorem dX4_keptBits_13 : decode cX4_keptBits 13 = .ok (.aload_n 0, 1) := by decide +kernel
theorem dX4_keptBits_14 : decode cX4_keptBits 14 = .ok (.iload_n 2, 1) := by decide +kernel
theorem dX4_keptBits_15 : decode cX4_keptBits 15 = .ok (.invokevirtual 54, 3) := by decide +kernel
theorem dX4_keptBits_18 : decode cX4_keptBits 18 = .ok (.ifCond .eq 21, 3) := by decide +kernel
theorem dX4_keptBits_21 : decode cX4_keptBits 21 = .ok (.aload_n 0, 1) := by decide +kernel
theorem dX4_keptBits_22 : decode cX4_keptBits 22 = .ok (.getfield 11, 3) := by decide +kernel
theorem dX4_keptBits_25 : decode cX4_keptBits 25 = .ok (.iload_n 2, 1) := by decide +kernel
theorem dX4_keptBits_26 : decode cX4_keptBits 26 = .ok (.aaload, 1) := by decide +kernel
theorem dX4_keptBits_27 : decode cX4_keptBits 27 = .ok (.invokevirtual 88, 3) := by decide +kernel
theorem dX4_keptBits_30 : decode cX4_keptBits 30 = .ok (.ifCond .le 9, 3) := by decide +kernel
theorem dX4_keptBits_33 : decode cX4_keptBits 33 = .ok (.iload_n 1, 1) := by decide +kernel
theorem dX4_keptBits_34 : decode cX4_keptBits 34 = .ok (.iconst 1, 1) := by decide +kernel
theorem dX4_keptBits_35 : decode cX4_keptBits 35 = .ok (.iload_n 2, 1) := by decide +kernel
theorem dX4_keptBits_36 : decode cX4_keptBits 36 = .ok (.ishl, 1) := by decide +kernel
theorem dX4_keptBits_37 : decode cX4_keptBits 37 = .ok (.ior, 1) := by decide +kernel
theorem dX4_keptBits_38 : decode cX4_keptBits 38 = .ok (.istore_n 1, 1) := by decide +kernel
theorem dX4_keptBits_39 : decode cX4_keptBits 39 = .ok (.iinc 2 1, 3) := by decide +kernel
theorem dX4_keptBits_42 : decode cX4_keptBits 42 = .ok (.goto (-34), 3) := by decide +kernel
theorem dX4_keptBits_45 : decode cX4_keptBits 45 = .ok (.aload_n 0, 1) := by decide +kernel
theorem dX4_keptBits_46 : decode cX4_keptBits 46 = .ok (.invokevirtual 92, 3) := by decide +kernel
theorem dX4_keptBits_49 : decode cX4_keptBits 49 = .ok (.istore_n 2, 1) := by decide +kernel
theorem dX4_keptBits_50 : decode cX4_keptBits 50 = .ok (.iconst 0, 1) := by decide +kernel
theorem dX4_keptBits_51 : decode cX4_keptBits 51 = .ok (.istore_n 3, 1) := by decide +kernel
theorem dX4_keptBits_52 : decode cX4_keptBits 52 = .ok (.iconst 0, 1) := by decide +kernel
theorem dX4_keptBits_53 : decode cX4_keptBits 53 = .ok (.istore 4, 2) := by decide +kernel
theorem dX4_keptBits_55 : decode cX4_keptBits 55 = .ok (.iload 4, 2) := by decide +kernel
theorem dX4_keptBits_57 : decode cX4_keptBits 57 = .ok (.iconst 4, 1) := by decide +kernel
theorem dX4_keptBits_58 : decode cX4_keptBits 58 = .ok (.if_icmp .ge 41, 3) := by decide +kernel
theorem dX4_keptBits_61 : decode cX4_keptBits 61 = .ok (.iload_n 2, 1) := by decide +kernel
theorem dX4_keptBits_62 : decode cX4_keptBits 62 = .ok (.iload 4, 2) := by decide +kernel
theorem dX4_keptBits_64 : decode cX4_keptBits 64 = .ok (.ishr, 1) := by decide +kernel
theorem dX4_keptBits_65 : decode cX4_keptBits 65 = .ok (.iconst 1, 1) := by decide +kernel
theorem dX4_keptBits_66 : decode cX4_keptBits 66 = .ok (.iand, 1) := by decide +kernel
theorem dX4_keptBits_67 : decode cX4_keptBits 67 = .ok (.ifCond .eq 26, 3) := by decide +kernel
theorem dX4_keptBits_70 : decode cX4_keptBits 70 = .ok (.aload_n 0, 1) := by decide +kernel
theorem dX4_keptBits_71 : decode cX4_keptBits 71 = .ok (.getfield 20, 3) := by decide +kernel
theorem dX4_keptBits_74 : decode cX4_keptBits 74 = .ok (.iconst 1, 1) := by decide +kernel
theorem dX4_keptBits_75 : decode cX4_keptBits 75 = .ok (.iload 4, 2) := by decide +kernel
theorem dX4_keptBits_77 : decode cX4_keptBits 77 = .ok (.ishl, 1) := by decide +kernel
theorem dX4_keptBits_78 : decode cX4_keptBits 78 = .ok (.invokevirtual 82, 3) := by decide +kernel
theorem dX4_keptBits_81 : decode cX4_keptBits 81 = .ok (.iload_n 1, 1) := by decide +kernel
theorem dX4_keptBits_82 : decode cX4_keptBits 82 = .ok (.iand, 1) := by decide +kernel
theorem dX4_keptBits_83 : decode cX4_keptBits 83 = .ok (.ifCond .ne 10, 3) := by decide +kernel
theorem dX4_keptBits_86 : decode cX4_keptBits 86 = .ok (.iload_n 3, 1) := by decide +kernel
theorem dX4_keptBits_87 : decode cX4_keptBits 87 = .ok (.iconst 1, 1) := by decide +kernel
theorem dX4_keptBits_88 : decode cX4_keptBits 88 = .ok (.iload 4, 2) := by decide +kernel
theorem dX4_keptBits_90 : decode cX4_keptBits 90 = .ok (.ishl, 1) := by decide +kernel
theorem dX4_keptBits_91 : decode cX4_keptBits 91 = .ok (.ior, 1) := by decide +kernel
theorem dX4_keptBits_92 : decode cX4_keptBits 92 = .ok (.istore_n 3, 1) := by decide +kernel
theorem dX4_keptBits_93 : decode cX4_keptBits 93 = .ok (.iinc 4 1, 3) := by decide +kernel
theorem dX4_keptBits_96 : decode cX4_keptBits 96 = .ok (.goto (-41), 3) := by decide +kernel
theorem dX4_keptBits_99 : decode cX4_keptBits 99 = .ok (.iload_n 3, 1) := by decide +kernel
theorem dX4_keptBits_100 : decode cX4_keptBits 100 = .ok (.ireturn, 1) := by decide +kernel
theorem cv_X4_keptBits : wn_cV yX4_keptBits cX4_keptBits 5 (some .int) RX4 0 := ⟨wm_204, wm_446, wm_447, wm_180, by decide +kernel⟩
abbrev rm_X4_keptBits : Room := rmz 3 63
set_option maxHeartbeats 4000000 in
set_option maxRecDepth 100000 in
theorem c_X4_keptBits {ad : Nat → Nat} {o : Nat} {M : Mm} {q : Int32 × Mm} (ho : shp o = 4) (hF : f_X4_keptBits o M = some q) : KI ad yX4_keptBits cX4_keptBits 5 (some .int) rm_X4_keptBits [.ref (ad o)] M q.1 q.2 := by
  refine wn_enterI (own := RX4) (by decide) rfl (Nat.le_of_ble_eq_true rfl) (fun X ls Z hQ hl => ?_)
  have hl : lv_has ls 5 [(0, .ref (ad o))] := hl
  have L55 : ∀ (n55 : Nat) (v1 : Int32) (v2 : Int32) (v3 : Int32) (v4 : Int32) (M : Mm) (ls : Array Slot), lv_has ls 5 [(0, .ref (ad o)), (1, .int v1), (2, .int v2), (3, .int v3), (4, .int v4)] → f_X4_keptBits_b55 o n55 v1 v2 v3 v4 M = some q → G ad X M 55 ls [] := by
    intro n55
    induction n55 with
    | zero =>
      intro v1 v2 v3 v4 M ls hl hF
      cases hF
    | succ n55 ih55 =>
      intro v1 v2 v3 v4 M ls hl hF
      replace hF : f_X4_keptBits_b55B (f_X4_keptBits_b55 o n55) o v1 v2 v3 v4 M = some q := hF
      unfold f_X4_keptBits_b55B at hF
      refine r_iload Z dX4_keptBits_55 (lv_at hl 4 rfl) ?_
      refine r_iconst (v := 4) Z dX4_keptBits_57 (by decide) ?_
      refine r_icmp_ge Z 99 dX4_keptBits_58 (by decide) (fun hc1 => ?_) (fun hc1 => ?_)
      · replace hF := if_some hc1 hF
        refine r_iload_n Z dX4_keptBits_99 rfl (lv_at hl 3 rfl) ?_
        exact r_iret Z hQ hF dX4_keptBits_100
      · replace hF := nif_some hc1 hF
        refine r_iload_n Z dX4_keptBits_61 rfl (lv_at hl 2 rfl) ?_
        refine r_iload Z dX4_keptBits_62 (lv_at hl 4 rfl) ?_
        refine r_ishr Z dX4_keptBits_64 ?_
        refine r_iconst (v := 1) Z dX4_keptBits_65 (by decide) ?_
        refine r_iand Z dX4_keptBits_66 ?_
        refine r_if_eq Z 93 dX4_keptBits_67 (by decide) (fun hc2 => ?_) (fun hc2 => ?_)
        · replace hF := if_some hc2 hF
          obtain ⟨t3, et3, hF⟩ := nm_some hF
          refine r_iinc (j := 4) Z t3 [(4, .int t3), (0, .ref (ad o)), (1, .int v1), (2, .int v2), (3, .int v3)] dX4_keptBits_93 hl rfl (by rw [et3]; rfl) (by decide) rfl (fun ls hl => ?_)
          refine r_goto Z 55 dX4_keptBits_96 (by decide) ?_
          exact ih55 v1 v2 v3 t3 M ls (lv_sub hl [1, 2, 3, 4, 0] rfl) hF
        · replace hF := nif_some hc2 hF
          refine r_aload_n Z dX4_keptBits_70 rfl (lv_at hl 0 rfl) ?_
          refine g_4_1 Z ho wm_157 dX4_keptBits_71 ?_
          refine r_iconst (v := 1) Z dX4_keptBits_74 (by decide) ?_
          refine r_iload Z dX4_keptBits_75 (lv_at hl 4 rfl) ?_
          refine r_ishl Z dX4_keptBits_77 ?_
          obtain ⟨q4, hq4, hF⟩ := bd_some hF
          refine r_invVi [] Z (c_X0_reachedFrom (sh_4_1 ho) hq4) cv_X0_reachedFrom rfl (shp_lt (sh_4_1 ho) (by decide)) (fun _ _ => ⟨_, ce_0 (sh_4_1 ho)⟩) wm_196 rfl rfl ⟨Nat.le_of_ble_eq_true rfl, Nat.le_of_ble_eq_true rfl⟩ rfl hl.1 rfl (Nat.le_of_ble_eq_true rfl) dX4_keptBits_78 ?_
          refine r_iload_n Z dX4_keptBits_81 rfl (lv_at hl 1 rfl) ?_
          refine r_iand Z dX4_keptBits_82 ?_
          refine r_if_ne Z 93 dX4_keptBits_83 (by decide) (fun hc5 => ?_) (fun hc5 => ?_)
          · replace hF := nif_some hc5 hF
            obtain ⟨t6, et6, hF⟩ := nm_some hF
            refine r_iinc (j := 4) Z t6 [(4, .int t6), (0, .ref (ad o)), (1, .int v1), (2, .int v2), (3, .int v3)] dX4_keptBits_93 hl rfl (by rw [et6]; rfl) (by decide) rfl (fun ls hl => ?_)
            refine r_goto Z 55 dX4_keptBits_96 (by decide) ?_
            exact ih55 v1 v2 v3 t6 q4.2 ls (lv_sub hl [1, 2, 3, 4, 0] rfl) hF
          · replace hF := if_some hc5 hF
            refine r_iload_n Z dX4_keptBits_86 rfl (lv_at hl 3 rfl) ?_
            refine r_iconst (v := 1) Z dX4_keptBits_87 (by decide) ?_
            refine r_iload Z dX4_keptBits_88 (lv_at hl 4 rfl) ?_
            refine r_ishl Z dX4_keptBits_90 ?_
            refine r_ior Z dX4_keptBits_91 ?_
            obtain ⟨t7, et7, hF⟩ := nm_some hF
            rw [← et7]
            refine r_istore_n Z [(3, .int t7), (0, .ref (ad o)), (1, .int v1), (2, .int v2), (4, .int v4)] dX4_keptBits_92 rfl hl (by decide) rfl (fun ls hl => ?_)
            obtain ⟨t8, et8, hF⟩ := nm_some hF
            refine r_iinc (j := 4) Z t8 [(4, .int t8), (3, .int t7), (0, .ref (ad o)), (1, .int v1), (2, .int v2)] dX4_keptBits_93 hl rfl (by rw [et8]; rfl) (by decide) rfl (fun ls hl => ?_)
            refine r_goto Z 55 dX4_keptBits_96 (by decide) ?_
            exact ih55 v1 v2 t7 t8 q4.2 ls (lv_sub hl [2, 3, 4, 1, 0] rfl) hF
  have L8 : ∀ (n8 : Nat) (v1 : Int32) (v2 : Int32) (M : Mm) (ls : Array Slot), lv_has ls 5 [(0, .ref (ad o)), (1, .int v1), (2, .int v2)] → f_X4_keptBits_b8 o n8 v1 v2 M = some q → G ad X M 8 ls [] := by
    intro n8
    induction n8 with
    | zero =>
      intro v1 v2 M ls hl hF
      cases hF
    | succ n8 ih8 =>
      intro v1 v2 M ls hl hF
      replace hF : f_X4_keptBits_b8B (f_X4_keptBits_b8 o n8) o v1 v2 M = some q := hF
      unfold f_X4_keptBits_b8B at hF
      refine r_iload_n Z dX4_keptBits_8 rfl (lv_at hl 2 rfl) ?_
      refine r_iconst (v := 4) Z dX4_keptBits_9 (by decide) ?_
      refine r_icmp_ge Z 45 dX4_keptBits_10 (by decide) (fun hc9 => ?_) (fun hc9 => ?_)
      · replace hF := if_some hc9 hF
        refine r_aload_n Z dX4_keptBits_45 rfl (lv_at hl 0 rfl) ?_
        obtain ⟨q10, hq10, hF⟩ := bd_some hF
        refine r_invVi [] Z (c_X4_bitsReached ho hq10) cv_X4_bitsReached rfl (shp_lt ho (by decide)) (fun _ _ => ⟨_, ce_4 ho⟩) wm_201 rfl rfl ⟨Nat.le_of_ble_eq_true rfl, Nat.le_of_ble_eq_true rfl⟩ rfl hl.1 rfl (Nat.le_of_ble_eq_true rfl) dX4_keptBits_46 ?_
        refine r_istore_n Z [(2, .int q10.1), (0, .ref (ad o)), (1, .int v1)] dX4_keptBits_49 rfl hl (by decide) rfl (fun ls hl => ?_)
        refine r_iconst (v := 0) Z dX4_keptBits_50 (by decide) ?_
        refine r_istore_n Z [(3, .int 0), (2, .int q10.1), (0, .ref (ad o)), (1, .int v1)] dX4_keptBits_51 rfl hl (by decide) rfl (fun ls hl => ?_)
        refine r_iconst (v := 0) Z dX4_keptBits_52 (by decide) ?_
        refine r_istore Z [(4, .int 0), (3, .int 0), (2, .int q10.1), (0, .ref (ad o)), (1, .int v1)] dX4_keptBits_53 hl (by decide) rfl (fun ls hl => ?_)
        exact L55 _ v1 q10.1 0 0 q10.2 ls (lv_sub hl [3, 4, 2, 1, 0] rfl) hF
      · replace hF := nif_some hc9 hF
        refine r_aload_n Z dX4_keptBits_13 rfl (lv_at hl 0 rfl) ?_
        refine r_iload_n Z dX4_keptBits_14 rfl (lv_at hl 2 rfl) ?_
        obtain ⟨q11, hq11, hF⟩ := bd_some hF
        refine r_invVi [] Z (c_X4_has ho hq11) cv_X4_has rfl (shp_lt ho (by decide)) (fun _ _ => ⟨_, ce_4 ho⟩) wm_177 rfl rfl ⟨Nat.le_of_ble_eq_true rfl, Nat.le_of_ble_eq_true rfl⟩ rfl hl.1 rfl (Nat.le_of_ble_eq_true rfl) dX4_keptBits_15 ?_
        refine r_if_eq Z 39 dX4_keptBits_18 (by decide) (fun hc12 => ?_) (fun hc12 => ?_)
        · replace hF := if_some hc12 hF
          obtain ⟨t13, et13, hF⟩ := nm_some hF
          refine r_iinc (j := 2) Z t13 [(2, .int t13), (0, .ref (ad o)), (1, .int v1)] dX4_keptBits_39 hl rfl (by rw [et13]; rfl) (by decide) rfl (fun ls hl => ?_)
          refine r_goto Z 8 dX4_keptBits_42 (by decide) ?_
          exact ih8 v1 t13 q11.2 ls (lv_sub hl [1, 2, 0] rfl) hF
        · replace hF := nif_some hc12 hF
          refine r_aload_n Z dX4_keptBits_21 rfl (lv_at hl 0 rfl) ?_
          refine g_4_0 Z ho wm_154 dX4_keptBits_22 ?_
          refine r_iload_n Z dX4_keptBits_25 rfl (lv_at hl 2 rfl) ?_
          obtain ⟨hi14, hF⟩ := ck_some hF
          refine r_aald13 Z (sh_4_0 ho) hi14 dX4_keptBits_26 ?_
          obtain ⟨q15, hq15, hF⟩ := bd_some hF
          refine r_invVi [] Z (c_X1_leaving (se_13 (sh_4_0 ho) hi14) hq15) cv_X1_leaving rfl (shp_lt (se_13 (sh_4_0 ho) hi14) (by decide)) (fun _ _ => ⟨_, ce_1 (se_13 (sh_4_0 ho) hi14)⟩) wm_200 rfl rfl ⟨Nat.le_of_ble_eq_true rfl, Nat.le_of_ble_eq_true rfl⟩ rfl hl.1 rfl (Nat.le_of_ble_eq_true rfl) dX4_keptBits_27 ?_
          refine r_if_le Z 39 dX4_keptBits_30 (by decide) (fun hc16 => ?_) (fun hc16 => ?_)
          · replace hF := if_some hc16 hF
            obtain ⟨t17, et17, hF⟩ := nm_some hF
            refine r_iinc (j := 2) Z t17 [(2, .int t17), (0, .ref (ad o)), (1, .int v1)] dX4_keptBits_39 hl rfl (by rw [et17]; rfl) (by decide) rfl (fun ls hl => ?_)
            refine r_goto Z 8 dX4_keptBits_42 (by decide) ?_
            exact ih8 v1 t17 q15.2 ls (lv_sub hl [1, 2, 0] rfl) hF
          · replace hF := nif_some hc16 hF
            refine r_iload_n Z dX4_keptBits_33 rfl (lv_at hl 1 rfl) ?_
            refine r_iconst (v := 1) Z dX4_keptBits_34 (by decide) ?_
            refine r_iload_n Z dX4_keptBits_35 rfl (lv_at hl 2 rfl) ?_
            refine r_ishl Z dX4_keptBits_36 ?_
            refine r_ior Z dX4_keptBits_37 ?_
            obtain ⟨t18, et18, hF⟩ := nm_some hF
            rw [← et18]
            refine r_istore_n Z [(1, .int t18), (0, .ref (ad o)), (2, .int v2)] dX4_keptBits_38 rfl hl (by decide) rfl (fun ls hl => ?_)
            obtain ⟨t19, et19, hF⟩ := nm_some hF
            refine r_iinc (j := 2) Z t19 [(2, .int t19), (1, .int t18), (0, .ref (ad o))] dX4_keptBits_39 hl rfl (by rw [et19]; rfl) (by decide) rfl (fun ls hl => ?_)
            refine r_goto Z 8 dX4_keptBits_42 (by decide) ?_
            exact ih8 t18 t19 q15.2 ls (lv_sub hl [2, 1, 0] rfl) hF
  unfold f_X4_keptBits at hF
  refine r_aload_n Z dX4_keptBits_0 rfl (lv_at hl 0 rfl) ?_
  obtain ⟨M20, hM20, hF⟩ := bd_some hF
  refine r_invVv [] Z (c_X4_loadPaths ho hM20) cv_X4_loadPaths rfl (shp_lt ho (by decide)) (fun _ _ => ⟨_, ce_4 ho⟩) wm_197 rfl rfl ⟨Nat.le_of_ble_eq_true rfl, Nat.le_of_ble_eq_true rfl⟩ rfl hl.1 rfl (Nat.le_of_ble_eq_true rfl) dX4_keptBits_1 ?_
  refine r_iconst (v := 0) Z dX4_keptBits_4 (by decide) ?_
  refine r_istore_n Z [(1, .int 0), (0, .ref (ad o))] dX4_keptBits_5 rfl hl (by decide) rfl (fun ls hl => ?_)
  refine r_iconst (v := 0) Z dX4_keptBits_6 (by decide) ?_
  refine r_istore_n Z [(2, .int 0), (1, .int 0), (0, .ref (ad o))] dX4_keptBits_7 rfl hl (by decide) rfl (fun ls hl => ?_)
  exact L8 _ 0 0 M20 ls (lv_sub hl [2, 1, 0] rfl) hF
theorem dX4_leadingTo_0 : decode cX4_leadingTo 0 = .ok (.iconst 0, 1) := by decide +kernel
theorem dX4_leadingTo_1 : decode cX4_leadingTo 1 = .ok (.istore_n 2, 1) := by decide +kernel
theorem dX4_leadingTo_2 : decode cX4_leadingTo 2 = .ok (.iconst 0, 1) := by decide +kernel
theorem dX4_leadingTo_3 : decode cX4_leadingTo 3 = .ok (.istore_n 3, 1) := by decide +kernel
theorem dX4_leadingTo_4 : decode cX4_leadingTo 4 = .ok (.iload_n 3, 1) := by decide +kernel
theorem dX4_leadingTo_5 : decode cX4_leadingTo 5 = .ok (.iconst 4, 1) := by decide +kernel
theorem dX4_leadingTo_6 : decode cX4_leadingTo 6 = .ok (.if_icmp .ge 34, 3) := by decide +kernel
theorem dX4_leadingTo_9 : decode cX4_leadingTo 9 = .ok (.aload_n 0, 1) := by decide +kernel
theorem dX4_leadingTo_10 : decode cX4_leadingTo 10 = .ok (.iload_n 1, 1) := by decide +kernel
theorem dX4_leadingTo_11 : decode cX4_leadingTo 11 = .ok (.invokevirtual 54, 3) := by decide +kernel
theorem dX4_leadingTo_14 : decode cX4_leadingTo 14 = .ok (.ifCond .eq 20, 3) := by decide +kernel
theorem dX4_leadingTo_17 : decode cX4_leadingTo 17 = .ok (.aload_n 0, 1) := by decide +kernel
theorem dX4_leadingTo_18 : decode cX4_leadingTo 18 = .ok (.getfield 11, 3) := by decide +kernel
theorem dX4_leadingTo_21 : decode cX4_leadingTo 21 = .ok (.iload_n 3, 1) := by decide +kernel
theorem dX4_leadingTo_22 : decode cX4_leadingTo 22 = .ok (.aaload, 1) := by decide +kernel
theorem dX4_leadingTo_23 : decode cX4_leadingTo 23 = .ok (.getfield 50, 3) := by decide +kernel
theorem dX4_leadingTo_26 : decode cX4_leadingTo 26 = .ok (.iload_n 1, 1) := by decide +kernel
theorem dX4_leadingTo_27 : decode cX4_leadingTo 27 = .ok (.iaload, 1) := by decide +kernel
theorem dX4_leadingTo_28 : decode cX4_leadingTo 28 = .ok (.ifCond .le 6, 3) := by decide +kernel
theorem dX4_leadingTo_31 : decode cX4_leadingTo 31 = .ok (.iinc 2 1, 3) := by decide +kernel
theorem dX4_leadingTo_34 : decode cX4_leadingTo 34 = .ok (.iinc 3 1, 3) := by decide +kernel
theorem dX4_leadingTo_37 : decode cX4_leadingTo 37 = .ok (.goto (-33), 3) := by decide +kernel
theorem dX4_leadingTo_40 : decode cX4_leadingTo 40 = .ok (.iload_n 2, 1) := by decide +kernel
theorem dX4_leadingTo_41 : decode cX4_leadingTo 41 = .ok (.ireturn, 1) := by decide +kernel
theorem cv_X4_leadingTo : wn_cV yX4_leadingTo cX4_leadingTo 4 (some .int) RX4 1 := ⟨wm_184, wm_187, wm_188, wm_180, by decide +kernel⟩
abbrev rm_X4_leadingTo : Room := rmz 2 41
set_option maxHeartbeats 4000000 in
set_option maxRecDepth 100000 in
theorem c_X4_leadingTo {ad : Nat → Nat} {o : Nat} {x1 : Int32} {M : Mm} {q : Int32 × Mm} (ho : shp o = 4) (hF : f_X4_leadingTo o x1 M = some q) : KI ad yX4_leadingTo cX4_leadingTo 4 (some .int) rm_X4_leadingTo [.ref (ad o), .int x1] M q.1 q.2 := by
  refine wn_enterI (own := RX4) (by decide) rfl (Nat.le_of_ble_eq_true rfl) (fun X ls Z hQ hl => ?_)
  have hl : lv_has ls 4 [(0, .ref (ad o)), (1, .int x1)] := hl
  have L4 : ∀ (n4 : Nat) (v1 : Int32) (v2 : Int32) (v3 : Int32) (M : Mm) (ls : Array Slot), lv_has ls 4 [(0, .ref (ad o)), (1, .int v1), (2, .int v2), (3, .int v3)] → f_X4_leadingTo_b4 o n4 v1 v2 v3 M = some q → G ad X M 4 ls [] := by
    intro n4
    induction n4 with
    | zero =>
      intro v1 v2 v3 M ls hl hF
      cases hF
    | succ n4 ih4 =>
      intro v1 v2 v3 M ls hl hF
      replace hF : f_X4_leadingTo_b4B (f_X4_leadingTo_b4 o n4) o v1 v2 v3 M = some q := hF
      unfold f_X4_leadingTo_b4B at hF
      refine r_iload_n Z dX4_leadingTo_4 rfl (lv_at hl 3 rfl) ?_
      refine r_iconst (v := 4) Z dX4_leadingTo_5 (by decide) ?_
      refine r_icmp_ge Z 40 dX4_leadingTo_6 (by decide) (fun hc1 => ?_) (fun hc1 => ?_)
      · replace hF := if_some hc1 hF
        refine r_iload_n Z dX4_leadingTo_40 rfl (lv_at hl 2 rfl) ?_
        exact r_iret Z hQ hF dX4_leadingTo_41
      · replace hF := nif_some hc1 hF
        refine r_aload_n Z dX4_leadingTo_9 rfl (lv_at hl 0 rfl) ?_
        refine r_iload_n Z dX4_leadingTo_10 rfl (lv_at hl 1 rfl) ?_
        obtain ⟨q2, hq2, hF⟩ := bd_some hF
        refine r_invVi [] Z (c_X4_has ho hq2) cv_X4_has rfl (shp_lt ho (by decide)) (fun _ _ => ⟨_, ce_4 ho⟩) wm_177 rfl rfl ⟨Nat.le_of_ble_eq_true rfl, Nat.le_of_ble_eq_true rfl⟩ rfl hl.1 rfl (Nat.le_of_ble_eq_true rfl) dX4_leadingTo_11 ?_
        refine r_if_eq Z 34 dX4_leadingTo_14 (by decide) (fun hc3 => ?_) (fun hc3 => ?_)
        · replace hF := if_some hc3 hF
          obtain ⟨t4, et4, hF⟩ := nm_some hF
          refine r_iinc (j := 3) Z t4 [(3, .int t4), (0, .ref (ad o)), (1, .int v1), (2, .int v2)] dX4_leadingTo_34 hl rfl (by rw [et4]; rfl) (by decide) rfl (fun ls hl => ?_)
          refine r_goto Z 4 dX4_leadingTo_37 (by decide) ?_
          exact ih4 v1 v2 t4 q2.2 ls (lv_sub hl [1, 2, 3, 0] rfl) hF
        · replace hF := nif_some hc3 hF
          refine r_aload_n Z dX4_leadingTo_17 rfl (lv_at hl 0 rfl) ?_
          refine g_4_0 Z ho wm_154 dX4_leadingTo_18 ?_
          refine r_iload_n Z dX4_leadingTo_21 rfl (lv_at hl 3 rfl) ?_
          obtain ⟨hi5, hF⟩ := ck_some hF
          refine r_aald13 Z (sh_4_0 ho) hi5 dX4_leadingTo_22 ?_
          refine g_1_0 Z (se_13 (sh_4_0 ho) hi5) wm_172 dX4_leadingTo_23 ?_
          refine r_iload_n Z dX4_leadingTo_26 rfl (lv_at hl 1 rfl) ?_
          obtain ⟨hi6, hF⟩ := ck_some hF
          refine r_iaload Z (shp_lt (sh_1_0 (se_13 (sh_4_0 ho) hi5)) (by decide)) (fun _ _ => ce_104 (sh_1_0 (se_13 (sh_4_0 ho) hi5))) hi6 dX4_leadingTo_27 ?_
          refine r_if_le Z 34 dX4_leadingTo_28 (by decide) (fun hc7 => ?_) (fun hc7 => ?_)
          · replace hF := if_some hc7 hF
            obtain ⟨t8, et8, hF⟩ := nm_some hF
            refine r_iinc (j := 3) Z t8 [(3, .int t8), (0, .ref (ad o)), (1, .int v1), (2, .int v2)] dX4_leadingTo_34 hl rfl (by rw [et8]; rfl) (by decide) rfl (fun ls hl => ?_)
            refine r_goto Z 4 dX4_leadingTo_37 (by decide) ?_
            exact ih4 v1 v2 t8 q2.2 ls (lv_sub hl [1, 2, 3, 0] rfl) hF
          · replace hF := nif_some hc7 hF
            obtain ⟨t9, et9, hF⟩ := nm_some hF
            refine r_iinc (j := 2) Z t9 [(2, .int t9), (0, .ref (ad o)), (1, .int v1), (3, .int v3)] dX4_leadingTo_31 hl rfl (by rw [et9]; rfl) (by decide) rfl (fun ls hl => ?_)
            obtain ⟨t10, et10, hF⟩ := nm_some hF
            refine r_iinc (j := 3) Z t10 [(3, .int t10), (2, .int t9), (0, .ref (ad o)), (1, .int v1)] dX4_leadingTo_34 hl rfl (by rw [et10]; rfl) (by decide) rfl (fun ls hl => ?_)
            refine r_goto Z 4 dX4_leadingTo_37 (by decide) ?_
            exact ih4 v1 t9 t10 q2.2 ls (lv_sub hl [2, 3, 1, 0] rfl) hF
  unfold f_X4_leadingTo at hF
  refine r_iconst (v := 0) Z dX4_leadingTo_0 (by decide) ?_
  refine r_istore_n Z [(2, .int 0), (0, .ref (ad o)), (1, .int x1)] dX4_leadingTo_1 rfl hl (by decide) rfl (fun ls hl => ?_)
  refine r_iconst (v := 0) Z dX4_leadingTo_2 (by decide) ?_
  refine r_istore_n Z [(3, .int 0), (2, .int 0), (0, .ref (ad o)), (1, .int x1)] dX4_leadingTo_3 rfl hl (by decide) rfl (fun ls hl => ?_)
  exact L4 _ x1 0 0 M ls (lv_sub hl [2, 3, 1, 0] rfl) hF
theorem dX4_replace_0 : decode cX4_replace 0 = .ok (.iload_n 1, 1) := by decide +kernel
theorem dX4_replace_1 : decode cX4_replace 1 = .ok (.ifCond .lt 8, 3) := by decide +kernel
theorem dX4_replace_4 : decode cX4_replace 4 = .ok (.iload_n 1, 1) := by decide +kernel
theorem dX4_replace_5 : decode cX4_replace 5 = .ok (.iconst 4, 1) := by decide +kernel
theorem dX4_replace_6 : decode cX4_replace 6 = .ok (.if_icmp .lt 4, 3) := by decide +kernel
theorem dX4_replace_9 : decode cX4_replace 9 = .ok (.return_, 1) := by decide +kernel
theorem dX4_replace_10 : decode cX4_replace 10 = .ok (.aload_n 0, 1) := by decide +kernel
theorem dX4_replace_11 : decode cX4_replace 11 = .ok (.getfield 11, 3) := by decide +kernel
theorem dX4_replace_14 : decode cX4_replace 14 = .ok (.iload_n 1, 1) := by decide +kernel
theorem dX4_replace_15 : decode cX4_replace 15 = .ok (.aaload, 1) := by decide +kernel
theorem dX4_replace_16 : decode cX4_replace 16 = .ok (.iload_n 2, 1) := by decide +kernel
theorem dX4_replace_17 : decode cX4_replace 17 = .ok (.invokevirtual 46, 3) := by decide +kernel
theorem dX4_replace_20 : decode cX4_replace 20 = .ok (.iconst 0, 1) := by decide +kernel
theorem dX4_replace_21 : decode cX4_replace 21 = .ok (.istore_n 3, 1) := by decide +kernel
theorem dX4_replace_22 : decode cX4_replace 22 = .ok (.iload_n 3, 1) := by decide +kernel
theorem dX4_replace_23 : decode cX4_replace 23 = .ok (.iconst 4, 1) := by decide +kernel
theorem dX4_replace_24 : decode cX4_replace 24 = .ok (.if_icmp .ge 21, 3) := by decide +kernel
theorem dX4_replace_27 : decode cX4_replace 27 = .ok (.aload_n 0, 1) := by decide +kernel
theorem dX4_replace_28 : decode cX4_replace 28 = .ok (.getfield 11, 3) := by decide +kernel
theorem dX4_replace_31 : decode cX4_replace 31 = .ok (.iload_n 3, 1) := by decide +kernel
theorem dX4_replace_32 : decode cX4_replace 32 = .ok (.aaload, 1) := by decide +kernel
theorem dX4_replace_33 : decode cX4_replace 33 = .ok (.getfield 50, 3) := by decide +kernel
theorem dX4_replace_36 : decode cX4_replace 36 = .ok (.iload_n 1, 1) := by decide +kernel
theorem dX4_replace_37 : decode cX4_replace 37 = .ok (.iconst 0, 1) := by decide +kernel
theorem dX4_replace_38 : decode cX4_replace 38 = .ok (.iastore, 1) := by decide +kernel
theorem dX4_replace_39 : decode cX4_replace 39 = .ok (.iinc 3 1, 3) := by decide +kernel
theorem dX4_replace_42 : decode cX4_replace 42 = .ok (.goto (-20), 3) := by decide +kernel
theorem dX4_replace_45 : decode cX4_replace 45 = .ok (.return_, 1) := by decide +kernel
theorem cv_X4_replace : wn_cV yX4_replace cX4_replace 4 none RX4 2 := ⟨wm_171, wm_413, wm_414, wm_180, by decide +kernel⟩
abbrev rm_X4_replace : Room := rmz 1 22
set_option maxHeartbeats 4000000 in
set_option maxRecDepth 100000 in
theorem c_X4_replace {ad : Nat → Nat} {o : Nat} {x1 : Int32} {x2 : Int32} {M : Mm} {q : Mm} (ho : shp o = 4) (hF : f_X4_replace o x1 x2 M = some q) : KV ad yX4_replace cX4_replace 4 none rm_X4_replace [.ref (ad o), .int x1, .int x2] M q := by
  refine wn_enterV (own := RX4) (by decide) rfl (Nat.le_of_ble_eq_true rfl) (fun X ls Z hQ hl => ?_)
  have hl : lv_has ls 4 [(0, .ref (ad o)), (1, .int x1), (2, .int x2)] := hl
  have L22 : ∀ (n22 : Nat) (v1 : Int32) (v3 : Int32) (M : Mm) (ls : Array Slot), lv_has ls 4 [(0, .ref (ad o)), (1, .int v1), (3, .int v3)] → f_X4_replace_b22 o n22 v1 v3 M = some q → G ad X M 22 ls [] := by
    intro n22
    induction n22 with
    | zero =>
      intro v1 v3 M ls hl hF
      cases hF
    | succ n22 ih22 =>
      intro v1 v3 M ls hl hF
      replace hF : f_X4_replace_b22B (f_X4_replace_b22 o n22) o v1 v3 M = some q := hF
      unfold f_X4_replace_b22B at hF
      refine r_iload_n Z dX4_replace_22 rfl (lv_at hl 2 rfl) ?_
      refine r_iconst (v := 4) Z dX4_replace_23 (by decide) ?_
      refine r_icmp_ge Z 45 dX4_replace_24 (by decide) (fun hc1 => ?_) (fun hc1 => ?_)
      · replace hF := if_some hc1 hF
        exact r_vret Z hQ hF dX4_replace_45
      · replace hF := nif_some hc1 hF
        refine r_aload_n Z dX4_replace_27 rfl (lv_at hl 0 rfl) ?_
        refine g_4_0 Z ho wm_154 dX4_replace_28 ?_
        refine r_iload_n Z dX4_replace_31 rfl (lv_at hl 2 rfl) ?_
        obtain ⟨hi2, hF⟩ := ck_some hF
        refine r_aald13 Z (sh_4_0 ho) hi2 dX4_replace_32 ?_
        refine g_1_0 Z (se_13 (sh_4_0 ho) hi2) wm_172 dX4_replace_33 ?_
        refine r_iload_n Z dX4_replace_36 rfl (lv_at hl 1 rfl) ?_
        refine r_iconst (v := 0) Z dX4_replace_37 (by decide) ?_
        obtain ⟨hi3, hF⟩ := ck_some hF
        obtain ⟨M4, eM4, hF⟩ := nm_some hF
        refine r_iastore Z (shp_lt (sh_1_0 (se_13 (sh_4_0 ho) hi2)) (by decide)) (fun _ _ => ce_104 (sh_1_0 (se_13 (sh_4_0 ho) hi2))) hi3 dX4_replace_38 ?_
        rw [← eM4]
        obtain ⟨t5, et5, hF⟩ := nm_some hF
        refine r_iinc (j := 2) Z t5 [(3, .int t5), (0, .ref (ad o)), (1, .int v1)] dX4_replace_39 hl rfl (by rw [et5]; rfl) (by decide) rfl (fun ls hl => ?_)
        refine r_goto Z 22 dX4_replace_42 (by decide) ?_
        exact ih22 v1 t5 M4 ls (lv_sub hl [1, 2, 0] rfl) hF
  unfold f_X4_replace at hF
  refine r_iload_n Z dX4_replace_0 rfl (lv_at hl 1 rfl) ?_
  refine r_if_lt Z 9 dX4_replace_1 (by decide) (fun hc6 => ?_) (fun hc6 => ?_)
  · replace hF := if_some hc6 hF
    exact r_vret Z hQ hF dX4_replace_9
  · replace hF := nif_some hc6 hF
    refine r_iload_n Z dX4_replace_4 rfl (lv_at hl 1 rfl) ?_
    refine r_iconst (v := 4) Z dX4_replace_5 (by decide) ?_
    refine r_icmp_lt Z 10 dX4_replace_6 (by decide) (fun hc7 => ?_) (fun hc7 => ?_)
    · replace hF := if_some hc7 hF
      refine r_aload_n Z dX4_replace_10 rfl (lv_at hl 0 rfl) ?_
      refine g_4_0 Z ho wm_154 dX4_replace_11 ?_
      refine r_iload_n Z dX4_replace_14 rfl (lv_at hl 1 rfl) ?_
      obtain ⟨hi8, hF⟩ := ck_some hF
      refine r_aald13 Z (sh_4_0 ho) hi8 dX4_replace_15 ?_
      refine r_iload_n Z dX4_replace_16 rfl (lv_at hl 2 rfl) ?_
      obtain ⟨M9, hM9, hF⟩ := bd_some hF
      refine r_invVv [] Z (c_X1_begin (se_13 (sh_4_0 ho) hi8) hM9) cv_X1_begin rfl (shp_lt (se_13 (sh_4_0 ho) hi8) (by decide)) (fun _ _ => ⟨_, ce_1 (se_13 (sh_4_0 ho) hi8)⟩) wm_173 rfl rfl ⟨Nat.le_of_ble_eq_true rfl, Nat.le_of_ble_eq_true rfl⟩ rfl hl.1 rfl (Nat.le_of_ble_eq_true rfl) dX4_replace_17 ?_
      refine r_iconst (v := 0) Z dX4_replace_20 (by decide) ?_
      refine r_istore_n Z [(3, .int 0), (0, .ref (ad o)), (1, .int x1), (2, .int x2)] dX4_replace_21 rfl hl (by decide) rfl (fun ls hl => ?_)
      exact L22 _ x1 0 M9 ls (lv_sub hl [1, 2, 0] rfl) hF
    · replace hF := nif_some hc7 hF
      exact r_vret Z hQ hF dX4_replace_9
theorem dX4_thingsOf_0 : decode cX4_thingsOf 0 = .ok (.lconst 0, 1) := by decide +kernel
theorem dX4_thingsOf_1 : decode cX4_thingsOf 1 = .ok (.lstore_n 2, 1) := by decide +kernel
theorem dX4_thingsOf_2 : decode cX4_thingsOf 2 = .ok (.iconst 0, 1) := by decide +kernel
theorem dX4_thingsOf_3 : decode cX4_thingsOf 3 = .ok (.istore 4, 2) := by decide +kernel
theorem dX4_thingsOf_5 : decode cX4_thingsOf 5 = .ok (.iload 4, 2) := by decide +kernel
theorem dX4_thingsOf_7 : decode cX4_thingsOf 7 = .ok (.iconst 4, 1) := by decide +kernel
theorem dX4_thingsOf_8 : decode cX4_thingsOf 8 = .ok (.if_icmp .ge 48, 3) := by decide +kernel
theorem dX4_thingsOf_11 : decode cX4_thingsOf 11 = .ok (.aload_n 1, 1) := by decide +kernel
theorem dX4_thingsOf_12 : decode cX4_thingsOf 12 = .ok (.iload 4, 2) := by decide +kernel
theorem dX4_thingsOf_14 : decode cX4_thingsOf 14 = .ok (.invokevirtual 136, 3) := by decide +kernel
theorem dX4_thingsOf_17 : decode cX4_thingsOf 17 = .ok (.ifCond .lt 21, 3) := by decide +kernel
theorem dX4_thingsOf_20 : decode cX4_thingsOf 20 = .ok (.aload_n 1, 1) := by decide +kernel
theorem dX4_thingsOf_21 : decode cX4_thingsOf 21 = .ok (.iload 4, 2) := by decide +kernel
theorem dX4_thingsOf_23 : decode cX4_thingsOf 23 = .ok (.invokevirtual 136, 3) := by decide +kernel
theorem dX4_thingsOf_26 : decode cX4_thingsOf 26 = .ok (.ifCond .le 14, 3) := by decide +kernel
theorem dX4_thingsOf_29 : decode cX4_thingsOf 29 = .ok (.aload_n 0, 1) := by decide +kernel
theorem dX4_thingsOf_30 : decode cX4_thingsOf 30 = .ok (.iload 4, 2) := by decide +kernel
theorem dX4_thingsOf_32 : decode cX4_thingsOf 32 = .ok (.invokevirtual 54, 3) := by decide +kernel
theorem dX4_thingsOf_35 : decode cX4_thingsOf 35 = .ok (.ifCond .ne 5, 3) := by decide +kernel
theorem dX4_thingsOf_38 : decode cX4_thingsOf 38 = .ok (.iconst 0, 1) := by decide +kernel
theorem dX4_thingsOf_39 : decode cX4_thingsOf 39 = .ok (.ireturn, 1) := by decide +kernel
theorem dX4_thingsOf_40 : decode cX4_thingsOf 40 = .ok (.lload_n 2, 1) := by decide +kernel
theorem dX4_thingsOf_41 : decode cX4_thingsOf 41 = .ok (.aload_n 1, 1) := by decide +kernel
theorem dX4_thingsOf_42 : decode cX4_thingsOf 42 = .ok (.iload 4, 2) := by decide +kernel
theorem dX4_thingsOf_44 : decode cX4_thingsOf 44 = .ok (.invokevirtual 136, 3) := by decide +kernel
theorem dX4_thingsOf_47 : decode cX4_thingsOf 47 = .ok (.i2l, 1) := by decide +kernel
theorem dX4_thingsOf_48 : decode cX4_thingsOf 48 = .ok (.ladd, 1) := by decide +kernel
theorem dX4_thingsOf_49 : decode cX4_thingsOf 49 = .ok (.lstore_n 2, 1) := by decide +kernel
theorem dX4_thingsOf_50 : decode cX4_thingsOf 50 = .ok (.iinc 4 1, 3) := by decide +kernel
theorem dX4_thingsOf_53 : decode cX4_thingsOf 53 = .ok (.goto (-48), 3) := by decide +kernel
theorem dX4_thingsOf_56 : decode cX4_thingsOf 56 = .ok (.lload_n 2, 1) := by decide +kernel
theorem dX4_thingsOf_57 : decode cX4_thingsOf 57 = .ok (.ldc2_w 99, 3) := by decide +kernel
theorem dX4_thingsOf_60 : decode cX4_thingsOf 60 = .ok (.lcmp, 1) := by decide +kernel
theorem dX4_thingsOf_61 : decode cX4_thingsOf 61 = .ok (.ifCond .gt 8, 3) := by decide +kernel
theorem dX4_thingsOf_64 : decode cX4_thingsOf 64 = .ok (.lload_n 2, 1) := by decide +kernel
theorem dX4_thingsOf_65 : decode cX4_thingsOf 65 = .ok (.l2i, 1) := by decide +kernel
theorem dX4_thingsOf_66 : decode cX4_thingsOf 66 = .ok (.goto 4, 3) := by decide +kernel
theorem dX4_thingsOf_69 : decode cX4_thingsOf 69 = .ok (.iconst 0, 1) := by decide +kernel
theorem dX4_thingsOf_70 : decode cX4_thingsOf 70 = .ok (.ireturn, 1) := by decide +kernel
theorem cv_X4_thingsOf : wn_cV yX4_thingsOf cX4_thingsOf 5 (some .int) RX4 1 := ⟨wm_232, wm_490, wm_491, wm_180, by decide +kernel⟩
abbrev rm_X4_thingsOf : Room := rmz 2 42
set_option maxHeartbeats 4000000 in
set_option maxRecDepth 100000 in
theorem c_X4_thingsOf {ad : Nat → Nat} {o : Nat} {x1 : Nat} {M : Mm} {q : Int32 × Mm} (ho : shp o = 4) (h1 : shp x1 = 6) (hF : f_X4_thingsOf o x1 M = some q) : KI ad yX4_thingsOf cX4_thingsOf 5 (some .int) rm_X4_thingsOf [.ref (ad o), .ref (ad x1)] M q.1 q.2 := by
  refine wn_enterI (own := RX4) (by decide) rfl (Nat.le_of_ble_eq_true rfl) (fun X ls Z hQ hl => ?_)
  have hl : lv_has ls 5 [(0, .ref (ad o)), (1, .ref (ad x1))] := hl
  have L5 : ∀ (n5 : Nat) (v1 : Nat) (v2 : Int64) (v4 : Int32) (M : Mm) (ls : Array Slot), shp v1 = 6 → lv_has ls 5 [(0, .ref (ad o)), (1, .ref (ad v1)), (2, .long v2), (4, .int v4)] → f_X4_thingsOf_b5 o n5 v1 v2 v4 M = some q → G ad X M 5 ls [] := by
    intro n5
    induction n5 with
    | zero =>
      intro v1 v2 v4 M ls hv1 hl hF
      cases hF
    | succ n5 ih5 =>
      have L40 : ∀ (v1 : Nat) (v2 : Int64) (v4 : Int32) (M : Mm) (ls : Array Slot), shp v1 = 6 → lv_has ls 5 [(0, .ref (ad o)), (1, .ref (ad v1)), (2, .long v2), (4, .int v4)] → f_X4_thingsOf_b40 (f_X4_thingsOf_b5 o n5) o v1 v2 v4 M = some q → G ad X M 40 ls [] := by
        intro v1 v2 v4 M ls hv1 hl hF
        unfold f_X4_thingsOf_b40 at hF
        refine r_lload_n Z dX4_thingsOf_40 rfl (lv_at hl 2 rfl) ?_
        refine r_aload_n Z dX4_thingsOf_41 rfl (lv_at hl 1 rfl) ?_
        refine r_iload Z dX4_thingsOf_42 (lv_at hl 3 rfl) ?_
        obtain ⟨q1, hq1, hF⟩ := bd_some hF
        refine r_invVi [.long v2] Z (c_X6_at hv1 hq1) cv_X6_at rfl (shp_lt hv1 (by decide)) (fun _ _ => ⟨_, ce_6 hv1⟩) wm_233 rfl rfl ⟨Nat.le_of_ble_eq_true rfl, Nat.le_of_ble_eq_true rfl⟩ rfl hl.1 rfl (Nat.le_of_ble_eq_true rfl) dX4_thingsOf_44 ?_
        refine r_i2l Z dX4_thingsOf_47 ?_
        refine r_ladd Z dX4_thingsOf_48 ?_
        obtain ⟨t2, et2, hF⟩ := nm_some hF
        rw [← et2]
        refine r_lstore_n Z [(2, .long t2), (0, .ref (ad o)), (1, .ref (ad v1)), (4, .int v4)] dX4_thingsOf_49 rfl hl (by decide) rfl (fun ls hl => ?_)
        obtain ⟨t3, et3, hF⟩ := nm_some hF
        refine r_iinc (j := 3) Z t3 [(4, .int t3), (2, .long t2), (0, .ref (ad o)), (1, .ref (ad v1))] dX4_thingsOf_50 hl rfl (by rw [et3]; rfl) (by decide) rfl (fun ls hl => ?_)
        refine r_goto Z 5 dX4_thingsOf_53 (by decide) ?_
        exact ih5 v1 t2 t3 q1.2 ls hv1 (lv_sub hl [2, 3, 1, 0] rfl) hF
      intro v1 v2 v4 M ls hv1 hl hF
      replace hF : f_X4_thingsOf_b5B (f_X4_thingsOf_b5 o n5) o v1 v2 v4 M = some q := hF
      unfold f_X4_thingsOf_b5B at hF
      refine r_iload Z dX4_thingsOf_5 (lv_at hl 3 rfl) ?_
      refine r_iconst (v := 4) Z dX4_thingsOf_7 (by decide) ?_
      refine r_icmp_ge Z 56 dX4_thingsOf_8 (by decide) (fun hc4 => ?_) (fun hc4 => ?_)
      · replace hF := if_some hc4 hF
        refine r_lload_n Z dX4_thingsOf_56 rfl (lv_at hl 2 rfl) ?_
        refine r_ldc2 Z wm_206 dX4_thingsOf_57 ?_
        refine r_lcmp Z dX4_thingsOf_60 ?_
        refine r_if_gt Z 69 dX4_thingsOf_61 (by decide) (fun hc5 => ?_) (fun hc5 => ?_)
        · replace hF := if_some hc5 hF
          refine r_iconst (v := 0) Z dX4_thingsOf_69 (by decide) ?_
          exact r_iret Z hQ hF dX4_thingsOf_70
        · replace hF := nif_some hc5 hF
          refine r_lload_n Z dX4_thingsOf_64 rfl (lv_at hl 2 rfl) ?_
          refine r_l2i Z dX4_thingsOf_65 ?_
          refine r_goto Z 70 dX4_thingsOf_66 (by decide) ?_
          exact r_iret Z hQ hF dX4_thingsOf_70
      · replace hF := nif_some hc4 hF
        refine r_aload_n Z dX4_thingsOf_11 rfl (lv_at hl 1 rfl) ?_
        refine r_iload Z dX4_thingsOf_12 (lv_at hl 3 rfl) ?_
        obtain ⟨q6, hq6, hF⟩ := bd_some hF
        refine r_invVi [] Z (c_X6_at hv1 hq6) cv_X6_at rfl (shp_lt hv1 (by decide)) (fun _ _ => ⟨_, ce_6 hv1⟩) wm_233 rfl rfl ⟨Nat.le_of_ble_eq_true rfl, Nat.le_of_ble_eq_true rfl⟩ rfl hl.1 rfl (Nat.le_of_ble_eq_true rfl) dX4_thingsOf_14 ?_
        refine r_if_lt Z 38 dX4_thingsOf_17 (by decide) (fun hc7 => ?_) (fun hc7 => ?_)
        · replace hF := if_some hc7 hF
          refine r_iconst (v := 0) Z dX4_thingsOf_38 (by decide) ?_
          exact r_iret Z hQ hF dX4_thingsOf_39
        · replace hF := nif_some hc7 hF
          refine r_aload_n Z dX4_thingsOf_20 rfl (lv_at hl 1 rfl) ?_
          refine r_iload Z dX4_thingsOf_21 (lv_at hl 3 rfl) ?_
          obtain ⟨q8, hq8, hF⟩ := bd_some hF
          refine r_invVi [] Z (c_X6_at hv1 hq8) cv_X6_at rfl (shp_lt hv1 (by decide)) (fun _ _ => ⟨_, ce_6 hv1⟩) wm_233 rfl rfl ⟨Nat.le_of_ble_eq_true rfl, Nat.le_of_ble_eq_true rfl⟩ rfl hl.1 rfl (Nat.le_of_ble_eq_true rfl) dX4_thingsOf_23 ?_
          refine r_if_le Z 40 dX4_thingsOf_26 (by decide) (fun hc9 => ?_) (fun hc9 => ?_)
          · replace hF := if_some hc9 hF
            exact L40 v1 v2 v4 q8.2 ls hv1 (lv_sub hl [0, 1, 2, 3] rfl) hF
          · replace hF := nif_some hc9 hF
            refine r_aload_n Z dX4_thingsOf_29 rfl (lv_at hl 0 rfl) ?_
            refine r_iload Z dX4_thingsOf_30 (lv_at hl 3 rfl) ?_
            obtain ⟨q10, hq10, hF⟩ := bd_some hF
            refine r_invVi [] Z (c_X4_has ho hq10) cv_X4_has rfl (shp_lt ho (by decide)) (fun _ _ => ⟨_, ce_4 ho⟩) wm_177 rfl rfl ⟨Nat.le_of_ble_eq_true rfl, Nat.le_of_ble_eq_true rfl⟩ rfl hl.1 rfl (Nat.le_of_ble_eq_true rfl) dX4_thingsOf_32 ?_
            refine r_if_ne Z 40 dX4_thingsOf_35 (by decide) (fun hc11 => ?_) (fun hc11 => ?_)
            · replace hF := nif_some hc11 hF
              exact L40 v1 v2 v4 q10.2 ls hv1 (lv_sub hl [0, 1, 2, 3] rfl) hF
            · replace hF := if_some hc11 hF
              refine r_iconst (v := 0) Z dX4_thingsOf_38 (by decide) ?_
              exact r_iret Z hQ hF dX4_thingsOf_39
  unfold f_X4_thingsOf at hF
  refine r_lconst (v := 0) Z dX4_thingsOf_0 (by decide) ?_
  refine r_lstore_n Z [(2, .long 0), (0, .ref (ad o)), (1, .ref (ad x1))] dX4_thingsOf_1 rfl hl (by decide) rfl (fun ls hl => ?_)
  refine r_iconst (v := 0) Z dX4_thingsOf_2 (by decide) ?_
  refine r_istore Z [(4, .int 0), (2, .long 0), (0, .ref (ad o)), (1, .ref (ad x1))] dX4_thingsOf_3 hl (by decide) rfl (fun ls hl => ?_)
  exact L5 _ x1 0 0 M ls h1 (lv_sub hl [2, 3, 1, 0] rfl) hF
theorem dX4_waysThere_0 : decode cX4_waysThere 0 = .ok (.iconst 0, 1) := by decide +kernel
theorem dX4_waysThere_1 : decode cX4_waysThere 1 = .ok (.istore_n 1, 1) := by decide +kernel
theorem dX4_waysThere_2 : decode cX4_waysThere 2 = .ok (.iconst 0, 1) := by decide +kernel
theorem dX4_waysThere_3 : decode cX4_waysThere 3 = .ok (.istore_n 2, 1) := by decide +kernel
theorem dX4_waysThere_4 : decode cX4_waysThere 4 = .ok (.iload_n 2, 1) := by decide +kernel
theorem dX4_waysThere_5 : decode cX4_waysThere 5 = .ok (.iconst 4, 1) := by decide +kernel
theorem dX4_waysThere_6 : decode cX4_waysThere 6 = .ok (.if_icmp .ge 17, 3) := by decide +kernel
theorem dX4_waysThere_9 : decode cX4_waysThere 9 = .ok (.iload_n 1, 1) := by decide +kernel
theorem dX4_waysThere_10 : decode cX4_waysThere 10 = .ok (.aload_n 0, 1) := by decide +kernel
theorem dX4_waysThere_11 : decode cX4_waysThere 11 = .ok (.iload_n 2, 1) := by decide +kernel
theorem dX4_waysThere_12 : decode cX4_waysThere 12 = .ok (.invokevirtual 65, 3) := by decide +kernel
theorem dX4_waysThere_15 : decode cX4_waysThere 15 = .ok (.iadd, 1) := by decide +kernel
theorem dX4_waysThere_16 : decode cX4_waysThere 16 = .ok (.istore_n 1, 1) := by decide +kernel
theorem dX4_waysThere_17 : decode cX4_waysThere 17 = .ok (.iinc 2 1, 3) := by decide +kernel
theorem dX4_waysThere_20 : decode cX4_waysThere 20 = .ok (.goto (-16), 3) := by decide +kernel
theorem dX4_waysThere_23 : decode cX4_waysThere 23 = .ok (.iload_n 1, 1) := by decide +kernel
theorem dX4_waysThere_24 : decode cX4_waysThere 24 = .ok (.ireturn, 1) := by decide +kernel
theorem cv_X4_waysThere : wn_cV yX4_waysThere cX4_waysThere 3 (some .int) RX4 0 := ⟨wm_185, wm_593, wm_594, wm_180, by decide +kernel⟩
abbrev rm_X4_waysThere : Room := rmz 3 64
set_option maxHeartbeats 4000000 in
set_option maxRecDepth 100000 in
theorem c_X4_waysThere {ad : Nat → Nat} {o : Nat} {M : Mm} {q : Int32 × Mm} (ho : shp o = 4) (hF : f_X4_waysThere o M = some q) : KI ad yX4_waysThere cX4_waysThere 3 (some .int) rm_X4_waysThere [.ref (ad o)] M q.1 q.2 := by
  refine wn_enterI (own := RX4) (by decide) rfl (Nat.le_of_ble_eq_true rfl) (fun X ls Z hQ hl => ?_)
  have hl : lv_has ls 3 [(0, .ref (ad o))] := hl
  have L4 : ∀ (n4 : Nat) (v1 : Int32) (v2 : Int32) (M : Mm) (ls : Array Slot), lv_has ls 3 [(0, .ref (ad o)), (1, .int v1), (2, .int v2)] → f_X4_waysThere_b4 o n4 v1 v2 M = some q → G ad X M 4 ls [] := by
    intro n4
    induction n4 with
    | zero =>
      intro v1 v2 M ls hl hF
      cases hF
    | succ n4 ih4 =>
      intro v1 v2 M ls hl hF
      replace hF : f_X4_waysThere_b4B (f_X4_waysThere_b4 o n4) o v1 v2 M = some q := hF
      unfold f_X4_waysThere_b4B at hF
      refine r_iload_n Z dX4_waysThere_4 rfl (lv_at hl 2 rfl) ?_
      refine r_iconst (v := 4) Z dX4_waysThere_5 (by decide) ?_
      refine r_icmp_ge Z 23 dX4_waysThere_6 (by decide) (fun hc1 => ?_) (fun hc1 => ?_)
      · replace hF := if_some hc1 hF
        refine r_iload_n Z dX4_waysThere_23 rfl (lv_at hl 1 rfl) ?_
        exact r_iret Z hQ hF dX4_waysThere_24
      · replace hF := nif_some hc1 hF
        refine r_iload_n Z dX4_waysThere_9 rfl (lv_at hl 1 rfl) ?_
        refine r_aload_n Z dX4_waysThere_10 rfl (lv_at hl 0 rfl) ?_
        refine r_iload_n Z dX4_waysThere_11 rfl (lv_at hl 2 rfl) ?_
        obtain ⟨q2, hq2, hF⟩ := bd_some hF
        refine r_invVi [.int v1] Z (c_X4_leadingTo ho hq2) cv_X4_leadingTo rfl (shp_lt ho (by decide)) (fun _ _ => ⟨_, ce_4 ho⟩) wm_186 rfl rfl ⟨Nat.le_of_ble_eq_true rfl, Nat.le_of_ble_eq_true rfl⟩ rfl hl.1 rfl (Nat.le_of_ble_eq_true rfl) dX4_waysThere_12 ?_
        refine r_iadd Z dX4_waysThere_15 ?_
        obtain ⟨t3, et3, hF⟩ := nm_some hF
        rw [← et3]
        refine r_istore_n Z [(1, .int t3), (0, .ref (ad o)), (2, .int v2)] dX4_waysThere_16 rfl hl (by decide) rfl (fun ls hl => ?_)
        obtain ⟨t4, et4, hF⟩ := nm_some hF
        refine r_iinc (j := 2) Z t4 [(2, .int t4), (1, .int t3), (0, .ref (ad o))] dX4_waysThere_17 hl rfl (by rw [et4]; rfl) (by decide) rfl (fun ls hl => ?_)
        refine r_goto Z 4 dX4_waysThere_20 (by decide) ?_
        exact ih4 t3 t4 q2.2 ls (lv_sub hl [2, 1, 0] rfl) hF
  unfold f_X4_waysThere at hF
  refine r_iconst (v := 0) Z dX4_waysThere_0 (by decide) ?_
  refine r_istore_n Z [(1, .int 0), (0, .ref (ad o))] dX4_waysThere_1 rfl hl (by decide) rfl (fun ls hl => ?_)
  refine r_iconst (v := 0) Z dX4_waysThere_2 (by decide) ?_
  refine r_istore_n Z [(2, .int 0), (1, .int 0), (0, .ref (ad o))] dX4_waysThere_3 rfl hl (by decide) rfl (fun ls hl => ?_)
  exact L4 _ 0 0 M ls (lv_sub hl [2, 1, 0] rfl) hF

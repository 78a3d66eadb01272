theorem wn_out0_3 {x : Int32} (h0 : ¬ x = 0) (h1 : ¬ x = 1) (h2 : ¬ x = 2) (h3 : ¬ x = 3) : x.toInt < 0 ∨ 3 < x.toInt := by
  rcases Int.lt_or_le x.toInt 0 with h | h
  · exact Or.inl h
  · refine Or.inr (Int.lt_of_not_ge fun q => ?_)
    have : x.toInt = 0 ∨ x.toInt = 1 ∨ x.toInt = 2 ∨ x.toInt = 3 := by omega
    rcases this with e | e | e | e
    · exact h0 (Int32.toInt_inj.mp e)
    · exact h1 (Int32.toInt_inj.mp e)
    · exact h2 (Int32.toInt_inj.mp e)
    · exact h3 (Int32.toInt_inj.mp e)
theorem wn_out3_5 {x : Int32} (h0 : ¬ x = 3) (h1 : ¬ x = 4) (h2 : ¬ x = 5) : x.toInt < 3 ∨ 5 < x.toInt := by
  rcases Int.lt_or_le x.toInt 3 with h | h
  · exact Or.inl h
  · refine Or.inr (Int.lt_of_not_ge fun q => ?_)
    have : x.toInt = 3 ∨ x.toInt = 4 ∨ x.toInt = 5 := by omega
    rcases this with e | e | e
    · exact h0 (Int32.toInt_inj.mp e)
    · exact h1 (Int32.toInt_inj.mp e)
    · exact h2 (Int32.toInt_inj.mp e)
theorem dJ6_bitCount_0f7a4_0 : decode cJ6_bitCount_0f7a4 0 = .ok (.iload_n 0, 1) := by decide +kernel
theorem dJ6_bitCount_0f7a4_1 : decode cJ6_bitCount_0f7a4 1 = .ok (.iload_n 0, 1) := by decide +kernel
theorem dJ6_bitCount_0f7a4_2 : decode cJ6_bitCount_0f7a4 2 = .ok (.iconst 1, 1) := by decide +kernel
theorem dJ6_bitCount_0f7a4_3 : decode cJ6_bitCount_0f7a4 3 = .ok (.iushr, 1) := by decide +kernel
theorem dJ6_bitCount_0f7a4_4 : decode cJ6_bitCount_0f7a4 4 = .ok (.ldc_w 265, 3) := by decide +kernel
theorem dJ6_bitCount_0f7a4_7 : decode cJ6_bitCount_0f7a4 7 = .ok (.iand, 1) := by decide +kernel
theorem dJ6_bitCount_0f7a4_8 : decode cJ6_bitCount_0f7a4 8 = .ok (.isub, 1) := by decide +kernel
theorem dJ6_bitCount_0f7a4_9 : decode cJ6_bitCount_0f7a4 9 = .ok (.istore_n 0, 1) := by decide +kernel
theorem dJ6_bitCount_0f7a4_10 : decode cJ6_bitCount_0f7a4 10 = .ok (.iload_n 0, 1) := by decide +kernel
theorem dJ6_bitCount_0f7a4_11 : decode cJ6_bitCount_0f7a4 11 = .ok (.ldc_w 266, 3) := by decide +kernel
theorem dJ6_bitCount_0f7a4_14 : decode cJ6_bitCount_0f7a4 14 = .ok (.iand, 1) := by decide +kernel
theorem dJ6_bitCount_0f7a4_15 : decode cJ6_bitCount_0f7a4 15 = .ok (.iload_n 0, 1) := by decide +kernel
theorem dJ6_bitCount_0f7a4_16 : decode cJ6_bitCount_0f7a4 16 = .ok (.iconst 2, 1) := by decide +kernel
theorem dJ6_bitCount_0f7a4_17 : decode cJ6_bitCount_0f7a4 17 = .ok (.iushr, 1) := by decide +kernel
theorem dJ6_bitCount_0f7a4_18 : decode cJ6_bitCount_0f7a4 18 = .ok (.ldc_w 266, 3) := by decide +kernel
theorem dJ6_bitCount_0f7a4_21 : decode cJ6_bitCount_0f7a4 21 = .ok (.iand, 1) := by decide +kernel
theorem dJ6_bitCount_0f7a4_22 : decode cJ6_bitCount_0f7a4 22 = .ok (.iadd, 1) := by decide +kernel
theorem dJ6_bitCount_0f7a4_23 : decode cJ6_bitCount_0f7a4 23 = .ok (.istore_n 0, 1) := by decide +kernel
theorem dJ6_bitCount_0f7a4_24 : decode cJ6_bitCount_0f7a4 24 = .ok (.iload_n 0, 1) := by decide +kernel
theorem dJ6_bitCount_0f7a4_25 : decode cJ6_bitCount_0f7a4 25 = .ok (.iload_n 0, 1) := by decide +kernel
theorem dJ6_bitCount_0f7a4_26 : decode cJ6_bitCount_0f7a4 26 = .ok (.iconst 4, 1) := by decide +kernel
theorem dJ6_bitCount_0f7a4_27 : decode cJ6_bitCount_0f7a4 27 = .ok (.iushr, 1) := by decide +kernel
theorem dJ6_bitCount_0f7a4_28 : decode cJ6_bitCount_0f7a4 28 = .ok (.iadd, 1) := by decide +kernel
theorem dJ6_bitCount_0f7a4_29 : decode cJ6_bitCount_0f7a4 29 = .ok (.ldc_w 267, 3) := by decide +kernel
theorem dJ6_bitCount_0f7a4_32 : decode cJ6_bitCount_0f7a4 32 = .ok (.iand, 1) := by decide +kernel
theorem dJ6_bitCount_0f7a4_33 : decode cJ6_bitCount_0f7a4 33 = .ok (.istore_n 0, 1) := by decide +kernel
theorem dJ6_bitCount_0f7a4_34 : decode cJ6_bitCount_0f7a4 34 = .ok (.iload_n 0, 1) := by decide +kernel
theorem dJ6_bitCount_0f7a4_35 : decode cJ6_bitCount_0f7a4 35 = .ok (.iload_n 0, 1) := by decide +kernel
theorem dJ6_bitCount_0f7a4_36 : decode cJ6_bitCount_0f7a4 36 = .ok (.bipush 8, 2) := by decide +kernel
theorem dJ6_bitCount_0f7a4_38 : decode cJ6_bitCount_0f7a4 38 = .ok (.iushr, 1) := by decide +kernel
theorem dJ6_bitCount_0f7a4_39 : decode cJ6_bitCount_0f7a4 39 = .ok (.iadd, 1) := by decide +kernel
theorem dJ6_bitCount_0f7a4_40 : decode cJ6_bitCount_0f7a4 40 = .ok (.istore_n 0, 1) := by decide +kernel
theorem dJ6_bitCount_0f7a4_41 : decode cJ6_bitCount_0f7a4 41 = .ok (.iload_n 0, 1) := by decide +kernel
theorem dJ6_bitCount_0f7a4_42 : decode cJ6_bitCount_0f7a4 42 = .ok (.iload_n 0, 1) := by decide +kernel
theorem dJ6_bitCount_0f7a4_43 : decode cJ6_bitCount_0f7a4 43 = .ok (.bipush 16, 2) := by decide +kernel
theorem dJ6_bitCount_0f7a4_45 : decode cJ6_bitCount_0f7a4 45 = .ok (.iushr, 1) := by decide +kernel
theorem dJ6_bitCount_0f7a4_46 : decode cJ6_bitCount_0f7a4 46 = .ok (.iadd, 1) := by decide +kernel
theorem dJ6_bitCount_0f7a4_47 : decode cJ6_bitCount_0f7a4 47 = .ok (.istore_n 0, 1) := by decide +kernel
theorem dJ6_bitCount_0f7a4_48 : decode cJ6_bitCount_0f7a4 48 = .ok (.iload_n 0, 1) := by decide +kernel
theorem dJ6_bitCount_0f7a4_49 : decode cJ6_bitCount_0f7a4 49 = .ok (.bipush 63, 2) := by decide +kernel
theorem dJ6_bitCount_0f7a4_51 : decode cJ6_bitCount_0f7a4 51 = .ok (.iand, 1) := by decide +kernel
theorem dJ6_bitCount_0f7a4_52 : decode cJ6_bitCount_0f7a4 52 = .ok (.ireturn, 1) := by decide +kernel
theorem cv_J6_bitCount_0f7a4 : wn_cS yJ6_bitCount_0f7a4 cJ6_bitCount_0f7a4 1 (some .int) 1 := ⟨wm_51, wm_76, wm_77, by decide +kernel⟩
abbrev rm_J6_bitCount_0f7a4 : Room := rmz 0 0
set_option maxHeartbeats 4000000 in
set_option maxRecDepth 100000 in
theorem c_J6_bitCount_0f7a4 {ad : Nat → Nat} {x1 : Int32} {M : Mm} {q : Int32 × Mm} (hF : f_J6_bitCount_0f7a4 x1 M = some q) : KI ad yJ6_bitCount_0f7a4 cJ6_bitCount_0f7a4 1 (some .int) rm_J6_bitCount_0f7a4 [.int x1] M q.1 q.2 := by
  refine wn_enterI (own := RJ6) (by decide) rfl (Nat.le_of_ble_eq_true rfl) (fun X ls Z hQ hl => ?_)
  have hl : lv_has ls 1 [(0, .int x1)] := hl
  unfold f_J6_bitCount_0f7a4 at hF
  refine r_iload_n Z dJ6_bitCount_0f7a4_0 rfl (lv_at hl 0 rfl) ?_
  refine r_iload_n Z dJ6_bitCount_0f7a4_1 rfl (lv_at hl 0 rfl) ?_
  refine r_iconst (v := 1) Z dJ6_bitCount_0f7a4_2 (by decide) ?_
  refine r_iushr Z dJ6_bitCount_0f7a4_3 ?_
  refine r_ldcw Z wm_52 dJ6_bitCount_0f7a4_4 ?_
  refine r_iand Z dJ6_bitCount_0f7a4_7 ?_
  refine r_isub Z dJ6_bitCount_0f7a4_8 ?_
  obtain ⟨t1, et1, hF⟩ := nm_some hF
  rw [← et1]
  refine r_istore_n Z [(0, .int t1)] dJ6_bitCount_0f7a4_9 rfl hl (by decide) rfl (fun ls hl => ?_)
  refine r_iload_n Z dJ6_bitCount_0f7a4_10 rfl (lv_at hl 0 rfl) ?_
  refine r_ldcw Z wm_53 dJ6_bitCount_0f7a4_11 ?_
  refine r_iand Z dJ6_bitCount_0f7a4_14 ?_
  refine r_iload_n Z dJ6_bitCount_0f7a4_15 rfl (lv_at hl 0 rfl) ?_
  refine r_iconst (v := 2) Z dJ6_bitCount_0f7a4_16 (by decide) ?_
  refine r_iushr Z dJ6_bitCount_0f7a4_17 ?_
  refine r_ldcw Z wm_53 dJ6_bitCount_0f7a4_18 ?_
  refine r_iand Z dJ6_bitCount_0f7a4_21 ?_
  refine r_iadd Z dJ6_bitCount_0f7a4_22 ?_
  obtain ⟨t2, et2, hF⟩ := nm_some hF
  rw [← et2]
  refine r_istore_n Z [(0, .int t2)] dJ6_bitCount_0f7a4_23 rfl hl (by decide) rfl (fun ls hl => ?_)
  refine r_iload_n Z dJ6_bitCount_0f7a4_24 rfl (lv_at hl 0 rfl) ?_
  refine r_iload_n Z dJ6_bitCount_0f7a4_25 rfl (lv_at hl 0 rfl) ?_
  refine r_iconst (v := 4) Z dJ6_bitCount_0f7a4_26 (by decide) ?_
  refine r_iushr Z dJ6_bitCount_0f7a4_27 ?_
  refine r_iadd Z dJ6_bitCount_0f7a4_28 ?_
  refine r_ldcw Z wm_54 dJ6_bitCount_0f7a4_29 ?_
  refine r_iand Z dJ6_bitCount_0f7a4_32 ?_
  obtain ⟨t3, et3, hF⟩ := nm_some hF
  rw [← et3]
  refine r_istore_n Z [(0, .int t3)] dJ6_bitCount_0f7a4_33 rfl hl (by decide) rfl (fun ls hl => ?_)
  refine r_iload_n Z dJ6_bitCount_0f7a4_34 rfl (lv_at hl 0 rfl) ?_
  refine r_iload_n Z dJ6_bitCount_0f7a4_35 rfl (lv_at hl 0 rfl) ?_
  refine r_bipush (v := 8) Z dJ6_bitCount_0f7a4_36 (by decide) ?_
  refine r_iushr Z dJ6_bitCount_0f7a4_38 ?_
  refine r_iadd Z dJ6_bitCount_0f7a4_39 ?_
  obtain ⟨t4, et4, hF⟩ := nm_some hF
  rw [← et4]
  refine r_istore_n Z [(0, .int t4)] dJ6_bitCount_0f7a4_40 rfl hl (by decide) rfl (fun ls hl => ?_)
  refine r_iload_n Z dJ6_bitCount_0f7a4_41 rfl (lv_at hl 0 rfl) ?_
  refine r_iload_n Z dJ6_bitCount_0f7a4_42 rfl (lv_at hl 0 rfl) ?_
  refine r_bipush (v := 16) Z dJ6_bitCount_0f7a4_43 (by decide) ?_
  refine r_iushr Z dJ6_bitCount_0f7a4_45 ?_
  refine r_iadd Z dJ6_bitCount_0f7a4_46 ?_
  obtain ⟨t5, et5, hF⟩ := nm_some hF
  rw [← et5]
  refine r_istore_n Z [(0, .int t5)] dJ6_bitCount_0f7a4_47 rfl hl (by decide) rfl (fun ls hl => ?_)
  refine r_iload_n Z dJ6_bitCount_0f7a4_48 rfl (lv_at hl 0 rfl) ?_
  refine r_bipush (v := 63) Z dJ6_bitCount_0f7a4_49 (by decide) ?_
  refine r_iand Z dJ6_bitCount_0f7a4_51 ?_
  exact r_iret Z hQ hF dJ6_bitCount_0f7a4_52
theorem dX0_reachedFrom_0 : decode cX0_reachedFrom 0 = .ok (.iload_n 1, 1) := by decide +kernel
theorem dX0_reachedFrom_1 : decode cX0_reachedFrom 1 = .ok (.istore_n 2, 1) := by decide +kernel
theorem dX0_reachedFrom_2 : decode cX0_reachedFrom 2 = .ok (.iconst 0, 1) := by decide +kernel
theorem dX0_reachedFrom_3 : decode cX0_reachedFrom 3 = .ok (.istore_n 3, 1) := by decide +kernel
theorem dX0_reachedFrom_4 : decode cX0_reachedFrom 4 = .ok (.iload_n 3, 1) := by decide +kernel
theorem dX0_reachedFrom_5 : decode cX0_reachedFrom 5 = .ok (.aload_n 0, 1) := by decide +kernel
theorem dX0_reachedFrom_6 : decode cX0_reachedFrom 6 = .ok (.getfield 27, 3) := by decide +kernel
theorem dX0_reachedFrom_9 : decode cX0_reachedFrom 9 = .ok (.if_icmp .ge 46, 3) := by decide +kernel
theorem dX0_reachedFrom_12 : decode cX0_reachedFrom 12 = .ok (.iconst 0, 1) := by decide +kernel
theorem dX0_reachedFrom_13 : decode cX0_reachedFrom 13 = .ok (.istore 4, 2) := by decide +kernel
theorem dX0_reachedFrom_15 : decode cX0_reachedFrom 15 = .ok (.iload 4, 2) := by decide +kernel
theorem dX0_reachedFrom_17 : decode cX0_reachedFrom 17 = .ok (.aload_n 0, 1) := by decide +kernel
theorem dX0_reachedFrom_18 : decode cX0_reachedFrom 18 = .ok (.getfield 27, 3) := by decide +kernel
theorem dX0_reachedFrom_21 : decode cX0_reachedFrom 21 = .ok (.if_icmp .ge 28, 3) := by decide +kernel
theorem dX0_reachedFrom_24 : decode cX0_reachedFrom 24 = .ok (.iload_n 2, 1) := by decide +kernel
theorem dX0_reachedFrom_25 : decode cX0_reachedFrom 25 = .ok (.iload 4, 2) := by decide +kernel
theorem dX0_reachedFrom_27 : decode cX0_reachedFrom 27 = .ok (.ishr, 1) := by decide +kernel
theorem dX0_reachedFrom_28 : decode cX0_reachedFrom 28 = .ok (.iconst 1, 1) := by decide +kernel
theorem dX0_reachedFrom_29 : decode cX0_reachedFrom 29 = .ok (.iand, 1) := by decide +kernel
theorem dX0_reachedFrom_30 : decode cX0_reachedFrom 30 = .ok (.ifCond .eq 13, 3) := by decide +kernel
theorem dX0_reachedFrom_33 : decode cX0_reachedFrom 33 = .ok (.iload_n 2, 1) := by decide +kernel
theorem dX0_reachedFrom_34 : decode cX0_reachedFrom 34 = .ok (.aload_n 0, 1) := by decide +kernel
theorem dX0_reachedFrom_35 : decode cX0_reachedFrom 35 = .ok (.getfield 16, 3) := by decide +kernel
theorem dX0_reachedFrom_38 : decode cX0_reachedFrom 38 = .ok (.iload 4, 2) := by decide +kernel
theorem dX0_reachedFrom_40 : decode cX0_reachedFrom 40 = .ok (.iaload, 1) := by decide +kernel
theorem dX0_reachedFrom_41 : decode cX0_reachedFrom 41 = .ok (.ior, 1) := by decide +kernel
theorem dX0_reachedFrom_42 : decode cX0_reachedFrom 42 = .ok (.istore_n 2, 1) := by decide +kernel
theorem dX0_reachedFrom_43 : decode cX0_reachedFrom 43 = .ok (.iinc 4 1, 3) := by decide +kernel
theorem dX0_reachedFrom_46 : decode cX0_reachedFrom 46 = .ok (.goto (-31), 3) := by decide +kernel
theorem dX0_reachedFrom_49 : decode cX0_reachedFrom 49 = .ok (.iinc 3 1, 3) := by decide +kernel
theorem dX0_reachedFrom_52 : decode cX0_reachedFrom 52 = .ok (.goto (-48), 3) := by decide +kernel
theorem dX0_reachedFrom_55 : decode cX0_reachedFrom 55 = .ok (.iload_n 2, 1) := by decide +kernel
theorem dX0_reachedFrom_56 : decode cX0_reachedFrom 56 = .ok (.ireturn, 1) := by decide +kernel
theorem cv_X0_reachedFrom : wn_cV yX0_reachedFrom cX0_reachedFrom 5 (some .int) RX0 1 := ⟨wm_41, wm_44, wm_45, wm_40, by decide +kernel⟩
abbrev rm_X0_reachedFrom : Room := rmz 0 0
set_option maxHeartbeats 4000000 in
set_option maxRecDepth 100000 in
theorem c_X0_reachedFrom {ad : Nat → Nat} {o : Nat} {x1 : Int32} {M : Mm} {q : Int32 × Mm} (ho : shp o = 0) (hF : f_X0_reachedFrom o x1 M = some q) : KI ad yX0_reachedFrom cX0_reachedFrom 5 (some .int) rm_X0_reachedFrom [.ref (ad o), .int x1] M q.1 q.2 := by
  refine wn_enterI (own := RX0) (by decide) rfl (Nat.le_of_ble_eq_true rfl) (fun X ls Z hQ hl => ?_)
  have hl : lv_has ls 5 [(0, .ref (ad o)), (1, .int x1)] := hl
  have L4 : ∀ (n4 : Nat) (v2 : Int32) (v3 : Int32) (M : Mm) (ls : Array Slot), lv_has ls 5 [(0, .ref (ad o)), (2, .int v2), (3, .int v3)] → f_X0_reachedFrom_b4 o n4 v2 v3 M = some q → G ad X M 4 ls [] := by
    intro n4
    induction n4 with
    | zero =>
      intro v2 v3 M ls hl hF
      cases hF
    | succ n4 ih4 =>
      have L15 : ∀ (n15 : Nat) (v2 : Int32) (v3 : Int32) (v4 : Int32) (M : Mm) (ls : Array Slot), lv_has ls 5 [(0, .ref (ad o)), (2, .int v2), (3, .int v3), (4, .int v4)] → f_X0_reachedFrom_b15 (f_X0_reachedFrom_b4 o n4) o n15 v2 v3 v4 M = some q → G ad X M 15 ls [] := by
        intro n15
        induction n15 with
        | zero =>
          intro v2 v3 v4 M ls hl hF
          cases hF
        | succ n15 ih15 =>
          intro v2 v3 v4 M ls hl hF
          replace hF : f_X0_reachedFrom_b15B (f_X0_reachedFrom_b4 o n4) (f_X0_reachedFrom_b15 (f_X0_reachedFrom_b4 o n4) o n15) o v2 v3 v4 M = some q := hF
          unfold f_X0_reachedFrom_b15B at hF
          refine r_iload Z dX0_reachedFrom_15 (lv_at hl 3 rfl) ?_
          refine r_aload_n Z dX0_reachedFrom_17 rfl (lv_at hl 0 rfl) ?_
          refine g_0_3 Z ho wm_18 dX0_reachedFrom_18 ?_
          refine r_icmp_ge Z 49 dX0_reachedFrom_21 (by decide) (fun hc1 => ?_) (fun hc1 => ?_)
          · replace hF := if_some hc1 hF
            obtain ⟨t2, et2, hF⟩ := nm_some hF
            refine r_iinc (j := 2) Z t2 [(3, .int t2), (0, .ref (ad o)), (2, .int v2), (4, .int v4)] dX0_reachedFrom_49 hl rfl (by rw [et2]; rfl) (by decide) rfl (fun ls hl => ?_)
            refine r_goto Z 4 dX0_reachedFrom_52 (by decide) ?_
            exact ih4 v2 t2 M ls (lv_sub hl [1, 2, 0] rfl) hF
          · replace hF := nif_some hc1 hF
            refine r_iload_n Z dX0_reachedFrom_24 rfl (lv_at hl 1 rfl) ?_
            refine r_iload Z dX0_reachedFrom_25 (lv_at hl 3 rfl) ?_
            refine r_ishr Z dX0_reachedFrom_27 ?_
            refine r_iconst (v := 1) Z dX0_reachedFrom_28 (by decide) ?_
            refine r_iand Z dX0_reachedFrom_29 ?_
            refine r_if_eq Z 43 dX0_reachedFrom_30 (by decide) (fun hc3 => ?_) (fun hc3 => ?_)
            · replace hF := if_some hc3 hF
              obtain ⟨t4, et4, hF⟩ := nm_some hF
              refine r_iinc (j := 3) Z t4 [(4, .int t4), (0, .ref (ad o)), (2, .int v2), (3, .int v3)] dX0_reachedFrom_43 hl rfl (by rw [et4]; rfl) (by decide) rfl (fun ls hl => ?_)
              refine r_goto Z 15 dX0_reachedFrom_46 (by decide) ?_
              exact ih15 v2 v3 t4 M ls (lv_sub hl [1, 2, 3, 0] rfl) hF
            · replace hF := nif_some hc3 hF
              refine r_iload_n Z dX0_reachedFrom_33 rfl (lv_at hl 1 rfl) ?_
              refine r_aload_n Z dX0_reachedFrom_34 rfl (lv_at hl 0 rfl) ?_
              refine g_0_1 Z ho wm_13 dX0_reachedFrom_35 ?_
              refine r_iload Z dX0_reachedFrom_38 (lv_at hl 3 rfl) ?_
              obtain ⟨hi5, hF⟩ := ck_some hF
              refine r_iaload Z (shp_lt (sh_0_1 ho) (by decide)) (fun _ _ => ce_106 (sh_0_1 ho)) hi5 dX0_reachedFrom_40 ?_
              refine r_ior Z dX0_reachedFrom_41 ?_
              obtain ⟨t6, et6, hF⟩ := nm_some hF
              rw [← et6]
              refine r_istore_n Z [(2, .int t6), (0, .ref (ad o)), (3, .int v3), (4, .int v4)] dX0_reachedFrom_42 rfl hl (by decide) rfl (fun ls hl => ?_)
              obtain ⟨t7, et7, hF⟩ := nm_some hF
              refine r_iinc (j := 3) Z t7 [(4, .int t7), (2, .int t6), (0, .ref (ad o)), (3, .int v3)] dX0_reachedFrom_43 hl rfl (by rw [et7]; rfl) (by decide) rfl (fun ls hl => ?_)
              refine r_goto Z 15 dX0_reachedFrom_46 (by decide) ?_
              exact ih15 t6 v3 t7 M ls (lv_sub hl [2, 1, 3, 0] rfl) hF
      intro v2 v3 M ls hl hF
      replace hF : f_X0_reachedFrom_b4B (f_X0_reachedFrom_b4 o n4) o v2 v3 M = some q := hF
      unfold f_X0_reachedFrom_b4B at hF
      refine r_iload_n Z dX0_reachedFrom_4 rfl (lv_at hl 2 rfl) ?_
      refine r_aload_n Z dX0_reachedFrom_5 rfl (lv_at hl 0 rfl) ?_
      refine g_0_3 Z ho wm_18 dX0_reachedFrom_6 ?_
      refine r_icmp_ge Z 55 dX0_reachedFrom_9 (by decide) (fun hc8 => ?_) (fun hc8 => ?_)
      · replace hF := if_some hc8 hF
        refine r_iload_n Z dX0_reachedFrom_55 rfl (lv_at hl 1 rfl) ?_
        exact r_iret Z hQ hF dX0_reachedFrom_56
      · replace hF := nif_some hc8 hF
        refine r_iconst (v := 0) Z dX0_reachedFrom_12 (by decide) ?_
        refine r_istore Z [(4, .int 0), (0, .ref (ad o)), (2, .int v2), (3, .int v3)] dX0_reachedFrom_13 hl (by decide) rfl (fun ls hl => ?_)
        exact L15 _ v2 v3 0 M ls (lv_sub hl [1, 2, 3, 0] rfl) hF
  unfold f_X0_reachedFrom at hF
  refine r_iload_n Z dX0_reachedFrom_0 rfl (lv_at hl 1 rfl) ?_
  refine r_istore_n Z [(2, .int x1), (0, .ref (ad o)), (1, .int x1)] dX0_reachedFrom_1 rfl hl (by decide) rfl (fun ls hl => ?_)
  refine r_iconst (v := 0) Z dX0_reachedFrom_2 (by decide) ?_
  refine r_istore_n Z [(3, .int 0), (2, .int x1), (0, .ref (ad o)), (1, .int x1)] dX0_reachedFrom_3 rfl hl (by decide) rfl (fun ls hl => ?_)
  exact L4 _ x1 0 M ls (lv_sub hl [2, 1, 0] rfl) hF
theorem dX0_partOf_0 : decode cX0_partOf 0 = .ok (.aload_n 0, 1) := by decide +kernel
theorem dX0_partOf_1 : decode cX0_partOf 1 = .ok (.iconst 1, 1) := by decide +kernel
theorem dX0_partOf_2 : decode cX0_partOf 2 = .ok (.iload_n 1, 1) := by decide +kernel
theorem dX0_partOf_3 : decode cX0_partOf 3 = .ok (.ishl, 1) := by decide +kernel
theorem dX0_partOf_4 : decode cX0_partOf 4 = .ok (.invokevirtual 44, 3) := by decide +kernel
theorem dX0_partOf_7 : decode cX0_partOf 7 = .ok (.istore_n 2, 1) := by decide +kernel
theorem dX0_partOf_8 : decode cX0_partOf 8 = .ok (.iconst 0, 1) := by decide +kernel
theorem dX0_partOf_9 : decode cX0_partOf 9 = .ok (.istore_n 3, 1) := by decide +kernel
theorem dX0_partOf_10 : decode cX0_partOf 10 = .ok (.iload_n 3, 1) := by decide +kernel
theorem dX0_partOf_11 : decode cX0_partOf 11 = .ok (.aload_n 0, 1) := by decide +kernel
theorem dX0_partOf_12 : decode cX0_partOf 12 = .ok (.getfield 27, 3) := by decide +kernel
theorem dX0_partOf_15 : decode cX0_partOf 15 = .ok (.if_icmp .ge 47, 3) := by decide +kernel
theorem dX0_partOf_18 : decode cX0_partOf 18 = .ok (.iload_n 2, 1) := by decide +kernel
theorem dX0_partOf_19 : decode cX0_partOf 19 = .ok (.iload_n 3, 1) := by decide +kernel
theorem dX0_partOf_20 : decode cX0_partOf 20 = .ok (.ishr, 1) := by decide +kernel
theorem dX0_partOf_21 : decode cX0_partOf 21 = .ok (.iconst 1, 1) := by decide +kernel
theorem dX0_partOf_22 : decode cX0_partOf 22 = .ok (.iand, 1) := by decide +kernel
theorem dX0_partOf_23 : decode cX0_partOf 23 = .ok (.ifCond .eq 7, 3) := by decide +kernel
theorem dX0_partOf_26 : decode cX0_partOf 26 = .ok (.iconst 1, 1) := by decide +kernel
theorem dX0_partOf_27 : decode cX0_partOf 27 = .ok (.goto 4, 3) := by decide +kernel
theorem dX0_partOf_30 : decode cX0_partOf 30 = .ok (.iconst 0, 1) := by decide +kernel
theorem dX0_partOf_31 : decode cX0_partOf 31 = .ok (.istore 4, 2) := by decide +kernel
theorem dX0_partOf_33 : decode cX0_partOf 33 = .ok (.iload 4, 2) := by decide +kernel
theorem dX0_partOf_35 : decode cX0_partOf 35 = .ok (.ifCond .eq 21, 3) := by decide +kernel
theorem dX0_partOf_38 : decode cX0_partOf 38 = .ok (.iload_n 3, 1) := by decide +kernel
theorem dX0_partOf_39 : decode cX0_partOf 39 = .ok (.iload_n 1, 1) := by decide +kernel
theorem dX0_partOf_40 : decode cX0_partOf 40 = .ok (.if_icmp .lt 14, 3) := by decide +kernel
theorem dX0_partOf_43 : decode cX0_partOf 43 = .ok (.aload_n 0, 1) := by decide +kernel
theorem dX0_partOf_44 : decode cX0_partOf 44 = .ok (.iconst 1, 1) := by decide +kernel
theorem dX0_partOf_45 : decode cX0_partOf 45 = .ok (.iload_n 3, 1) := by decide +kernel
theorem dX0_partOf_46 : decode cX0_partOf 46 = .ok (.ishl, 1) := by decide +kernel
theorem dX0_partOf_47 : decode cX0_partOf 47 = .ok (.invokevirtual 44, 3) := by decide +kernel
theorem dX0_partOf_50 : decode cX0_partOf 50 = .ok (.iload_n 2, 1) := by decide +kernel
theorem dX0_partOf_51 : decode cX0_partOf 51 = .ok (.if_icmp .eq 5, 3) := by decide +kernel
theorem dX0_partOf_54 : decode cX0_partOf 54 = .ok (.iconst 0, 1) := by decide +kernel
theorem dX0_partOf_55 : decode cX0_partOf 55 = .ok (.ireturn, 1) := by decide +kernel
theorem dX0_partOf_56 : decode cX0_partOf 56 = .ok (.iinc 3 1, 3) := by decide +kernel
theorem dX0_partOf_59 : decode cX0_partOf 59 = .ok (.goto (-49), 3) := by decide +kernel
theorem dX0_partOf_62 : decode cX0_partOf 62 = .ok (.iload_n 2, 1) := by decide +kernel
theorem dX0_partOf_63 : decode cX0_partOf 63 = .ok (.ireturn, 1) := by decide +kernel
theorem cv_X0_partOf : wn_cV yX0_partOf cX0_partOf 5 (some .int) RX0 1 := ⟨wm_42, wm_48, wm_49, wm_40, by decide +kernel⟩
abbrev rm_X0_partOf : Room := rmz 1 24
set_option maxHeartbeats 4000000 in
set_option maxRecDepth 100000 in
theorem c_X0_partOf {ad : Nat → Nat} {o : Nat} {x1 : Int32} {M : Mm} {q : Int32 × Mm} (ho : shp o = 0) (hF : f_X0_partOf o x1 M = some q) : KI ad yX0_partOf cX0_partOf 5 (some .int) rm_X0_partOf [.ref (ad o), .int x1] M q.1 q.2 := by
  refine wn_enterI (own := RX0) (by decide) rfl (Nat.le_of_ble_eq_true rfl) (fun X ls Z hQ hl => ?_)
  have hl : lv_has ls 5 [(0, .ref (ad o)), (1, .int x1)] := hl
  have L10 : ∀ (n10 : Nat) (v1 : Int32) (v2 : Int32) (v3 : Int32) (M : Mm) (ls : Array Slot), lv_has ls 5 [(0, .ref (ad o)), (1, .int v1), (2, .int v2), (3, .int v3)] → f_X0_partOf_b10 o n10 v1 v2 v3 M = some q → G ad X M 10 ls [] := by
    intro n10
    induction n10 with
    | zero =>
      intro v1 v2 v3 M ls hl hF
      cases hF
    | succ n10 ih10 =>
      have L31 : ∀ (v1 : Int32) (v2 : Int32) (v3 : Int32) (s0 : Int32) (M : Mm) (ls : Array Slot), lv_has ls 5 [(0, .ref (ad o)), (1, .int v1), (2, .int v2), (3, .int v3)] → f_X0_partOf_b31 (f_X0_partOf_b10 o n10) o v1 v2 v3 s0 M = some q → G ad X M 31 ls [.int s0] := by
        intro v1 v2 v3 s0 M ls hl hF
        unfold f_X0_partOf_b31 at hF
        refine r_istore Z [(4, .int s0), (0, .ref (ad o)), (1, .int v1), (2, .int v2), (3, .int v3)] dX0_partOf_31 hl (by decide) rfl (fun ls hl => ?_)
        refine r_iload Z dX0_partOf_33 (lv_at hl 0 rfl) ?_
        refine r_if_eq Z 56 dX0_partOf_35 (by decide) (fun hc1 => ?_) (fun hc1 => ?_)
        · replace hF := if_some hc1 hF
          obtain ⟨t2, et2, hF⟩ := nm_some hF
          refine r_iinc (j := 4) Z t2 [(3, .int t2), (4, .int s0), (0, .ref (ad o)), (1, .int v1), (2, .int v2)] dX0_partOf_56 hl rfl (by rw [et2]; rfl) (by decide) rfl (fun ls hl => ?_)
          refine r_goto Z 10 dX0_partOf_59 (by decide) ?_
          exact ih10 v1 v2 t2 M ls (lv_sub hl [2, 3, 4, 0] rfl) hF
        · replace hF := nif_some hc1 hF
          refine r_iload_n Z dX0_partOf_38 rfl (lv_at hl 4 rfl) ?_
          refine r_iload_n Z dX0_partOf_39 rfl (lv_at hl 2 rfl) ?_
          refine r_icmp_lt Z 54 dX0_partOf_40 (by decide) (fun hc3 => ?_) (fun hc3 => ?_)
          · replace hF := if_some hc3 hF
            refine r_iconst (v := 0) Z dX0_partOf_54 (by decide) ?_
            exact r_iret Z hQ hF dX0_partOf_55
          · replace hF := nif_some hc3 hF
            refine r_aload_n Z dX0_partOf_43 rfl (lv_at hl 1 rfl) ?_
            refine r_iconst (v := 1) Z dX0_partOf_44 (by decide) ?_
            refine r_iload_n Z dX0_partOf_45 rfl (lv_at hl 4 rfl) ?_
            refine r_ishl Z dX0_partOf_46 ?_
            obtain ⟨q4, hq4, hF⟩ := bd_some hF
            refine r_invVi [] Z (c_X0_reachedFrom ho hq4) cv_X0_reachedFrom rfl (shp_lt ho (by decide)) (fun _ _ => ⟨_, ce_0 ho⟩) wm_43 rfl rfl ⟨Nat.le_of_ble_eq_true rfl, Nat.le_of_ble_eq_true rfl⟩ rfl hl.1 rfl (Nat.le_of_ble_eq_true rfl) dX0_partOf_47 ?_
            refine r_iload_n Z dX0_partOf_50 rfl (lv_at hl 3 rfl) ?_
            refine r_icmp_eq Z 56 dX0_partOf_51 (by decide) (fun hc5 => ?_) (fun hc5 => ?_)
            · replace hF := if_some hc5 hF
              obtain ⟨t6, et6, hF⟩ := nm_some hF
              refine r_iinc (j := 4) Z t6 [(3, .int t6), (4, .int s0), (0, .ref (ad o)), (1, .int v1), (2, .int v2)] dX0_partOf_56 hl rfl (by rw [et6]; rfl) (by decide) rfl (fun ls hl => ?_)
              refine r_goto Z 10 dX0_partOf_59 (by decide) ?_
              exact ih10 v1 v2 t6 q4.2 ls (lv_sub hl [2, 3, 4, 0] rfl) hF
            · replace hF := nif_some hc5 hF
              refine r_iconst (v := 0) Z dX0_partOf_54 (by decide) ?_
              exact r_iret Z hQ hF dX0_partOf_55
      intro v1 v2 v3 M ls hl hF
      replace hF : f_X0_partOf_b10B (f_X0_partOf_b10 o n10) o v1 v2 v3 M = some q := hF
      unfold f_X0_partOf_b10B at hF
      refine r_iload_n Z dX0_partOf_10 rfl (lv_at hl 3 rfl) ?_
      refine r_aload_n Z dX0_partOf_11 rfl (lv_at hl 0 rfl) ?_
      refine g_0_3 Z ho wm_18 dX0_partOf_12 ?_
      refine r_icmp_ge Z 62 dX0_partOf_15 (by decide) (fun hc7 => ?_) (fun hc7 => ?_)
      · replace hF := if_some hc7 hF
        refine r_iload_n Z dX0_partOf_62 rfl (lv_at hl 2 rfl) ?_
        exact r_iret Z hQ hF dX0_partOf_63
      · replace hF := nif_some hc7 hF
        refine r_iload_n Z dX0_partOf_18 rfl (lv_at hl 2 rfl) ?_
        refine r_iload_n Z dX0_partOf_19 rfl (lv_at hl 3 rfl) ?_
        refine r_ishr Z dX0_partOf_20 ?_
        refine r_iconst (v := 1) Z dX0_partOf_21 (by decide) ?_
        refine r_iand Z dX0_partOf_22 ?_
        refine r_if_eq Z 30 dX0_partOf_23 (by decide) (fun hc8 => ?_) (fun hc8 => ?_)
        · replace hF := if_some hc8 hF
          refine r_iconst (v := 0) Z dX0_partOf_30 (by decide) ?_
          exact L31 v1 v2 v3 0 M ls (lv_sub hl [0, 1, 2, 3] rfl) hF
        · replace hF := nif_some hc8 hF
          refine r_iconst (v := 1) Z dX0_partOf_26 (by decide) ?_
          refine r_goto Z 31 dX0_partOf_27 (by decide) ?_
          exact L31 v1 v2 v3 1 M ls (lv_sub hl [0, 1, 2, 3] rfl) hF
  unfold f_X0_partOf at hF
  refine r_aload_n Z dX0_partOf_0 rfl (lv_at hl 0 rfl) ?_
  refine r_iconst (v := 1) Z dX0_partOf_1 (by decide) ?_
  refine r_iload_n Z dX0_partOf_2 rfl (lv_at hl 1 rfl) ?_
  refine r_ishl Z dX0_partOf_3 ?_
  obtain ⟨q9, hq9, hF⟩ := bd_some hF
  refine r_invVi [] Z (c_X0_reachedFrom ho hq9) cv_X0_reachedFrom rfl (shp_lt ho (by decide)) (fun _ _ => ⟨_, ce_0 ho⟩) wm_43 rfl rfl ⟨Nat.le_of_ble_eq_true rfl, Nat.le_of_ble_eq_true rfl⟩ rfl hl.1 rfl (Nat.le_of_ble_eq_true rfl) dX0_partOf_4 ?_
  refine r_istore_n Z [(2, .int q9.1), (0, .ref (ad o)), (1, .int x1)] dX0_partOf_7 rfl hl (by decide) rfl (fun ls hl => ?_)
  refine r_iconst (v := 0) Z dX0_partOf_8 (by decide) ?_
  refine r_istore_n Z [(3, .int 0), (2, .int q9.1), (0, .ref (ad o)), (1, .int x1)] dX0_partOf_9 rfl hl (by decide) rfl (fun ls hl => ?_)
  exact L10 _ x1 q9.1 0 q9.2 ls (lv_sub hl [2, 3, 1, 0] rfl) hF
theorem dX0_firstPart_0 : decode cX0_firstPart 0 = .ok (.iconst 0, 1) := by decide +kernel
theorem dX0_firstPart_1 : decode cX0_firstPart 1 = .ok (.istore_n 1, 1) := by decide +kernel
theorem dX0_firstPart_2 : decode cX0_firstPart 2 = .ok (.iload_n 1, 1) := by decide +kernel
theorem dX0_firstPart_3 : decode cX0_firstPart 3 = .ok (.aload_n 0, 1) := by decide +kernel
theorem dX0_firstPart_4 : decode cX0_firstPart 4 = .ok (.getfield 27, 3) := by decide +kernel
theorem dX0_firstPart_7 : decode cX0_firstPart 7 = .ok (.if_icmp .ge 21, 3) := by decide +kernel
theorem dX0_firstPart_10 : decode cX0_firstPart 10 = .ok (.aload_n 0, 1) := by decide +kernel
theorem dX0_firstPart_11 : decode cX0_firstPart 11 = .ok (.iload_n 1, 1) := by decide +kernel
theorem dX0_firstPart_12 : decode cX0_firstPart 12 = .ok (.invokevirtual 47, 3) := by decide +kernel
theorem dX0_firstPart_15 : decode cX0_firstPart 15 = .ok (.istore_n 2, 1) := by decide +kernel
theorem dX0_firstPart_16 : decode cX0_firstPart 16 = .ok (.iload_n 2, 1) := by decide +kernel
theorem dX0_firstPart_17 : decode cX0_firstPart 17 = .ok (.ifCond .eq 5, 3) := by decide +kernel
theorem dX0_firstPart_20 : decode cX0_firstPart 20 = .ok (.iload_n 2, 1) := by decide +kernel
theorem dX0_firstPart_21 : decode cX0_firstPart 21 = .ok (.ireturn, 1) := by decide +kernel
theorem dX0_firstPart_22 : decode cX0_firstPart 22 = .ok (.iinc 1 1, 3) := by decide +kernel
theorem dX0_firstPart_25 : decode cX0_firstPart 25 = .ok (.goto (-23), 3) := by decide +kernel
theorem dX0_firstPart_28 : decode cX0_firstPart 28 = .ok (.iconst 0, 1) := by decide +kernel
theorem dX0_firstPart_29 : decode cX0_firstPart 29 = .ok (.ireturn, 1) := by decide +kernel
theorem cv_X0_firstPart : wn_cV yX0_firstPart cX0_firstPart 3 (some .int) RX0 0 := ⟨wm_50, wm_96, wm_97, wm_40, by decide +kernel⟩
abbrev rm_X0_firstPart : Room := rmz 2 48
set_option maxHeartbeats 4000000 in
set_option maxRecDepth 100000 in
theorem c_X0_firstPart {ad : Nat → Nat} {o : Nat} {M : Mm} {q : Int32 × Mm} (ho : shp o = 0) (hF : f_X0_firstPart o M = some q) : KI ad yX0_firstPart cX0_firstPart 3 (some .int) rm_X0_firstPart [.ref (ad o)] M q.1 q.2 := by
  refine wn_enterI (own := RX0) (by decide) rfl (Nat.le_of_ble_eq_true rfl) (fun X ls Z hQ hl => ?_)
  have hl : lv_has ls 3 [(0, .ref (ad o))] := hl
  have L2 : ∀ (n2 : Nat) (v1 : Int32) (M : Mm) (ls : Array Slot), lv_has ls 3 [(0, .ref (ad o)), (1, .int v1)] → f_X0_firstPart_b2 o n2 v1 M = some q → G ad X M 2 ls [] := by
    intro n2
    induction n2 with
    | zero =>
      intro v1 M ls hl hF
      cases hF
    | succ n2 ih2 =>
      intro v1 M ls hl hF
      replace hF : f_X0_firstPart_b2B (f_X0_firstPart_b2 o n2) o v1 M = some q := hF
      unfold f_X0_firstPart_b2B at hF
      refine r_iload_n Z dX0_firstPart_2 rfl (lv_at hl 1 rfl) ?_
      refine r_aload_n Z dX0_firstPart_3 rfl (lv_at hl 0 rfl) ?_
      refine g_0_3 Z ho wm_18 dX0_firstPart_4 ?_
      refine r_icmp_ge Z 28 dX0_firstPart_7 (by decide) (fun hc1 => ?_) (fun hc1 => ?_)
      · replace hF := if_some hc1 hF
        refine r_iconst (v := 0) Z dX0_firstPart_28 (by decide) ?_
        exact r_iret Z hQ hF dX0_firstPart_29
      · replace hF := nif_some hc1 hF
        refine r_aload_n Z dX0_firstPart_10 rfl (lv_at hl 0 rfl) ?_
        refine r_iload_n Z dX0_firstPart_11 rfl (lv_at hl 1 rfl) ?_
        obtain ⟨q2, hq2, hF⟩ := bd_some hF
        refine r_invVi [] Z (c_X0_partOf ho hq2) cv_X0_partOf rfl (shp_lt ho (by decide)) (fun _ _ => ⟨_, ce_0 ho⟩) wm_47 rfl rfl ⟨Nat.le_of_ble_eq_true rfl, Nat.le_of_ble_eq_true rfl⟩ rfl hl.1 rfl (Nat.le_of_ble_eq_true rfl) dX0_firstPart_12 ?_
        refine r_istore_n Z [(2, .int q2.1), (0, .ref (ad o)), (1, .int v1)] dX0_firstPart_15 rfl hl (by decide) rfl (fun ls hl => ?_)
        refine r_iload_n Z dX0_firstPart_16 rfl (lv_at hl 0 rfl) ?_
        refine r_if_eq Z 22 dX0_firstPart_17 (by decide) (fun hc3 => ?_) (fun hc3 => ?_)
        · replace hF := if_some hc3 hF
          obtain ⟨t4, et4, hF⟩ := nm_some hF
          refine r_iinc (j := 2) Z t4 [(1, .int t4), (2, .int q2.1), (0, .ref (ad o))] dX0_firstPart_22 hl rfl (by rw [et4]; rfl) (by decide) rfl (fun ls hl => ?_)
          refine r_goto Z 2 dX0_firstPart_25 (by decide) ?_
          exact ih2 t4 q2.2 ls (lv_sub hl [2, 0] rfl) hF
        · replace hF := nif_some hc3 hF
          refine r_iload_n Z dX0_firstPart_20 rfl (lv_at hl 0 rfl) ?_
          exact r_iret Z hQ hF dX0_firstPart_21
  unfold f_X0_firstPart at hF
  refine r_iconst (v := 0) Z dX0_firstPart_0 (by decide) ?_
  refine r_istore_n Z [(1, .int 0), (0, .ref (ad o))] dX0_firstPart_1 rfl hl (by decide) rfl (fun ls hl => ?_)
  exact L2 _ 0 M ls (lv_sub hl [1, 0] rfl) hF
theorem dX6_has_0 : decode cX6_has 0 = .ok (.iload_n 1, 1) := by decide +kernel
theorem dX6_has_1 : decode cX6_has 1 = .ok (.ifCond .lt 24, 3) := by decide +kernel
theorem dX6_has_4 : decode cX6_has 4 = .ok (.iload_n 1, 1) := by decide +kernel
theorem dX6_has_5 : decode cX6_has 5 = .ok (.aload_n 0, 1) := by decide +kernel
theorem dX6_has_6 : decode cX6_has 6 = .ok (.getfield 15, 3) := by decide +kernel
theorem dX6_has_9 : decode cX6_has 9 = .ok (.if_icmp .ge 16, 3) := by decide +kernel
theorem dX6_has_12 : decode cX6_has 12 = .ok (.iload_n 1, 1) := by decide +kernel
theorem dX6_has_13 : decode cX6_has 13 = .ok (.aload_n 0, 1) := by decide +kernel
theorem dX6_has_14 : decode cX6_has 14 = .ok (.getfield 9, 3) := by decide +kernel
theorem dX6_has_17 : decode cX6_has 17 = .ok (.arraylength, 1) := by decide +kernel
theorem dX6_has_18 : decode cX6_has 18 = .ok (.if_icmp .ge 7, 3) := by decide +kernel
theorem dX6_has_21 : decode cX6_has 21 = .ok (.iconst 1, 1) := by decide +kernel
theorem dX6_has_22 : decode cX6_has 22 = .ok (.goto 4, 3) := by decide +kernel
theorem dX6_has_25 : decode cX6_has 25 = .ok (.iconst 0, 1) := by decide +kernel
theorem dX6_has_26 : decode cX6_has 26 = .ok (.ireturn, 1) := by decide +kernel
theorem cv_X6_has : wn_cV yX6_has cX6_has 2 (some .boolean) RX6 1 := ⟨wm_22, wm_26, wm_27, wm_28, by decide +kernel⟩
abbrev rm_X6_has : Room := rmz 0 0
set_option maxHeartbeats 4000000 in
set_option maxRecDepth 100000 in
theorem c_X6_has {ad : Nat → Nat} {o : Nat} {x1 : Int32} {M : Mm} {q : Int32 × Mm} (ho : shp o = 6) (hF : f_X6_has o x1 M = some q) : KI ad yX6_has cX6_has 2 (some .boolean) rm_X6_has [.ref (ad o), .int x1] M q.1 q.2 := by
  refine wn_enterI (own := RX6) (by decide) rfl (Nat.le_of_ble_eq_true rfl) (fun X ls Z hQ hl => ?_)
  have hl : lv_has ls 2 [(0, .ref (ad o)), (1, .int x1)] := hl
  unfold f_X6_has at hF
  refine r_iload_n Z dX6_has_0 rfl (lv_at hl 1 rfl) ?_
  refine r_if_lt Z 25 dX6_has_1 (by decide) (fun hc1 => ?_) (fun hc1 => ?_)
  · replace hF := if_some hc1 hF
    refine r_iconst (v := 0) Z dX6_has_25 (by decide) ?_
    exact r_zret Z hQ (by decide) hF dX6_has_26
  · replace hF := nif_some hc1 hF
    refine r_iload_n Z dX6_has_4 rfl (lv_at hl 1 rfl) ?_
    refine r_aload_n Z dX6_has_5 rfl (lv_at hl 0 rfl) ?_
    refine g_6_1 Z ho wm_21 dX6_has_6 ?_
    refine r_icmp_ge Z 25 dX6_has_9 (by decide) (fun hc2 => ?_) (fun hc2 => ?_)
    · replace hF := if_some hc2 hF
      refine r_iconst (v := 0) Z dX6_has_25 (by decide) ?_
      exact r_zret Z hQ (by decide) hF dX6_has_26
    · replace hF := nif_some hc2 hF
      refine r_iload_n Z dX6_has_12 rfl (lv_at hl 1 rfl) ?_
      refine r_aload_n Z dX6_has_13 rfl (lv_at hl 0 rfl) ?_
      refine g_6_0 Z ho wm_23 dX6_has_14 ?_
      refine r_alen Z 40 (shp_lt (sh_6_0 ho) (by decide)) (fun _ _ => ce_140 (sh_6_0 ho)) (by decide) dX6_has_17 ?_
      refine r_icmp_ge Z 25 dX6_has_18 (by decide) (fun hc3 => ?_) (fun hc3 => ?_)
      · replace hF := if_some hc3 hF
        refine r_iconst (v := 0) Z dX6_has_25 (by decide) ?_
        exact r_zret Z hQ (by decide) hF dX6_has_26
      · replace hF := nif_some hc3 hF
        refine r_iconst (v := 1) Z dX6_has_21 (by decide) ?_
        refine r_goto Z 26 dX6_has_22 (by decide) ?_
        exact r_zret Z hQ (by decide) hF dX6_has_26
theorem dX6_at_0 : decode cX6_at 0 = .ok (.aload_n 0, 1) := by decide +kernel
theorem dX6_at_1 : decode cX6_at 1 = .ok (.iload_n 1, 1) := by decide +kernel
theorem dX6_at_2 : decode cX6_at 2 = .ok (.invokevirtual 28, 3) := by decide +kernel
theorem dX6_at_5 : decode cX6_at 5 = .ok (.ifCond .eq 12, 3) := by decide +kernel
theorem dX6_at_8 : decode cX6_at 8 = .ok (.aload_n 0, 1) := by decide +kernel
theorem dX6_at_9 : decode cX6_at 9 = .ok (.getfield 9, 3) := by decide +kernel
theorem dX6_at_12 : decode cX6_at 12 = .ok (.iload_n 1, 1) := by decide +kernel
theorem dX6_at_13 : decode cX6_at 13 = .ok (.iaload, 1) := by decide +kernel
theorem dX6_at_14 : decode cX6_at 14 = .ok (.goto 4, 3) := by decide +kernel
theorem dX6_at_17 : decode cX6_at 17 = .ok (.iconst 0, 1) := by decide +kernel
theorem dX6_at_18 : decode cX6_at 18 = .ok (.ireturn, 1) := by decide +kernel
theorem cv_X6_at : wn_cV yX6_at cX6_at 2 (some .int) RX6 1 := ⟨wm_24, wm_35, wm_36, wm_28, by decide +kernel⟩
abbrev rm_X6_at : Room := rmz 1 21
set_option maxHeartbeats 4000000 in
set_option maxRecDepth 100000 in
theorem c_X6_at {ad : Nat → Nat} {o : Nat} {x1 : Int32} {M : Mm} {q : Int32 × Mm} (ho : shp o = 6) (hF : f_X6_at o x1 M = some q) : KI ad yX6_at cX6_at 2 (some .int) rm_X6_at [.ref (ad o), .int x1] M q.1 q.2 := by
  refine wn_enterI (own := RX6) (by decide) rfl (Nat.le_of_ble_eq_true rfl) (fun X ls Z hQ hl => ?_)
  have hl : lv_has ls 2 [(0, .ref (ad o)), (1, .int x1)] := hl
  unfold f_X6_at at hF
  refine r_aload_n Z dX6_at_0 rfl (lv_at hl 0 rfl) ?_
  refine r_iload_n Z dX6_at_1 rfl (lv_at hl 1 rfl) ?_
  obtain ⟨q1, hq1, hF⟩ := bd_some hF
  refine r_invVi [] Z (c_X6_has ho hq1) cv_X6_has rfl (shp_lt ho (by decide)) (fun _ _ => ⟨_, ce_6 ho⟩) wm_25 rfl rfl ⟨Nat.le_of_ble_eq_true rfl, Nat.le_of_ble_eq_true rfl⟩ rfl hl.1 rfl (Nat.le_of_ble_eq_true rfl) dX6_at_2 ?_
  refine r_if_eq Z 17 dX6_at_5 (by decide) (fun hc2 => ?_) (fun hc2 => ?_)
  · replace hF := if_some hc2 hF
    refine r_iconst (v := 0) Z dX6_at_17 (by decide) ?_
    exact r_iret Z hQ hF dX6_at_18
  · replace hF := nif_some hc2 hF
    refine r_aload_n Z dX6_at_8 rfl (lv_at hl 0 rfl) ?_
    refine g_6_0 Z ho wm_23 dX6_at_9 ?_
    refine r_iload_n Z dX6_at_12 rfl (lv_at hl 1 rfl) ?_
    obtain ⟨hi3, hF⟩ := ck_some hF
    refine r_iaload Z (shp_lt (sh_6_0 ho) (by decide)) (fun _ _ => ce_140 (sh_6_0 ho)) hi3 dX6_at_13 ?_
    refine r_goto Z 18 dX6_at_14 (by decide) ?_
    exact r_iret Z hQ hF dX6_at_18
theorem dX0_going_0 : decode cX0_going 0 = .ok (.lconst 0, 1) := by decide +kernel
theorem dX0_going_1 : decode cX0_going 1 = .ok (.lstore_n 2, 1) := by decide +kernel
theorem dX0_going_2 : decode cX0_going 2 = .ok (.iconst 0, 1) := by decide +kernel
theorem dX0_going_3 : decode cX0_going 3 = .ok (.istore 4, 2) := by decide +kernel
theorem dX0_going_5 : decode cX0_going 5 = .ok (.iload 4, 2) := by decide +kernel
theorem dX0_going_7 : decode cX0_going 7 = .ok (.aload_n 0, 1) := by decide +kernel
theorem dX0_going_8 : decode cX0_going 8 = .ok (.getfield 27, 3) := by decide +kernel
theorem dX0_going_11 : decode cX0_going 11 = .ok (.if_icmp .ge 28, 3) := by decide +kernel
theorem dX0_going_14 : decode cX0_going 14 = .ok (.iload 4, 2) := by decide +kernel
theorem dX0_going_16 : decode cX0_going 16 = .ok (.iload_n 1, 1) := by decide +kernel
theorem dX0_going_17 : decode cX0_going 17 = .ok (.if_icmp .eq 16, 3) := by decide +kernel
theorem dX0_going_20 : decode cX0_going 20 = .ok (.lload_n 2, 1) := by decide +kernel
theorem dX0_going_21 : decode cX0_going 21 = .ok (.aload_n 0, 1) := by decide +kernel
theorem dX0_going_22 : decode cX0_going 22 = .ok (.getfield 11, 3) := by decide +kernel
theorem dX0_going_25 : decode cX0_going 25 = .ok (.iload_n 1, 1) := by decide +kernel
theorem dX0_going_26 : decode cX0_going 26 = .ok (.aaload, 1) := by decide +kernel
theorem dX0_going_27 : decode cX0_going 27 = .ok (.iload 4, 2) := by decide +kernel
theorem dX0_going_29 : decode cX0_going 29 = .ok (.iaload, 1) := by decide +kernel
theorem dX0_going_30 : decode cX0_going 30 = .ok (.i2l, 1) := by decide +kernel
theorem dX0_going_31 : decode cX0_going 31 = .ok (.ladd, 1) := by decide +kernel
theorem dX0_going_32 : decode cX0_going 32 = .ok (.lstore_n 2, 1) := by decide +kernel
theorem dX0_going_33 : decode cX0_going 33 = .ok (.iinc 4 1, 3) := by decide +kernel
theorem dX0_going_36 : decode cX0_going 36 = .ok (.goto (-31), 3) := by decide +kernel
theorem dX0_going_39 : decode cX0_going 39 = .ok (.lload_n 2, 1) := by decide +kernel
theorem dX0_going_40 : decode cX0_going 40 = .ok (.lreturn, 1) := by decide +kernel
theorem cv_X0_going : wn_cV yX0_going cX0_going 5 (some .long) RX0 1 := ⟨wm_55, wm_59, wm_60, wm_40, by decide +kernel⟩
abbrev rm_X0_going : Room := rmz 0 0
set_option maxHeartbeats 4000000 in
set_option maxRecDepth 100000 in
theorem c_X0_going {ad : Nat → Nat} {o : Nat} {x1 : Int32} {M : Mm} {q : Int64 × Mm} (ho : shp o = 0) (hF : f_X0_going o x1 M = some q) : KL ad yX0_going cX0_going 5 (some .long) rm_X0_going [.ref (ad o), .int x1] M q.1 q.2 := by
  refine wn_enterL (own := RX0) (by decide) rfl (Nat.le_of_ble_eq_true rfl) (fun X ls Z hQ hl => ?_)
  have hl : lv_has ls 5 [(0, .ref (ad o)), (1, .int x1)] := hl
  have L5 : ∀ (n5 : Nat) (v1 : Int32) (v2 : Int64) (v4 : Int32) (M : Mm) (ls : Array Slot), lv_has ls 5 [(0, .ref (ad o)), (1, .int v1), (2, .long v2), (4, .int v4)] → f_X0_going_b5 o n5 v1 v2 v4 M = some q → G ad X M 5 ls [] := by
    intro n5
    induction n5 with
    | zero =>
      intro v1 v2 v4 M ls hl hF
      cases hF
    | succ n5 ih5 =>
      intro v1 v2 v4 M ls hl hF
      replace hF : f_X0_going_b5B (f_X0_going_b5 o n5) o v1 v2 v4 M = some q := hF
      unfold f_X0_going_b5B at hF
      refine r_iload Z dX0_going_5 (lv_at hl 3 rfl) ?_
      refine r_aload_n Z dX0_going_7 rfl (lv_at hl 0 rfl) ?_
      refine g_0_3 Z ho wm_18 dX0_going_8 ?_
      refine r_icmp_ge Z 39 dX0_going_11 (by decide) (fun hc1 => ?_) (fun hc1 => ?_)
      · replace hF := if_some hc1 hF
        refine r_lload_n Z dX0_going_39 rfl (lv_at hl 2 rfl) ?_
        exact r_lret Z hQ hF dX0_going_40
      · replace hF := nif_some hc1 hF
        refine r_iload Z dX0_going_14 (lv_at hl 3 rfl) ?_
        refine r_iload_n Z dX0_going_16 rfl (lv_at hl 1 rfl) ?_
        refine r_icmp_eq Z 33 dX0_going_17 (by decide) (fun hc2 => ?_) (fun hc2 => ?_)
        · replace hF := if_some hc2 hF
          obtain ⟨t3, et3, hF⟩ := nm_some hF
          refine r_iinc (j := 3) Z t3 [(4, .int t3), (0, .ref (ad o)), (1, .int v1), (2, .long v2)] dX0_going_33 hl rfl (by rw [et3]; rfl) (by decide) rfl (fun ls hl => ?_)
          refine r_goto Z 5 dX0_going_36 (by decide) ?_
          exact ih5 v1 v2 t3 M ls (lv_sub hl [1, 2, 3, 0] rfl) hF
        · replace hF := nif_some hc2 hF
          refine r_lload_n Z dX0_going_20 rfl (lv_at hl 2 rfl) ?_
          refine r_aload_n Z dX0_going_21 rfl (lv_at hl 0 rfl) ?_
          refine g_0_0 Z ho wm_12 dX0_going_22 ?_
          refine r_iload_n Z dX0_going_25 rfl (lv_at hl 1 rfl) ?_
          obtain ⟨hi4, hF⟩ := ck_some hF
          refine r_aald15 Z (sh_0_0 ho) hi4 dX0_going_26 ?_
          refine r_iload Z dX0_going_27 (lv_at hl 3 rfl) ?_
          obtain ⟨hi5, hF⟩ := ck_some hF
          refine r_iaload Z (shp_lt (se_15 (sh_0_0 ho) hi4) (by decide)) (fun _ _ => ce_106 (se_15 (sh_0_0 ho) hi4)) hi5 dX0_going_29 ?_
          refine r_i2l Z dX0_going_30 ?_
          refine r_ladd Z dX0_going_31 ?_
          obtain ⟨t6, et6, hF⟩ := nm_some hF
          rw [← et6]
          refine r_lstore_n Z [(2, .long t6), (0, .ref (ad o)), (1, .int v1), (4, .int v4)] dX0_going_32 rfl hl (by decide) rfl (fun ls hl => ?_)
          obtain ⟨t7, et7, hF⟩ := nm_some hF
          refine r_iinc (j := 3) Z t7 [(4, .int t7), (2, .long t6), (0, .ref (ad o)), (1, .int v1)] dX0_going_33 hl rfl (by rw [et7]; rfl) (by decide) rfl (fun ls hl => ?_)
          refine r_goto Z 5 dX0_going_36 (by decide) ?_
          exact ih5 v1 t6 t7 M ls (lv_sub hl [2, 3, 1, 0] rfl) hF
  unfold f_X0_going at hF
  refine r_lconst (v := 0) Z dX0_going_0 (by decide) ?_
  refine r_lstore_n Z [(2, .long 0), (0, .ref (ad o)), (1, .int x1)] dX0_going_1 rfl hl (by decide) rfl (fun ls hl => ?_)
  refine r_iconst (v := 0) Z dX0_going_2 (by decide) ?_
  refine r_istore Z [(4, .int 0), (2, .long 0), (0, .ref (ad o)), (1, .int x1)] dX0_going_3 hl (by decide) rfl (fun ls hl => ?_)
  exact L5 _ x1 0 0 M ls (lv_sub hl [2, 3, 1, 0] rfl) hF
theorem dX0_firstUneven_0 : decode cX0_firstUneven 0 = .ok (.iconst 0, 1) := by decide +kernel
theorem dX0_firstUneven_1 : decode cX0_firstUneven 1 = .ok (.istore_n 2, 1) := by decide +kernel
theorem dX0_firstUneven_2 : decode cX0_firstUneven 2 = .ok (.iload_n 2, 1) := by decide +kernel
theorem dX0_firstUneven_3 : decode cX0_firstUneven 3 = .ok (.aload_n 0, 1) := by decide +kernel
theorem dX0_firstUneven_4 : decode cX0_firstUneven 4 = .ok (.getfield 27, 3) := by decide +kernel
theorem dX0_firstUneven_7 : decode cX0_firstUneven 7 = .ok (.if_icmp .ge 75, 3) := by decide +kernel
theorem dX0_firstUneven_10 : decode cX0_firstUneven 10 = .ok (.lconst 0, 1) := by decide +kernel
theorem dX0_firstUneven_11 : decode cX0_firstUneven 11 = .ok (.lstore_n 3, 1) := by decide +kernel
theorem dX0_firstUneven_12 : decode cX0_firstUneven 12 = .ok (.iconst 0, 1) := by decide +kernel
theorem dX0_firstUneven_13 : decode cX0_firstUneven 13 = .ok (.istore 5, 2) := by decide +kernel
theorem dX0_firstUneven_15 : decode cX0_firstUneven 15 = .ok (.iload 5, 2) := by decide +kernel
theorem dX0_firstUneven_17 : decode cX0_firstUneven 17 = .ok (.aload_n 0, 1) := by decide +kernel
theorem dX0_firstUneven_18 : decode cX0_firstUneven 18 = .ok (.getfield 27, 3) := by decide +kernel
theorem dX0_firstUneven_21 : decode cX0_firstUneven 21 = .ok (.if_icmp .ge 36, 3) := by decide +kernel
theorem dX0_firstUneven_24 : decode cX0_firstUneven 24 = .ok (.iload 5, 2) := by decide +kernel
theorem dX0_firstUneven_26 : decode cX0_firstUneven 26 = .ok (.iload_n 2, 1) := by decide +kernel
theorem dX0_firstUneven_27 : decode cX0_firstUneven 27 = .ok (.if_icmp .eq 24, 3) := by decide +kernel
theorem dX0_firstUneven_30 : decode cX0_firstUneven 30 = .ok (.lload_n 3, 1) := by decide +kernel
theorem dX0_firstUneven_31 : decode cX0_firstUneven 31 = .ok (.aload_n 1, 1) := by decide +kernel
theorem dX0_firstUneven_32 : decode cX0_firstUneven 32 = .ok (.iload 5, 2) := by decide +kernel
theorem dX0_firstUneven_34 : decode cX0_firstUneven 34 = .ok (.invokevirtual 37, 3) := by decide +kernel
theorem dX0_firstUneven_37 : decode cX0_firstUneven 37 = .ok (.i2l, 1) := by decide +kernel
theorem dX0_firstUneven_38 : decode cX0_firstUneven 38 = .ok (.aload_n 0, 1) := by decide +kernel
theorem dX0_firstUneven_39 : decode cX0_firstUneven 39 = .ok (.getfield 11, 3) := by decide +kernel
theorem dX0_firstUneven_42 : decode cX0_firstUneven 42 = .ok (.iload 5, 2) := by decide +kernel
theorem dX0_firstUneven_44 : decode cX0_firstUneven 44 = .ok (.aaload, 1) := by decide +kernel
theorem dX0_firstUneven_45 : decode cX0_firstUneven 45 = .ok (.iload_n 2, 1) := by decide +kernel
theorem dX0_firstUneven_46 : decode cX0_firstUneven 46 = .ok (.iaload, 1) := by decide +kernel
theorem dX0_firstUneven_47 : decode cX0_firstUneven 47 = .ok (.i2l, 1) := by decide +kernel
theorem dX0_firstUneven_48 : decode cX0_firstUneven 48 = .ok (.lmul, 1) := by decide +kernel
theorem dX0_firstUneven_49 : decode cX0_firstUneven 49 = .ok (.ladd, 1) := by decide +kernel
theorem dX0_firstUneven_50 : decode cX0_firstUneven 50 = .ok (.lstore_n 3, 1) := by decide +kernel
theorem dX0_firstUneven_51 : decode cX0_firstUneven 51 = .ok (.iinc 5 1, 3) := by decide +kernel
theorem dX0_firstUneven_54 : decode cX0_firstUneven 54 = .ok (.goto (-39), 3) := by decide +kernel
theorem dX0_firstUneven_57 : decode cX0_firstUneven 57 = .ok (.lload_n 3, 1) := by decide +kernel
theorem dX0_firstUneven_58 : decode cX0_firstUneven 58 = .ok (.aload_n 1, 1) := by decide +kernel
theorem dX0_firstUneven_59 : decode cX0_firstUneven 59 = .ok (.iload_n 2, 1) := by decide +kernel
theorem dX0_firstUneven_60 : decode cX0_firstUneven 60 = .ok (.invokevirtual 37, 3) := by decide +kernel
theorem dX0_firstUneven_63 : decode cX0_firstUneven 63 = .ok (.i2l, 1) := by decide +kernel
theorem dX0_firstUneven_64 : decode cX0_firstUneven 64 = .ok (.aload_n 0, 1) := by decide +kernel
theorem dX0_firstUneven_65 : decode cX0_firstUneven 65 = .ok (.iload_n 2, 1) := by decide +kernel
theorem dX0_firstUneven_66 : decode cX0_firstUneven 66 = .ok (.invokevirtual 81, 3) := by decide +kernel
theorem dX0_firstUneven_69 : decode cX0_firstUneven 69 = .ok (.lmul, 1) := by decide +kernel
theorem dX0_firstUneven_70 : decode cX0_firstUneven 70 = .ok (.lcmp, 1) := by decide +kernel
theorem dX0_firstUneven_71 : decode cX0_firstUneven 71 = .ok (.ifCond .eq 5, 3) := by decide +kernel
theorem dX0_firstUneven_74 : decode cX0_firstUneven 74 = .ok (.iload_n 2, 1) := by decide +kernel
theorem dX0_firstUneven_75 : decode cX0_firstUneven 75 = .ok (.ireturn, 1) := by decide +kernel
theorem dX0_firstUneven_76 : decode cX0_firstUneven 76 = .ok (.iinc 2 1, 3) := by decide +kernel
theorem dX0_firstUneven_79 : decode cX0_firstUneven 79 = .ok (.goto (-77), 3) := by decide +kernel
theorem dX0_firstUneven_82 : decode cX0_firstUneven 82 = .ok (.bipush (-9), 2) := by decide +kernel
theorem dX0_firstUneven_84 : decode cX0_firstUneven 84 = .ok (.ireturn, 1) := by decide +kernel
theorem cv_X0_firstUneven : wn_cV yX0_firstUneven cX0_firstUneven 6 (some .int) RX0 1 := ⟨wm_105, wm_561, wm_562, wm_40, by decide +kernel⟩
abbrev rm_X0_firstUneven : Room := rmz 2 42
set_option maxHeartbeats 4000000 in
set_option maxRecDepth 100000 in
theorem c_X0_firstUneven {ad : Nat → Nat} {o : Nat} {x1 : Nat} {M : Mm} {q : Int32 × Mm} (ho : shp o = 0) (h1 : shp x1 = 6) (hF : f_X0_firstUneven o x1 M = some q) : KI ad yX0_firstUneven cX0_firstUneven 6 (some .int) rm_X0_firstUneven [.ref (ad o), .ref (ad x1)] M q.1 q.2 := by
  refine wn_enterI (own := RX0) (by decide) rfl (Nat.le_of_ble_eq_true rfl) (fun X ls Z hQ hl => ?_)
  have hl : lv_has ls 6 [(0, .ref (ad o)), (1, .ref (ad x1))] := hl
  have L2 : ∀ (n2 : Nat) (v1 : Nat) (v2 : Int32) (M : Mm) (ls : Array Slot), shp v1 = 6 → lv_has ls 6 [(0, .ref (ad o)), (1, .ref (ad v1)), (2, .int v2)] → f_X0_firstUneven_b2 o n2 v1 v2 M = some q → G ad X M 2 ls [] := by
    intro n2
    induction n2 with
    | zero =>
      intro v1 v2 M ls hv1 hl hF
      cases hF
    | succ n2 ih2 =>
      have L15 : ∀ (n15 : Nat) (v1 : Nat) (v2 : Int32) (v3 : Int64) (v5 : Int32) (M : Mm) (ls : Array Slot), shp v1 = 6 → lv_has ls 6 [(0, .ref (ad o)), (1, .ref (ad v1)), (2, .int v2), (3, .long v3), (5, .int v5)] → f_X0_firstUneven_b15 (f_X0_firstUneven_b2 o n2) o n15 v1 v2 v3 v5 M = some q → G ad X M 15 ls [] := by
        intro n15
        induction n15 with
        | zero =>
          intro v1 v2 v3 v5 M ls hv1 hl hF
          cases hF
        | succ n15 ih15 =>
          intro v1 v2 v3 v5 M ls hv1 hl hF
          replace hF : f_X0_firstUneven_b15B (f_X0_firstUneven_b2 o n2) (f_X0_firstUneven_b15 (f_X0_firstUneven_b2 o n2) o n15) o v1 v2 v3 v5 M = some q := hF
          unfold f_X0_firstUneven_b15B at hF
          refine r_iload Z dX0_firstUneven_15 (lv_at hl 4 rfl) ?_
          refine r_aload_n Z dX0_firstUneven_17 rfl (lv_at hl 0 rfl) ?_
          refine g_0_3 Z ho wm_18 dX0_firstUneven_18 ?_
          refine r_icmp_ge Z 57 dX0_firstUneven_21 (by decide) (fun hc1 => ?_) (fun hc1 => ?_)
          · replace hF := if_some hc1 hF
            refine r_lload_n Z dX0_firstUneven_57 rfl (lv_at hl 3 rfl) ?_
            refine r_aload_n Z dX0_firstUneven_58 rfl (lv_at hl 1 rfl) ?_
            refine r_iload_n Z dX0_firstUneven_59 rfl (lv_at hl 2 rfl) ?_
            obtain ⟨q2, hq2, hF⟩ := bd_some hF
            refine r_invVi [.long v3] Z (c_X6_at hv1 hq2) cv_X6_at rfl (shp_lt hv1 (by decide)) (fun _ _ => ⟨_, ce_6 hv1⟩) wm_34 rfl rfl ⟨Nat.le_of_ble_eq_true rfl, Nat.le_of_ble_eq_true rfl⟩ rfl hl.1 rfl (Nat.le_of_ble_eq_true rfl) dX0_firstUneven_60 ?_
            refine r_i2l Z dX0_firstUneven_63 ?_
            refine r_aload_n Z dX0_firstUneven_64 rfl (lv_at hl 0 rfl) ?_
            refine r_iload_n Z dX0_firstUneven_65 rfl (lv_at hl 2 rfl) ?_
            obtain ⟨q3, hq3, hF⟩ := bd_some hF
            refine r_invVl [.long (Int32.toInt64 q2.1), .long v3] Z (c_X0_going ho hq3) cv_X0_going rfl (shp_lt ho (by decide)) (fun _ _ => ⟨_, ce_0 ho⟩) wm_58 rfl rfl ⟨Nat.le_of_ble_eq_true rfl, Nat.le_of_ble_eq_true rfl⟩ rfl hl.1 rfl (Nat.le_of_ble_eq_true rfl) dX0_firstUneven_66 ?_
            refine r_lmul Z dX0_firstUneven_69 ?_
            refine r_lcmp Z dX0_firstUneven_70 ?_
            refine r_if_eq Z 76 dX0_firstUneven_71 (by decide) (fun hc4 => ?_) (fun hc4 => ?_)
            · replace hF := if_some hc4 hF
              obtain ⟨t5, et5, hF⟩ := nm_some hF
              refine r_iinc (j := 2) Z t5 [(2, .int t5), (0, .ref (ad o)), (1, .ref (ad v1)), (3, .long v3), (5, .int v5)] dX0_firstUneven_76 hl rfl (by rw [et5]; rfl) (by decide) rfl (fun ls hl => ?_)
              refine r_goto Z 2 dX0_firstUneven_79 (by decide) ?_
              exact ih2 v1 t5 q3.2 ls hv1 (lv_sub hl [1, 2, 0] rfl) hF
            · replace hF := nif_some hc4 hF
              refine r_iload_n Z dX0_firstUneven_74 rfl (lv_at hl 2 rfl) ?_
              exact r_iret Z hQ hF dX0_firstUneven_75
          · replace hF := nif_some hc1 hF
            refine r_iload Z dX0_firstUneven_24 (lv_at hl 4 rfl) ?_
            refine r_iload_n Z dX0_firstUneven_26 rfl (lv_at hl 2 rfl) ?_
            refine r_icmp_eq Z 51 dX0_firstUneven_27 (by decide) (fun hc6 => ?_) (fun hc6 => ?_)
            · replace hF := if_some hc6 hF
              obtain ⟨t7, et7, hF⟩ := nm_some hF
              refine r_iinc (j := 4) Z t7 [(5, .int t7), (0, .ref (ad o)), (1, .ref (ad v1)), (2, .int v2), (3, .long v3)] dX0_firstUneven_51 hl rfl (by rw [et7]; rfl) (by decide) rfl (fun ls hl => ?_)
              refine r_goto Z 15 dX0_firstUneven_54 (by decide) ?_
              exact ih15 v1 v2 v3 t7 M ls hv1 (lv_sub hl [1, 2, 3, 4, 0] rfl) hF
            · replace hF := nif_some hc6 hF
              refine r_lload_n Z dX0_firstUneven_30 rfl (lv_at hl 3 rfl) ?_
              refine r_aload_n Z dX0_firstUneven_31 rfl (lv_at hl 1 rfl) ?_
              refine r_iload Z dX0_firstUneven_32 (lv_at hl 4 rfl) ?_
              obtain ⟨q8, hq8, hF⟩ := bd_some hF
              refine r_invVi [.long v3] Z (c_X6_at hv1 hq8) cv_X6_at rfl (shp_lt hv1 (by decide)) (fun _ _ => ⟨_, ce_6 hv1⟩) wm_34 rfl rfl ⟨Nat.le_of_ble_eq_true rfl, Nat.le_of_ble_eq_true rfl⟩ rfl hl.1 rfl (Nat.le_of_ble_eq_true rfl) dX0_firstUneven_34 ?_
              refine r_i2l Z dX0_firstUneven_37 ?_
              refine r_aload_n Z dX0_firstUneven_38 rfl (lv_at hl 0 rfl) ?_
              refine g_0_0 Z ho wm_12 dX0_firstUneven_39 ?_
              refine r_iload Z dX0_firstUneven_42 (lv_at hl 4 rfl) ?_
              obtain ⟨hi9, hF⟩ := ck_some hF
              refine r_aald15 Z (sh_0_0 ho) hi9 dX0_firstUneven_44 ?_
              refine r_iload_n Z dX0_firstUneven_45 rfl (lv_at hl 2 rfl) ?_
              obtain ⟨hi10, hF⟩ := ck_some hF
              refine r_iaload Z (shp_lt (se_15 (sh_0_0 ho) hi9) (by decide)) (fun _ _ => ce_106 (se_15 (sh_0_0 ho) hi9)) hi10 dX0_firstUneven_46 ?_
              refine r_i2l Z dX0_firstUneven_47 ?_
              refine r_lmul Z dX0_firstUneven_48 ?_
              refine r_ladd Z dX0_firstUneven_49 ?_
              obtain ⟨t11, et11, hF⟩ := nm_some hF
              rw [← et11]
              refine r_lstore_n Z [(3, .long t11), (0, .ref (ad o)), (1, .ref (ad v1)), (2, .int v2), (5, .int v5)] dX0_firstUneven_50 rfl hl (by decide) rfl (fun ls hl => ?_)
              obtain ⟨t12, et12, hF⟩ := nm_some hF
              refine r_iinc (j := 4) Z t12 [(5, .int t12), (3, .long t11), (0, .ref (ad o)), (1, .ref (ad v1)), (2, .int v2)] dX0_firstUneven_51 hl rfl (by rw [et12]; rfl) (by decide) rfl (fun ls hl => ?_)
              refine r_goto Z 15 dX0_firstUneven_54 (by decide) ?_
              exact ih15 v1 v2 t11 t12 q8.2 ls hv1 (lv_sub hl [2, 3, 4, 1, 0] rfl) hF
      intro v1 v2 M ls hv1 hl hF
      replace hF : f_X0_firstUneven_b2B (f_X0_firstUneven_b2 o n2) o v1 v2 M = some q := hF
      unfold f_X0_firstUneven_b2B at hF
      refine r_iload_n Z dX0_firstUneven_2 rfl (lv_at hl 2 rfl) ?_
      refine r_aload_n Z dX0_firstUneven_3 rfl (lv_at hl 0 rfl) ?_
      refine g_0_3 Z ho wm_18 dX0_firstUneven_4 ?_
      refine r_icmp_ge Z 82 dX0_firstUneven_7 (by decide) (fun hc13 => ?_) (fun hc13 => ?_)
      · replace hF := if_some hc13 hF
        refine r_bipush (v := (-9)) Z dX0_firstUneven_82 (by decide) ?_
        exact r_iret Z hQ hF dX0_firstUneven_84
      · replace hF := nif_some hc13 hF
        refine r_lconst (v := 0) Z dX0_firstUneven_10 (by decide) ?_
        refine r_lstore_n Z [(3, .long 0), (0, .ref (ad o)), (1, .ref (ad v1)), (2, .int v2)] dX0_firstUneven_11 rfl hl (by decide) rfl (fun ls hl => ?_)
        refine r_iconst (v := 0) Z dX0_firstUneven_12 (by decide) ?_
        refine r_istore Z [(5, .int 0), (3, .long 0), (0, .ref (ad o)), (1, .ref (ad v1)), (2, .int v2)] dX0_firstUneven_13 hl (by decide) rfl (fun ls hl => ?_)
        exact L15 _ v1 v2 0 0 M ls hv1 (lv_sub hl [2, 3, 4, 1, 0] rfl) hF
  unfold f_X0_firstUneven at hF
  refine r_iconst (v := 0) Z dX0_firstUneven_0 (by decide) ?_
  refine r_istore_n Z [(2, .int 0), (0, .ref (ad o)), (1, .ref (ad x1))] dX0_firstUneven_1 rfl hl (by decide) rfl (fun ls hl => ?_)
  exact L2 _ x1 0 M ls h1 (lv_sub hl [1, 2, 0] rfl) hF
theorem dX0_layLine_0 : decode cX0_layLine 0 = .ok (.iconst 0, 1) := by decide +kernel
theorem dX0_layLine_1 : decode cX0_layLine 1 = .ok (.istore 4, 2) := by decide +kernel
theorem dX0_layLine_3 : decode cX0_layLine 3 = .ok (.iconst 0, 1) := by decide +kernel
theorem dX0_layLine_4 : decode cX0_layLine 4 = .ok (.istore 5, 2) := by decide +kernel
theorem dX0_layLine_6 : decode cX0_layLine 6 = .ok (.iload 5, 2) := by decide +kernel
theorem dX0_layLine_8 : decode cX0_layLine 8 = .ok (.aload_n 0, 1) := by decide +kernel
theorem dX0_layLine_9 : decode cX0_layLine 9 = .ok (.getfield 27, 3) := by decide +kernel
theorem dX0_layLine_12 : decode cX0_layLine 12 = .ok (.if_icmp .ge 58, 3) := by decide +kernel
theorem dX0_layLine_15 : decode cX0_layLine 15 = .ok (.iload_n 3, 1) := by decide +kernel
theorem dX0_layLine_16 : decode cX0_layLine 16 = .ok (.iload 5, 2) := by decide +kernel
theorem dX0_layLine_18 : decode cX0_layLine 18 = .ok (.ishr, 1) := by decide +kernel
theorem dX0_layLine_19 : decode cX0_layLine 19 = .ok (.iconst 1, 1) := by decide +kernel
theorem dX0_layLine_20 : decode cX0_layLine 20 = .ok (.iand, 1) := by decide +kernel
theorem dX0_layLine_21 : decode cX0_layLine 21 = .ok (.ifCond .eq 43, 3) := by decide +kernel
theorem dX0_layLine_24 : decode cX0_layLine 24 = .ok (.aload_n 0, 1) := by decide +kernel
theorem dX0_layLine_25 : decode cX0_layLine 25 = .ok (.getfield 23, 3) := by decide +kernel
theorem dX0_layLine_28 : decode cX0_layLine 28 = .ok (.getfield 77, 3) := by decide +kernel
theorem dX0_layLine_31 : decode cX0_layLine 31 = .ok (.iload_n 1, 1) := by decide +kernel
theorem dX0_layLine_32 : decode cX0_layLine 32 = .ok (.aaload, 1) := by decide +kernel
theorem dX0_layLine_33 : decode cX0_layLine 33 = .ok (.iload 4, 2) := by decide +kernel
theorem dX0_layLine_35 : decode cX0_layLine 35 = .ok (.iload_n 2, 1) := by decide +kernel
theorem dX0_layLine_36 : decode cX0_layLine 36 = .ok (.iload 5, 2) := by decide +kernel
theorem dX0_layLine_38 : decode cX0_layLine 38 = .ok (.if_icmp .ne 11, 3) := by decide +kernel
theorem dX0_layLine_41 : decode cX0_layLine 41 = .ok (.aload_n 0, 1) := by decide +kernel
theorem dX0_layLine_42 : decode cX0_layLine 42 = .ok (.iload_n 2, 1) := by decide +kernel
theorem dX0_layLine_43 : decode cX0_layLine 43 = .ok (.invokevirtual 81, 3) := by decide +kernel
theorem dX0_layLine_46 : decode cX0_layLine 46 = .ok (.goto 14, 3) := by decide +kernel
theorem dX0_layLine_49 : decode cX0_layLine 49 = .ok (.aload_n 0, 1) := by decide +kernel
theorem dX0_layLine_50 : decode cX0_layLine 50 = .ok (.getfield 11, 3) := by decide +kernel
theorem dX0_layLine_53 : decode cX0_layLine 53 = .ok (.iload_n 2, 1) := by decide +kernel
theorem dX0_layLine_54 : decode cX0_layLine 54 = .ok (.aaload, 1) := by decide +kernel
theorem dX0_layLine_55 : decode cX0_layLine 55 = .ok (.iload 5, 2) := by decide +kernel
theorem dX0_layLine_57 : decode cX0_layLine 57 = .ok (.iaload, 1) := by decide +kernel
theorem dX0_layLine_58 : decode cX0_layLine 58 = .ok (.ineg, 1) := by decide +kernel
theorem dX0_layLine_59 : decode cX0_layLine 59 = .ok (.i2l, 1) := by decide +kernel
theorem dX0_layLine_60 : decode cX0_layLine 60 = .ok (.lastore, 1) := by decide +kernel
theorem dX0_layLine_61 : decode cX0_layLine 61 = .ok (.iinc 4 1, 3) := by decide +kernel
theorem dX0_layLine_64 : decode cX0_layLine 64 = .ok (.iinc 5 1, 3) := by decide +kernel
theorem dX0_layLine_67 : decode cX0_layLine 67 = .ok (.goto (-61), 3) := by decide +kernel
theorem dX0_layLine_70 : decode cX0_layLine 70 = .ok (.return_, 1) := by decide +kernel
theorem cv_X0_layLine : wn_cV yX0_layLine cX0_layLine 6 none RX0 3 := ⟨wm_56, wm_79, wm_80, wm_40, by decide +kernel⟩
abbrev rm_X0_layLine : Room := rmz 1 24
set_option maxHeartbeats 4000000 in
set_option maxRecDepth 100000 in
theorem c_X0_layLine {ad : Nat → Nat} {o : Nat} {x1 : Int32} {x2 : Int32} {x3 : Int32} {M : Mm} {q : Mm} (ho : shp o = 0) (hF : f_X0_layLine o x1 x2 x3 M = some q) : KV ad yX0_layLine cX0_layLine 6 none rm_X0_layLine [.ref (ad o), .int x1, .int x2, .int x3] M q := by
  refine wn_enterV (own := RX0) (by decide) rfl (Nat.le_of_ble_eq_true rfl) (fun X ls Z hQ hl => ?_)
  have hl : lv_has ls 6 [(0, .ref (ad o)), (1, .int x1), (2, .int x2), (3, .int x3)] := hl
  have L6 : ∀ (n6 : Nat) (v1 : Int32) (v2 : Int32) (v3 : Int32) (v4 : Int32) (v5 : Int32) (M : Mm) (ls : Array Slot), lv_has ls 6 [(0, .ref (ad o)), (1, .int v1), (2, .int v2), (3, .int v3), (4, .int v4), (5, .int v5)] → f_X0_layLine_b6 o n6 v1 v2 v3 v4 v5 M = some q → G ad X M 6 ls [] := by
    intro n6
    induction n6 with
    | zero =>
      intro v1 v2 v3 v4 v5 M ls hl hF
      cases hF
    | succ n6 ih6 =>
      have L60 : ∀ (v1 : Int32) (v2 : Int32) (v3 : Int32) (v4 : Int32) (v5 : Int32) (s0 : Nat) (s1 : Int32) (s2 : Int64) (M : Mm) (ls : Array Slot), shp s0 = 1006 → lv_has ls 6 [(0, .ref (ad o)), (1, .int v1), (2, .int v2), (3, .int v3), (4, .int v4), (5, .int v5)] → f_X0_layLine_b60 (f_X0_layLine_b6 o n6) o v1 v2 v3 v4 v5 s0 s1 s2 M = some q → G ad X M 60 ls [.long s2, .int s1, .ref (ad s0)] := by
        intro v1 v2 v3 v4 v5 s0 s1 s2 M ls hs0 hl hF
        unfold f_X0_layLine_b60 at hF
        obtain ⟨hi1, hF⟩ := ck_some hF
        obtain ⟨M2, eM2, hF⟩ := nm_some hF
        refine r_lastore Z (shp_lt hs0 (by decide)) (fun _ _ => ce_1006 hs0) hi1 dX0_layLine_60 ?_
        rw [← eM2]
        obtain ⟨t3, et3, hF⟩ := nm_some hF
        refine r_iinc (j := 4) Z t3 [(4, .int t3), (0, .ref (ad o)), (1, .int v1), (2, .int v2), (3, .int v3), (5, .int v5)] dX0_layLine_61 hl rfl (by rw [et3]; rfl) (by decide) rfl (fun ls hl => ?_)
        obtain ⟨t4, et4, hF⟩ := nm_some hF
        refine r_iinc (j := 5) Z t4 [(5, .int t4), (4, .int t3), (0, .ref (ad o)), (1, .int v1), (2, .int v2), (3, .int v3)] dX0_layLine_64 hl rfl (by rw [et4]; rfl) (by decide) rfl (fun ls hl => ?_)
        refine r_goto Z 6 dX0_layLine_67 (by decide) ?_
        exact ih6 v1 v2 v3 t3 t4 M2 ls (lv_sub hl [2, 3, 4, 5, 1, 0] rfl) hF
      intro v1 v2 v3 v4 v5 M ls hl hF
      replace hF : f_X0_layLine_b6B (f_X0_layLine_b6 o n6) o v1 v2 v3 v4 v5 M = some q := hF
      unfold f_X0_layLine_b6B at hF
      refine r_iload Z dX0_layLine_6 (lv_at hl 5 rfl) ?_
      refine r_aload_n Z dX0_layLine_8 rfl (lv_at hl 0 rfl) ?_
      refine g_0_3 Z ho wm_18 dX0_layLine_9 ?_
      refine r_icmp_ge Z 70 dX0_layLine_12 (by decide) (fun hc5 => ?_) (fun hc5 => ?_)
      · replace hF := if_some hc5 hF
        exact r_vret Z hQ hF dX0_layLine_70
      · replace hF := nif_some hc5 hF
        refine r_iload_n Z dX0_layLine_15 rfl (lv_at hl 3 rfl) ?_
        refine r_iload Z dX0_layLine_16 (lv_at hl 5 rfl) ?_
        refine r_ishr Z dX0_layLine_18 ?_
        refine r_iconst (v := 1) Z dX0_layLine_19 (by decide) ?_
        refine r_iand Z dX0_layLine_20 ?_
        refine r_if_eq Z 64 dX0_layLine_21 (by decide) (fun hc6 => ?_) (fun hc6 => ?_)
        · replace hF := if_some hc6 hF
          obtain ⟨t7, et7, hF⟩ := nm_some hF
          refine r_iinc (j := 5) Z t7 [(5, .int t7), (0, .ref (ad o)), (1, .int v1), (2, .int v2), (3, .int v3), (4, .int v4)] dX0_layLine_64 hl rfl (by rw [et7]; rfl) (by decide) rfl (fun ls hl => ?_)
          refine r_goto Z 6 dX0_layLine_67 (by decide) ?_
          exact ih6 v1 v2 v3 v4 t7 M ls (lv_sub hl [1, 2, 3, 4, 5, 0] rfl) hF
        · replace hF := nif_some hc6 hF
          refine r_aload_n Z dX0_layLine_24 rfl (lv_at hl 0 rfl) ?_
          refine g_0_2 Z ho wm_17 dX0_layLine_25 ?_
          refine g_7_0 Z (sh_0_2 ho) wm_57 dX0_layLine_28 ?_
          refine r_iload_n Z dX0_layLine_31 rfl (lv_at hl 1 rfl) ?_
          obtain ⟨hi8, hF⟩ := ck_some hF
          refine r_aald16 Z (sh_7_0 (sh_0_2 ho)) hi8 dX0_layLine_32 ?_
          refine r_iload Z dX0_layLine_33 (lv_at hl 4 rfl) ?_
          refine r_iload_n Z dX0_layLine_35 rfl (lv_at hl 2 rfl) ?_
          refine r_iload Z dX0_layLine_36 (lv_at hl 5 rfl) ?_
          refine r_icmp_ne Z 49 dX0_layLine_38 (by decide) (fun hc9 => ?_) (fun hc9 => ?_)
          · replace hF := nif_some hc9 hF
            refine r_aload_n Z dX0_layLine_49 rfl (lv_at hl 0 rfl) ?_
            refine g_0_0 Z ho wm_12 dX0_layLine_50 ?_
            refine r_iload_n Z dX0_layLine_53 rfl (lv_at hl 2 rfl) ?_
            obtain ⟨hi10, hF⟩ := ck_some hF
            refine r_aald15 Z (sh_0_0 ho) hi10 dX0_layLine_54 ?_
            refine r_iload Z dX0_layLine_55 (lv_at hl 5 rfl) ?_
            obtain ⟨hi11, hF⟩ := ck_some hF
            refine r_iaload Z (shp_lt (se_15 (sh_0_0 ho) hi10) (by decide)) (fun _ _ => ce_106 (se_15 (sh_0_0 ho) hi10)) hi11 dX0_layLine_57 ?_
            refine r_ineg Z dX0_layLine_58 ?_
            refine r_i2l Z dX0_layLine_59 ?_
            exact L60 v1 v2 v3 v4 v5 (elm (fld (fld o 2) 0) (Int32.toNatClampNeg v1)) v4 (Int32.toInt64 (-(mI M (elm (fld o 0) (Int32.toNatClampNeg v2)) (Int32.toNatClampNeg v5)))) M ls (se_16 (sh_7_0 (sh_0_2 ho)) hi8) (lv_sub hl [0, 1, 2, 3, 4, 5] rfl) hF
          · replace hF := if_some hc9 hF
            refine r_aload_n Z dX0_layLine_41 rfl (lv_at hl 0 rfl) ?_
            refine r_iload_n Z dX0_layLine_42 rfl (lv_at hl 2 rfl) ?_
            obtain ⟨q12, hq12, hF⟩ := bd_some hF
            refine r_invVl [.int v4, .ref (ad (elm (fld (fld o 2) 0) (Int32.toNatClampNeg v1)))] Z (c_X0_going ho hq12) cv_X0_going rfl (shp_lt ho (by decide)) (fun _ _ => ⟨_, ce_0 ho⟩) wm_58 rfl rfl ⟨Nat.le_of_ble_eq_true rfl, Nat.le_of_ble_eq_true rfl⟩ rfl hl.1 rfl (Nat.le_of_ble_eq_true rfl) dX0_layLine_43 ?_
            refine r_goto Z 60 dX0_layLine_46 (by decide) ?_
            exact L60 v1 v2 v3 v4 v5 (elm (fld (fld o 2) 0) (Int32.toNatClampNeg v1)) v4 q12.1 q12.2 ls (se_16 (sh_7_0 (sh_0_2 ho)) hi8) (lv_sub hl [0, 1, 2, 3, 4, 5] rfl) hF
  unfold f_X0_layLine at hF
  refine r_iconst (v := 0) Z dX0_layLine_0 (by decide) ?_
  refine r_istore Z [(4, .int 0), (0, .ref (ad o)), (1, .int x1), (2, .int x2), (3, .int x3)] dX0_layLine_1 hl (by decide) rfl (fun ls hl => ?_)
  refine r_iconst (v := 0) Z dX0_layLine_3 (by decide) ?_
  refine r_istore Z [(5, .int 0), (4, .int 0), (0, .ref (ad o)), (1, .int x1), (2, .int x2), (3, .int x3)] dX0_layLine_4 hl (by decide) rfl (fun ls hl => ?_)
  exact L6 _ x1 x2 x3 0 0 M ls (lv_sub hl [2, 3, 4, 5, 1, 0] rfl) hF
theorem dX6_side_0 : decode cX6_side 0 = .ok (.iconst 2, 1) := by decide +kernel
theorem dX6_side_1 : decode cX6_side 1 = .ok (.istore_n 1, 1) := by decide +kernel
theorem dX6_side_2 : decode cX6_side 2 = .ok (.iload_n 1, 1) := by decide +kernel
theorem dX6_side_3 : decode cX6_side 3 = .ok (.bipush 6, 2) := by decide +kernel
theorem dX6_side_5 : decode cX6_side 5 = .ok (.if_icmp .gt 21, 3) := by decide +kernel
theorem dX6_side_8 : decode cX6_side 8 = .ok (.iload_n 1, 1) := by decide +kernel
theorem dX6_side_9 : decode cX6_side 9 = .ok (.iload_n 1, 1) := by decide +kernel
theorem dX6_side_10 : decode cX6_side 10 = .ok (.imul, 1) := by decide +kernel
theorem dX6_side_11 : decode cX6_side 11 = .ok (.aload_n 0, 1) := by decide +kernel
theorem dX6_side_12 : decode cX6_side 12 = .ok (.getfield 15, 3) := by decide +kernel
theorem dX6_side_15 : decode cX6_side 15 = .ok (.if_icmp .ne 5, 3) := by decide +kernel
theorem dX6_side_18 : decode cX6_side 18 = .ok (.iload_n 1, 1) := by decide +kernel
theorem dX6_side_19 : decode cX6_side 19 = .ok (.ireturn, 1) := by decide +kernel
theorem dX6_side_20 : decode cX6_side 20 = .ok (.iinc 1 1, 3) := by decide +kernel
theorem dX6_side_23 : decode cX6_side 23 = .ok (.goto (-21), 3) := by decide +kernel
theorem dX6_side_26 : decode cX6_side 26 = .ok (.iconst 0, 1) := by decide +kernel
theorem dX6_side_27 : decode cX6_side 27 = .ok (.ireturn, 1) := by decide +kernel
theorem cv_X6_side : wn_cV yX6_side cX6_side 2 (some .int) RX6 0 := ⟨wm_20, wm_32, wm_33, wm_28, by decide +kernel⟩
abbrev rm_X6_side : Room := rmz 0 0
set_option maxHeartbeats 4000000 in
set_option maxRecDepth 100000 in
theorem c_X6_side {ad : Nat → Nat} {o : Nat} {M : Mm} {q : Int32 × Mm} (ho : shp o = 6) (hF : f_X6_side o M = some q) : KI ad yX6_side cX6_side 2 (some .int) rm_X6_side [.ref (ad o)] M q.1 q.2 := by
  refine wn_enterI (own := RX6) (by decide) rfl (Nat.le_of_ble_eq_true rfl) (fun X ls Z hQ hl => ?_)
  have hl : lv_has ls 2 [(0, .ref (ad o))] := hl
  have L2 : ∀ (n2 : Nat) (v1 : Int32) (M : Mm) (ls : Array Slot), lv_has ls 2 [(0, .ref (ad o)), (1, .int v1)] → f_X6_side_b2 o n2 v1 M = some q → G ad X M 2 ls [] := by
    intro n2
    induction n2 with
    | zero =>
      intro v1 M ls hl hF
      cases hF
    | succ n2 ih2 =>
      intro v1 M ls hl hF
      replace hF : f_X6_side_b2B (f_X6_side_b2 o n2) o v1 M = some q := hF
      unfold f_X6_side_b2B at hF
      refine r_iload_n Z dX6_side_2 rfl (lv_at hl 1 rfl) ?_
      refine r_bipush (v := 6) Z dX6_side_3 (by decide) ?_
      refine r_icmp_gt Z 26 dX6_side_5 (by decide) (fun hc1 => ?_) (fun hc1 => ?_)
      · replace hF := if_some hc1 hF
        refine r_iconst (v := 0) Z dX6_side_26 (by decide) ?_
        exact r_iret Z hQ hF dX6_side_27
      · replace hF := nif_some hc1 hF
        refine r_iload_n Z dX6_side_8 rfl (lv_at hl 1 rfl) ?_
        refine r_iload_n Z dX6_side_9 rfl (lv_at hl 1 rfl) ?_
        refine r_imul Z dX6_side_10 ?_
        refine r_aload_n Z dX6_side_11 rfl (lv_at hl 0 rfl) ?_
        refine g_6_1 Z ho wm_21 dX6_side_12 ?_
        refine r_icmp_ne Z 20 dX6_side_15 (by decide) (fun hc2 => ?_) (fun hc2 => ?_)
        · replace hF := nif_some hc2 hF
          obtain ⟨t3, et3, hF⟩ := nm_some hF
          refine r_iinc (j := 1) Z t3 [(1, .int t3), (0, .ref (ad o))] dX6_side_20 hl rfl (by rw [et3]; rfl) (by decide) rfl (fun ls hl => ?_)
          refine r_goto Z 2 dX6_side_23 (by decide) ?_
          exact ih2 t3 M ls (lv_sub hl [1, 0] rfl) hF
        · replace hF := if_some hc2 hF
          refine r_iload_n Z dX6_side_18 rfl (lv_at hl 1 rfl) ?_
          exact r_iret Z hQ hF dX6_side_19
  unfold f_X6_side at hF
  refine r_iconst (v := 2) Z dX6_side_0 (by decide) ?_
  refine r_istore_n Z [(1, .int 2), (0, .ref (ad o))] dX6_side_1 rfl hl (by decide) rfl (fun ls hl => ?_)
  exact L2 _ 2 M ls (lv_sub hl [1, 0] rfl) hF
theorem dX0_noteLeads_0 : decode cX0_noteLeads 0 = .ok (.iconst 0, 1) := by decide +kernel
theorem dX0_noteLeads_1 : decode cX0_noteLeads 1 = .ok (.istore_n 1, 1) := by decide +kernel
theorem dX0_noteLeads_2 : decode cX0_noteLeads 2 = .ok (.iload_n 1, 1) := by decide +kernel
theorem dX0_noteLeads_3 : decode cX0_noteLeads 3 = .ok (.aload_n 0, 1) := by decide +kernel
theorem dX0_noteLeads_4 : decode cX0_noteLeads 4 = .ok (.getfield 27, 3) := by decide +kernel
theorem dX0_noteLeads_7 : decode cX0_noteLeads 7 = .ok (.if_icmp .ge 60, 3) := by decide +kernel
theorem dX0_noteLeads_10 : decode cX0_noteLeads 10 = .ok (.aload_n 0, 1) := by decide +kernel
theorem dX0_noteLeads_11 : decode cX0_noteLeads 11 = .ok (.getfield 16, 3) := by decide +kernel
theorem dX0_noteLeads_14 : decode cX0_noteLeads 14 = .ok (.iload_n 1, 1) := by decide +kernel
theorem dX0_noteLeads_15 : decode cX0_noteLeads 15 = .ok (.iconst 0, 1) := by decide +kernel
theorem dX0_noteLeads_16 : decode cX0_noteLeads 16 = .ok (.iastore, 1) := by decide +kernel
theorem dX0_noteLeads_17 : decode cX0_noteLeads 17 = .ok (.iconst 0, 1) := by decide +kernel
theorem dX0_noteLeads_18 : decode cX0_noteLeads 18 = .ok (.istore_n 2, 1) := by decide +kernel
theorem dX0_noteLeads_19 : decode cX0_noteLeads 19 = .ok (.iload_n 2, 1) := by decide +kernel
theorem dX0_noteLeads_20 : decode cX0_noteLeads 20 = .ok (.aload_n 0, 1) := by decide +kernel
theorem dX0_noteLeads_21 : decode cX0_noteLeads 21 = .ok (.getfield 27, 3) := by decide +kernel
theorem dX0_noteLeads_24 : decode cX0_noteLeads 24 = .ok (.if_icmp .ge 37, 3) := by decide +kernel
theorem dX0_noteLeads_27 : decode cX0_noteLeads 27 = .ok (.iload_n 1, 1) := by decide +kernel
theorem dX0_noteLeads_28 : decode cX0_noteLeads 28 = .ok (.iload_n 2, 1) := by decide +kernel
theorem dX0_noteLeads_29 : decode cX0_noteLeads 29 = .ok (.if_icmp .eq 26, 3) := by decide +kernel
theorem dX0_noteLeads_32 : decode cX0_noteLeads 32 = .ok (.aload_n 0, 1) := by decide +kernel
theorem dX0_noteLeads_33 : decode cX0_noteLeads 33 = .ok (.getfield 11, 3) := by decide +kernel
theorem dX0_noteLeads_36 : decode cX0_noteLeads 36 = .ok (.iload_n 1, 1) := by decide +kernel
theorem dX0_noteLeads_37 : decode cX0_noteLeads 37 = .ok (.aaload, 1) := by decide +kernel
theorem dX0_noteLeads_38 : decode cX0_noteLeads 38 = .ok (.iload_n 2, 1) := by decide +kernel
theorem dX0_noteLeads_39 : decode cX0_noteLeads 39 = .ok (.iaload, 1) := by decide +kernel
theorem dX0_noteLeads_40 : decode cX0_noteLeads 40 = .ok (.ifCond .le 15, 3) := by decide +kernel
theorem dX0_noteLeads_43 : decode cX0_noteLeads 43 = .ok (.aload_n 0, 1) := by decide +kernel
theorem dX0_noteLeads_44 : decode cX0_noteLeads 44 = .ok (.getfield 16, 3) := by decide +kernel
theorem dX0_noteLeads_47 : decode cX0_noteLeads 47 = .ok (.iload_n 1, 1) := by decide +kernel
theorem dX0_noteLeads_48 : decode cX0_noteLeads 48 = .ok (.dup2, 1) := by decide +kernel
theorem dX0_noteLeads_49 : decode cX0_noteLeads 49 = .ok (.iaload, 1) := by decide +kernel
theorem dX0_noteLeads_50 : decode cX0_noteLeads 50 = .ok (.iconst 1, 1) := by decide +kernel
theorem dX0_noteLeads_51 : decode cX0_noteLeads 51 = .ok (.iload_n 2, 1) := by decide +kernel
theorem dX0_noteLeads_52 : decode cX0_noteLeads 52 = .ok (.ishl, 1) := by decide +kernel
theorem dX0_noteLeads_53 : decode cX0_noteLeads 53 = .ok (.ior, 1) := by decide +kernel
theorem dX0_noteLeads_54 : decode cX0_noteLeads 54 = .ok (.iastore, 1) := by decide +kernel
theorem dX0_noteLeads_55 : decode cX0_noteLeads 55 = .ok (.iinc 2 1, 3) := by decide +kernel
theorem dX0_noteLeads_58 : decode cX0_noteLeads 58 = .ok (.goto (-39), 3) := by decide +kernel
theorem dX0_noteLeads_61 : decode cX0_noteLeads 61 = .ok (.iinc 1 1, 3) := by decide +kernel
theorem dX0_noteLeads_64 : decode cX0_noteLeads 64 = .ok (.goto (-62), 3) := by decide +kernel
theorem dX0_noteLeads_67 : decode cX0_noteLeads 67 = .ok (.return_, 1) := by decide +kernel
theorem cv_X0_noteLeads : wn_cV yX0_noteLeads cX0_noteLeads 3 none RX0 0 := ⟨wm_29, wm_38, wm_39, wm_40, by decide +kernel⟩
abbrev rm_X0_noteLeads : Room := rmz 0 0
set_option maxHeartbeats 4000000 in
set_option maxRecDepth 100000 in
theorem c_X0_noteLeads {ad : Nat → Nat} {o : Nat} {M : Mm} {q : Mm} (ho : shp o = 0) (hF : f_X0_noteLeads o M = some q) : KV ad yX0_noteLeads cX0_noteLeads 3 none rm_X0_noteLeads [.ref (ad o)] M q := by
  refine wn_enterV (own := RX0) (by decide) rfl (Nat.le_of_ble_eq_true rfl) (fun X ls Z hQ hl => ?_)
  have hl : lv_has ls 3 [(0, .ref (ad o))] := hl
  have L2 : ∀ (n2 : Nat) (v1 : Int32) (M : Mm) (ls : Array Slot), lv_has ls 3 [(0, .ref (ad o)), (1, .int v1)] → f_X0_noteLeads_b2 o n2 v1 M = some q → G ad X M 2 ls [] := by
    intro n2
    induction n2 with
    | zero =>
      intro v1 M ls hl hF
      cases hF
    | succ n2 ih2 =>
      have L19 : ∀ (n19 : Nat) (v1 : Int32) (v2 : Int32) (M : Mm) (ls : Array Slot), lv_has ls 3 [(0, .ref (ad o)), (1, .int v1), (2, .int v2)] → f_X0_noteLeads_b19 (f_X0_noteLeads_b2 o n2) o n19 v1 v2 M = some q → G ad X M 19 ls [] := by
        intro n19
        induction n19 with
        | zero =>
          intro v1 v2 M ls hl hF
          cases hF
        | succ n19 ih19 =>
          intro v1 v2 M ls hl hF
          replace hF : f_X0_noteLeads_b19B (f_X0_noteLeads_b2 o n2) (f_X0_noteLeads_b19 (f_X0_noteLeads_b2 o n2) o n19) o v1 v2 M = some q := hF
          unfold f_X0_noteLeads_b19B at hF
          refine r_iload_n Z dX0_noteLeads_19 rfl (lv_at hl 2 rfl) ?_
          refine r_aload_n Z dX0_noteLeads_20 rfl (lv_at hl 0 rfl) ?_
          refine g_0_3 Z ho wm_18 dX0_noteLeads_21 ?_
          refine r_icmp_ge Z 61 dX0_noteLeads_24 (by decide) (fun hc1 => ?_) (fun hc1 => ?_)
          · replace hF := if_some hc1 hF
            obtain ⟨t2, et2, hF⟩ := nm_some hF
            refine r_iinc (j := 1) Z t2 [(1, .int t2), (0, .ref (ad o)), (2, .int v2)] dX0_noteLeads_61 hl rfl (by rw [et2]; rfl) (by decide) rfl (fun ls hl => ?_)
            refine r_goto Z 2 dX0_noteLeads_64 (by decide) ?_
            exact ih2 t2 M ls (lv_sub hl [1, 0] rfl) hF
          · replace hF := nif_some hc1 hF
            refine r_iload_n Z dX0_noteLeads_27 rfl (lv_at hl 1 rfl) ?_
            refine r_iload_n Z dX0_noteLeads_28 rfl (lv_at hl 2 rfl) ?_
            refine r_icmp_eq Z 55 dX0_noteLeads_29 (by decide) (fun hc3 => ?_) (fun hc3 => ?_)
            · replace hF := if_some hc3 hF
              obtain ⟨t4, et4, hF⟩ := nm_some hF
              refine r_iinc (j := 2) Z t4 [(2, .int t4), (0, .ref (ad o)), (1, .int v1)] dX0_noteLeads_55 hl rfl (by rw [et4]; rfl) (by decide) rfl (fun ls hl => ?_)
              refine r_goto Z 19 dX0_noteLeads_58 (by decide) ?_
              exact ih19 v1 t4 M ls (lv_sub hl [1, 2, 0] rfl) hF
            · replace hF := nif_some hc3 hF
              refine r_aload_n Z dX0_noteLeads_32 rfl (lv_at hl 0 rfl) ?_
              refine g_0_0 Z ho wm_12 dX0_noteLeads_33 ?_
              refine r_iload_n Z dX0_noteLeads_36 rfl (lv_at hl 1 rfl) ?_
              obtain ⟨hi5, hF⟩ := ck_some hF
              refine r_aald15 Z (sh_0_0 ho) hi5 dX0_noteLeads_37 ?_
              refine r_iload_n Z dX0_noteLeads_38 rfl (lv_at hl 2 rfl) ?_
              obtain ⟨hi6, hF⟩ := ck_some hF
              refine r_iaload Z (shp_lt (se_15 (sh_0_0 ho) hi5) (by decide)) (fun _ _ => ce_106 (se_15 (sh_0_0 ho) hi5)) hi6 dX0_noteLeads_39 ?_
              refine r_if_le Z 55 dX0_noteLeads_40 (by decide) (fun hc7 => ?_) (fun hc7 => ?_)
              · replace hF := if_some hc7 hF
                obtain ⟨t8, et8, hF⟩ := nm_some hF
                refine r_iinc (j := 2) Z t8 [(2, .int t8), (0, .ref (ad o)), (1, .int v1)] dX0_noteLeads_55 hl rfl (by rw [et8]; rfl) (by decide) rfl (fun ls hl => ?_)
                refine r_goto Z 19 dX0_noteLeads_58 (by decide) ?_
                exact ih19 v1 t8 M ls (lv_sub hl [1, 2, 0] rfl) hF
              · replace hF := nif_some hc7 hF
                refine r_aload_n Z dX0_noteLeads_43 rfl (lv_at hl 0 rfl) ?_
                refine g_0_1 Z ho wm_13 dX0_noteLeads_44 ?_
                refine r_iload_n Z dX0_noteLeads_47 rfl (lv_at hl 1 rfl) ?_
                refine r_dup2 Z dX0_noteLeads_48 rfl rfl ?_
                obtain ⟨hi9, hF⟩ := ck_some hF
                refine r_iaload Z (shp_lt (sh_0_1 ho) (by decide)) (fun _ _ => ce_106 (sh_0_1 ho)) hi9 dX0_noteLeads_49 ?_
                refine r_iconst (v := 1) Z dX0_noteLeads_50 (by decide) ?_
                refine r_iload_n Z dX0_noteLeads_51 rfl (lv_at hl 2 rfl) ?_
                refine r_ishl Z dX0_noteLeads_52 ?_
                refine r_ior Z dX0_noteLeads_53 ?_
                obtain ⟨hi10, hF⟩ := ck_some hF
                obtain ⟨M11, eM11, hF⟩ := nm_some hF
                refine r_iastore Z (shp_lt (sh_0_1 ho) (by decide)) (fun _ _ => ce_106 (sh_0_1 ho)) hi10 dX0_noteLeads_54 ?_
                rw [← eM11]
                obtain ⟨t12, et12, hF⟩ := nm_some hF
                refine r_iinc (j := 2) Z t12 [(2, .int t12), (0, .ref (ad o)), (1, .int v1)] dX0_noteLeads_55 hl rfl (by rw [et12]; rfl) (by decide) rfl (fun ls hl => ?_)
                refine r_goto Z 19 dX0_noteLeads_58 (by decide) ?_
                exact ih19 v1 t12 M11 ls (lv_sub hl [1, 2, 0] rfl) hF
      intro v1 M ls hl hF
      replace hF : f_X0_noteLeads_b2B (f_X0_noteLeads_b2 o n2) o v1 M = some q := hF
      unfold f_X0_noteLeads_b2B at hF
      refine r_iload_n Z dX0_noteLeads_2 rfl (lv_at hl 1 rfl) ?_
      refine r_aload_n Z dX0_noteLeads_3 rfl (lv_at hl 0 rfl) ?_
      refine g_0_3 Z ho wm_18 dX0_noteLeads_4 ?_
      refine r_icmp_ge Z 67 dX0_noteLeads_7 (by decide) (fun hc13 => ?_) (fun hc13 => ?_)
      · replace hF := if_some hc13 hF
        exact r_vret Z hQ hF dX0_noteLeads_67
      · replace hF := nif_some hc13 hF
        refine r_aload_n Z dX0_noteLeads_10 rfl (lv_at hl 0 rfl) ?_
        refine g_0_1 Z ho wm_13 dX0_noteLeads_11 ?_
        refine r_iload_n Z dX0_noteLeads_14 rfl (lv_at hl 1 rfl) ?_
        refine r_iconst (v := 0) Z dX0_noteLeads_15 (by decide) ?_
        obtain ⟨hi14, hF⟩ := ck_some hF
        obtain ⟨M15, eM15, hF⟩ := nm_some hF
        refine r_iastore Z (shp_lt (sh_0_1 ho) (by decide)) (fun _ _ => ce_106 (sh_0_1 ho)) hi14 dX0_noteLeads_16 ?_
        rw [← eM15]
        refine r_iconst (v := 0) Z dX0_noteLeads_17 (by decide) ?_
        refine r_istore_n Z [(2, .int 0), (0, .ref (ad o)), (1, .int v1)] dX0_noteLeads_18 rfl hl (by decide) rfl (fun ls hl => ?_)
        exact L19 _ v1 0 M15 ls (lv_sub hl [1, 2, 0] rfl) hF
  unfold f_X0_noteLeads at hF
  refine r_iconst (v := 0) Z dX0_noteLeads_0 (by decide) ?_
  refine r_istore_n Z [(1, .int 0), (0, .ref (ad o))] dX0_noteLeads_1 rfl hl (by decide) rfl (fun ls hl => ?_)
  exact L2 _ 0 M ls (lv_sub hl [1, 0] rfl) hF
theorem dX0_load_0 : decode cX0_load 0 = .ok (.aload_n 0, 1) := by decide +kernel
theorem dX0_load_1 : decode cX0_load 1 = .ok (.aload_n 1, 1) := by decide +kernel
theorem dX0_load_2 : decode cX0_load 2 = .ok (.invokevirtual 31, 3) := by decide +kernel
theorem dX0_load_5 : decode cX0_load 5 = .ok (.putfield 27, 3) := by decide +kernel
theorem dX0_load_8 : decode cX0_load 8 = .ok (.iconst 0, 1) := by decide +kernel
theorem dX0_load_9 : decode cX0_load 9 = .ok (.istore_n 2, 1) := by decide +kernel
theorem dX0_load_10 : decode cX0_load 10 = .ok (.iload_n 2, 1) := by decide +kernel
theorem dX0_load_11 : decode cX0_load 11 = .ok (.aload_n 0, 1) := by decide +kernel
theorem dX0_load_12 : decode cX0_load 12 = .ok (.getfield 27, 3) := by decide +kernel
theorem dX0_load_15 : decode cX0_load 15 = .ok (.if_icmp .ge 45, 3) := by decide +kernel
theorem dX0_load_18 : decode cX0_load 18 = .ok (.iconst 0, 1) := by decide +kernel
theorem dX0_load_19 : decode cX0_load 19 = .ok (.istore_n 3, 1) := by decide +kernel
theorem dX0_load_20 : decode cX0_load 20 = .ok (.iload_n 3, 1) := by decide +kernel
theorem dX0_load_21 : decode cX0_load 21 = .ok (.aload_n 0, 1) := by decide +kernel
theorem dX0_load_22 : decode cX0_load 22 = .ok (.getfield 27, 3) := by decide +kernel
theorem dX0_load_25 : decode cX0_load 25 = .ok (.if_icmp .ge 29, 3) := by decide +kernel
theorem dX0_load_28 : decode cX0_load 28 = .ok (.aload_n 0, 1) := by decide +kernel
theorem dX0_load_29 : decode cX0_load 29 = .ok (.getfield 11, 3) := by decide +kernel
theorem dX0_load_32 : decode cX0_load 32 = .ok (.iload_n 2, 1) := by decide +kernel
theorem dX0_load_33 : decode cX0_load 33 = .ok (.aaload, 1) := by decide +kernel
theorem dX0_load_34 : decode cX0_load 34 = .ok (.iload_n 3, 1) := by decide +kernel
theorem dX0_load_35 : decode cX0_load 35 = .ok (.aload_n 1, 1) := by decide +kernel
theorem dX0_load_36 : decode cX0_load 36 = .ok (.iload_n 2, 1) := by decide +kernel
theorem dX0_load_37 : decode cX0_load 37 = .ok (.aload_n 0, 1) := by decide +kernel
theorem dX0_load_38 : decode cX0_load 38 = .ok (.getfield 27, 3) := by decide +kernel
theorem dX0_load_41 : decode cX0_load 41 = .ok (.imul, 1) := by decide +kernel
theorem dX0_load_42 : decode cX0_load 42 = .ok (.iload_n 3, 1) := by decide +kernel
theorem dX0_load_43 : decode cX0_load 43 = .ok (.iadd, 1) := by decide +kernel
theorem dX0_load_44 : decode cX0_load 44 = .ok (.invokevirtual 37, 3) := by decide +kernel
theorem dX0_load_47 : decode cX0_load 47 = .ok (.iastore, 1) := by decide +kernel
theorem dX0_load_48 : decode cX0_load 48 = .ok (.iinc 3 1, 3) := by decide +kernel
theorem dX0_load_51 : decode cX0_load 51 = .ok (.goto (-31), 3) := by decide +kernel
theorem dX0_load_54 : decode cX0_load 54 = .ok (.iinc 2 1, 3) := by decide +kernel
theorem dX0_load_57 : decode cX0_load 57 = .ok (.goto (-47), 3) := by decide +kernel
theorem dX0_load_60 : decode cX0_load 60 = .ok (.aload_n 0, 1) := by decide +kernel
theorem dX0_load_61 : decode cX0_load 61 = .ok (.invokevirtual 41, 3) := by decide +kernel
theorem dX0_load_64 : decode cX0_load 64 = .ok (.return_, 1) := by decide +kernel
theorem cv_X0_load : wn_cV yX0_load cX0_load 4 none RX0 1 := ⟨wm_30, wm_545, wm_546, wm_40, by decide +kernel⟩
abbrev rm_X0_load : Room := rmz 2 42
set_option maxHeartbeats 4000000 in
set_option maxRecDepth 100000 in
theorem c_X0_load {ad : Nat → Nat} {o : Nat} {x1 : Nat} {M : Mm} {q : Mm} (ho : shp o = 0) (h1 : shp x1 = 6) (hF : f_X0_load o x1 M = some q) : KV ad yX0_load cX0_load 4 none rm_X0_load [.ref (ad o), .ref (ad x1)] M q := by
  refine wn_enterV (own := RX0) (by decide) rfl (Nat.le_of_ble_eq_true rfl) (fun X ls Z hQ hl => ?_)
  have hl : lv_has ls 4 [(0, .ref (ad o)), (1, .ref (ad x1))] := hl
  have L10 : ∀ (n10 : Nat) (v1 : Nat) (v2 : Int32) (M : Mm) (ls : Array Slot), shp v1 = 6 → lv_has ls 4 [(0, .ref (ad o)), (1, .ref (ad v1)), (2, .int v2)] → f_X0_load_b10 o n10 v1 v2 M = some q → G ad X M 10 ls [] := by
    intro n10
    induction n10 with
    | zero =>
      intro v1 v2 M ls hv1 hl hF
      cases hF
    | succ n10 ih10 =>
      have L20 : ∀ (n20 : Nat) (v1 : Nat) (v2 : Int32) (v3 : Int32) (M : Mm) (ls : Array Slot), shp v1 = 6 → lv_has ls 4 [(0, .ref (ad o)), (1, .ref (ad v1)), (2, .int v2), (3, .int v3)] → f_X0_load_b20 (f_X0_load_b10 o n10) o n20 v1 v2 v3 M = some q → G ad X M 20 ls [] := by
        intro n20
        induction n20 with
        | zero =>
          intro v1 v2 v3 M ls hv1 hl hF
          cases hF
        | succ n20 ih20 =>
          intro v1 v2 v3 M ls hv1 hl hF
          replace hF : f_X0_load_b20B (f_X0_load_b10 o n10) (f_X0_load_b20 (f_X0_load_b10 o n10) o n20) o v1 v2 v3 M = some q := hF
          unfold f_X0_load_b20B at hF
          refine r_iload_n Z dX0_load_20 rfl (lv_at hl 3 rfl) ?_
          refine r_aload_n Z dX0_load_21 rfl (lv_at hl 0 rfl) ?_
          refine g_0_3 Z ho wm_18 dX0_load_22 ?_
          refine r_icmp_ge Z 54 dX0_load_25 (by decide) (fun hc1 => ?_) (fun hc1 => ?_)
          · replace hF := if_some hc1 hF
            obtain ⟨t2, et2, hF⟩ := nm_some hF
            refine r_iinc (j := 2) Z t2 [(2, .int t2), (0, .ref (ad o)), (1, .ref (ad v1)), (3, .int v3)] dX0_load_54 hl rfl (by rw [et2]; rfl) (by decide) rfl (fun ls hl => ?_)
            refine r_goto Z 10 dX0_load_57 (by decide) ?_
            exact ih10 v1 t2 M ls hv1 (lv_sub hl [1, 2, 0] rfl) hF
          · replace hF := nif_some hc1 hF
            refine r_aload_n Z dX0_load_28 rfl (lv_at hl 0 rfl) ?_
            refine g_0_0 Z ho wm_12 dX0_load_29 ?_
            refine r_iload_n Z dX0_load_32 rfl (lv_at hl 2 rfl) ?_
            obtain ⟨hi3, hF⟩ := ck_some hF
            refine r_aald15 Z (sh_0_0 ho) hi3 dX0_load_33 ?_
            refine r_iload_n Z dX0_load_34 rfl (lv_at hl 3 rfl) ?_
            refine r_aload_n Z dX0_load_35 rfl (lv_at hl 1 rfl) ?_
            refine r_iload_n Z dX0_load_36 rfl (lv_at hl 2 rfl) ?_
            refine r_aload_n Z dX0_load_37 rfl (lv_at hl 0 rfl) ?_
            refine g_0_3 Z ho wm_18 dX0_load_38 ?_
            refine r_imul Z dX0_load_41 ?_
            refine r_iload_n Z dX0_load_42 rfl (lv_at hl 3 rfl) ?_
            refine r_iadd Z dX0_load_43 ?_
            obtain ⟨q4, hq4, hF⟩ := bd_some hF
            refine r_invVi [.int v3, .ref (ad (elm (fld o 0) (Int32.toNatClampNeg v2)))] Z (c_X6_at hv1 hq4) cv_X6_at rfl (shp_lt hv1 (by decide)) (fun _ _ => ⟨_, ce_6 hv1⟩) wm_34 rfl rfl ⟨Nat.le_of_ble_eq_true rfl, Nat.le_of_ble_eq_true rfl⟩ rfl hl.1 rfl (Nat.le_of_ble_eq_true rfl) dX0_load_44 ?_
            obtain ⟨hi5, hF⟩ := ck_some hF
            obtain ⟨M6, eM6, hF⟩ := nm_some hF
            refine r_iastore Z (shp_lt (se_15 (sh_0_0 ho) hi3) (by decide)) (fun _ _ => ce_106 (se_15 (sh_0_0 ho) hi3)) hi5 dX0_load_47 ?_
            rw [← eM6]
            obtain ⟨t7, et7, hF⟩ := nm_some hF
            refine r_iinc (j := 3) Z t7 [(3, .int t7), (0, .ref (ad o)), (1, .ref (ad v1)), (2, .int v2)] dX0_load_48 hl rfl (by rw [et7]; rfl) (by decide) rfl (fun ls hl => ?_)
            refine r_goto Z 20 dX0_load_51 (by decide) ?_
            exact ih20 v1 v2 t7 M6 ls hv1 (lv_sub hl [1, 2, 3, 0] rfl) hF
      intro v1 v2 M ls hv1 hl hF
      replace hF : f_X0_load_b10B (f_X0_load_b10 o n10) o v1 v2 M = some q := hF
      unfold f_X0_load_b10B at hF
      refine r_iload_n Z dX0_load_10 rfl (lv_at hl 2 rfl) ?_
      refine r_aload_n Z dX0_load_11 rfl (lv_at hl 0 rfl) ?_
      refine g_0_3 Z ho wm_18 dX0_load_12 ?_
      refine r_icmp_ge Z 60 dX0_load_15 (by decide) (fun hc8 => ?_) (fun hc8 => ?_)
      · replace hF := if_some hc8 hF
        refine r_aload_n Z dX0_load_60 rfl (lv_at hl 0 rfl) ?_
        obtain ⟨M9, hM9, hF⟩ := bd_some hF
        refine r_invVv [] Z (c_X0_noteLeads ho hM9) cv_X0_noteLeads rfl (shp_lt ho (by decide)) (fun _ _ => ⟨_, ce_0 ho⟩) wm_37 rfl rfl ⟨Nat.le_of_ble_eq_true rfl, Nat.le_of_ble_eq_true rfl⟩ rfl hl.1 rfl (Nat.le_of_ble_eq_true rfl) dX0_load_61 ?_
        exact r_vret Z hQ hF dX0_load_64
      · replace hF := nif_some hc8 hF
        refine r_iconst (v := 0) Z dX0_load_18 (by decide) ?_
        refine r_istore_n Z [(3, .int 0), (0, .ref (ad o)), (1, .ref (ad v1)), (2, .int v2)] dX0_load_19 rfl hl (by decide) rfl (fun ls hl => ?_)
        exact L20 _ v1 v2 0 M ls hv1 (lv_sub hl [1, 2, 3, 0] rfl) hF
  unfold f_X0_load at hF
  refine r_aload_n Z dX0_load_0 rfl (lv_at hl 0 rfl) ?_
  refine r_aload_n Z dX0_load_1 rfl (lv_at hl 1 rfl) ?_
  obtain ⟨q10, hq10, hF⟩ := bd_some hF
  refine r_invVi [.ref (ad o)] Z (c_X6_side h1 hq10) cv_X6_side rfl (shp_lt h1 (by decide)) (fun _ _ => ⟨_, ce_6 h1⟩) wm_31 rfl rfl ⟨Nat.le_of_ble_eq_true rfl, Nat.le_of_ble_eq_true rfl⟩ rfl hl.1 rfl (Nat.le_of_ble_eq_true rfl) dX0_load_2 ?_
  obtain ⟨M11, eM11, hF⟩ := nm_some hF
  refine p_0_3 Z ho wm_18 dX0_load_5 ?_
  rw [← eM11]
  refine r_iconst (v := 0) Z dX0_load_8 (by decide) ?_
  refine r_istore_n Z [(2, .int 0), (0, .ref (ad o)), (1, .ref (ad x1))] dX0_load_9 rfl hl (by decide) rfl (fun ls hl => ?_)
  exact L10 _ x1 0 M11 ls h1 (lv_sub hl [1, 2, 0] rfl) hF
theorem dX0_partsThere_0 : decode cX0_partsThere 0 = .ok (.iconst 0, 1) := by decide +kernel
theorem dX0_partsThere_1 : decode cX0_partsThere 1 = .ok (.istore_n 1, 1) := by decide +kernel
theorem dX0_partsThere_2 : decode cX0_partsThere 2 = .ok (.iconst 0, 1) := by decide +kernel
theorem dX0_partsThere_3 : decode cX0_partsThere 3 = .ok (.istore_n 2, 1) := by decide +kernel
theorem dX0_partsThere_4 : decode cX0_partsThere 4 = .ok (.iload_n 2, 1) := by decide +kernel
theorem dX0_partsThere_5 : decode cX0_partsThere 5 = .ok (.aload_n 0, 1) := by decide +kernel
theorem dX0_partsThere_6 : decode cX0_partsThere 6 = .ok (.getfield 27, 3) := by decide +kernel
theorem dX0_partsThere_9 : decode cX0_partsThere 9 = .ok (.if_icmp .ge 20, 3) := by decide +kernel
theorem dX0_partsThere_12 : decode cX0_partsThere 12 = .ok (.aload_n 0, 1) := by decide +kernel
theorem dX0_partsThere_13 : decode cX0_partsThere 13 = .ok (.iload_n 2, 1) := by decide +kernel
theorem dX0_partsThere_14 : decode cX0_partsThere 14 = .ok (.invokevirtual 47, 3) := by decide +kernel
theorem dX0_partsThere_17 : decode cX0_partsThere 17 = .ok (.ifCond .eq 6, 3) := by decide +kernel
theorem dX0_partsThere_20 : decode cX0_partsThere 20 = .ok (.iinc 1 1, 3) := by decide +kernel
theorem dX0_partsThere_23 : decode cX0_partsThere 23 = .ok (.iinc 2 1, 3) := by decide +kernel
theorem dX0_partsThere_26 : decode cX0_partsThere 26 = .ok (.goto (-22), 3) := by decide +kernel
theorem dX0_partsThere_29 : decode cX0_partsThere 29 = .ok (.iload_n 1, 1) := by decide +kernel
theorem dX0_partsThere_30 : decode cX0_partsThere 30 = .ok (.ireturn, 1) := by decide +kernel
theorem cv_X0_partsThere : wn_cV yX0_partsThere cX0_partsThere 3 (some .int) RX0 0 := ⟨wm_46, wm_548, wm_549, wm_40, by decide +kernel⟩
abbrev rm_X0_partsThere : Room := rmz 2 48
set_option maxHeartbeats 4000000 in
set_option maxRecDepth 100000 in
theorem c_X0_partsThere {ad : Nat → Nat} {o : Nat} {M : Mm} {q : Int32 × Mm} (ho : shp o = 0) (hF : f_X0_partsThere o M = some q) : KI ad yX0_partsThere cX0_partsThere 3 (some .int) rm_X0_partsThere [.ref (ad o)] M q.1 q.2 := by
  refine wn_enterI (own := RX0) (by decide) rfl (Nat.le_of_ble_eq_true rfl) (fun X ls Z hQ hl => ?_)
  have hl : lv_has ls 3 [(0, .ref (ad o))] := hl
  have L4 : ∀ (n4 : Nat) (v1 : Int32) (v2 : Int32) (M : Mm) (ls : Array Slot), lv_has ls 3 [(0, .ref (ad o)), (1, .int v1), (2, .int v2)] → f_X0_partsThere_b4 o n4 v1 v2 M = some q → G ad X M 4 ls [] := by
    intro n4
    induction n4 with
    | zero =>
      intro v1 v2 M ls hl hF
      cases hF
    | succ n4 ih4 =>
      intro v1 v2 M ls hl hF
      replace hF : f_X0_partsThere_b4B (f_X0_partsThere_b4 o n4) o v1 v2 M = some q := hF
      unfold f_X0_partsThere_b4B at hF
      refine r_iload_n Z dX0_partsThere_4 rfl (lv_at hl 2 rfl) ?_
      refine r_aload_n Z dX0_partsThere_5 rfl (lv_at hl 0 rfl) ?_
      refine g_0_3 Z ho wm_18 dX0_partsThere_6 ?_
      refine r_icmp_ge Z 29 dX0_partsThere_9 (by decide) (fun hc1 => ?_) (fun hc1 => ?_)
      · replace hF := if_some hc1 hF
        refine r_iload_n Z dX0_partsThere_29 rfl (lv_at hl 1 rfl) ?_
        exact r_iret Z hQ hF dX0_partsThere_30
      · replace hF := nif_some hc1 hF
        refine r_aload_n Z dX0_partsThere_12 rfl (lv_at hl 0 rfl) ?_
        refine r_iload_n Z dX0_partsThere_13 rfl (lv_at hl 2 rfl) ?_
        obtain ⟨q2, hq2, hF⟩ := bd_some hF
        refine r_invVi [] Z (c_X0_partOf ho hq2) cv_X0_partOf rfl (shp_lt ho (by decide)) (fun _ _ => ⟨_, ce_0 ho⟩) wm_47 rfl rfl ⟨Nat.le_of_ble_eq_true rfl, Nat.le_of_ble_eq_true rfl⟩ rfl hl.1 rfl (Nat.le_of_ble_eq_true rfl) dX0_partsThere_14 ?_
        refine r_if_eq Z 23 dX0_partsThere_17 (by decide) (fun hc3 => ?_) (fun hc3 => ?_)
        · replace hF := if_some hc3 hF
          obtain ⟨t4, et4, hF⟩ := nm_some hF
          refine r_iinc (j := 2) Z t4 [(2, .int t4), (0, .ref (ad o)), (1, .int v1)] dX0_partsThere_23 hl rfl (by rw [et4]; rfl) (by decide) rfl (fun ls hl => ?_)
          refine r_goto Z 4 dX0_partsThere_26 (by decide) ?_
          exact ih4 v1 t4 q2.2 ls (lv_sub hl [1, 2, 0] rfl) hF
        · replace hF := nif_some hc3 hF
          obtain ⟨t5, et5, hF⟩ := nm_some hF
          refine r_iinc (j := 1) Z t5 [(1, .int t5), (0, .ref (ad o)), (2, .int v2)] dX0_partsThere_20 hl rfl (by rw [et5]; rfl) (by decide) rfl (fun ls hl => ?_)
          obtain ⟨t6, et6, hF⟩ := nm_some hF
          refine r_iinc (j := 2) Z t6 [(2, .int t6), (1, .int t5), (0, .ref (ad o))] dX0_partsThere_23 hl rfl (by rw [et6]; rfl) (by decide) rfl (fun ls hl => ?_)
          refine r_goto Z 4 dX0_partsThere_26 (by decide) ?_
          exact ih4 t5 t6 q2.2 ls (lv_sub hl [2, 1, 0] rfl) hF
  unfold f_X0_partsThere at hF
  refine r_iconst (v := 0) Z dX0_partsThere_0 (by decide) ?_
  refine r_istore_n Z [(1, .int 0), (0, .ref (ad o))] dX0_partsThere_1 rfl hl (by decide) rfl (fun ls hl => ?_)
  refine r_iconst (v := 0) Z dX0_partsThere_2 (by decide) ?_
  refine r_istore_n Z [(2, .int 0), (1, .int 0), (0, .ref (ad o))] dX0_partsThere_3 rfl hl (by decide) rfl (fun ls hl => ?_)
  exact L4 _ 0 0 M ls (lv_sub hl [2, 1, 0] rfl) hF
theorem dX7_bringUp_0 : decode cX7_bringUp 0 = .ok (.iload_n 1, 1) := by decide +kernel
theorem dX7_bringUp_1 : decode cX7_bringUp 1 = .ok (.iconst 1, 1) := by decide +kernel
theorem dX7_bringUp_2 : decode cX7_bringUp 2 = .ok (.iadd, 1) := by decide +kernel
theorem dX7_bringUp_3 : decode cX7_bringUp 3 = .ok (.istore_n 3, 1) := by decide +kernel
theorem dX7_bringUp_4 : decode cX7_bringUp 4 = .ok (.iload_n 3, 1) := by decide +kernel
theorem dX7_bringUp_5 : decode cX7_bringUp 5 = .ok (.iload_n 2, 1) := by decide +kernel
theorem dX7_bringUp_6 : decode cX7_bringUp 6 = .ok (.if_icmp .ge 79, 3) := by decide +kernel
theorem dX7_bringUp_9 : decode cX7_bringUp 9 = .ok (.aload_n 0, 1) := by decide +kernel
theorem dX7_bringUp_10 : decode cX7_bringUp 10 = .ok (.getfield 11, 3) := by decide +kernel
theorem dX7_bringUp_13 : decode cX7_bringUp 13 = .ok (.iload_n 3, 1) := by decide +kernel
theorem dX7_bringUp_14 : decode cX7_bringUp 14 = .ok (.aaload, 1) := by decide +kernel
theorem dX7_bringUp_15 : decode cX7_bringUp 15 = .ok (.iload_n 1, 1) := by decide +kernel
theorem dX7_bringUp_16 : decode cX7_bringUp 16 = .ok (.laload, 1) := by decide +kernel
theorem dX7_bringUp_17 : decode cX7_bringUp 17 = .ok (.lconst 0, 1) := by decide +kernel
theorem dX7_bringUp_18 : decode cX7_bringUp 18 = .ok (.lcmp, 1) := by decide +kernel
theorem dX7_bringUp_19 : decode cX7_bringUp 19 = .ok (.ifCond .eq 60, 3) := by decide +kernel
theorem dX7_bringUp_22 : decode cX7_bringUp 22 = .ok (.iconst 0, 1) := by decide +kernel
theorem dX7_bringUp_23 : decode cX7_bringUp 23 = .ok (.istore 4, 2) := by decide +kernel
theorem dX7_bringUp_25 : decode cX7_bringUp 25 = .ok (.iload 4, 2) := by decide +kernel
theorem dX7_bringUp_27 : decode cX7_bringUp 27 = .ok (.iload_n 2, 1) := by decide +kernel
theorem dX7_bringUp_28 : decode cX7_bringUp 28 = .ok (.if_icmp .ge 49, 3) := by decide +kernel
theorem dX7_bringUp_31 : decode cX7_bringUp 31 = .ok (.aload_n 0, 1) := by decide +kernel
theorem dX7_bringUp_32 : decode cX7_bringUp 32 = .ok (.getfield 11, 3) := by decide +kernel
theorem dX7_bringUp_35 : decode cX7_bringUp 35 = .ok (.iload_n 1, 1) := by decide +kernel
theorem dX7_bringUp_36 : decode cX7_bringUp 36 = .ok (.aaload, 1) := by decide +kernel
theorem dX7_bringUp_37 : decode cX7_bringUp 37 = .ok (.iload 4, 2) := by decide +kernel
theorem dX7_bringUp_39 : decode cX7_bringUp 39 = .ok (.laload, 1) := by decide +kernel
theorem dX7_bringUp_40 : decode cX7_bringUp 40 = .ok (.lstore 5, 2) := by decide +kernel
theorem dX7_bringUp_42 : decode cX7_bringUp 42 = .ok (.aload_n 0, 1) := by decide +kernel
theorem dX7_bringUp_43 : decode cX7_bringUp 43 = .ok (.getfield 11, 3) := by decide +kernel
theorem dX7_bringUp_46 : decode cX7_bringUp 46 = .ok (.iload_n 1, 1) := by decide +kernel
theorem dX7_bringUp_47 : decode cX7_bringUp 47 = .ok (.aaload, 1) := by decide +kernel
theorem dX7_bringUp_48 : decode cX7_bringUp 48 = .ok (.iload 4, 2) := by decide +kernel
theorem dX7_bringUp_50 : decode cX7_bringUp 50 = .ok (.aload_n 0, 1) := by decide +kernel
theorem dX7_bringUp_51 : decode cX7_bringUp 51 = .ok (.getfield 11, 3) := by decide +kernel
theorem dX7_bringUp_54 : decode cX7_bringUp 54 = .ok (.iload_n 3, 1) := by decide +kernel
theorem dX7_bringUp_55 : decode cX7_bringUp 55 = .ok (.aaload, 1) := by decide +kernel
theorem dX7_bringUp_56 : decode cX7_bringUp 56 = .ok (.iload 4, 2) := by decide +kernel
theorem dX7_bringUp_58 : decode cX7_bringUp 58 = .ok (.laload, 1) := by decide +kernel
theorem dX7_bringUp_59 : decode cX7_bringUp 59 = .ok (.lastore, 1) := by decide +kernel
theorem dX7_bringUp_60 : decode cX7_bringUp 60 = .ok (.aload_n 0, 1) := by decide +kernel
theorem dX7_bringUp_61 : decode cX7_bringUp 61 = .ok (.getfield 11, 3) := by decide +kernel
theorem dX7_bringUp_64 : decode cX7_bringUp 64 = .ok (.iload_n 3, 1) := by decide +kernel
theorem dX7_bringUp_65 : decode cX7_bringUp 65 = .ok (.aaload, 1) := by decide +kernel
theorem dX7_bringUp_66 : decode cX7_bringUp 66 = .ok (.iload 4, 2) := by decide +kernel
theorem dX7_bringUp_68 : decode cX7_bringUp 68 = .ok (.lload 5, 2) := by decide +kernel
theorem dX7_bringUp_70 : decode cX7_bringUp 70 = .ok (.lastore, 1) := by decide +kernel
theorem dX7_bringUp_71 : decode cX7_bringUp 71 = .ok (.iinc 4 1, 3) := by decide +kernel
theorem dX7_bringUp_74 : decode cX7_bringUp 74 = .ok (.goto (-49), 3) := by decide +kernel
theorem dX7_bringUp_77 : decode cX7_bringUp 77 = .ok (.iconst 1, 1) := by decide +kernel
theorem dX7_bringUp_78 : decode cX7_bringUp 78 = .ok (.ireturn, 1) := by decide +kernel
theorem dX7_bringUp_79 : decode cX7_bringUp 79 = .ok (.iinc 3 1, 3) := by decide +kernel
theorem dX7_bringUp_82 : decode cX7_bringUp 82 = .ok (.goto (-78), 3) := by decide +kernel
theorem dX7_bringUp_85 : decode cX7_bringUp 85 = .ok (.iconst 0, 1) := by decide +kernel
theorem dX7_bringUp_86 : decode cX7_bringUp 86 = .ok (.ireturn, 1) := by decide +kernel
theorem cv_X7_bringUp : wn_cV yX7_bringUp cX7_bringUp 7 (some .boolean) RX7 2 := ⟨wm_61, wm_69, wm_70, wm_16, by decide +kernel⟩
abbrev rm_X7_bringUp : Room := rmz 0 0
set_option maxHeartbeats 4000000 in
set_option maxRecDepth 100000 in
theorem c_X7_bringUp {ad : Nat → Nat} {o : Nat} {x1 : Int32} {x2 : Int32} {M : Mm} {q : Int32 × Mm} (ho : shp o = 7) (hF : f_X7_bringUp o x1 x2 M = some q) : KI ad yX7_bringUp cX7_bringUp 7 (some .boolean) rm_X7_bringUp [.ref (ad o), .int x1, .int x2] M q.1 q.2 := by
  refine wn_enterI (own := RX7) (by decide) rfl (Nat.le_of_ble_eq_true rfl) (fun X ls Z hQ hl => ?_)
  have hl : lv_has ls 7 [(0, .ref (ad o)), (1, .int x1), (2, .int x2)] := hl
  have L25 : ∀ (n25 : Nat) (v1 : Int32) (v2 : Int32) (v3 : Int32) (v4 : Int32) (M : Mm) (ls : Array Slot), lv_has ls 7 [(0, .ref (ad o)), (1, .int v1), (2, .int v2), (3, .int v3), (4, .int v4)] → f_X7_bringUp_b25 o n25 v1 v2 v3 v4 M = some q → G ad X M 25 ls [] := by
    intro n25
    induction n25 with
    | zero =>
      intro v1 v2 v3 v4 M ls hl hF
      cases hF
    | succ n25 ih25 =>
      intro v1 v2 v3 v4 M ls hl hF
      replace hF : f_X7_bringUp_b25B (f_X7_bringUp_b25 o n25) o v1 v2 v3 v4 M = some q := hF
      unfold f_X7_bringUp_b25B at hF
      refine r_iload Z dX7_bringUp_25 (lv_at hl 4 rfl) ?_
      refine r_iload_n Z dX7_bringUp_27 rfl (lv_at hl 2 rfl) ?_
      refine r_icmp_ge Z 77 dX7_bringUp_28 (by decide) (fun hc1 => ?_) (fun hc1 => ?_)
      · replace hF := if_some hc1 hF
        refine r_iconst (v := 1) Z dX7_bringUp_77 (by decide) ?_
        exact r_zret Z hQ (by decide) hF dX7_bringUp_78
      · replace hF := nif_some hc1 hF
        refine r_aload_n Z dX7_bringUp_31 rfl (lv_at hl 0 rfl) ?_
        refine g_7_0 Z ho wm_6 dX7_bringUp_32 ?_
        refine r_iload_n Z dX7_bringUp_35 rfl (lv_at hl 1 rfl) ?_
        obtain ⟨hi2, hF⟩ := ck_some hF
        refine r_aald16 Z (sh_7_0 ho) hi2 dX7_bringUp_36 ?_
        refine r_iload Z dX7_bringUp_37 (lv_at hl 4 rfl) ?_
        obtain ⟨hi3, hF⟩ := ck_some hF
        refine r_laload Z (shp_lt (se_16 (sh_7_0 ho) hi2) (by decide)) (fun _ _ => ce_1006 (se_16 (sh_7_0 ho) hi2)) hi3 dX7_bringUp_39 ?_
        obtain ⟨t4, et4, hF⟩ := nm_some hF
        rw [← et4]
        refine r_lstore Z [(5, .long t4), (0, .ref (ad o)), (1, .int v1), (2, .int v2), (3, .int v3), (4, .int v4)] dX7_bringUp_40 hl (by decide) rfl (fun ls hl => ?_)
        refine r_aload_n Z dX7_bringUp_42 rfl (lv_at hl 1 rfl) ?_
        refine g_7_0 Z ho wm_6 dX7_bringUp_43 ?_
        refine r_iload_n Z dX7_bringUp_46 rfl (lv_at hl 2 rfl) ?_
        obtain ⟨hi5, hF⟩ := ck_some hF
        refine r_aald16 Z (sh_7_0 ho) hi5 dX7_bringUp_47 ?_
        refine r_iload Z dX7_bringUp_48 (lv_at hl 5 rfl) ?_
        refine r_aload_n Z dX7_bringUp_50 rfl (lv_at hl 1 rfl) ?_
        refine g_7_0 Z ho wm_6 dX7_bringUp_51 ?_
        refine r_iload_n Z dX7_bringUp_54 rfl (lv_at hl 4 rfl) ?_
        obtain ⟨hi6, hF⟩ := ck_some hF
        refine r_aald16 Z (sh_7_0 ho) hi6 dX7_bringUp_55 ?_
        refine r_iload Z dX7_bringUp_56 (lv_at hl 5 rfl) ?_
        obtain ⟨hi7, hF⟩ := ck_some hF
        refine r_laload Z (shp_lt (se_16 (sh_7_0 ho) hi6) (by decide)) (fun _ _ => ce_1006 (se_16 (sh_7_0 ho) hi6)) hi7 dX7_bringUp_58 ?_
        obtain ⟨hi8, hF⟩ := ck_some hF
        obtain ⟨M9, eM9, hF⟩ := nm_some hF
        refine r_lastore Z (shp_lt (se_16 (sh_7_0 ho) hi5) (by decide)) (fun _ _ => ce_1006 (se_16 (sh_7_0 ho) hi5)) hi8 dX7_bringUp_59 ?_
        rw [← eM9]
        refine r_aload_n Z dX7_bringUp_60 rfl (lv_at hl 1 rfl) ?_
        refine g_7_0 Z ho wm_6 dX7_bringUp_61 ?_
        refine r_iload_n Z dX7_bringUp_64 rfl (lv_at hl 4 rfl) ?_
        obtain ⟨hi10, hF⟩ := ck_some hF
        refine r_aald16 Z (sh_7_0 ho) hi10 dX7_bringUp_65 ?_
        refine r_iload Z dX7_bringUp_66 (lv_at hl 5 rfl) ?_
        refine r_lload Z dX7_bringUp_68 (lv_at hl 0 rfl) ?_
        obtain ⟨hi11, hF⟩ := ck_some hF
        obtain ⟨M12, eM12, hF⟩ := nm_some hF
        refine r_lastore Z (shp_lt (se_16 (sh_7_0 ho) hi10) (by decide)) (fun _ _ => ce_1006 (se_16 (sh_7_0 ho) hi10)) hi11 dX7_bringUp_70 ?_
        rw [← eM12]
        obtain ⟨t13, et13, hF⟩ := nm_some hF
        refine r_iinc (j := 5) Z t13 [(4, .int t13), (5, .long t4), (0, .ref (ad o)), (1, .int v1), (2, .int v2), (3, .int v3)] dX7_bringUp_71 hl rfl (by rw [et13]; rfl) (by decide) rfl (fun ls hl => ?_)
        refine r_goto Z 25 dX7_bringUp_74 (by decide) ?_
        exact ih25 v1 v2 v3 t13 M12 ls (lv_sub hl [2, 3, 4, 5, 0] rfl) hF
  have L4 : ∀ (n4 : Nat) (v1 : Int32) (v2 : Int32) (v3 : Int32) (M : Mm) (ls : Array Slot), lv_has ls 7 [(0, .ref (ad o)), (1, .int v1), (2, .int v2), (3, .int v3)] → f_X7_bringUp_b4 o n4 v1 v2 v3 M = some q → G ad X M 4 ls [] := by
    intro n4
    induction n4 with
    | zero =>
      intro v1 v2 v3 M ls hl hF
      cases hF
    | succ n4 ih4 =>
      intro v1 v2 v3 M ls hl hF
      replace hF : f_X7_bringUp_b4B (f_X7_bringUp_b4 o n4) o v1 v2 v3 M = some q := hF
      unfold f_X7_bringUp_b4B at hF
      refine r_iload_n Z dX7_bringUp_4 rfl (lv_at hl 3 rfl) ?_
      refine r_iload_n Z dX7_bringUp_5 rfl (lv_at hl 2 rfl) ?_
      refine r_icmp_ge Z 85 dX7_bringUp_6 (by decide) (fun hc14 => ?_) (fun hc14 => ?_)
      · replace hF := if_some hc14 hF
        refine r_iconst (v := 0) Z dX7_bringUp_85 (by decide) ?_
        exact r_zret Z hQ (by decide) hF dX7_bringUp_86
      · replace hF := nif_some hc14 hF
        refine r_aload_n Z dX7_bringUp_9 rfl (lv_at hl 0 rfl) ?_
        refine g_7_0 Z ho wm_6 dX7_bringUp_10 ?_
        refine r_iload_n Z dX7_bringUp_13 rfl (lv_at hl 3 rfl) ?_
        obtain ⟨hi15, hF⟩ := ck_some hF
        refine r_aald16 Z (sh_7_0 ho) hi15 dX7_bringUp_14 ?_
        refine r_iload_n Z dX7_bringUp_15 rfl (lv_at hl 1 rfl) ?_
        obtain ⟨hi16, hF⟩ := ck_some hF
        refine r_laload Z (shp_lt (se_16 (sh_7_0 ho) hi15) (by decide)) (fun _ _ => ce_1006 (se_16 (sh_7_0 ho) hi15)) hi16 dX7_bringUp_16 ?_
        refine r_lconst (v := 0) Z dX7_bringUp_17 (by decide) ?_
        refine r_lcmp Z dX7_bringUp_18 ?_
        refine r_if_eq Z 79 dX7_bringUp_19 (by decide) (fun hc17 => ?_) (fun hc17 => ?_)
        · replace hF := if_some hc17 hF
          obtain ⟨t18, et18, hF⟩ := nm_some hF
          refine r_iinc (j := 3) Z t18 [(3, .int t18), (0, .ref (ad o)), (1, .int v1), (2, .int v2)] dX7_bringUp_79 hl rfl (by rw [et18]; rfl) (by decide) rfl (fun ls hl => ?_)
          refine r_goto Z 4 dX7_bringUp_82 (by decide) ?_
          exact ih4 v1 v2 t18 M ls (lv_sub hl [1, 2, 3, 0] rfl) hF
        · replace hF := nif_some hc17 hF
          refine r_iconst (v := 0) Z dX7_bringUp_22 (by decide) ?_
          refine r_istore Z [(4, .int 0), (0, .ref (ad o)), (1, .int v1), (2, .int v2), (3, .int v3)] dX7_bringUp_23 hl (by decide) rfl (fun ls hl => ?_)
          exact L25 _ v1 v2 v3 0 M ls (lv_sub hl [1, 2, 3, 4, 0] rfl) hF
  unfold f_X7_bringUp at hF
  refine r_iload_n Z dX7_bringUp_0 rfl (lv_at hl 1 rfl) ?_
  refine r_iconst (v := 1) Z dX7_bringUp_1 (by decide) ?_
  refine r_iadd Z dX7_bringUp_2 ?_
  obtain ⟨t19, et19, hF⟩ := nm_some hF
  rw [← et19]
  refine r_istore_n Z [(3, .int t19), (0, .ref (ad o)), (1, .int x1), (2, .int x2)] dX7_bringUp_3 rfl hl (by decide) rfl (fun ls hl => ?_)
  exact L4 _ x1 x2 t19 M ls (lv_sub hl [1, 2, 3, 0] rfl) hF
theorem dX7_clearBelow_0 : decode cX7_clearBelow 0 = .ok (.iload_n 1, 1) := by decide +kernel
theorem dX7_clearBelow_1 : decode cX7_clearBelow 1 = .ok (.iconst 1, 1) := by decide +kernel
theorem dX7_clearBelow_2 : decode cX7_clearBelow 2 = .ok (.iadd, 1) := by decide +kernel
theorem dX7_clearBelow_3 : decode cX7_clearBelow 3 = .ok (.istore 5, 2) := by decide +kernel
theorem dX7_clearBelow_5 : decode cX7_clearBelow 5 = .ok (.iload 5, 2) := by decide +kernel
theorem dX7_clearBelow_7 : decode cX7_clearBelow 7 = .ok (.iload_n 2, 1) := by decide +kernel
theorem dX7_clearBelow_8 : decode cX7_clearBelow 8 = .ok (.if_icmp .ge 91, 3) := by decide +kernel
theorem dX7_clearBelow_11 : decode cX7_clearBelow 11 = .ok (.iload_n 1, 1) := by decide +kernel
theorem dX7_clearBelow_12 : decode cX7_clearBelow 12 = .ok (.iconst 1, 1) := by decide +kernel
theorem dX7_clearBelow_13 : decode cX7_clearBelow 13 = .ok (.iadd, 1) := by decide +kernel
theorem dX7_clearBelow_14 : decode cX7_clearBelow 14 = .ok (.istore 6, 2) := by decide +kernel
theorem dX7_clearBelow_16 : decode cX7_clearBelow 16 = .ok (.iload 6, 2) := by decide +kernel
theorem dX7_clearBelow_18 : decode cX7_clearBelow 18 = .ok (.iload_n 2, 1) := by decide +kernel
theorem dX7_clearBelow_19 : decode cX7_clearBelow 19 = .ok (.if_icmp .ge 74, 3) := by decide +kernel
theorem dX7_clearBelow_22 : decode cX7_clearBelow 22 = .ok (.aload_n 0, 1) := by decide +kernel
theorem dX7_clearBelow_23 : decode cX7_clearBelow 23 = .ok (.getfield 11, 3) := by decide +kernel
theorem dX7_clearBelow_26 : decode cX7_clearBelow 26 = .ok (.iload 5, 2) := by decide +kernel
theorem dX7_clearBelow_28 : decode cX7_clearBelow 28 = .ok (.aaload, 1) := by decide +kernel
theorem dX7_clearBelow_29 : decode cX7_clearBelow 29 = .ok (.iload 6, 2) := by decide +kernel
theorem dX7_clearBelow_31 : decode cX7_clearBelow 31 = .ok (.laload, 1) := by decide +kernel
theorem dX7_clearBelow_32 : decode cX7_clearBelow 32 = .ok (.aload_n 0, 1) := by decide +kernel
theorem dX7_clearBelow_33 : decode cX7_clearBelow 33 = .ok (.getfield 11, 3) := by decide +kernel
theorem dX7_clearBelow_36 : decode cX7_clearBelow 36 = .ok (.iload_n 1, 1) := by decide +kernel
theorem dX7_clearBelow_37 : decode cX7_clearBelow 37 = .ok (.aaload, 1) := by decide +kernel
theorem dX7_clearBelow_38 : decode cX7_clearBelow 38 = .ok (.iload_n 1, 1) := by decide +kernel
theorem dX7_clearBelow_39 : decode cX7_clearBelow 39 = .ok (.laload, 1) := by decide +kernel
theorem dX7_clearBelow_40 : decode cX7_clearBelow 40 = .ok (.lmul, 1) := by decide +kernel
theorem dX7_clearBelow_41 : decode cX7_clearBelow 41 = .ok (.aload_n 0, 1) := by decide +kernel
theorem dX7_clearBelow_42 : decode cX7_clearBelow 42 = .ok (.getfield 11, 3) := by decide +kernel
theorem dX7_clearBelow_45 : decode cX7_clearBelow 45 = .ok (.iload 5, 2) := by decide +kernel
theorem dX7_clearBelow_47 : decode cX7_clearBelow 47 = .ok (.aaload, 1) := by decide +kernel
theorem dX7_clearBelow_48 : decode cX7_clearBelow 48 = .ok (.iload_n 1, 1) := by decide +kernel
theorem dX7_clearBelow_49 : decode cX7_clearBelow 49 = .ok (.laload, 1) := by decide +kernel
theorem dX7_clearBelow_50 : decode cX7_clearBelow 50 = .ok (.aload_n 0, 1) := by decide +kernel
theorem dX7_clearBelow_51 : decode cX7_clearBelow 51 = .ok (.getfield 11, 3) := by decide +kernel
theorem dX7_clearBelow_54 : decode cX7_clearBelow 54 = .ok (.iload_n 1, 1) := by decide +kernel
theorem dX7_clearBelow_55 : decode cX7_clearBelow 55 = .ok (.aaload, 1) := by decide +kernel
theorem dX7_clearBelow_56 : decode cX7_clearBelow 56 = .ok (.iload 6, 2) := by decide +kernel
theorem dX7_clearBelow_58 : decode cX7_clearBelow 58 = .ok (.laload, 1) := by decide +kernel
theorem dX7_clearBelow_59 : decode cX7_clearBelow 59 = .ok (.lmul, 1) := by decide +kernel
theorem dX7_clearBelow_60 : decode cX7_clearBelow 60 = .ok (.lsub, 1) := by decide +kernel
theorem dX7_clearBelow_61 : decode cX7_clearBelow 61 = .ok (.lstore 7, 2) := by decide +kernel
theorem dX7_clearBelow_63 : decode cX7_clearBelow 63 = .ok (.aload_n 0, 1) := by decide +kernel
theorem dX7_clearBelow_64 : decode cX7_clearBelow 64 = .ok (.getfield 11, 3) := by decide +kernel
theorem dX7_clearBelow_67 : decode cX7_clearBelow 67 = .ok (.iload 5, 2) := by decide +kernel
theorem dX7_clearBelow_69 : decode cX7_clearBelow 69 = .ok (.aaload, 1) := by decide +kernel
theorem dX7_clearBelow_70 : decode cX7_clearBelow 70 = .ok (.iload 6, 2) := by decide +kernel
theorem dX7_clearBelow_72 : decode cX7_clearBelow 72 = .ok (.lload_n 3, 1) := by decide +kernel
theorem dX7_clearBelow_73 : decode cX7_clearBelow 73 = .ok (.lconst 0, 1) := by decide +kernel
theorem dX7_clearBelow_74 : decode cX7_clearBelow 74 = .ok (.lcmp, 1) := by decide +kernel
theorem dX7_clearBelow_75 : decode cX7_clearBelow 75 = .ok (.ifCond .eq 10, 3) := by decide +kernel
theorem dX7_clearBelow_78 : decode cX7_clearBelow 78 = .ok (.lload 7, 2) := by decide +kernel
theorem dX7_clearBelow_80 : decode cX7_clearBelow 80 = .ok (.lload_n 3, 1) := by decide +kernel
theorem dX7_clearBelow_81 : decode cX7_clearBelow 81 = .ok (.ldiv, 1) := by decide +kernel
theorem dX7_clearBelow_82 : decode cX7_clearBelow 82 = .ok (.goto 4, 3) := by decide +kernel
theorem dX7_clearBelow_85 : decode cX7_clearBelow 85 = .ok (.lconst 0, 1) := by decide +kernel
theorem dX7_clearBelow_86 : decode cX7_clearBelow 86 = .ok (.lastore, 1) := by decide +kernel
theorem dX7_clearBelow_87 : decode cX7_clearBelow 87 = .ok (.iinc 6 1, 3) := by decide +kernel
theorem dX7_clearBelow_90 : decode cX7_clearBelow 90 = .ok (.goto (-74), 3) := by decide +kernel
theorem dX7_clearBelow_93 : decode cX7_clearBelow 93 = .ok (.iinc 5 1, 3) := by decide +kernel
theorem dX7_clearBelow_96 : decode cX7_clearBelow 96 = .ok (.goto (-91), 3) := by decide +kernel
theorem dX7_clearBelow_99 : decode cX7_clearBelow 99 = .ok (.return_, 1) := by decide +kernel
theorem cv_X7_clearBelow : wn_cV yX7_clearBelow cX7_clearBelow 9 none RX7 3 := ⟨wm_62, wm_72, wm_73, wm_16, by decide +kernel⟩
abbrev rm_X7_clearBelow : Room := rmz 0 0
set_option maxHeartbeats 4000000 in
set_option maxRecDepth 100000 in
theorem c_X7_clearBelow {ad : Nat → Nat} {o : Nat} {x1 : Int32} {x2 : Int32} {x3 : Int64} {M : Mm} {q : Mm} (ho : shp o = 7) (hF : f_X7_clearBelow o x1 x2 x3 M = some q) : KV ad yX7_clearBelow cX7_clearBelow 9 none rm_X7_clearBelow [.ref (ad o), .int x1, .int x2, .long x3] M q := by
  refine wn_enterV (own := RX7) (by decide) rfl (Nat.le_of_ble_eq_true rfl) (fun X ls Z hQ hl => ?_)
  have hl : lv_has ls 9 [(0, .ref (ad o)), (1, .int x1), (2, .int x2), (3, .long x3)] := hl
  have L5 : ∀ (n5 : Nat) (v1 : Int32) (v2 : Int32) (v3 : Int64) (v5 : Int32) (M : Mm) (ls : Array Slot), lv_has ls 9 [(0, .ref (ad o)), (1, .int v1), (2, .int v2), (3, .long v3), (5, .int v5)] → f_X7_clearBelow_b5 o n5 v1 v2 v3 v5 M = some q → G ad X M 5 ls [] := by
    intro n5
    induction n5 with
    | zero =>
      intro v1 v2 v3 v5 M ls hl hF
      cases hF
    | succ n5 ih5 =>
      have L16 : ∀ (n16 : Nat) (v1 : Int32) (v2 : Int32) (v3 : Int64) (v5 : Int32) (v6 : Int32) (M : Mm) (ls : Array Slot), lv_has ls 9 [(0, .ref (ad o)), (1, .int v1), (2, .int v2), (3, .long v3), (5, .int v5), (6, .int v6)] → f_X7_clearBelow_b16 (f_X7_clearBelow_b5 o n5) o n16 v1 v2 v3 v5 v6 M = some q → G ad X M 16 ls [] := by
        intro n16
        induction n16 with
        | zero =>
          intro v1 v2 v3 v5 v6 M ls hl hF
          cases hF
        | succ n16 ih16 =>
          have L86 : ∀ (v1 : Int32) (v2 : Int32) (v3 : Int64) (v5 : Int32) (v6 : Int32) (s0 : Nat) (s1 : Int32) (s2 : Int64) (M : Mm) (ls : Array Slot), shp s0 = 1006 → lv_has ls 9 [(0, .ref (ad o)), (1, .int v1), (2, .int v2), (3, .long v3), (5, .int v5), (6, .int v6)] → f_X7_clearBelow_b86 (f_X7_clearBelow_b5 o n5) (f_X7_clearBelow_b16 (f_X7_clearBelow_b5 o n5) o n16) o v1 v2 v3 v5 v6 s0 s1 s2 M = some q → G ad X M 86 ls [.long s2, .int s1, .ref (ad s0)] := by
            intro v1 v2 v3 v5 v6 s0 s1 s2 M ls hs0 hl hF
            unfold f_X7_clearBelow_b86 at hF
            obtain ⟨hi1, hF⟩ := ck_some hF
            obtain ⟨M2, eM2, hF⟩ := nm_some hF
            refine r_lastore Z (shp_lt hs0 (by decide)) (fun _ _ => ce_1006 hs0) hi1 dX7_clearBelow_86 ?_
            rw [← eM2]
            obtain ⟨t3, et3, hF⟩ := nm_some hF
            refine r_iinc (j := 5) Z t3 [(6, .int t3), (0, .ref (ad o)), (1, .int v1), (2, .int v2), (3, .long v3), (5, .int v5)] dX7_clearBelow_87 hl rfl (by rw [et3]; rfl) (by decide) rfl (fun ls hl => ?_)
            refine r_goto Z 16 dX7_clearBelow_90 (by decide) ?_
            exact ih16 v1 v2 v3 v5 t3 M2 ls (lv_sub hl [1, 2, 3, 4, 5, 0] rfl) hF
          intro v1 v2 v3 v5 v6 M ls hl hF
          replace hF : f_X7_clearBelow_b16B (f_X7_clearBelow_b5 o n5) (f_X7_clearBelow_b16 (f_X7_clearBelow_b5 o n5) o n16) o v1 v2 v3 v5 v6 M = some q := hF
          unfold f_X7_clearBelow_b16B at hF
          refine r_iload Z dX7_clearBelow_16 (lv_at hl 5 rfl) ?_
          refine r_iload_n Z dX7_clearBelow_18 rfl (lv_at hl 2 rfl) ?_
          refine r_icmp_ge Z 93 dX7_clearBelow_19 (by decide) (fun hc4 => ?_) (fun hc4 => ?_)
          · replace hF := if_some hc4 hF
            obtain ⟨t5, et5, hF⟩ := nm_some hF
            refine r_iinc (j := 4) Z t5 [(5, .int t5), (0, .ref (ad o)), (1, .int v1), (2, .int v2), (3, .long v3), (6, .int v6)] dX7_clearBelow_93 hl rfl (by rw [et5]; rfl) (by decide) rfl (fun ls hl => ?_)
            refine r_goto Z 5 dX7_clearBelow_96 (by decide) ?_
            exact ih5 v1 v2 v3 t5 M ls (lv_sub hl [1, 2, 3, 4, 0] rfl) hF
          · replace hF := nif_some hc4 hF
            refine r_aload_n Z dX7_clearBelow_22 rfl (lv_at hl 0 rfl) ?_
            refine g_7_0 Z ho wm_6 dX7_clearBelow_23 ?_
            refine r_iload Z dX7_clearBelow_26 (lv_at hl 4 rfl) ?_
            obtain ⟨hi6, hF⟩ := ck_some hF
            refine r_aald16 Z (sh_7_0 ho) hi6 dX7_clearBelow_28 ?_
            refine r_iload Z dX7_clearBelow_29 (lv_at hl 5 rfl) ?_
            obtain ⟨hi7, hF⟩ := ck_some hF
            refine r_laload Z (shp_lt (se_16 (sh_7_0 ho) hi6) (by decide)) (fun _ _ => ce_1006 (se_16 (sh_7_0 ho) hi6)) hi7 dX7_clearBelow_31 ?_
            refine r_aload_n Z dX7_clearBelow_32 rfl (lv_at hl 0 rfl) ?_
            refine g_7_0 Z ho wm_6 dX7_clearBelow_33 ?_
            refine r_iload_n Z dX7_clearBelow_36 rfl (lv_at hl 1 rfl) ?_
            obtain ⟨hi8, hF⟩ := ck_some hF
            refine r_aald16 Z (sh_7_0 ho) hi8 dX7_clearBelow_37 ?_
            refine r_iload_n Z dX7_clearBelow_38 rfl (lv_at hl 1 rfl) ?_
            obtain ⟨hi9, hF⟩ := ck_some hF
            refine r_laload Z (shp_lt (se_16 (sh_7_0 ho) hi8) (by decide)) (fun _ _ => ce_1006 (se_16 (sh_7_0 ho) hi8)) hi9 dX7_clearBelow_39 ?_
            refine r_lmul Z dX7_clearBelow_40 ?_
            refine r_aload_n Z dX7_clearBelow_41 rfl (lv_at hl 0 rfl) ?_
            refine g_7_0 Z ho wm_6 dX7_clearBelow_42 ?_
            refine r_iload Z dX7_clearBelow_45 (lv_at hl 4 rfl) ?_
            obtain ⟨hi10, hF⟩ := ck_some hF
            refine r_aald16 Z (sh_7_0 ho) hi10 dX7_clearBelow_47 ?_
            refine r_iload_n Z dX7_clearBelow_48 rfl (lv_at hl 1 rfl) ?_
            obtain ⟨hi11, hF⟩ := ck_some hF
            refine r_laload Z (shp_lt (se_16 (sh_7_0 ho) hi10) (by decide)) (fun _ _ => ce_1006 (se_16 (sh_7_0 ho) hi10)) hi11 dX7_clearBelow_49 ?_
            refine r_aload_n Z dX7_clearBelow_50 rfl (lv_at hl 0 rfl) ?_
            refine g_7_0 Z ho wm_6 dX7_clearBelow_51 ?_
            refine r_iload_n Z dX7_clearBelow_54 rfl (lv_at hl 1 rfl) ?_
            obtain ⟨hi12, hF⟩ := ck_some hF
            refine r_aald16 Z (sh_7_0 ho) hi12 dX7_clearBelow_55 ?_
            refine r_iload Z dX7_clearBelow_56 (lv_at hl 5 rfl) ?_
            obtain ⟨hi13, hF⟩ := ck_some hF
            refine r_laload Z (shp_lt (se_16 (sh_7_0 ho) hi12) (by decide)) (fun _ _ => ce_1006 (se_16 (sh_7_0 ho) hi12)) hi13 dX7_clearBelow_58 ?_
            refine r_lmul Z dX7_clearBelow_59 ?_
            refine r_lsub Z dX7_clearBelow_60 ?_
            obtain ⟨t14, et14, hF⟩ := nm_some hF
            rw [← et14]
            refine r_lstore Z [(7, .long t14), (0, .ref (ad o)), (1, .int v1), (2, .int v2), (3, .long v3), (5, .int v5), (6, .int v6)] dX7_clearBelow_61 hl (by decide) rfl (fun ls hl => ?_)
            refine r_aload_n Z dX7_clearBelow_63 rfl (lv_at hl 1 rfl) ?_
            refine g_7_0 Z ho wm_6 dX7_clearBelow_64 ?_
            refine r_iload Z dX7_clearBelow_67 (lv_at hl 5 rfl) ?_
            obtain ⟨hi15, hF⟩ := ck_some hF
            refine r_aald16 Z (sh_7_0 ho) hi15 dX7_clearBelow_69 ?_
            refine r_iload Z dX7_clearBelow_70 (lv_at hl 6 rfl) ?_
            refine r_lload_n Z dX7_clearBelow_72 rfl (lv_at hl 4 rfl) ?_
            refine r_lconst (v := 0) Z dX7_clearBelow_73 (by decide) ?_
            refine r_lcmp Z dX7_clearBelow_74 ?_
            refine r_if_eq Z 85 dX7_clearBelow_75 (by decide) (fun hc16 => ?_) (fun hc16 => ?_)
            · replace hF := if_some hc16 hF
              refine r_lconst (v := 0) Z dX7_clearBelow_85 (by decide) ?_
              exact L86 v1 v2 v3 v5 v6 (elm (fld o 0) (Int32.toNatClampNeg v5)) v6 0 M ls (se_16 (sh_7_0 ho) hi15) (lv_sub hl [1, 2, 3, 4, 5, 6] rfl) hF
            · replace hF := nif_some hc16 hF
              refine r_lload Z dX7_clearBelow_78 (lv_at hl 0 rfl) ?_
              refine r_lload_n Z dX7_clearBelow_80 rfl (lv_at hl 4 rfl) ?_
              obtain ⟨hd17, hF⟩ := dvJ_some hF
              refine r_ldiv Z dX7_clearBelow_81 hd17 ?_
              refine r_goto Z 86 dX7_clearBelow_82 (by decide) ?_
              exact L86 v1 v2 v3 v5 v6 (elm (fld o 0) (Int32.toNatClampNeg v5)) v6 (t14 / v3) M ls (se_16 (sh_7_0 ho) hi15) (lv_sub hl [1, 2, 3, 4, 5, 6] rfl) hF
      intro v1 v2 v3 v5 M ls hl hF
      replace hF : f_X7_clearBelow_b5B (f_X7_clearBelow_b5 o n5) o v1 v2 v3 v5 M = some q := hF
      unfold f_X7_clearBelow_b5B at hF
      refine r_iload Z dX7_clearBelow_5 (lv_at hl 4 rfl) ?_
      refine r_iload_n Z dX7_clearBelow_7 rfl (lv_at hl 2 rfl) ?_
      refine r_icmp_ge Z 99 dX7_clearBelow_8 (by decide) (fun hc18 => ?_) (fun hc18 => ?_)
      · replace hF := if_some hc18 hF
        exact r_vret Z hQ hF dX7_clearBelow_99
      · replace hF := nif_some hc18 hF
        refine r_iload_n Z dX7_clearBelow_11 rfl (lv_at hl 1 rfl) ?_
        refine r_iconst (v := 1) Z dX7_clearBelow_12 (by decide) ?_
        refine r_iadd Z dX7_clearBelow_13 ?_
        obtain ⟨t19, et19, hF⟩ := nm_some hF
        rw [← et19]
        refine r_istore Z [(6, .int t19), (0, .ref (ad o)), (1, .int v1), (2, .int v2), (3, .long v3), (5, .int v5)] dX7_clearBelow_14 hl (by decide) rfl (fun ls hl => ?_)
        exact L16 _ v1 v2 v3 v5 t19 M ls (lv_sub hl [1, 2, 3, 4, 5, 0] rfl) hF
  unfold f_X7_clearBelow at hF
  refine r_iload_n Z dX7_clearBelow_0 rfl (lv_at hl 1 rfl) ?_
  refine r_iconst (v := 1) Z dX7_clearBelow_1 (by decide) ?_
  refine r_iadd Z dX7_clearBelow_2 ?_
  obtain ⟨t20, et20, hF⟩ := nm_some hF
  rw [← et20]
  refine r_istore Z [(5, .int t20), (0, .ref (ad o)), (1, .int x1), (2, .int x2), (3, .long x3)] dX7_clearBelow_3 hl (by decide) rfl (fun ls hl => ?_)
  exact L5 _ x1 x2 x3 t20 M ls (lv_sub hl [1, 2, 3, 4, 0] rfl) hF

theorem dX5_narrowest_0 : decode cX5_narrowest 0 = .ok (.bipush (-9), 2) := by decide +kernel
theorem dX5_narrowest_2 : decode cX5_narrowest 2 = .ok (.istore_n 1, 1) := by decide +kernel
theorem dX5_narrowest_3 : decode cX5_narrowest 3 = .ok (.iconst 0, 1) := by decide +kernel
theorem dX5_narrowest_4 : decode cX5_narrowest 4 = .ok (.istore_n 2, 1) := by decide +kernel
theorem dX5_narrowest_5 : decode cX5_narrowest 5 = .ok (.iload_n 2, 1) := by decide +kernel
theorem dX5_narrowest_6 : decode cX5_narrowest 6 = .ok (.iconst 4, 1) := by decide +kernel
theorem dX5_narrowest_7 : decode cX5_narrowest 7 = .ok (.if_icmp .ge 63, 3) := by decide +kernel
theorem dX5_narrowest_10 : decode cX5_narrowest 10 = .ok (.aload_n 0, 1) := by decide +kernel
theorem dX5_narrowest_11 : decode cX5_narrowest 11 = .ok (.getfield 15, 3) := by decide +kernel
theorem dX5_narrowest_14 : decode cX5_narrowest 14 = .ok (.iload_n 2, 1) := by decide +kernel
theorem dX5_narrowest_15 : decode cX5_narrowest 15 = .ok (.iaload, 1) := by decide +kernel
theorem dX5_narrowest_16 : decode cX5_narrowest 16 = .ok (.iconst (-1), 1) := by decide +kernel
theorem dX5_narrowest_17 : decode cX5_narrowest 17 = .ok (.if_icmp .eq 17, 3) := by decide +kernel
theorem dX5_narrowest_20 : decode cX5_narrowest 20 = .ok (.aload_n 0, 1) := by decide +kernel
theorem dX5_narrowest_21 : decode cX5_narrowest 21 = .ok (.getfield 15, 3) := by decide +kernel
theorem dX5_narrowest_24 : decode cX5_narrowest 24 = .ok (.iload_n 2, 1) := by decide +kernel
theorem dX5_narrowest_25 : decode cX5_narrowest 25 = .ok (.iaload, 1) := by decide +kernel
theorem dX5_narrowest_26 : decode cX5_narrowest 26 = .ok (.iconst 3, 1) := by decide +kernel
theorem dX5_narrowest_27 : decode cX5_narrowest 27 = .ok (.if_icmp .eq 7, 3) := by decide +kernel
theorem dX5_narrowest_30 : decode cX5_narrowest 30 = .ok (.iconst 1, 1) := by decide +kernel
theorem dX5_narrowest_31 : decode cX5_narrowest 31 = .ok (.goto 4, 3) := by decide +kernel
theorem dX5_narrowest_34 : decode cX5_narrowest 34 = .ok (.iconst 0, 1) := by decide +kernel
theorem dX5_narrowest_35 : decode cX5_narrowest 35 = .ok (.istore_n 3, 1) := by decide +kernel
theorem dX5_narrowest_36 : decode cX5_narrowest 36 = .ok (.iload_n 3, 1) := by decide +kernel
theorem dX5_narrowest_37 : decode cX5_narrowest 37 = .ok (.ifCond .eq 27, 3) := by decide +kernel
theorem dX5_narrowest_40 : decode cX5_narrowest 40 = .ok (.iload_n 1, 1) := by decide +kernel
theorem dX5_narrowest_41 : decode cX5_narrowest 41 = .ok (.bipush (-9), 2) := by decide +kernel
theorem dX5_narrowest_43 : decode cX5_narrowest 43 = .ok (.if_icmp .eq 19, 3) := by decide +kernel
theorem dX5_narrowest_46 : decode cX5_narrowest 46 = .ok (.aload_n 0, 1) := by decide +kernel
theorem dX5_narrowest_47 : decode cX5_narrowest 47 = .ok (.iload_n 2, 1) := by decide +kernel
theorem dX5_narrowest_48 : decode cX5_narrowest 48 = .ok (.iload_n 1, 1) := by decide +kernel
theorem dX5_narrowest_49 : decode cX5_narrowest 49 = .ok (.invokevirtual 120, 3) := by decide +kernel
theorem dX5_narrowest_52 : decode cX5_narrowest 52 = .ok (.aload_n 0, 1) := by decide +kernel
theorem dX5_narrowest_53 : decode cX5_narrowest 53 = .ok (.iload_n 1, 1) := by decide +kernel
theorem dX5_narrowest_54 : decode cX5_narrowest 54 = .ok (.iload_n 2, 1) := by decide +kernel
theorem dX5_narrowest_55 : decode cX5_narrowest 55 = .ok (.invokevirtual 120, 3) := by decide +kernel
theorem dX5_narrowest_58 : decode cX5_narrowest 58 = .ok (.lcmp, 1) := by decide +kernel
theorem dX5_narrowest_59 : decode cX5_narrowest 59 = .ok (.ifCond .le 5, 3) := by decide +kernel
theorem dX5_narrowest_62 : decode cX5_narrowest 62 = .ok (.iload_n 2, 1) := by decide +kernel
theorem dX5_narrowest_63 : decode cX5_narrowest 63 = .ok (.istore_n 1, 1) := by decide +kernel
theorem dX5_narrowest_64 : decode cX5_narrowest 64 = .ok (.iinc 2 1, 3) := by decide +kernel
theorem dX5_narrowest_67 : decode cX5_narrowest 67 = .ok (.goto (-62), 3) := by decide +kernel
theorem dX5_narrowest_70 : decode cX5_narrowest 70 = .ok (.iload_n 1, 1) := by decide +kernel
theorem dX5_narrowest_71 : decode cX5_narrowest 71 = .ok (.ireturn, 1) := by decide +kernel
theorem cv_X5_narrowest : wn_cV yX5_narrowest cX5_narrowest 4 (some .int) RX5 0 := ⟨wm_286, wm_291, wm_292, wm_265, by decide +kernel⟩
abbrev rm_X5_narrowest : Room := rmz 1 22
set_option maxHeartbeats 4000000 in
set_option maxRecDepth 100000 in
theorem c_X5_narrowest {ad : Nat → Nat} {o : Nat} {M : Mm} {q : Int32 × Mm} (ho : shp o = 5) (hF : f_X5_narrowest o M = some q) : KI ad yX5_narrowest cX5_narrowest 4 (some .int) rm_X5_narrowest [.ref (ad o)] M q.1 q.2 := by
  refine wn_enterI (own := RX5) (by decide) rfl (Nat.le_of_ble_eq_true rfl) (fun X ls Z hQ hl => ?_)
  have hl : lv_has ls 4 [(0, .ref (ad o))] := hl
  have L5 : ∀ (n5 : Nat) (v1 : Int32) (v2 : Int32) (M : Mm) (ls : Array Slot), lv_has ls 4 [(0, .ref (ad o)), (1, .int v1), (2, .int v2)] → f_X5_narrowest_b5 o n5 v1 v2 M = some q → G ad X M 5 ls [] := by
    intro n5
    induction n5 with
    | zero =>
      intro v1 v2 M ls hl hF
      cases hF
    | succ n5 ih5 =>
      have L35 : ∀ (v1 : Int32) (v2 : Int32) (s0 : Int32) (M : Mm) (ls : Array Slot), lv_has ls 4 [(0, .ref (ad o)), (1, .int v1), (2, .int v2)] → f_X5_narrowest_b35 (f_X5_narrowest_b5 o n5) o v1 v2 s0 M = some q → G ad X M 35 ls [.int s0] := by
        intro v1 v2 s0 M ls hl hF
        unfold f_X5_narrowest_b35 at hF
        refine r_istore_n Z [(3, .int s0), (0, .ref (ad o)), (1, .int v1), (2, .int v2)] dX5_narrowest_35 rfl hl (by decide) rfl (fun ls hl => ?_)
        refine r_iload_n Z dX5_narrowest_36 rfl (lv_at hl 0 rfl) ?_
        refine r_if_eq Z 64 dX5_narrowest_37 (by decide) (fun hc1 => ?_) (fun hc1 => ?_)
        · replace hF := if_some hc1 hF
          obtain ⟨t2, et2, hF⟩ := nm_some hF
          refine r_iinc (j := 3) Z t2 [(2, .int t2), (3, .int s0), (0, .ref (ad o)), (1, .int v1)] dX5_narrowest_64 hl rfl (by rw [et2]; rfl) (by decide) rfl (fun ls hl => ?_)
          refine r_goto Z 5 dX5_narrowest_67 (by decide) ?_
          exact ih5 v1 t2 M ls (lv_sub hl [2, 3, 0] rfl) hF
        · replace hF := nif_some hc1 hF
          refine r_iload_n Z dX5_narrowest_40 rfl (lv_at hl 2 rfl) ?_
          refine r_bipush (v := (-9)) Z dX5_narrowest_41 (by decide) ?_
          refine r_icmp_eq Z 62 dX5_narrowest_43 (by decide) (fun hc3 => ?_) (fun hc3 => ?_)
          · replace hF := if_some hc3 hF
            refine r_iload_n Z dX5_narrowest_62 rfl (lv_at hl 3 rfl) ?_
            refine r_istore_n Z [(1, .int v2), (3, .int s0), (0, .ref (ad o)), (2, .int v2)] dX5_narrowest_63 rfl hl (by decide) rfl (fun ls hl => ?_)
            obtain ⟨t4, et4, hF⟩ := nm_some hF
            refine r_iinc (j := 3) Z t4 [(2, .int t4), (1, .int v2), (3, .int s0), (0, .ref (ad o))] dX5_narrowest_64 hl rfl (by rw [et4]; rfl) (by decide) rfl (fun ls hl => ?_)
            refine r_goto Z 5 dX5_narrowest_67 (by decide) ?_
            exact ih5 v2 t4 M ls (lv_sub hl [3, 1, 0] rfl) hF
          · replace hF := nif_some hc3 hF
            refine r_aload_n Z dX5_narrowest_46 rfl (lv_at hl 1 rfl) ?_
            refine r_iload_n Z dX5_narrowest_47 rfl (lv_at hl 3 rfl) ?_
            refine r_iload_n Z dX5_narrowest_48 rfl (lv_at hl 2 rfl) ?_
            obtain ⟨q5, hq5, hF⟩ := bd_some hF
            refine r_invVl [] Z (c_X5_strain ho hq5) cv_X5_strain rfl (shp_lt ho (by decide)) (fun _ _ => ⟨_, ce_5 ho⟩) wm_287 rfl rfl ⟨Nat.le_of_ble_eq_true rfl, Nat.le_of_ble_eq_true rfl⟩ rfl hl.1 rfl (Nat.le_of_ble_eq_true rfl) dX5_narrowest_49 ?_
            refine r_aload_n Z dX5_narrowest_52 rfl (lv_at hl 1 rfl) ?_
            refine r_iload_n Z dX5_narrowest_53 rfl (lv_at hl 2 rfl) ?_
            refine r_iload_n Z dX5_narrowest_54 rfl (lv_at hl 3 rfl) ?_
            obtain ⟨q6, hq6, hF⟩ := bd_some hF
            refine r_invVl [.long q5.1] Z (c_X5_strain ho hq6) cv_X5_strain rfl (shp_lt ho (by decide)) (fun _ _ => ⟨_, ce_5 ho⟩) wm_287 rfl rfl ⟨Nat.le_of_ble_eq_true rfl, Nat.le_of_ble_eq_true rfl⟩ rfl hl.1 rfl (Nat.le_of_ble_eq_true rfl) dX5_narrowest_55 ?_
            refine r_lcmp Z dX5_narrowest_58 ?_
            refine r_if_le Z 64 dX5_narrowest_59 (by decide) (fun hc7 => ?_) (fun hc7 => ?_)
            · replace hF := if_some hc7 hF
              obtain ⟨t8, et8, hF⟩ := nm_some hF
              refine r_iinc (j := 3) Z t8 [(2, .int t8), (3, .int s0), (0, .ref (ad o)), (1, .int v1)] dX5_narrowest_64 hl rfl (by rw [et8]; rfl) (by decide) rfl (fun ls hl => ?_)
              refine r_goto Z 5 dX5_narrowest_67 (by decide) ?_
              exact ih5 v1 t8 q6.2 ls (lv_sub hl [2, 3, 0] rfl) hF
            · replace hF := nif_some hc7 hF
              refine r_iload_n Z dX5_narrowest_62 rfl (lv_at hl 3 rfl) ?_
              refine r_istore_n Z [(1, .int v2), (3, .int s0), (0, .ref (ad o)), (2, .int v2)] dX5_narrowest_63 rfl hl (by decide) rfl (fun ls hl => ?_)
              obtain ⟨t9, et9, hF⟩ := nm_some hF
              refine r_iinc (j := 3) Z t9 [(2, .int t9), (1, .int v2), (3, .int s0), (0, .ref (ad o))] dX5_narrowest_64 hl rfl (by rw [et9]; rfl) (by decide) rfl (fun ls hl => ?_)
              refine r_goto Z 5 dX5_narrowest_67 (by decide) ?_
              exact ih5 v2 t9 q6.2 ls (lv_sub hl [3, 1, 0] rfl) hF
      have L34 : ∀ (v1 : Int32) (v2 : Int32) (M : Mm) (ls : Array Slot), lv_has ls 4 [(0, .ref (ad o)), (1, .int v1), (2, .int v2)] → f_X5_narrowest_b34 (f_X5_narrowest_b5 o n5) o v1 v2 M = some q → G ad X M 34 ls [] := by
        intro v1 v2 M ls hl hF
        unfold f_X5_narrowest_b34 at hF
        refine r_iconst (v := 0) Z dX5_narrowest_34 (by decide) ?_
        exact L35 v1 v2 0 M ls (lv_sub hl [0, 1, 2] rfl) hF
      intro v1 v2 M ls hl hF
      replace hF : f_X5_narrowest_b5B (f_X5_narrowest_b5 o n5) o v1 v2 M = some q := hF
      unfold f_X5_narrowest_b5B at hF
      refine r_iload_n Z dX5_narrowest_5 rfl (lv_at hl 2 rfl) ?_
      refine r_iconst (v := 4) Z dX5_narrowest_6 (by decide) ?_
      refine r_icmp_ge Z 70 dX5_narrowest_7 (by decide) (fun hc10 => ?_) (fun hc10 => ?_)
      · replace hF := if_some hc10 hF
        refine r_iload_n Z dX5_narrowest_70 rfl (lv_at hl 1 rfl) ?_
        exact r_iret Z hQ hF dX5_narrowest_71
      · replace hF := nif_some hc10 hF
        refine r_aload_n Z dX5_narrowest_10 rfl (lv_at hl 0 rfl) ?_
        refine g_5_1 Z ho wm_237 dX5_narrowest_11 ?_
        refine r_iload_n Z dX5_narrowest_14 rfl (lv_at hl 2 rfl) ?_
        obtain ⟨hi11, hF⟩ := ck_some hF
        refine r_iaload Z (shp_lt (sh_5_1 ho) (by decide)) (fun _ _ => ce_104 (sh_5_1 ho)) hi11 dX5_narrowest_15 ?_
        refine r_iconst (v := (-1)) Z dX5_narrowest_16 (by decide) ?_
        refine r_icmp_eq Z 34 dX5_narrowest_17 (by decide) (fun hc12 => ?_) (fun hc12 => ?_)
        · replace hF := if_some hc12 hF
          exact L34 v1 v2 M ls (lv_sub hl [0, 1, 2] rfl) hF
        · replace hF := nif_some hc12 hF
          refine r_aload_n Z dX5_narrowest_20 rfl (lv_at hl 0 rfl) ?_
          refine g_5_1 Z ho wm_237 dX5_narrowest_21 ?_
          refine r_iload_n Z dX5_narrowest_24 rfl (lv_at hl 2 rfl) ?_
          obtain ⟨hi13, hF⟩ := ck_some hF
          refine r_iaload Z (shp_lt (sh_5_1 ho) (by decide)) (fun _ _ => ce_104 (sh_5_1 ho)) hi13 dX5_narrowest_25 ?_
          refine r_iconst (v := 3) Z dX5_narrowest_26 (by decide) ?_
          refine r_icmp_eq Z 34 dX5_narrowest_27 (by decide) (fun hc14 => ?_) (fun hc14 => ?_)
          · replace hF := if_some hc14 hF
            exact L34 v1 v2 M ls (lv_sub hl [0, 1, 2] rfl) hF
          · replace hF := nif_some hc14 hF
            refine r_iconst (v := 1) Z dX5_narrowest_30 (by decide) ?_
            refine r_goto Z 35 dX5_narrowest_31 (by decide) ?_
            exact L35 v1 v2 1 M ls (lv_sub hl [0, 1, 2] rfl) hF
  unfold f_X5_narrowest at hF
  refine r_bipush (v := (-9)) Z dX5_narrowest_0 (by decide) ?_
  refine r_istore_n Z [(1, .int (-9)), (0, .ref (ad o))] dX5_narrowest_2 rfl hl (by decide) rfl (fun ls hl => ?_)
  refine r_iconst (v := 0) Z dX5_narrowest_3 (by decide) ?_
  refine r_istore_n Z [(2, .int 0), (1, .int (-9)), (0, .ref (ad o))] dX5_narrowest_4 rfl hl (by decide) rfl (fun ls hl => ?_)
  exact L5 _ (-9) 0 M ls (lv_sub hl [2, 1, 0] rfl) hF
theorem dX5_weightOfAll_0 : decode cX5_weightOfAll 0 = .ok (.lconst 0, 1) := by decide +kernel
theorem dX5_weightOfAll_1 : decode cX5_weightOfAll 1 = .ok (.lstore_n 2, 1) := by decide +kernel
theorem dX5_weightOfAll_2 : decode cX5_weightOfAll 2 = .ok (.aload_n 0, 1) := by decide +kernel
theorem dX5_weightOfAll_3 : decode cX5_weightOfAll 3 = .ok (.iload_n 1, 1) := by decide +kernel
theorem dX5_weightOfAll_4 : decode cX5_weightOfAll 4 = .ok (.invokevirtual 92, 3) := by decide +kernel
theorem dX5_weightOfAll_7 : decode cX5_weightOfAll 7 = .ok (.iconst 1, 1) := by decide +kernel
theorem dX5_weightOfAll_8 : decode cX5_weightOfAll 8 = .ok (.istore 4, 2) := by decide +kernel
theorem dX5_weightOfAll_10 : decode cX5_weightOfAll 10 = .ok (.iconst 0, 1) := by decide +kernel
theorem dX5_weightOfAll_11 : decode cX5_weightOfAll 11 = .ok (.istore 5, 2) := by decide +kernel
theorem dX5_weightOfAll_13 : decode cX5_weightOfAll 13 = .ok (.iload 4, 2) := by decide +kernel
theorem dX5_weightOfAll_15 : decode cX5_weightOfAll 15 = .ok (.ifCond .eq 29, 3) := by decide +kernel
theorem dX5_weightOfAll_18 : decode cX5_weightOfAll 18 = .ok (.iload 5, 2) := by decide +kernel
theorem dX5_weightOfAll_20 : decode cX5_weightOfAll 20 = .ok (.bipush 35, 2) := by decide +kernel
theorem dX5_weightOfAll_22 : decode cX5_weightOfAll 22 = .ok (.if_icmp .ge 22, 3) := by decide +kernel
theorem dX5_weightOfAll_25 : decode cX5_weightOfAll 25 = .ok (.lload_n 2, 1) := by decide +kernel
theorem dX5_weightOfAll_26 : decode cX5_weightOfAll 26 = .ok (.aload_n 0, 1) := by decide +kernel
theorem dX5_weightOfAll_27 : decode cX5_weightOfAll 27 = .ok (.invokevirtual 96, 3) := by decide +kernel
theorem dX5_weightOfAll_30 : decode cX5_weightOfAll 30 = .ok (.ladd, 1) := by decide +kernel
theorem dX5_weightOfAll_31 : decode cX5_weightOfAll 31 = .ok (.lstore_n 2, 1) := by decide +kernel
theorem dX5_weightOfAll_32 : decode cX5_weightOfAll 32 = .ok (.aload_n 0, 1) := by decide +kernel
theorem dX5_weightOfAll_33 : decode cX5_weightOfAll 33 = .ok (.invokevirtual 100, 3) := by decide +kernel
theorem dX5_weightOfAll_36 : decode cX5_weightOfAll 36 = .ok (.istore 4, 2) := by decide +kernel
theorem dX5_weightOfAll_38 : decode cX5_weightOfAll 38 = .ok (.iinc 5 1, 3) := by decide +kernel
theorem dX5_weightOfAll_41 : decode cX5_weightOfAll 41 = .ok (.goto (-28), 3) := by decide +kernel
theorem dX5_weightOfAll_44 : decode cX5_weightOfAll 44 = .ok (.lload_n 2, 1) := by decide +kernel
theorem dX5_weightOfAll_45 : decode cX5_weightOfAll 45 = .ok (.lreturn, 1) := by decide +kernel
theorem cv_X5_weightOfAll : wn_cV yX5_weightOfAll cX5_weightOfAll 6 (some .long) RX5 1 := ⟨wm_275, wm_277, wm_278, wm_265, by decide +kernel⟩
abbrev rm_X5_weightOfAll : Room := rmz 3 61
set_option maxHeartbeats 4000000 in
set_option maxRecDepth 100000 in
theorem c_X5_weightOfAll {ad : Nat → Nat} {o : Nat} {x1 : Int32} {M : Mm} {q : Int64 × Mm} (ho : shp o = 5) (hF : f_X5_weightOfAll o x1 M = some q) : KL ad yX5_weightOfAll cX5_weightOfAll 6 (some .long) rm_X5_weightOfAll [.ref (ad o), .int x1] M q.1 q.2 := by
  refine wn_enterL (own := RX5) (by decide) rfl (Nat.le_of_ble_eq_true rfl) (fun X ls Z hQ hl => ?_)
  have hl : lv_has ls 6 [(0, .ref (ad o)), (1, .int x1)] := hl
  have L13 : ∀ (n13 : Nat) (v2 : Int64) (v4 : Int32) (v5 : Int32) (M : Mm) (ls : Array Slot), lv_has ls 6 [(0, .ref (ad o)), (2, .long v2), (4, .int v4), (5, .int v5)] → f_X5_weightOfAll_b13 o n13 v2 v4 v5 M = some q → G ad X M 13 ls [] := by
    intro n13
    induction n13 with
    | zero =>
      intro v2 v4 v5 M ls hl hF
      cases hF
    | succ n13 ih13 =>
      intro v2 v4 v5 M ls hl hF
      replace hF : f_X5_weightOfAll_b13B (f_X5_weightOfAll_b13 o n13) o v2 v4 v5 M = some q := hF
      unfold f_X5_weightOfAll_b13B at hF
      refine r_iload Z dX5_weightOfAll_13 (lv_at hl 2 rfl) ?_
      refine r_if_eq Z 44 dX5_weightOfAll_15 (by decide) (fun hc1 => ?_) (fun hc1 => ?_)
      · replace hF := if_some hc1 hF
        refine r_lload_n Z dX5_weightOfAll_44 rfl (lv_at hl 1 rfl) ?_
        exact r_lret Z hQ hF dX5_weightOfAll_45
      · replace hF := nif_some hc1 hF
        refine r_iload Z dX5_weightOfAll_18 (lv_at hl 3 rfl) ?_
        refine r_bipush (v := 35) Z dX5_weightOfAll_20 (by decide) ?_
        refine r_icmp_ge Z 44 dX5_weightOfAll_22 (by decide) (fun hc2 => ?_) (fun hc2 => ?_)
        · replace hF := if_some hc2 hF
          refine r_lload_n Z dX5_weightOfAll_44 rfl (lv_at hl 1 rfl) ?_
          exact r_lret Z hQ hF dX5_weightOfAll_45
        · replace hF := nif_some hc2 hF
          refine r_lload_n Z dX5_weightOfAll_25 rfl (lv_at hl 1 rfl) ?_
          refine r_aload_n Z dX5_weightOfAll_26 rfl (lv_at hl 0 rfl) ?_
          obtain ⟨q3, hq3, hF⟩ := bd_some hF
          refine r_invVl [.long v2] Z (c_X5_weight ho hq3) cv_X5_weight rfl (shp_lt ho (by decide)) (fun _ _ => ⟨_, ce_5 ho⟩) wm_269 rfl rfl ⟨Nat.le_of_ble_eq_true rfl, Nat.le_of_ble_eq_true rfl⟩ rfl hl.1 rfl (Nat.le_of_ble_eq_true rfl) dX5_weightOfAll_27 ?_
          refine r_ladd Z dX5_weightOfAll_30 ?_
          obtain ⟨t4, et4, hF⟩ := nm_some hF
          rw [← et4]
          refine r_lstore_n Z [(2, .long t4), (0, .ref (ad o)), (4, .int v4), (5, .int v5)] dX5_weightOfAll_31 rfl hl (by decide) rfl (fun ls hl => ?_)
          refine r_aload_n Z dX5_weightOfAll_32 rfl (lv_at hl 1 rfl) ?_
          obtain ⟨q5, hq5, hF⟩ := bd_some hF
          refine r_invVi [] Z (c_X5_nextState ho hq5) cv_X5_nextState rfl (shp_lt ho (by decide)) (fun _ _ => ⟨_, ce_5 ho⟩) wm_272 rfl rfl ⟨Nat.le_of_ble_eq_true rfl, Nat.le_of_ble_eq_true rfl⟩ rfl hl.1 rfl (Nat.le_of_ble_eq_true rfl) dX5_weightOfAll_33 ?_
          refine r_istore Z [(4, .int q5.1), (2, .long t4), (0, .ref (ad o)), (5, .int v5)] dX5_weightOfAll_36 hl (by decide) rfl (fun ls hl => ?_)
          obtain ⟨t6, et6, hF⟩ := nm_some hF
          refine r_iinc (j := 3) Z t6 [(5, .int t6), (4, .int q5.1), (2, .long t4), (0, .ref (ad o))] dX5_weightOfAll_38 hl rfl (by rw [et6]; rfl) (by decide) rfl (fun ls hl => ?_)
          refine r_goto Z 13 dX5_weightOfAll_41 (by decide) ?_
          exact ih13 t4 q5.1 t6 q5.2 ls (lv_sub hl [3, 2, 1, 0] rfl) hF
  unfold f_X5_weightOfAll at hF
  refine r_lconst (v := 0) Z dX5_weightOfAll_0 (by decide) ?_
  refine r_lstore_n Z [(2, .long 0), (0, .ref (ad o)), (1, .int x1)] dX5_weightOfAll_1 rfl hl (by decide) rfl (fun ls hl => ?_)
  refine r_aload_n Z dX5_weightOfAll_2 rfl (lv_at hl 1 rfl) ?_
  refine r_iload_n Z dX5_weightOfAll_3 rfl (lv_at hl 2 rfl) ?_
  obtain ⟨M7, hM7, hF⟩ := bd_some hF
  refine r_invVv [] Z (c_X5_beginStates ho hM7) cv_X5_beginStates rfl (shp_lt ho (by decide)) (fun _ _ => ⟨_, ce_5 ho⟩) wm_266 rfl rfl ⟨Nat.le_of_ble_eq_true rfl, Nat.le_of_ble_eq_true rfl⟩ rfl hl.1 rfl (Nat.le_of_ble_eq_true rfl) dX5_weightOfAll_4 ?_
  refine r_iconst (v := 1) Z dX5_weightOfAll_7 (by decide) ?_
  refine r_istore Z [(4, .int 1), (2, .long 0), (0, .ref (ad o)), (1, .int x1)] dX5_weightOfAll_8 hl (by decide) rfl (fun ls hl => ?_)
  refine r_iconst (v := 0) Z dX5_weightOfAll_10 (by decide) ?_
  refine r_istore Z [(5, .int 0), (4, .int 1), (2, .long 0), (0, .ref (ad o)), (1, .int x1)] dX5_weightOfAll_11 hl (by decide) rfl (fun ls hl => ?_)
  exact L13 _ 0 1 0 M7 ls (lv_sub hl [3, 2, 1, 0] rfl) hF
theorem dX5_tellBest_0 : decode cX5_tellBest 0 = .ok (.bipush (-9), 2) := by decide +kernel
theorem dX5_tellBest_2 : decode cX5_tellBest 2 = .ok (.istore_n 3, 1) := by decide +kernel
theorem dX5_tellBest_3 : decode cX5_tellBest 3 = .ok (.lconst 0, 1) := by decide +kernel
theorem dX5_tellBest_4 : decode cX5_tellBest 4 = .ok (.lstore 4, 2) := by decide +kernel
theorem dX5_tellBest_6 : decode cX5_tellBest 6 = .ok (.lconst 1, 1) := by decide +kernel
theorem dX5_tellBest_7 : decode cX5_tellBest 7 = .ok (.lstore 6, 2) := by decide +kernel
theorem dX5_tellBest_9 : decode cX5_tellBest 9 = .ok (.iconst 0, 1) := by decide +kernel
theorem dX5_tellBest_10 : decode cX5_tellBest 10 = .ok (.istore 8, 2) := by decide +kernel
theorem dX5_tellBest_12 : decode cX5_tellBest 12 = .ok (.iload 8, 2) := by decide +kernel
theorem dX5_tellBest_14 : decode cX5_tellBest 14 = .ok (.iconst 4, 1) := by decide +kernel
theorem dX5_tellBest_15 : decode cX5_tellBest 15 = .ok (.if_icmp .ge 96, 3) := by decide +kernel
theorem dX5_tellBest_18 : decode cX5_tellBest 18 = .ok (.aload_n 0, 1) := by decide +kernel
theorem dX5_tellBest_19 : decode cX5_tellBest 19 = .ok (.getfield 15, 3) := by decide +kernel
theorem dX5_tellBest_22 : decode cX5_tellBest 22 = .ok (.iload 8, 2) := by decide +kernel
theorem dX5_tellBest_24 : decode cX5_tellBest 24 = .ok (.iaload, 1) := by decide +kernel
theorem dX5_tellBest_25 : decode cX5_tellBest 25 = .ok (.ifCond .ne 80, 3) := by decide +kernel
theorem dX5_tellBest_28 : decode cX5_tellBest 28 = .ok (.aload_n 0, 1) := by decide +kernel
theorem dX5_tellBest_29 : decode cX5_tellBest 29 = .ok (.getfield 22, 3) := by decide +kernel
theorem dX5_tellBest_32 : decode cX5_tellBest 32 = .ok (.iload 8, 2) := by decide +kernel
theorem dX5_tellBest_34 : decode cX5_tellBest 34 = .ok (.iaload, 1) := by decide +kernel
theorem dX5_tellBest_35 : decode cX5_tellBest 35 = .ok (.iconst 1, 1) := by decide +kernel
theorem dX5_tellBest_36 : decode cX5_tellBest 36 = .ok (.if_icmp .eq 6, 3) := by decide +kernel
theorem dX5_tellBest_39 : decode cX5_tellBest 39 = .ok (.goto 66, 3) := by decide +kernel
theorem dX5_tellBest_42 : decode cX5_tellBest 42 = .ok (.aload_n 0, 1) := by decide +kernel
theorem dX5_tellBest_43 : decode cX5_tellBest 43 = .ok (.getfield 22, 3) := by decide +kernel
theorem dX5_tellBest_46 : decode cX5_tellBest 46 = .ok (.iload 8, 2) := by decide +kernel
theorem dX5_tellBest_48 : decode cX5_tellBest 48 = .ok (.iconst 2, 1) := by decide +kernel
theorem dX5_tellBest_49 : decode cX5_tellBest 49 = .ok (.iastore, 1) := by decide +kernel
theorem dX5_tellBest_50 : decode cX5_tellBest 50 = .ok (.aload_n 0, 1) := by decide +kernel
theorem dX5_tellBest_51 : decode cX5_tellBest 51 = .ok (.iload_n 1, 1) := by decide +kernel
theorem dX5_tellBest_52 : decode cX5_tellBest 52 = .ok (.iconst 1, 1) := by decide +kernel
theorem dX5_tellBest_53 : decode cX5_tellBest 53 = .ok (.isub, 1) := by decide +kernel
theorem dX5_tellBest_54 : decode cX5_tellBest 54 = .ok (.invokevirtual 104, 3) := by decide +kernel
theorem dX5_tellBest_57 : decode cX5_tellBest 57 = .ok (.lstore 9, 2) := by decide +kernel
theorem dX5_tellBest_59 : decode cX5_tellBest 59 = .ok (.aload_n 0, 1) := by decide +kernel
theorem dX5_tellBest_60 : decode cX5_tellBest 60 = .ok (.iload_n 1, 1) := by decide +kernel
theorem dX5_tellBest_61 : decode cX5_tellBest 61 = .ok (.invokevirtual 104, 3) := by decide +kernel
theorem dX5_tellBest_64 : decode cX5_tellBest 64 = .ok (.lstore 11, 2) := by decide +kernel
theorem dX5_tellBest_66 : decode cX5_tellBest 66 = .ok (.aload_n 0, 1) := by decide +kernel
theorem dX5_tellBest_67 : decode cX5_tellBest 67 = .ok (.getfield 22, 3) := by decide +kernel
theorem dX5_tellBest_70 : decode cX5_tellBest 70 = .ok (.iload 8, 2) := by decide +kernel
theorem dX5_tellBest_72 : decode cX5_tellBest 72 = .ok (.iconst 1, 1) := by decide +kernel
theorem dX5_tellBest_73 : decode cX5_tellBest 73 = .ok (.iastore, 1) := by decide +kernel
theorem dX5_tellBest_74 : decode cX5_tellBest 74 = .ok (.iload_n 3, 1) := by decide +kernel
theorem dX5_tellBest_75 : decode cX5_tellBest 75 = .ok (.bipush (-9), 2) := by decide +kernel
theorem dX5_tellBest_77 : decode cX5_tellBest 77 = .ok (.if_icmp .eq 17, 3) := by decide +kernel
theorem dX5_tellBest_80 : decode cX5_tellBest 80 = .ok (.lload 9, 2) := by decide +kernel
theorem dX5_tellBest_82 : decode cX5_tellBest 82 = .ok (.lload 11, 2) := by decide +kernel
theorem dX5_tellBest_84 : decode cX5_tellBest 84 = .ok (.lload 4, 2) := by decide +kernel
theorem dX5_tellBest_86 : decode cX5_tellBest 86 = .ok (.lload 6, 2) := by decide +kernel
theorem dX5_tellBest_88 : decode cX5_tellBest 88 = .ok (.invokestatic 126, 3) := by decide +kernel
theorem dX5_tellBest_91 : decode cX5_tellBest 91 = .ok (.ifCond .eq 14, 3) := by decide +kernel
theorem dX5_tellBest_94 : decode cX5_tellBest 94 = .ok (.iload 8, 2) := by decide +kernel
theorem dX5_tellBest_96 : decode cX5_tellBest 96 = .ok (.istore_n 3, 1) := by decide +kernel
theorem dX5_tellBest_97 : decode cX5_tellBest 97 = .ok (.lload 9, 2) := by decide +kernel
theorem dX5_tellBest_99 : decode cX5_tellBest 99 = .ok (.lstore 4, 2) := by decide +kernel
theorem dX5_tellBest_101 : decode cX5_tellBest 101 = .ok (.lload 11, 2) := by decide +kernel
theorem dX5_tellBest_103 : decode cX5_tellBest 103 = .ok (.lstore 6, 2) := by decide +kernel
theorem dX5_tellBest_105 : decode cX5_tellBest 105 = .ok (.iinc 8 1, 3) := by decide +kernel
theorem dX5_tellBest_108 : decode cX5_tellBest 108 = .ok (.goto (-96), 3) := by decide +kernel
theorem dX5_tellBest_111 : decode cX5_tellBest 111 = .ok (.iload_n 3, 1) := by decide +kernel
theorem dX5_tellBest_112 : decode cX5_tellBest 112 = .ok (.bipush (-9), 2) := by decide +kernel
theorem dX5_tellBest_114 : decode cX5_tellBest 114 = .ok (.if_icmp .eq 25, 3) := by decide +kernel
theorem dX5_tellBest_117 : decode cX5_tellBest 117 = .ok (.aload_n 2, 1) := by decide +kernel
theorem dX5_tellBest_118 : decode cX5_tellBest 118 = .ok (.ldc2_w 118, 3) := by decide +kernel
theorem dX5_tellBest_121 : decode cX5_tellBest 121 = .ok (.aload_n 0, 1) := by decide +kernel
theorem dX5_tellBest_122 : decode cX5_tellBest 122 = .ok (.getfield 9, 3) := by decide +kernel
theorem dX5_tellBest_125 : decode cX5_tellBest 125 = .ok (.aload_n 0, 1) := by decide +kernel
theorem dX5_tellBest_126 : decode cX5_tellBest 126 = .ok (.invokevirtual 130, 3) := by decide +kernel
theorem dX5_tellBest_129 : decode cX5_tellBest 129 = .ok (.laload, 1) := by decide +kernel
theorem dX5_tellBest_130 : decode cX5_tellBest 130 = .ok (.lmul, 1) := by decide +kernel
theorem dX5_tellBest_131 : decode cX5_tellBest 131 = .ok (.lload 4, 2) := by decide +kernel
theorem dX5_tellBest_133 : decode cX5_tellBest 133 = .ok (.lmul, 1) := by decide +kernel
theorem dX5_tellBest_134 : decode cX5_tellBest 134 = .ok (.lload 6, 2) := by decide +kernel
theorem dX5_tellBest_136 : decode cX5_tellBest 136 = .ok (.invokevirtual 114, 3) := by decide +kernel
theorem dX5_tellBest_139 : decode cX5_tellBest 139 = .ok (.iload_n 3, 1) := by decide +kernel
theorem dX5_tellBest_140 : decode cX5_tellBest 140 = .ok (.ireturn, 1) := by decide +kernel
theorem cv_X5_tellBest : wn_cV yX5_tellBest cX5_tellBest 13 (some .int) RX5 2 := ⟨wm_300, wm_512, wm_513, wm_265, by decide +kernel⟩
abbrev rm_X5_tellBest : Room := rmz 4 86
set_option maxHeartbeats 4000000 in
set_option maxRecDepth 100000 in
theorem c_X5_tellBest {ad : Nat → Nat} {o : Nat} {x1 : Int32} {x2 : Nat} {M : Mm} {q : Int32 × Mm} (ho : shp o = 5) (h2 : shp x2 = 2) (hF : f_X5_tellBest o x1 x2 M = some q) : KI ad yX5_tellBest cX5_tellBest 13 (some .int) rm_X5_tellBest [.ref (ad o), .int x1, .ref (ad x2)] M q.1 q.2 := by
  refine wn_enterI (own := RX5) (by decide) rfl (Nat.le_of_ble_eq_true rfl) (fun X ls Z hQ hl => ?_)
  have hl : lv_has ls 13 [(0, .ref (ad o)), (1, .int x1), (2, .ref (ad x2))] := hl
  have L12 : ∀ (n12 : Nat) (v1 : Int32) (v2 : Nat) (v3 : Int32) (v4 : Int64) (v6 : Int64) (v8 : Int32) (M : Mm) (ls : Array Slot), shp v2 = 2 → lv_has ls 13 [(0, .ref (ad o)), (1, .int v1), (2, .ref (ad v2)), (3, .int v3), (4, .long v4), (6, .long v6), (8, .int v8)] → f_X5_tellBest_b12 o n12 v1 v2 v3 v4 v6 v8 M = some q → G ad X M 12 ls [] := by
    intro n12
    induction n12 with
    | zero =>
      intro v1 v2 v3 v4 v6 v8 M ls hv2 hl hF
      cases hF
    | succ n12 ih12 =>
      have L94 : ∀ (v1 : Int32) (v2 : Nat) (v8 : Int32) (v9 : Int64) (v11 : Int64) (M : Mm) (ls : Array Slot), shp v2 = 2 → lv_has ls 13 [(0, .ref (ad o)), (1, .int v1), (2, .ref (ad v2)), (8, .int v8), (9, .long v9), (11, .long v11)] → f_X5_tellBest_b94 (f_X5_tellBest_b12 o n12) o v1 v2 v8 v9 v11 M = some q → G ad X M 94 ls [] := by
        intro v1 v2 v8 v9 v11 M ls hv2 hl hF
        unfold f_X5_tellBest_b94 at hF
        refine r_iload Z dX5_tellBest_94 (lv_at hl 3 rfl) ?_
        refine r_istore_n Z [(3, .int v8), (0, .ref (ad o)), (1, .int v1), (2, .ref (ad v2)), (8, .int v8), (9, .long v9), (11, .long v11)] dX5_tellBest_96 rfl hl (by decide) rfl (fun ls hl => ?_)
        refine r_lload Z dX5_tellBest_97 (lv_at hl 5 rfl) ?_
        refine r_lstore Z [(4, .long v9), (3, .int v8), (0, .ref (ad o)), (1, .int v1), (2, .ref (ad v2)), (8, .int v8), (9, .long v9), (11, .long v11)] dX5_tellBest_99 hl (by decide) rfl (fun ls hl => ?_)
        refine r_lload Z dX5_tellBest_101 (lv_at hl 7 rfl) ?_
        refine r_lstore Z [(6, .long v11), (4, .long v9), (3, .int v8), (0, .ref (ad o)), (1, .int v1), (2, .ref (ad v2)), (8, .int v8), (9, .long v9), (11, .long v11)] dX5_tellBest_103 hl (by decide) rfl (fun ls hl => ?_)
        obtain ⟨t1, et1, hF⟩ := nm_some hF
        refine r_iinc (j := 6) Z t1 [(8, .int t1), (6, .long v11), (4, .long v9), (3, .int v8), (0, .ref (ad o)), (1, .int v1), (2, .ref (ad v2)), (9, .long v9), (11, .long v11)] dX5_tellBest_105 hl rfl (by rw [et1]; rfl) (by decide) rfl (fun ls hl => ?_)
        refine r_goto Z 12 dX5_tellBest_108 (by decide) ?_
        exact ih12 v1 v2 v8 v9 v11 t1 M ls hv2 (lv_sub hl [4, 5, 6, 3, 2, 1, 0] rfl) hF
      intro v1 v2 v3 v4 v6 v8 M ls hv2 hl hF
      replace hF : f_X5_tellBest_b12B (f_X5_tellBest_b12 o n12) o v1 v2 v3 v4 v6 v8 M = some q := hF
      unfold f_X5_tellBest_b12B at hF
      refine r_iload Z dX5_tellBest_12 (lv_at hl 6 rfl) ?_
      refine r_iconst (v := 4) Z dX5_tellBest_14 (by decide) ?_
      refine r_icmp_ge Z 111 dX5_tellBest_15 (by decide) (fun hc2 => ?_) (fun hc2 => ?_)
      · replace hF := if_some hc2 hF
        refine r_iload_n Z dX5_tellBest_111 rfl (lv_at hl 3 rfl) ?_
        refine r_bipush (v := (-9)) Z dX5_tellBest_112 (by decide) ?_
        refine r_icmp_eq Z 139 dX5_tellBest_114 (by decide) (fun hc3 => ?_) (fun hc3 => ?_)
        · replace hF := if_some hc3 hF
          refine r_iload_n Z dX5_tellBest_139 rfl (lv_at hl 3 rfl) ?_
          exact r_iret Z hQ hF dX5_tellBest_140
        · replace hF := nif_some hc3 hF
          refine r_aload_n Z dX5_tellBest_117 rfl (lv_at hl 2 rfl) ?_
          refine r_ldc2 Z wm_282 dX5_tellBest_118 ?_
          refine r_aload_n Z dX5_tellBest_121 rfl (lv_at hl 0 rfl) ?_
          refine g_5_0 Z ho wm_236 dX5_tellBest_122 ?_
          refine r_aload_n Z dX5_tellBest_125 rfl (lv_at hl 0 rfl) ?_
          obtain ⟨q4, hq4, hF⟩ := bd_some hF
          refine r_invVi [.ref (ad (fld o 0)), .long 12, .ref (ad v2)] Z (c_X5_firstThere ho hq4) cv_X5_firstThere rfl (shp_lt ho (by decide)) (fun _ _ => ⟨_, ce_5 ho⟩) wm_297 rfl rfl ⟨Nat.le_of_ble_eq_true rfl, Nat.le_of_ble_eq_true rfl⟩ rfl hl.1 rfl (Nat.le_of_ble_eq_true rfl) dX5_tellBest_126 ?_
          obtain ⟨hi5, hF⟩ := ck_some hF
          refine r_laload Z (shp_lt (sh_5_0 ho) (by decide)) (fun _ _ => ce_1004 (sh_5_0 ho)) hi5 dX5_tellBest_129 ?_
          refine r_lmul Z dX5_tellBest_130 ?_
          refine r_lload Z dX5_tellBest_131 (lv_at hl 4 rfl) ?_
          refine r_lmul Z dX5_tellBest_133 ?_
          refine r_lload Z dX5_tellBest_134 (lv_at hl 5 rfl) ?_
          obtain ⟨M6, hM6, hF⟩ := bd_some hF
          refine r_invVv [] Z (c_X2_set hv2 hM6) cv_X2_set rfl (shp_lt hv2 (by decide)) (fun _ _ => ⟨_, ce_2 hv2⟩) wm_280 rfl rfl ⟨Nat.le_of_ble_eq_true rfl, Nat.le_of_ble_eq_true rfl⟩ rfl hl.1 rfl (Nat.le_of_ble_eq_true rfl) dX5_tellBest_136 ?_
          refine r_iload_n Z dX5_tellBest_139 rfl (lv_at hl 3 rfl) ?_
          exact r_iret Z hQ hF dX5_tellBest_140
      · replace hF := nif_some hc2 hF
        refine r_aload_n Z dX5_tellBest_18 rfl (lv_at hl 0 rfl) ?_
        refine g_5_1 Z ho wm_237 dX5_tellBest_19 ?_
        refine r_iload Z dX5_tellBest_22 (lv_at hl 6 rfl) ?_
        obtain ⟨hi7, hF⟩ := ck_some hF
        refine r_iaload Z (shp_lt (sh_5_1 ho) (by decide)) (fun _ _ => ce_104 (sh_5_1 ho)) hi7 dX5_tellBest_24 ?_
        refine r_if_ne Z 105 dX5_tellBest_25 (by decide) (fun hc8 => ?_) (fun hc8 => ?_)
        · replace hF := nif_some hc8 hF
          obtain ⟨t9, et9, hF⟩ := nm_some hF
          refine r_iinc (j := 6) Z t9 [(8, .int t9), (0, .ref (ad o)), (1, .int v1), (2, .ref (ad v2)), (3, .int v3), (4, .long v4), (6, .long v6)] dX5_tellBest_105 hl rfl (by rw [et9]; rfl) (by decide) rfl (fun ls hl => ?_)
          refine r_goto Z 12 dX5_tellBest_108 (by decide) ?_
          exact ih12 v1 v2 v3 v4 v6 t9 M ls hv2 (lv_sub hl [1, 2, 3, 4, 5, 6, 0] rfl) hF
        · replace hF := if_some hc8 hF
          refine r_aload_n Z dX5_tellBest_28 rfl (lv_at hl 0 rfl) ?_
          refine g_5_3 Z ho wm_239 dX5_tellBest_29 ?_
          refine r_iload Z dX5_tellBest_32 (lv_at hl 6 rfl) ?_
          obtain ⟨hi10, hF⟩ := ck_some hF
          refine r_iaload Z (shp_lt (sh_5_3 ho) (by decide)) (fun _ _ => ce_104 (sh_5_3 ho)) hi10 dX5_tellBest_34 ?_
          refine r_iconst (v := 1) Z dX5_tellBest_35 (by decide) ?_
          refine r_icmp_eq Z 42 dX5_tellBest_36 (by decide) (fun hc11 => ?_) (fun hc11 => ?_)
          · replace hF := if_some hc11 hF
            refine r_aload_n Z dX5_tellBest_42 rfl (lv_at hl 0 rfl) ?_
            refine g_5_3 Z ho wm_239 dX5_tellBest_43 ?_
            refine r_iload Z dX5_tellBest_46 (lv_at hl 6 rfl) ?_
            refine r_iconst (v := 2) Z dX5_tellBest_48 (by decide) ?_
            obtain ⟨hi12, hF⟩ := ck_some hF
            obtain ⟨M13, eM13, hF⟩ := nm_some hF
            refine r_iastore Z (shp_lt (sh_5_3 ho) (by decide)) (fun _ _ => ce_104 (sh_5_3 ho)) hi12 dX5_tellBest_49 ?_
            rw [← eM13]
            refine r_aload_n Z dX5_tellBest_50 rfl (lv_at hl 0 rfl) ?_
            refine r_iload_n Z dX5_tellBest_51 rfl (lv_at hl 1 rfl) ?_
            refine r_iconst (v := 1) Z dX5_tellBest_52 (by decide) ?_
            refine r_isub Z dX5_tellBest_53 ?_
            obtain ⟨q14, hq14, hF⟩ := bd_some hF
            refine r_invVl [] Z (c_X5_weightOfAll ho hq14) cv_X5_weightOfAll rfl (shp_lt ho (by decide)) (fun _ _ => ⟨_, ce_5 ho⟩) wm_276 rfl rfl ⟨Nat.le_of_ble_eq_true rfl, Nat.le_of_ble_eq_true rfl⟩ rfl hl.1 rfl (Nat.le_of_ble_eq_true rfl) dX5_tellBest_54 ?_
            refine r_lstore Z [(9, .long q14.1), (0, .ref (ad o)), (1, .int v1), (2, .ref (ad v2)), (3, .int v3), (4, .long v4), (6, .long v6), (8, .int v8)] dX5_tellBest_57 hl (by decide) rfl (fun ls hl => ?_)
            refine r_aload_n Z dX5_tellBest_59 rfl (lv_at hl 1 rfl) ?_
            refine r_iload_n Z dX5_tellBest_60 rfl (lv_at hl 2 rfl) ?_
            obtain ⟨q15, hq15, hF⟩ := bd_some hF
            refine r_invVl [] Z (c_X5_weightOfAll ho hq15) cv_X5_weightOfAll rfl (shp_lt ho (by decide)) (fun _ _ => ⟨_, ce_5 ho⟩) wm_276 rfl rfl ⟨Nat.le_of_ble_eq_true rfl, Nat.le_of_ble_eq_true rfl⟩ rfl hl.1 rfl (Nat.le_of_ble_eq_true rfl) dX5_tellBest_61 ?_
            refine r_lstore Z [(11, .long q15.1), (9, .long q14.1), (0, .ref (ad o)), (1, .int v1), (2, .ref (ad v2)), (3, .int v3), (4, .long v4), (6, .long v6), (8, .int v8)] dX5_tellBest_64 hl (by decide) rfl (fun ls hl => ?_)
            refine r_aload_n Z dX5_tellBest_66 rfl (lv_at hl 2 rfl) ?_
            refine g_5_3 Z ho wm_239 dX5_tellBest_67 ?_
            refine r_iload Z dX5_tellBest_70 (lv_at hl 8 rfl) ?_
            refine r_iconst (v := 1) Z dX5_tellBest_72 (by decide) ?_
            obtain ⟨hi16, hF⟩ := ck_some hF
            obtain ⟨M17, eM17, hF⟩ := nm_some hF
            refine r_iastore Z (shp_lt (sh_5_3 ho) (by decide)) (fun _ _ => ce_104 (sh_5_3 ho)) hi16 dX5_tellBest_73 ?_
            rw [← eM17]
            refine r_iload_n Z dX5_tellBest_74 rfl (lv_at hl 5 rfl) ?_
            refine r_bipush (v := (-9)) Z dX5_tellBest_75 (by decide) ?_
            refine r_icmp_eq Z 94 dX5_tellBest_77 (by decide) (fun hc18 => ?_) (fun hc18 => ?_)
            · replace hF := if_some hc18 hF
              exact L94 v1 v2 v8 q14.1 q15.1 M17 ls hv2 (lv_sub hl [2, 3, 4, 8, 1, 0] rfl) hF
            · replace hF := nif_some hc18 hF
              refine r_lload Z dX5_tellBest_80 (lv_at hl 1 rfl) ?_
              refine r_lload Z dX5_tellBest_82 (lv_at hl 0 rfl) ?_
              refine r_lload Z dX5_tellBest_84 (lv_at hl 6 rfl) ?_
              refine r_lload Z dX5_tellBest_86 (lv_at hl 7 rfl) ?_
              obtain ⟨q19, hq19, hF⟩ := bd_some hF
              refine r_invSi [] Z (c_X2_isAbove hq19) cv_X2_isAbove wm_295 rfl rfl ⟨Nat.le_of_ble_eq_true rfl, Nat.le_of_ble_eq_true rfl⟩ rfl hl.1 rfl (Nat.le_of_ble_eq_true rfl) dX5_tellBest_88 ?_
              refine r_if_eq Z 105 dX5_tellBest_91 (by decide) (fun hc20 => ?_) (fun hc20 => ?_)
              · replace hF := if_some hc20 hF
                obtain ⟨t21, et21, hF⟩ := nm_some hF
                refine r_iinc (j := 8) Z t21 [(8, .int t21), (11, .long q15.1), (9, .long q14.1), (0, .ref (ad o)), (1, .int v1), (2, .ref (ad v2)), (3, .int v3), (4, .long v4), (6, .long v6)] dX5_tellBest_105 hl rfl (by rw [et21]; rfl) (by decide) rfl (fun ls hl => ?_)
                refine r_goto Z 12 dX5_tellBest_108 (by decide) ?_
                exact ih12 v1 v2 v3 v4 v6 t21 q19.2 ls hv2 (lv_sub hl [3, 4, 5, 6, 7, 8, 0] rfl) hF
              · replace hF := nif_some hc20 hF
                exact L94 v1 v2 v8 q14.1 q15.1 q19.2 ls hv2 (lv_sub hl [2, 3, 4, 8, 1, 0] rfl) hF
          · replace hF := nif_some hc11 hF
            refine r_goto Z 105 dX5_tellBest_39 (by decide) ?_
            obtain ⟨t22, et22, hF⟩ := nm_some hF
            refine r_iinc (j := 6) Z t22 [(8, .int t22), (0, .ref (ad o)), (1, .int v1), (2, .ref (ad v2)), (3, .int v3), (4, .long v4), (6, .long v6)] dX5_tellBest_105 hl rfl (by rw [et22]; rfl) (by decide) rfl (fun ls hl => ?_)
            refine r_goto Z 12 dX5_tellBest_108 (by decide) ?_
            exact ih12 v1 v2 v3 v4 v6 t22 M ls hv2 (lv_sub hl [1, 2, 3, 4, 5, 6, 0] rfl) hF
  unfold f_X5_tellBest at hF
  refine r_bipush (v := (-9)) Z dX5_tellBest_0 (by decide) ?_
  refine r_istore_n Z [(3, .int (-9)), (0, .ref (ad o)), (1, .int x1), (2, .ref (ad x2))] dX5_tellBest_2 rfl hl (by decide) rfl (fun ls hl => ?_)
  refine r_lconst (v := 0) Z dX5_tellBest_3 (by decide) ?_
  refine r_lstore Z [(4, .long 0), (3, .int (-9)), (0, .ref (ad o)), (1, .int x1), (2, .ref (ad x2))] dX5_tellBest_4 hl (by decide) rfl (fun ls hl => ?_)
  refine r_lconst (v := 1) Z dX5_tellBest_6 (by decide) ?_
  refine r_lstore Z [(6, .long 1), (4, .long 0), (3, .int (-9)), (0, .ref (ad o)), (1, .int x1), (2, .ref (ad x2))] dX5_tellBest_7 hl (by decide) rfl (fun ls hl => ?_)
  refine r_iconst (v := 0) Z dX5_tellBest_9 (by decide) ?_
  refine r_istore Z [(8, .int 0), (6, .long 1), (4, .long 0), (3, .int (-9)), (0, .ref (ad o)), (1, .int x1), (2, .ref (ad x2))] dX5_tellBest_10 hl (by decide) rfl (fun ls hl => ?_)
  exact L12 _ x1 x2 (-9) 0 1 0 M ls h2 (lv_sub hl [4, 5, 6, 3, 2, 1, 0] rfl) hF
theorem dX5_tellBound_0 : decode cX5_tellBound 0 = .ok (.lconst 0, 1) := by decide +kernel
theorem dX5_tellBound_1 : decode cX5_tellBound 1 = .ok (.lstore 4, 2) := by decide +kernel
theorem dX5_tellBound_3 : decode cX5_tellBound 3 = .ok (.iconst 0, 1) := by decide +kernel
theorem dX5_tellBound_4 : decode cX5_tellBound 4 = .ok (.istore 6, 2) := by decide +kernel
theorem dX5_tellBound_6 : decode cX5_tellBound 6 = .ok (.iload 6, 2) := by decide +kernel
theorem dX5_tellBound_8 : decode cX5_tellBound 8 = .ok (.iconst 4, 1) := by decide +kernel
theorem dX5_tellBound_9 : decode cX5_tellBound 9 = .ok (.if_icmp .ge 21, 3) := by decide +kernel
theorem dX5_tellBound_12 : decode cX5_tellBound 12 = .ok (.lload 4, 2) := by decide +kernel
theorem dX5_tellBound_14 : decode cX5_tellBound 14 = .ok (.aload_n 0, 1) := by decide +kernel
theorem dX5_tellBound_15 : decode cX5_tellBound 15 = .ok (.getfield 25, 3) := by decide +kernel
theorem dX5_tellBound_18 : decode cX5_tellBound 18 = .ok (.iload 6, 2) := by decide +kernel
theorem dX5_tellBound_20 : decode cX5_tellBound 20 = .ok (.laload, 1) := by decide +kernel
theorem dX5_tellBound_21 : decode cX5_tellBound 21 = .ok (.ladd, 1) := by decide +kernel
theorem dX5_tellBound_22 : decode cX5_tellBound 22 = .ok (.lstore 4, 2) := by decide +kernel
theorem dX5_tellBound_24 : decode cX5_tellBound 24 = .ok (.iinc 6 1, 3) := by decide +kernel
theorem dX5_tellBound_27 : decode cX5_tellBound 27 = .ok (.goto (-21), 3) := by decide +kernel
theorem dX5_tellBound_30 : decode cX5_tellBound 30 = .ok (.bipush 12, 2) := by decide +kernel
theorem dX5_tellBound_32 : decode cX5_tellBound 32 = .ok (.iload_n 2, 1) := by decide +kernel
theorem dX5_tellBound_33 : decode cX5_tellBound 33 = .ok (.imul, 1) := by decide +kernel
theorem dX5_tellBound_34 : decode cX5_tellBound 34 = .ok (.i2l, 1) := by decide +kernel
theorem dX5_tellBound_35 : decode cX5_tellBound 35 = .ok (.aload_n 0, 1) := by decide +kernel
theorem dX5_tellBound_36 : decode cX5_tellBound 36 = .ok (.getfield 9, 3) := by decide +kernel
theorem dX5_tellBound_39 : decode cX5_tellBound 39 = .ok (.iload_n 1, 1) := by decide +kernel
theorem dX5_tellBound_40 : decode cX5_tellBound 40 = .ok (.laload, 1) := by decide +kernel
theorem dX5_tellBound_41 : decode cX5_tellBound 41 = .ok (.lmul, 1) := by decide +kernel
theorem dX5_tellBound_42 : decode cX5_tellBound 42 = .ok (.lstore 6, 2) := by decide +kernel
theorem dX5_tellBound_44 : decode cX5_tellBound 44 = .ok (.aload_n 0, 1) := by decide +kernel
theorem dX5_tellBound_45 : decode cX5_tellBound 45 = .ok (.invokevirtual 123, 3) := by decide +kernel
theorem dX5_tellBound_48 : decode cX5_tellBound 48 = .ok (.istore 8, 2) := by decide +kernel
theorem dX5_tellBound_50 : decode cX5_tellBound 50 = .ok (.iload 8, 2) := by decide +kernel
theorem dX5_tellBound_52 : decode cX5_tellBound 52 = .ok (.bipush (-9), 2) := by decide +kernel
theorem dX5_tellBound_54 : decode cX5_tellBound 54 = .ok (.if_icmp .ne 12, 3) := by decide +kernel
theorem dX5_tellBound_57 : decode cX5_tellBound 57 = .ok (.aload_n 3, 1) := by decide +kernel
theorem dX5_tellBound_58 : decode cX5_tellBound 58 = .ok (.lload 6, 2) := by decide +kernel
theorem dX5_tellBound_60 : decode cX5_tellBound 60 = .ok (.lload 4, 2) := by decide +kernel
theorem dX5_tellBound_62 : decode cX5_tellBound 62 = .ok (.invokevirtual 114, 3) := by decide +kernel
theorem dX5_tellBound_65 : decode cX5_tellBound 65 = .ok (.return_, 1) := by decide +kernel
theorem dX5_tellBound_66 : decode cX5_tellBound 66 = .ok (.bipush 12, 2) := by decide +kernel
theorem dX5_tellBound_68 : decode cX5_tellBound 68 = .ok (.aload_n 0, 1) := by decide +kernel
theorem dX5_tellBound_69 : decode cX5_tellBound 69 = .ok (.getfield 22, 3) := by decide +kernel
theorem dX5_tellBound_72 : decode cX5_tellBound 72 = .ok (.iload 8, 2) := by decide +kernel
theorem dX5_tellBound_74 : decode cX5_tellBound 74 = .ok (.iaload, 1) := by decide +kernel
theorem dX5_tellBound_75 : decode cX5_tellBound 75 = .ok (.imul, 1) := by decide +kernel
theorem dX5_tellBound_76 : decode cX5_tellBound 76 = .ok (.i2l, 1) := by decide +kernel
theorem dX5_tellBound_77 : decode cX5_tellBound 77 = .ok (.aload_n 0, 1) := by decide +kernel
theorem dX5_tellBound_78 : decode cX5_tellBound 78 = .ok (.getfield 9, 3) := by decide +kernel
theorem dX5_tellBound_81 : decode cX5_tellBound 81 = .ok (.iload_n 1, 1) := by decide +kernel
theorem dX5_tellBound_82 : decode cX5_tellBound 82 = .ok (.laload, 1) := by decide +kernel
theorem dX5_tellBound_83 : decode cX5_tellBound 83 = .ok (.lmul, 1) := by decide +kernel
theorem dX5_tellBound_84 : decode cX5_tellBound 84 = .ok (.lstore 9, 2) := by decide +kernel
theorem dX5_tellBound_86 : decode cX5_tellBound 86 = .ok (.lload 9, 2) := by decide +kernel
theorem dX5_tellBound_88 : decode cX5_tellBound 88 = .ok (.lload 4, 2) := by decide +kernel
theorem dX5_tellBound_90 : decode cX5_tellBound 90 = .ok (.lmul, 1) := by decide +kernel
theorem dX5_tellBound_91 : decode cX5_tellBound 91 = .ok (.lload 6, 2) := by decide +kernel
theorem dX5_tellBound_93 : decode cX5_tellBound 93 = .ok (.aload_n 0, 1) := by decide +kernel
theorem dX5_tellBound_94 : decode cX5_tellBound 94 = .ok (.getfield 25, 3) := by decide +kernel
theorem dX5_tellBound_97 : decode cX5_tellBound 97 = .ok (.iload 8, 2) := by decide +kernel
theorem dX5_tellBound_99 : decode cX5_tellBound 99 = .ok (.laload, 1) := by decide +kernel
theorem dX5_tellBound_100 : decode cX5_tellBound 100 = .ok (.lmul, 1) := by decide +kernel
theorem dX5_tellBound_101 : decode cX5_tellBound 101 = .ok (.lcmp, 1) := by decide +kernel
theorem dX5_tellBound_102 : decode cX5_tellBound 102 = .ok (.ifCond .ge 19, 3) := by decide +kernel
theorem dX5_tellBound_105 : decode cX5_tellBound 105 = .ok (.aload_n 3, 1) := by decide +kernel
theorem dX5_tellBound_106 : decode cX5_tellBound 106 = .ok (.lload 9, 2) := by decide +kernel
theorem dX5_tellBound_108 : decode cX5_tellBound 108 = .ok (.aload_n 0, 1) := by decide +kernel
theorem dX5_tellBound_109 : decode cX5_tellBound 109 = .ok (.getfield 25, 3) := by decide +kernel
theorem dX5_tellBound_112 : decode cX5_tellBound 112 = .ok (.iload 8, 2) := by decide +kernel
theorem dX5_tellBound_114 : decode cX5_tellBound 114 = .ok (.laload, 1) := by decide +kernel
theorem dX5_tellBound_115 : decode cX5_tellBound 115 = .ok (.invokevirtual 114, 3) := by decide +kernel
theorem dX5_tellBound_118 : decode cX5_tellBound 118 = .ok (.goto 11, 3) := by decide +kernel
theorem dX5_tellBound_121 : decode cX5_tellBound 121 = .ok (.aload_n 3, 1) := by decide +kernel
theorem dX5_tellBound_122 : decode cX5_tellBound 122 = .ok (.lload 6, 2) := by decide +kernel
theorem dX5_tellBound_124 : decode cX5_tellBound 124 = .ok (.lload 4, 2) := by decide +kernel
theorem dX5_tellBound_126 : decode cX5_tellBound 126 = .ok (.invokevirtual 114, 3) := by decide +kernel
theorem dX5_tellBound_129 : decode cX5_tellBound 129 = .ok (.return_, 1) := by decide +kernel
theorem cv_X5_tellBound : wn_cV yX5_tellBound cX5_tellBound 11 none RX5 3 := ⟨wm_293, wm_508, wm_509, wm_265, by decide +kernel⟩
abbrev rm_X5_tellBound : Room := rmz 3 71
set_option maxHeartbeats 4000000 in
set_option maxRecDepth 100000 in
theorem c_X5_tellBound {ad : Nat → Nat} {o : Nat} {x1 : Int32} {x2 : Int32} {x3 : Nat} {M : Mm} {q : Mm} (ho : shp o = 5) (h3 : shp x3 = 2) (hF : f_X5_tellBound o x1 x2 x3 M = some q) : KV ad yX5_tellBound cX5_tellBound 11 none rm_X5_tellBound [.ref (ad o), .int x1, .int x2, .ref (ad x3)] M q := by
  refine wn_enterV (own := RX5) (by decide) rfl (Nat.le_of_ble_eq_true rfl) (fun X ls Z hQ hl => ?_)
  have hl : lv_has ls 11 [(0, .ref (ad o)), (1, .int x1), (2, .int x2), (3, .ref (ad x3))] := hl
  have L6 : ∀ (n6 : Nat) (v1 : Int32) (v2 : Int32) (v3 : Nat) (v4 : Int64) (v6 : Int32) (M : Mm) (ls : Array Slot), shp v3 = 2 → lv_has ls 11 [(0, .ref (ad o)), (1, .int v1), (2, .int v2), (3, .ref (ad v3)), (4, .long v4), (6, .int v6)] → f_X5_tellBound_b6 o n6 v1 v2 v3 v4 v6 M = some q → G ad X M 6 ls [] := by
    intro n6
    induction n6 with
    | zero =>
      intro v1 v2 v3 v4 v6 M ls hv3 hl hF
      cases hF
    | succ n6 ih6 =>
      intro v1 v2 v3 v4 v6 M ls hv3 hl hF
      replace hF : f_X5_tellBound_b6B (f_X5_tellBound_b6 o n6) o v1 v2 v3 v4 v6 M = some q := hF
      unfold f_X5_tellBound_b6B at hF
      refine r_iload Z dX5_tellBound_6 (lv_at hl 5 rfl) ?_
      refine r_iconst (v := 4) Z dX5_tellBound_8 (by decide) ?_
      refine r_icmp_ge Z 30 dX5_tellBound_9 (by decide) (fun hc1 => ?_) (fun hc1 => ?_)
      · replace hF := if_some hc1 hF
        refine r_bipush (v := 12) Z dX5_tellBound_30 (by decide) ?_
        refine r_iload_n Z dX5_tellBound_32 rfl (lv_at hl 2 rfl) ?_
        refine r_imul Z dX5_tellBound_33 ?_
        refine r_i2l Z dX5_tellBound_34 ?_
        refine r_aload_n Z dX5_tellBound_35 rfl (lv_at hl 0 rfl) ?_
        refine g_5_0 Z ho wm_236 dX5_tellBound_36 ?_
        refine r_iload_n Z dX5_tellBound_39 rfl (lv_at hl 1 rfl) ?_
        obtain ⟨hi2, hF⟩ := ck_some hF
        refine r_laload Z (shp_lt (sh_5_0 ho) (by decide)) (fun _ _ => ce_1004 (sh_5_0 ho)) hi2 dX5_tellBound_40 ?_
        refine r_lmul Z dX5_tellBound_41 ?_
        obtain ⟨t3, et3, hF⟩ := nm_some hF
        rw [← et3]
        refine r_lstore Z [(6, .long t3), (0, .ref (ad o)), (1, .int v1), (2, .int v2), (3, .ref (ad v3)), (4, .long v4)] dX5_tellBound_42 hl (by decide) rfl (fun ls hl => ?_)
        refine r_aload_n Z dX5_tellBound_44 rfl (lv_at hl 1 rfl) ?_
        obtain ⟨q4, hq4, hF⟩ := bd_some hF
        refine r_invVi [] Z (c_X5_narrowest ho hq4) cv_X5_narrowest rfl (shp_lt ho (by decide)) (fun _ _ => ⟨_, ce_5 ho⟩) wm_290 rfl rfl ⟨Nat.le_of_ble_eq_true rfl, Nat.le_of_ble_eq_true rfl⟩ rfl hl.1 rfl (Nat.le_of_ble_eq_true rfl) dX5_tellBound_45 ?_
        refine r_istore Z [(8, .int q4.1), (6, .long t3), (0, .ref (ad o)), (1, .int v1), (2, .int v2), (3, .ref (ad v3)), (4, .long v4)] dX5_tellBound_48 hl (by decide) rfl (fun ls hl => ?_)
        refine r_iload Z dX5_tellBound_50 (lv_at hl 0 rfl) ?_
        refine r_bipush (v := (-9)) Z dX5_tellBound_52 (by decide) ?_
        refine r_icmp_ne Z 66 dX5_tellBound_54 (by decide) (fun hc5 => ?_) (fun hc5 => ?_)
        · replace hF := nif_some hc5 hF
          refine r_bipush (v := 12) Z dX5_tellBound_66 (by decide) ?_
          refine r_aload_n Z dX5_tellBound_68 rfl (lv_at hl 2 rfl) ?_
          refine g_5_3 Z ho wm_239 dX5_tellBound_69 ?_
          refine r_iload Z dX5_tellBound_72 (lv_at hl 0 rfl) ?_
          obtain ⟨hi6, hF⟩ := ck_some hF
          refine r_iaload Z (shp_lt (sh_5_3 ho) (by decide)) (fun _ _ => ce_104 (sh_5_3 ho)) hi6 dX5_tellBound_74 ?_
          refine r_imul Z dX5_tellBound_75 ?_
          refine r_i2l Z dX5_tellBound_76 ?_
          refine r_aload_n Z dX5_tellBound_77 rfl (lv_at hl 2 rfl) ?_
          refine g_5_0 Z ho wm_236 dX5_tellBound_78 ?_
          refine r_iload_n Z dX5_tellBound_81 rfl (lv_at hl 3 rfl) ?_
          obtain ⟨hi7, hF⟩ := ck_some hF
          refine r_laload Z (shp_lt (sh_5_0 ho) (by decide)) (fun _ _ => ce_1004 (sh_5_0 ho)) hi7 dX5_tellBound_82 ?_
          refine r_lmul Z dX5_tellBound_83 ?_
          obtain ⟨t8, et8, hF⟩ := nm_some hF
          rw [← et8]
          refine r_lstore Z [(9, .long t8), (8, .int q4.1), (6, .long t3), (0, .ref (ad o)), (1, .int v1), (2, .int v2), (3, .ref (ad v3)), (4, .long v4)] dX5_tellBound_84 hl (by decide) rfl (fun ls hl => ?_)
          refine r_lload Z dX5_tellBound_86 (lv_at hl 0 rfl) ?_
          refine r_lload Z dX5_tellBound_88 (lv_at hl 7 rfl) ?_
          refine r_lmul Z dX5_tellBound_90 ?_
          refine r_lload Z dX5_tellBound_91 (lv_at hl 2 rfl) ?_
          refine r_aload_n Z dX5_tellBound_93 rfl (lv_at hl 3 rfl) ?_
          refine g_5_4 Z ho wm_240 dX5_tellBound_94 ?_
          refine r_iload Z dX5_tellBound_97 (lv_at hl 1 rfl) ?_
          obtain ⟨hi9, hF⟩ := ck_some hF
          refine r_laload Z (shp_lt (sh_5_4 ho) (by decide)) (fun _ _ => ce_1004 (sh_5_4 ho)) hi9 dX5_tellBound_99 ?_
          refine r_lmul Z dX5_tellBound_100 ?_
          refine r_lcmp Z dX5_tellBound_101 ?_
          refine r_if_ge Z 121 dX5_tellBound_102 (by decide) (fun hc10 => ?_) (fun hc10 => ?_)
          · replace hF := if_some hc10 hF
            refine r_aload_n Z dX5_tellBound_121 rfl (lv_at hl 6 rfl) ?_
            refine r_lload Z dX5_tellBound_122 (lv_at hl 2 rfl) ?_
            refine r_lload Z dX5_tellBound_124 (lv_at hl 7 rfl) ?_
            obtain ⟨M11, hM11, hF⟩ := bd_some hF
            refine r_invVv [] Z (c_X2_set hv3 hM11) cv_X2_set rfl (shp_lt hv3 (by decide)) (fun _ _ => ⟨_, ce_2 hv3⟩) wm_280 rfl rfl ⟨Nat.le_of_ble_eq_true rfl, Nat.le_of_ble_eq_true rfl⟩ rfl hl.1 rfl (Nat.le_of_ble_eq_true rfl) dX5_tellBound_126 ?_
            exact r_vret Z hQ hF dX5_tellBound_129
          · replace hF := nif_some hc10 hF
            refine r_aload_n Z dX5_tellBound_105 rfl (lv_at hl 6 rfl) ?_
            refine r_lload Z dX5_tellBound_106 (lv_at hl 0 rfl) ?_
            refine r_aload_n Z dX5_tellBound_108 rfl (lv_at hl 3 rfl) ?_
            refine g_5_4 Z ho wm_240 dX5_tellBound_109 ?_
            refine r_iload Z dX5_tellBound_112 (lv_at hl 1 rfl) ?_
            obtain ⟨hi12, hF⟩ := ck_some hF
            refine r_laload Z (shp_lt (sh_5_4 ho) (by decide)) (fun _ _ => ce_1004 (sh_5_4 ho)) hi12 dX5_tellBound_114 ?_
            obtain ⟨M13, hM13, hF⟩ := bd_some hF
            refine r_invVv [] Z (c_X2_set hv3 hM13) cv_X2_set rfl (shp_lt hv3 (by decide)) (fun _ _ => ⟨_, ce_2 hv3⟩) wm_280 rfl rfl ⟨Nat.le_of_ble_eq_true rfl, Nat.le_of_ble_eq_true rfl⟩ rfl hl.1 rfl (Nat.le_of_ble_eq_true rfl) dX5_tellBound_115 ?_
            refine r_goto Z 129 dX5_tellBound_118 (by decide) ?_
            exact r_vret Z hQ hF dX5_tellBound_129
        · replace hF := if_some hc5 hF
          refine r_aload_n Z dX5_tellBound_57 rfl (lv_at hl 5 rfl) ?_
          refine r_lload Z dX5_tellBound_58 (lv_at hl 1 rfl) ?_
          refine r_lload Z dX5_tellBound_60 (lv_at hl 6 rfl) ?_
          obtain ⟨M14, hM14, hF⟩ := bd_some hF
          refine r_invVv [] Z (c_X2_set hv3 hM14) cv_X2_set rfl (shp_lt hv3 (by decide)) (fun _ _ => ⟨_, ce_2 hv3⟩) wm_280 rfl rfl ⟨Nat.le_of_ble_eq_true rfl, Nat.le_of_ble_eq_true rfl⟩ rfl hl.1 rfl (Nat.le_of_ble_eq_true rfl) dX5_tellBound_62 ?_
          exact r_vret Z hQ hF dX5_tellBound_65
      · replace hF := nif_some hc1 hF
        refine r_lload Z dX5_tellBound_12 (lv_at hl 4 rfl) ?_
        refine r_aload_n Z dX5_tellBound_14 rfl (lv_at hl 0 rfl) ?_
        refine g_5_4 Z ho wm_240 dX5_tellBound_15 ?_
        refine r_iload Z dX5_tellBound_18 (lv_at hl 5 rfl) ?_
        obtain ⟨hi15, hF⟩ := ck_some hF
        refine r_laload Z (shp_lt (sh_5_4 ho) (by decide)) (fun _ _ => ce_1004 (sh_5_4 ho)) hi15 dX5_tellBound_20 ?_
        refine r_ladd Z dX5_tellBound_21 ?_
        obtain ⟨t16, et16, hF⟩ := nm_some hF
        rw [← et16]
        refine r_lstore Z [(4, .long t16), (0, .ref (ad o)), (1, .int v1), (2, .int v2), (3, .ref (ad v3)), (6, .int v6)] dX5_tellBound_22 hl (by decide) rfl (fun ls hl => ?_)
        obtain ⟨t17, et17, hF⟩ := nm_some hF
        refine r_iinc (j := 5) Z t17 [(6, .int t17), (4, .long t16), (0, .ref (ad o)), (1, .int v1), (2, .int v2), (3, .ref (ad v3))] dX5_tellBound_24 hl rfl (by rw [et17]; rfl) (by decide) rfl (fun ls hl => ?_)
        refine r_goto Z 6 dX5_tellBound_27 (by decide) ?_
        exact ih6 v1 v2 v3 t16 t17 M ls hv3 (lv_sub hl [2, 3, 4, 5, 1, 0] rfl) hF
  unfold f_X5_tellBound at hF
  refine r_lconst (v := 0) Z dX5_tellBound_0 (by decide) ?_
  refine r_lstore Z [(4, .long 0), (0, .ref (ad o)), (1, .int x1), (2, .int x2), (3, .ref (ad x3))] dX5_tellBound_1 hl (by decide) rfl (fun ls hl => ?_)
  refine r_iconst (v := 0) Z dX5_tellBound_3 (by decide) ?_
  refine r_istore Z [(6, .int 0), (4, .long 0), (0, .ref (ad o)), (1, .int x1), (2, .int x2), (3, .ref (ad x3))] dX5_tellBound_4 hl (by decide) rfl (fun ls hl => ?_)
  exact L6 _ x1 x2 x3 0 0 M ls h3 (lv_sub hl [2, 3, 4, 5, 1, 0] rfl) hF
theorem dX5_tellChance_0 : decode cX5_tellChance 0 = .ok (.aload_n 0, 1) := by decide +kernel
theorem dX5_tellChance_1 : decode cX5_tellChance 1 = .ok (.iload_n 2, 1) := by decide +kernel
theorem dX5_tellChance_2 : decode cX5_tellChance 2 = .ok (.invokevirtual 104, 3) := by decide +kernel
theorem dX5_tellChance_5 : decode cX5_tellChance 5 = .ok (.lstore 4, 2) := by decide +kernel
theorem dX5_tellChance_7 : decode cX5_tellChance 7 = .ok (.iconst 0, 1) := by decide +kernel
theorem dX5_tellChance_8 : decode cX5_tellChance 8 = .ok (.istore 6, 2) := by decide +kernel
theorem dX5_tellChance_10 : decode cX5_tellChance 10 = .ok (.iload 6, 2) := by decide +kernel
theorem dX5_tellChance_12 : decode cX5_tellChance 12 = .ok (.iconst 4, 1) := by decide +kernel
theorem dX5_tellChance_13 : decode cX5_tellChance 13 = .ok (.if_icmp .ge 22, 3) := by decide +kernel
theorem dX5_tellChance_16 : decode cX5_tellChance 16 = .ok (.aload_n 0, 1) := by decide +kernel
theorem dX5_tellChance_17 : decode cX5_tellChance 17 = .ok (.getfield 33, 3) := by decide +kernel
theorem dX5_tellChance_20 : decode cX5_tellChance 20 = .ok (.iload 6, 2) := by decide +kernel
theorem dX5_tellChance_22 : decode cX5_tellChance 22 = .ok (.aload_n 1, 1) := by decide +kernel
theorem dX5_tellChance_23 : decode cX5_tellChance 23 = .ok (.iload 6, 2) := by decide +kernel
theorem dX5_tellChance_25 : decode cX5_tellChance 25 = .ok (.invokevirtual 108, 3) := by decide +kernel
theorem dX5_tellChance_28 : decode cX5_tellChance 28 = .ok (.iastore, 1) := by decide +kernel
theorem dX5_tellChance_29 : decode cX5_tellChance 29 = .ok (.iinc 6 1, 3) := by decide +kernel
theorem dX5_tellChance_32 : decode cX5_tellChance 32 = .ok (.goto (-22), 3) := by decide +kernel
theorem dX5_tellChance_35 : decode cX5_tellChance 35 = .ok (.aload_n 3, 1) := by decide +kernel
theorem dX5_tellChance_36 : decode cX5_tellChance 36 = .ok (.aload_n 0, 1) := by decide +kernel
theorem dX5_tellChance_37 : decode cX5_tellChance 37 = .ok (.invokevirtual 96, 3) := by decide +kernel
theorem dX5_tellChance_40 : decode cX5_tellChance 40 = .ok (.lload 4, 2) := by decide +kernel
theorem dX5_tellChance_42 : decode cX5_tellChance 42 = .ok (.invokevirtual 114, 3) := by decide +kernel
theorem dX5_tellChance_45 : decode cX5_tellChance 45 = .ok (.return_, 1) := by decide +kernel
theorem cv_X5_tellChance : wn_cV yX5_tellChance cX5_tellChance 7 none RX5 3 := ⟨wm_281, wm_493, wm_494, wm_265, by decide +kernel⟩
abbrev rm_X5_tellChance : Room := rmz 4 86
set_option maxHeartbeats 4000000 in
set_option maxRecDepth 100000 in
theorem c_X5_tellChance {ad : Nat → Nat} {o : Nat} {x1 : Nat} {x2 : Int32} {x3 : Nat} {M : Mm} {q : Mm} (ho : shp o = 5) (h1 : shp x1 = 6) (h3 : shp x3 = 2) (hF : f_X5_tellChance o x1 x2 x3 M = some q) : KV ad yX5_tellChance cX5_tellChance 7 none rm_X5_tellChance [.ref (ad o), .ref (ad x1), .int x2, .ref (ad x3)] M q := by
  refine wn_enterV (own := RX5) (by decide) rfl (Nat.le_of_ble_eq_true rfl) (fun X ls Z hQ hl => ?_)
  have hl : lv_has ls 7 [(0, .ref (ad o)), (1, .ref (ad x1)), (2, .int x2), (3, .ref (ad x3))] := hl
  have L10 : ∀ (n10 : Nat) (v1 : Nat) (v3 : Nat) (v4 : Int64) (v6 : Int32) (M : Mm) (ls : Array Slot), shp v1 = 6 → shp v3 = 2 → lv_has ls 7 [(0, .ref (ad o)), (1, .ref (ad v1)), (3, .ref (ad v3)), (4, .long v4), (6, .int v6)] → f_X5_tellChance_b10 o n10 v1 v3 v4 v6 M = some q → G ad X M 10 ls [] := by
    intro n10
    induction n10 with
    | zero =>
      intro v1 v3 v4 v6 M ls hv1 hv3 hl hF
      cases hF
    | succ n10 ih10 =>
      intro v1 v3 v4 v6 M ls hv1 hv3 hl hF
      replace hF : f_X5_tellChance_b10B (f_X5_tellChance_b10 o n10) o v1 v3 v4 v6 M = some q := hF
      unfold f_X5_tellChance_b10B at hF
      refine r_iload Z dX5_tellChance_10 (lv_at hl 4 rfl) ?_
      refine r_iconst (v := 4) Z dX5_tellChance_12 (by decide) ?_
      refine r_icmp_ge Z 35 dX5_tellChance_13 (by decide) (fun hc1 => ?_) (fun hc1 => ?_)
      · replace hF := if_some hc1 hF
        refine r_aload_n Z dX5_tellChance_35 rfl (lv_at hl 2 rfl) ?_
        refine r_aload_n Z dX5_tellChance_36 rfl (lv_at hl 0 rfl) ?_
        obtain ⟨q2, hq2, hF⟩ := bd_some hF
        refine r_invVl [.ref (ad v3)] Z (c_X5_weight ho hq2) cv_X5_weight rfl (shp_lt ho (by decide)) (fun _ _ => ⟨_, ce_5 ho⟩) wm_269 rfl rfl ⟨Nat.le_of_ble_eq_true rfl, Nat.le_of_ble_eq_true rfl⟩ rfl hl.1 rfl (Nat.le_of_ble_eq_true rfl) dX5_tellChance_37 ?_
        refine r_lload Z dX5_tellChance_40 (lv_at hl 3 rfl) ?_
        obtain ⟨M3, hM3, hF⟩ := bd_some hF
        refine r_invVv [] Z (c_X2_set hv3 hM3) cv_X2_set rfl (shp_lt hv3 (by decide)) (fun _ _ => ⟨_, ce_2 hv3⟩) wm_280 rfl rfl ⟨Nat.le_of_ble_eq_true rfl, Nat.le_of_ble_eq_true rfl⟩ rfl hl.1 rfl (Nat.le_of_ble_eq_true rfl) dX5_tellChance_42 ?_
        exact r_vret Z hQ hF dX5_tellChance_45
      · replace hF := nif_some hc1 hF
        refine r_aload_n Z dX5_tellChance_16 rfl (lv_at hl 0 rfl) ?_
        refine g_5_6 Z ho wm_243 dX5_tellChance_17 ?_
        refine r_iload Z dX5_tellChance_20 (lv_at hl 4 rfl) ?_
        refine r_aload_n Z dX5_tellChance_22 rfl (lv_at hl 1 rfl) ?_
        refine r_iload Z dX5_tellChance_23 (lv_at hl 4 rfl) ?_
        obtain ⟨q4, hq4, hF⟩ := bd_some hF
        refine r_invVi [.int v6, .ref (ad (fld o 6))] Z (c_X6_at hv1 hq4) cv_X6_at rfl (shp_lt hv1 (by decide)) (fun _ _ => ⟨_, ce_6 hv1⟩) wm_279 rfl rfl ⟨Nat.le_of_ble_eq_true rfl, Nat.le_of_ble_eq_true rfl⟩ rfl hl.1 rfl (Nat.le_of_ble_eq_true rfl) dX5_tellChance_25 ?_
        obtain ⟨hi5, hF⟩ := ck_some hF
        obtain ⟨M6, eM6, hF⟩ := nm_some hF
        refine r_iastore Z (shp_lt (sh_5_6 ho) (by decide)) (fun _ _ => ce_104 (sh_5_6 ho)) hi5 dX5_tellChance_28 ?_
        rw [← eM6]
        obtain ⟨t7, et7, hF⟩ := nm_some hF
        refine r_iinc (j := 4) Z t7 [(6, .int t7), (0, .ref (ad o)), (1, .ref (ad v1)), (3, .ref (ad v3)), (4, .long v4)] dX5_tellChance_29 hl rfl (by rw [et7]; rfl) (by decide) rfl (fun ls hl => ?_)
        refine r_goto Z 10 dX5_tellChance_32 (by decide) ?_
        exact ih10 v1 v3 v4 t7 M6 ls hv1 hv3 (lv_sub hl [1, 2, 3, 4, 0] rfl) hF
  unfold f_X5_tellChance at hF
  refine r_aload_n Z dX5_tellChance_0 rfl (lv_at hl 0 rfl) ?_
  refine r_iload_n Z dX5_tellChance_1 rfl (lv_at hl 2 rfl) ?_
  obtain ⟨q8, hq8, hF⟩ := bd_some hF
  refine r_invVl [] Z (c_X5_weightOfAll ho hq8) cv_X5_weightOfAll rfl (shp_lt ho (by decide)) (fun _ _ => ⟨_, ce_5 ho⟩) wm_276 rfl rfl ⟨Nat.le_of_ble_eq_true rfl, Nat.le_of_ble_eq_true rfl⟩ rfl hl.1 rfl (Nat.le_of_ble_eq_true rfl) dX5_tellChance_2 ?_
  refine r_lstore Z [(4, .long q8.1), (0, .ref (ad o)), (1, .ref (ad x1)), (2, .int x2), (3, .ref (ad x3))] dX5_tellChance_5 hl (by decide) rfl (fun ls hl => ?_)
  refine r_iconst (v := 0) Z dX5_tellChance_7 (by decide) ?_
  refine r_istore Z [(6, .int 0), (4, .long q8.1), (0, .ref (ad o)), (1, .ref (ad x1)), (2, .int x2), (3, .ref (ad x3))] dX5_tellChance_8 hl (by decide) rfl (fun ls hl => ?_)
  exact L10 _ x1 x3 q8.1 0 q8.2 ls h1 h3 (lv_sub hl [2, 3, 5, 1, 0] rfl) hF
theorem dX5_tellMeanOf_0 : decode cX5_tellMeanOf 0 = .ok (.lconst 0, 1) := by decide +kernel
theorem dX5_tellMeanOf_1 : decode cX5_tellMeanOf 1 = .ok (.lstore 4, 2) := by decide +kernel
theorem dX5_tellMeanOf_3 : decode cX5_tellMeanOf 3 = .ok (.lconst 0, 1) := by decide +kernel
theorem dX5_tellMeanOf_4 : decode cX5_tellMeanOf 4 = .ok (.lstore 6, 2) := by decide +kernel
theorem dX5_tellMeanOf_6 : decode cX5_tellMeanOf 6 = .ok (.aload_n 0, 1) := by decide +kernel
theorem dX5_tellMeanOf_7 : decode cX5_tellMeanOf 7 = .ok (.iload_n 2, 1) := by decide +kernel
theorem dX5_tellMeanOf_8 : decode cX5_tellMeanOf 8 = .ok (.invokevirtual 92, 3) := by decide +kernel
theorem dX5_tellMeanOf_11 : decode cX5_tellMeanOf 11 = .ok (.iconst 1, 1) := by decide +kernel
theorem dX5_tellMeanOf_12 : decode cX5_tellMeanOf 12 = .ok (.istore 8, 2) := by decide +kernel
theorem dX5_tellMeanOf_14 : decode cX5_tellMeanOf 14 = .ok (.iconst 0, 1) := by decide +kernel
theorem dX5_tellMeanOf_15 : decode cX5_tellMeanOf 15 = .ok (.istore 9, 2) := by decide +kernel
theorem dX5_tellMeanOf_17 : decode cX5_tellMeanOf 17 = .ok (.iload 8, 2) := by decide +kernel
theorem dX5_tellMeanOf_19 : decode cX5_tellMeanOf 19 = .ok (.ifCond .eq 50, 3) := by decide +kernel
theorem dX5_tellMeanOf_22 : decode cX5_tellMeanOf 22 = .ok (.iload 9, 2) := by decide +kernel
theorem dX5_tellMeanOf_24 : decode cX5_tellMeanOf 24 = .ok (.bipush 35, 2) := by decide +kernel
theorem dX5_tellMeanOf_26 : decode cX5_tellMeanOf 26 = .ok (.if_icmp .ge 43, 3) := by decide +kernel
theorem dX5_tellMeanOf_29 : decode cX5_tellMeanOf 29 = .ok (.aload_n 0, 1) := by decide +kernel
theorem dX5_tellMeanOf_30 : decode cX5_tellMeanOf 30 = .ok (.invokevirtual 96, 3) := by decide +kernel
theorem dX5_tellMeanOf_33 : decode cX5_tellMeanOf 33 = .ok (.lstore 10, 2) := by decide +kernel
theorem dX5_tellMeanOf_35 : decode cX5_tellMeanOf 35 = .ok (.lload 4, 2) := by decide +kernel
theorem dX5_tellMeanOf_37 : decode cX5_tellMeanOf 37 = .ok (.lload 10, 2) := by decide +kernel
theorem dX5_tellMeanOf_39 : decode cX5_tellMeanOf 39 = .ok (.ladd, 1) := by decide +kernel
theorem dX5_tellMeanOf_40 : decode cX5_tellMeanOf 40 = .ok (.lstore 4, 2) := by decide +kernel
theorem dX5_tellMeanOf_42 : decode cX5_tellMeanOf 42 = .ok (.lload 6, 2) := by decide +kernel
theorem dX5_tellMeanOf_44 : decode cX5_tellMeanOf 44 = .ok (.lload 10, 2) := by decide +kernel
theorem dX5_tellMeanOf_46 : decode cX5_tellMeanOf 46 = .ok (.aload_n 0, 1) := by decide +kernel
theorem dX5_tellMeanOf_47 : decode cX5_tellMeanOf 47 = .ok (.getfield 33, 3) := by decide +kernel
theorem dX5_tellMeanOf_50 : decode cX5_tellMeanOf 50 = .ok (.iload_n 1, 1) := by decide +kernel
theorem dX5_tellMeanOf_51 : decode cX5_tellMeanOf 51 = .ok (.iaload, 1) := by decide +kernel
theorem dX5_tellMeanOf_52 : decode cX5_tellMeanOf 52 = .ok (.i2l, 1) := by decide +kernel
theorem dX5_tellMeanOf_53 : decode cX5_tellMeanOf 53 = .ok (.lmul, 1) := by decide +kernel
theorem dX5_tellMeanOf_54 : decode cX5_tellMeanOf 54 = .ok (.ladd, 1) := by decide +kernel
theorem dX5_tellMeanOf_55 : decode cX5_tellMeanOf 55 = .ok (.lstore 6, 2) := by decide +kernel
theorem dX5_tellMeanOf_57 : decode cX5_tellMeanOf 57 = .ok (.aload_n 0, 1) := by decide +kernel
theorem dX5_tellMeanOf_58 : decode cX5_tellMeanOf 58 = .ok (.invokevirtual 100, 3) := by decide +kernel
theorem dX5_tellMeanOf_61 : decode cX5_tellMeanOf 61 = .ok (.istore 8, 2) := by decide +kernel
theorem dX5_tellMeanOf_63 : decode cX5_tellMeanOf 63 = .ok (.iinc 9 1, 3) := by decide +kernel
theorem dX5_tellMeanOf_66 : decode cX5_tellMeanOf 66 = .ok (.goto (-49), 3) := by decide +kernel
theorem dX5_tellMeanOf_69 : decode cX5_tellMeanOf 69 = .ok (.aload_n 3, 1) := by decide +kernel
theorem dX5_tellMeanOf_70 : decode cX5_tellMeanOf 70 = .ok (.lload 6, 2) := by decide +kernel
theorem dX5_tellMeanOf_72 : decode cX5_tellMeanOf 72 = .ok (.lload 4, 2) := by decide +kernel
theorem dX5_tellMeanOf_74 : decode cX5_tellMeanOf 74 = .ok (.invokevirtual 114, 3) := by decide +kernel
theorem dX5_tellMeanOf_77 : decode cX5_tellMeanOf 77 = .ok (.return_, 1) := by decide +kernel
theorem cv_X5_tellMeanOf : wn_cV yX5_tellMeanOf cX5_tellMeanOf 12 none RX5 3 := ⟨wm_284, wm_501, wm_502, wm_265, by decide +kernel⟩
abbrev rm_X5_tellMeanOf : Room := rmz 3 71
set_option maxHeartbeats 4000000 in
set_option maxRecDepth 100000 in
theorem c_X5_tellMeanOf {ad : Nat → Nat} {o : Nat} {x1 : Int32} {x2 : Int32} {x3 : Nat} {M : Mm} {q : Mm} (ho : shp o = 5) (h3 : shp x3 = 2) (hF : f_X5_tellMeanOf o x1 x2 x3 M = some q) : KV ad yX5_tellMeanOf cX5_tellMeanOf 12 none rm_X5_tellMeanOf [.ref (ad o), .int x1, .int x2, .ref (ad x3)] M q := by
  refine wn_enterV (own := RX5) (by decide) rfl (Nat.le_of_ble_eq_true rfl) (fun X ls Z hQ hl => ?_)
  have hl : lv_has ls 12 [(0, .ref (ad o)), (1, .int x1), (2, .int x2), (3, .ref (ad x3))] := hl
  have L69 : ∀ (v3 : Nat) (v4 : Int64) (v6 : Int64) (M : Mm) (ls : Array Slot), shp v3 = 2 → lv_has ls 12 [(3, .ref (ad v3)), (4, .long v4), (6, .long v6)] → f_X5_tellMeanOf_b69 o v3 v4 v6 M = some q → G ad X M 69 ls [] := by
    intro v3 v4 v6 M ls hv3 hl hF
    unfold f_X5_tellMeanOf_b69 at hF
    refine r_aload_n Z dX5_tellMeanOf_69 rfl (lv_at hl 0 rfl) ?_
    refine r_lload Z dX5_tellMeanOf_70 (lv_at hl 2 rfl) ?_
    refine r_lload Z dX5_tellMeanOf_72 (lv_at hl 1 rfl) ?_
    obtain ⟨M1, hM1, hF⟩ := bd_some hF
    refine r_invVv [] Z (c_X2_set hv3 hM1) cv_X2_set rfl (shp_lt hv3 (by decide)) (fun _ _ => ⟨_, ce_2 hv3⟩) wm_280 rfl rfl ⟨Nat.le_of_ble_eq_true rfl, Nat.le_of_ble_eq_true rfl⟩ rfl hl.1 rfl (Nat.le_of_ble_eq_true rfl) dX5_tellMeanOf_74 ?_
    exact r_vret Z hQ hF dX5_tellMeanOf_77
  have L17 : ∀ (n17 : Nat) (v1 : Int32) (v3 : Nat) (v4 : Int64) (v6 : Int64) (v8 : Int32) (v9 : Int32) (M : Mm) (ls : Array Slot), shp v3 = 2 → lv_has ls 12 [(0, .ref (ad o)), (1, .int v1), (3, .ref (ad v3)), (4, .long v4), (6, .long v6), (8, .int v8), (9, .int v9)] → f_X5_tellMeanOf_b17 o n17 v1 v3 v4 v6 v8 v9 M = some q → G ad X M 17 ls [] := by
    intro n17
    induction n17 with
    | zero =>
      intro v1 v3 v4 v6 v8 v9 M ls hv3 hl hF
      cases hF
    | succ n17 ih17 =>
      intro v1 v3 v4 v6 v8 v9 M ls hv3 hl hF
      replace hF : f_X5_tellMeanOf_b17B (f_X5_tellMeanOf_b17 o n17) o v1 v3 v4 v6 v8 v9 M = some q := hF
      unfold f_X5_tellMeanOf_b17B at hF
      refine r_iload Z dX5_tellMeanOf_17 (lv_at hl 5 rfl) ?_
      refine r_if_eq Z 69 dX5_tellMeanOf_19 (by decide) (fun hc2 => ?_) (fun hc2 => ?_)
      · replace hF := if_some hc2 hF
        exact L69 v3 v4 v6 M ls hv3 (lv_sub hl [2, 3, 4] rfl) hF
      · replace hF := nif_some hc2 hF
        refine r_iload Z dX5_tellMeanOf_22 (lv_at hl 6 rfl) ?_
        refine r_bipush (v := 35) Z dX5_tellMeanOf_24 (by decide) ?_
        refine r_icmp_ge Z 69 dX5_tellMeanOf_26 (by decide) (fun hc3 => ?_) (fun hc3 => ?_)
        · replace hF := if_some hc3 hF
          exact L69 v3 v4 v6 M ls hv3 (lv_sub hl [2, 3, 4] rfl) hF
        · replace hF := nif_some hc3 hF
          refine r_aload_n Z dX5_tellMeanOf_29 rfl (lv_at hl 0 rfl) ?_
          obtain ⟨q4, hq4, hF⟩ := bd_some hF
          refine r_invVl [] Z (c_X5_weight ho hq4) cv_X5_weight rfl (shp_lt ho (by decide)) (fun _ _ => ⟨_, ce_5 ho⟩) wm_269 rfl rfl ⟨Nat.le_of_ble_eq_true rfl, Nat.le_of_ble_eq_true rfl⟩ rfl hl.1 rfl (Nat.le_of_ble_eq_true rfl) dX5_tellMeanOf_30 ?_
          refine r_lstore Z [(10, .long q4.1), (0, .ref (ad o)), (1, .int v1), (3, .ref (ad v3)), (4, .long v4), (6, .long v6), (8, .int v8), (9, .int v9)] dX5_tellMeanOf_33 hl (by decide) rfl (fun ls hl => ?_)
          refine r_lload Z dX5_tellMeanOf_35 (lv_at hl 4 rfl) ?_
          refine r_lload Z dX5_tellMeanOf_37 (lv_at hl 0 rfl) ?_
          refine r_ladd Z dX5_tellMeanOf_39 ?_
          obtain ⟨t5, et5, hF⟩ := nm_some hF
          rw [← et5]
          refine r_lstore Z [(4, .long t5), (10, .long q4.1), (0, .ref (ad o)), (1, .int v1), (3, .ref (ad v3)), (6, .long v6), (8, .int v8), (9, .int v9)] dX5_tellMeanOf_40 hl (by decide) rfl (fun ls hl => ?_)
          refine r_lload Z dX5_tellMeanOf_42 (lv_at hl 5 rfl) ?_
          refine r_lload Z dX5_tellMeanOf_44 (lv_at hl 1 rfl) ?_
          refine r_aload_n Z dX5_tellMeanOf_46 rfl (lv_at hl 2 rfl) ?_
          refine g_5_6 Z ho wm_243 dX5_tellMeanOf_47 ?_
          refine r_iload_n Z dX5_tellMeanOf_50 rfl (lv_at hl 3 rfl) ?_
          obtain ⟨hi6, hF⟩ := ck_some hF
          refine r_iaload Z (shp_lt (sh_5_6 ho) (by decide)) (fun _ _ => ce_104 (sh_5_6 ho)) hi6 dX5_tellMeanOf_51 ?_
          refine r_i2l Z dX5_tellMeanOf_52 ?_
          refine r_lmul Z dX5_tellMeanOf_53 ?_
          refine r_ladd Z dX5_tellMeanOf_54 ?_
          obtain ⟨t7, et7, hF⟩ := nm_some hF
          rw [← et7]
          refine r_lstore Z [(6, .long t7), (4, .long t5), (10, .long q4.1), (0, .ref (ad o)), (1, .int v1), (3, .ref (ad v3)), (8, .int v8), (9, .int v9)] dX5_tellMeanOf_55 hl (by decide) rfl (fun ls hl => ?_)
          refine r_aload_n Z dX5_tellMeanOf_57 rfl (lv_at hl 3 rfl) ?_
          obtain ⟨q8, hq8, hF⟩ := bd_some hF
          refine r_invVi [] Z (c_X5_nextState ho hq8) cv_X5_nextState rfl (shp_lt ho (by decide)) (fun _ _ => ⟨_, ce_5 ho⟩) wm_272 rfl rfl ⟨Nat.le_of_ble_eq_true rfl, Nat.le_of_ble_eq_true rfl⟩ rfl hl.1 rfl (Nat.le_of_ble_eq_true rfl) dX5_tellMeanOf_58 ?_
          refine r_istore Z [(8, .int q8.1), (6, .long t7), (4, .long t5), (10, .long q4.1), (0, .ref (ad o)), (1, .int v1), (3, .ref (ad v3)), (9, .int v9)] dX5_tellMeanOf_61 hl (by decide) rfl (fun ls hl => ?_)
          obtain ⟨t9, et9, hF⟩ := nm_some hF
          refine r_iinc (j := 7) Z t9 [(9, .int t9), (8, .int q8.1), (6, .long t7), (4, .long t5), (10, .long q4.1), (0, .ref (ad o)), (1, .int v1), (3, .ref (ad v3))] dX5_tellMeanOf_63 hl rfl (by rw [et9]; rfl) (by decide) rfl (fun ls hl => ?_)
          refine r_goto Z 17 dX5_tellMeanOf_66 (by decide) ?_
          exact ih17 v1 v3 t5 t7 q8.1 t9 q8.2 ls hv3 (lv_sub hl [5, 6, 7, 3, 2, 1, 0] rfl) hF
  unfold f_X5_tellMeanOf at hF
  refine r_lconst (v := 0) Z dX5_tellMeanOf_0 (by decide) ?_
  refine r_lstore Z [(4, .long 0), (0, .ref (ad o)), (1, .int x1), (2, .int x2), (3, .ref (ad x3))] dX5_tellMeanOf_1 hl (by decide) rfl (fun ls hl => ?_)
  refine r_lconst (v := 0) Z dX5_tellMeanOf_3 (by decide) ?_
  refine r_lstore Z [(6, .long 0), (4, .long 0), (0, .ref (ad o)), (1, .int x1), (2, .int x2), (3, .ref (ad x3))] dX5_tellMeanOf_4 hl (by decide) rfl (fun ls hl => ?_)
  refine r_aload_n Z dX5_tellMeanOf_6 rfl (lv_at hl 2 rfl) ?_
  refine r_iload_n Z dX5_tellMeanOf_7 rfl (lv_at hl 4 rfl) ?_
  obtain ⟨M10, hM10, hF⟩ := bd_some hF
  refine r_invVv [] Z (c_X5_beginStates ho hM10) cv_X5_beginStates rfl (shp_lt ho (by decide)) (fun _ _ => ⟨_, ce_5 ho⟩) wm_266 rfl rfl ⟨Nat.le_of_ble_eq_true rfl, Nat.le_of_ble_eq_true rfl⟩ rfl hl.1 rfl (Nat.le_of_ble_eq_true rfl) dX5_tellMeanOf_8 ?_
  refine r_iconst (v := 1) Z dX5_tellMeanOf_11 (by decide) ?_
  refine r_istore Z [(8, .int 1), (6, .long 0), (4, .long 0), (0, .ref (ad o)), (1, .int x1), (2, .int x2), (3, .ref (ad x3))] dX5_tellMeanOf_12 hl (by decide) rfl (fun ls hl => ?_)
  refine r_iconst (v := 0) Z dX5_tellMeanOf_14 (by decide) ?_
  refine r_istore Z [(9, .int 0), (8, .int 1), (6, .long 0), (4, .long 0), (0, .ref (ad o)), (1, .int x1), (2, .int x2), (3, .ref (ad x3))] dX5_tellMeanOf_15 hl (by decide) rfl (fun ls hl => ?_)
  exact L17 _ x1 x3 0 0 1 0 M10 ls h3 (lv_sub hl [4, 5, 7, 3, 2, 1, 0] rfl) hF
theorem dX5_tellThrough_0 : decode cX5_tellThrough 0 = .ok (.aload_n 3, 1) := by decide +kernel
theorem dX5_tellThrough_1 : decode cX5_tellThrough 1 = .ok (.ldc2_w 118, 3) := by decide +kernel
theorem dX5_tellThrough_4 : decode cX5_tellThrough 4 = .ok (.aload_n 0, 1) := by decide +kernel
theorem dX5_tellThrough_5 : decode cX5_tellThrough 5 = .ok (.getfield 9, 3) := by decide +kernel
theorem dX5_tellThrough_8 : decode cX5_tellThrough 8 = .ok (.iload_n 1, 1) := by decide +kernel
theorem dX5_tellThrough_9 : decode cX5_tellThrough 9 = .ok (.laload, 1) := by decide +kernel
theorem dX5_tellThrough_10 : decode cX5_tellThrough 10 = .ok (.lmul, 1) := by decide +kernel
theorem dX5_tellThrough_11 : decode cX5_tellThrough 11 = .ok (.aload_n 0, 1) := by decide +kernel
theorem dX5_tellThrough_12 : decode cX5_tellThrough 12 = .ok (.iload_n 2, 1) := by decide +kernel
theorem dX5_tellThrough_13 : decode cX5_tellThrough 13 = .ok (.iconst 1, 1) := by decide +kernel
theorem dX5_tellThrough_14 : decode cX5_tellThrough 14 = .ok (.isub, 1) := by decide +kernel
theorem dX5_tellThrough_15 : decode cX5_tellThrough 15 = .ok (.invokevirtual 104, 3) := by decide +kernel
theorem dX5_tellThrough_18 : decode cX5_tellThrough 18 = .ok (.lmul, 1) := by decide +kernel
theorem dX5_tellThrough_19 : decode cX5_tellThrough 19 = .ok (.aload_n 0, 1) := by decide +kernel
theorem dX5_tellThrough_20 : decode cX5_tellThrough 20 = .ok (.iload_n 2, 1) := by decide +kernel
theorem dX5_tellThrough_21 : decode cX5_tellThrough 21 = .ok (.invokevirtual 104, 3) := by decide +kernel
theorem dX5_tellThrough_24 : decode cX5_tellThrough 24 = .ok (.invokevirtual 114, 3) := by decide +kernel
theorem dX5_tellThrough_27 : decode cX5_tellThrough 27 = .ok (.return_, 1) := by decide +kernel
theorem cv_X5_tellThrough : wn_cV yX5_tellThrough cX5_tellThrough 4 none RX5 3 := ⟨wm_283, wm_497, wm_498, wm_265, by decide +kernel⟩
abbrev rm_X5_tellThrough : Room := rmz 4 86
set_option maxHeartbeats 4000000 in
set_option maxRecDepth 100000 in
theorem c_X5_tellThrough {ad : Nat → Nat} {o : Nat} {x1 : Int32} {x2 : Int32} {x3 : Nat} {M : Mm} {q : Mm} (ho : shp o = 5) (h3 : shp x3 = 2) (hF : f_X5_tellThrough o x1 x2 x3 M = some q) : KV ad yX5_tellThrough cX5_tellThrough 4 none rm_X5_tellThrough [.ref (ad o), .int x1, .int x2, .ref (ad x3)] M q := by
  refine wn_enterV (own := RX5) (by decide) rfl (Nat.le_of_ble_eq_true rfl) (fun X ls Z hQ hl => ?_)
  have hl : lv_has ls 4 [(0, .ref (ad o)), (1, .int x1), (2, .int x2), (3, .ref (ad x3))] := hl
  unfold f_X5_tellThrough at hF
  refine r_aload_n Z dX5_tellThrough_0 rfl (lv_at hl 3 rfl) ?_
  refine r_ldc2 Z wm_282 dX5_tellThrough_1 ?_
  refine r_aload_n Z dX5_tellThrough_4 rfl (lv_at hl 0 rfl) ?_
  refine g_5_0 Z ho wm_236 dX5_tellThrough_5 ?_
  refine r_iload_n Z dX5_tellThrough_8 rfl (lv_at hl 1 rfl) ?_
  obtain ⟨hi1, hF⟩ := ck_some hF
  refine r_laload Z (shp_lt (sh_5_0 ho) (by decide)) (fun _ _ => ce_1004 (sh_5_0 ho)) hi1 dX5_tellThrough_9 ?_
  refine r_lmul Z dX5_tellThrough_10 ?_
  refine r_aload_n Z dX5_tellThrough_11 rfl (lv_at hl 0 rfl) ?_
  refine r_iload_n Z dX5_tellThrough_12 rfl (lv_at hl 2 rfl) ?_
  refine r_iconst (v := 1) Z dX5_tellThrough_13 (by decide) ?_
  refine r_isub Z dX5_tellThrough_14 ?_
  obtain ⟨q2, hq2, hF⟩ := bd_some hF
  refine r_invVl [.long (12 * (mJ M (fld o 0) (Int32.toNatClampNeg x1))), .ref (ad x3)] Z (c_X5_weightOfAll ho hq2) cv_X5_weightOfAll rfl (shp_lt ho (by decide)) (fun _ _ => ⟨_, ce_5 ho⟩) wm_276 rfl rfl ⟨Nat.le_of_ble_eq_true rfl, Nat.le_of_ble_eq_true rfl⟩ rfl hl.1 rfl (Nat.le_of_ble_eq_true rfl) dX5_tellThrough_15 ?_
  refine r_lmul Z dX5_tellThrough_18 ?_
  refine r_aload_n Z dX5_tellThrough_19 rfl (lv_at hl 0 rfl) ?_
  refine r_iload_n Z dX5_tellThrough_20 rfl (lv_at hl 2 rfl) ?_
  obtain ⟨q3, hq3, hF⟩ := bd_some hF
  refine r_invVl [.long ((12 * (mJ M (fld o 0) (Int32.toNatClampNeg x1))) * q2.1), .ref (ad x3)] Z (c_X5_weightOfAll ho hq3) cv_X5_weightOfAll rfl (shp_lt ho (by decide)) (fun _ _ => ⟨_, ce_5 ho⟩) wm_276 rfl rfl ⟨Nat.le_of_ble_eq_true rfl, Nat.le_of_ble_eq_true rfl⟩ rfl hl.1 rfl (Nat.le_of_ble_eq_true rfl) dX5_tellThrough_21 ?_
  obtain ⟨M4, hM4, hF⟩ := bd_some hF
  refine r_invVv [] Z (c_X2_set h3 hM4) cv_X2_set rfl (shp_lt h3 (by decide)) (fun _ _ => ⟨_, ce_2 h3⟩) wm_280 rfl rfl ⟨Nat.le_of_ble_eq_true rfl, Nat.le_of_ble_eq_true rfl⟩ rfl hl.1 rfl (Nat.le_of_ble_eq_true rfl) dX5_tellThrough_24 ?_
  exact r_vret Z hQ hF dX5_tellThrough_27
theorem dX6_begin_0 : decode cX6_begin 0 = .ok (.aload_n 0, 1) := by decide +kernel
theorem dX6_begin_1 : decode cX6_begin 1 = .ok (.iconst 0, 1) := by decide +kernel
theorem dX6_begin_2 : decode cX6_begin 2 = .ok (.iload_n 1, 1) := by decide +kernel
theorem dX6_begin_3 : decode cX6_begin 3 = .ok (.bipush 40, 2) := by decide +kernel
theorem dX6_begin_5 : decode cX6_begin 5 = .ok (.invokestatic 19, 3) := by decide +kernel
theorem dX6_begin_8 : decode cX6_begin 8 = .ok (.invokestatic 25, 3) := by decide +kernel
theorem dX6_begin_11 : decode cX6_begin 11 = .ok (.putfield 15, 3) := by decide +kernel
theorem dX6_begin_14 : decode cX6_begin 14 = .ok (.iconst 0, 1) := by decide +kernel
theorem dX6_begin_15 : decode cX6_begin 15 = .ok (.istore_n 2, 1) := by decide +kernel
theorem dX6_begin_16 : decode cX6_begin 16 = .ok (.iload_n 2, 1) := by decide +kernel
theorem dX6_begin_17 : decode cX6_begin 17 = .ok (.aload_n 0, 1) := by decide +kernel
theorem dX6_begin_18 : decode cX6_begin 18 = .ok (.getfield 15, 3) := by decide +kernel
theorem dX6_begin_21 : decode cX6_begin 21 = .ok (.if_icmp .ge 16, 3) := by decide +kernel
theorem dX6_begin_24 : decode cX6_begin 24 = .ok (.aload_n 0, 1) := by decide +kernel
theorem dX6_begin_25 : decode cX6_begin 25 = .ok (.getfield 9, 3) := by decide +kernel
theorem dX6_begin_28 : decode cX6_begin 28 = .ok (.iload_n 2, 1) := by decide +kernel
theorem dX6_begin_29 : decode cX6_begin 29 = .ok (.iconst 0, 1) := by decide +kernel
theorem dX6_begin_30 : decode cX6_begin 30 = .ok (.iastore, 1) := by decide +kernel
theorem dX6_begin_31 : decode cX6_begin 31 = .ok (.iinc 2 1, 3) := by decide +kernel
theorem dX6_begin_34 : decode cX6_begin 34 = .ok (.goto (-18), 3) := by decide +kernel
theorem dX6_begin_37 : decode cX6_begin 37 = .ok (.return_, 1) := by decide +kernel
theorem cv_X6_begin : wn_cV yX6_begin cX6_begin 3 none RX6 1 := ⟨wm_325, wm_382, wm_383, wm_28, by decide +kernel⟩
abbrev rm_X6_begin : Room := rmz 1 15
set_option maxHeartbeats 4000000 in
set_option maxRecDepth 100000 in
theorem c_X6_begin {ad : Nat → Nat} {o : Nat} {x1 : Int32} {M : Mm} {q : Mm} (ho : shp o = 6) (hF : f_X6_begin o x1 M = some q) : KV ad yX6_begin cX6_begin 3 none rm_X6_begin [.ref (ad o), .int x1] M q := by
  refine wn_enterV (own := RX6) (by decide) rfl (Nat.le_of_ble_eq_true rfl) (fun X ls Z hQ hl => ?_)
  have hl : lv_has ls 3 [(0, .ref (ad o)), (1, .int x1)] := hl
  have L16 : ∀ (n16 : Nat) (v2 : Int32) (M : Mm) (ls : Array Slot), lv_has ls 3 [(0, .ref (ad o)), (2, .int v2)] → f_X6_begin_b16 o n16 v2 M = some q → G ad X M 16 ls [] := by
    intro n16
    induction n16 with
    | zero =>
      intro v2 M ls hl hF
      cases hF
    | succ n16 ih16 =>
      intro v2 M ls hl hF
      replace hF : f_X6_begin_b16B (f_X6_begin_b16 o n16) o v2 M = some q := hF
      unfold f_X6_begin_b16B at hF
      refine r_iload_n Z dX6_begin_16 rfl (lv_at hl 1 rfl) ?_
      refine r_aload_n Z dX6_begin_17 rfl (lv_at hl 0 rfl) ?_
      refine g_6_1 Z ho wm_21 dX6_begin_18 ?_
      refine r_icmp_ge Z 37 dX6_begin_21 (by decide) (fun hc1 => ?_) (fun hc1 => ?_)
      · replace hF := if_some hc1 hF
        exact r_vret Z hQ hF dX6_begin_37
      · replace hF := nif_some hc1 hF
        refine r_aload_n Z dX6_begin_24 rfl (lv_at hl 0 rfl) ?_
        refine g_6_0 Z ho wm_23 dX6_begin_25 ?_
        refine r_iload_n Z dX6_begin_28 rfl (lv_at hl 1 rfl) ?_
        refine r_iconst (v := 0) Z dX6_begin_29 (by decide) ?_
        obtain ⟨hi2, hF⟩ := ck_some hF
        obtain ⟨M3, eM3, hF⟩ := nm_some hF
        refine r_iastore Z (shp_lt (sh_6_0 ho) (by decide)) (fun _ _ => ce_140 (sh_6_0 ho)) hi2 dX6_begin_30 ?_
        rw [← eM3]
        obtain ⟨t4, et4, hF⟩ := nm_some hF
        refine r_iinc (j := 1) Z t4 [(2, .int t4), (0, .ref (ad o))] dX6_begin_31 hl rfl (by rw [et4]; rfl) (by decide) rfl (fun ls hl => ?_)
        refine r_goto Z 16 dX6_begin_34 (by decide) ?_
        exact ih16 t4 M3 ls (lv_sub hl [1, 0] rfl) hF
  unfold f_X6_begin at hF
  refine r_aload_n Z dX6_begin_0 rfl (lv_at hl 0 rfl) ?_
  refine r_iconst (v := 0) Z dX6_begin_1 (by decide) ?_
  refine r_iload_n Z dX6_begin_2 rfl (lv_at hl 1 rfl) ?_
  refine r_bipush (v := 40) Z dX6_begin_3 (by decide) ?_
  refine r_mmin Z wm_326 wm_65 wm_66 wm_67 (Nat.le_of_ble_eq_true rfl) (Nat.le_of_ble_eq_true rfl) hl.1 dX6_begin_5 ?_
  refine r_mmax Z wm_327 wm_150 wm_66 wm_151 (Nat.le_of_ble_eq_true rfl) (Nat.le_of_ble_eq_true rfl) hl.1 dX6_begin_8 ?_
  obtain ⟨M5, eM5, hF⟩ := nm_some hF
  refine p_6_1 Z ho wm_21 dX6_begin_11 ?_
  rw [← eM5]
  refine r_iconst (v := 0) Z dX6_begin_14 (by decide) ?_
  refine r_istore_n Z [(2, .int 0), (0, .ref (ad o)), (1, .int x1)] dX6_begin_15 rfl hl (by decide) rfl (fun ls hl => ?_)
  exact L16 _ 0 M5 ls (lv_sub hl [1, 0] rfl) hF
theorem dX6_end_0 : decode cX6_end 0 = .ok (.aload_n 0, 1) := by decide +kernel
theorem dX6_end_1 : decode cX6_end 1 = .ok (.iconst (-1), 1) := by decide +kernel
theorem dX6_end_2 : decode cX6_end 2 = .ok (.putfield 15, 3) := by decide +kernel
theorem dX6_end_5 : decode cX6_end 5 = .ok (.return_, 1) := by decide +kernel
theorem cv_X6_end : wn_cV yX6_end cX6_end 1 none RX6 0 := ⟨wm_328, wm_396, wm_397, wm_28, by decide +kernel⟩
abbrev rm_X6_end : Room := rmz 0 0
set_option maxHeartbeats 4000000 in
set_option maxRecDepth 100000 in
theorem c_X6_end {ad : Nat → Nat} {o : Nat} {M : Mm} {q : Mm} (ho : shp o = 6) (hF : f_X6_end o M = some q) : KV ad yX6_end cX6_end 1 none rm_X6_end [.ref (ad o)] M q := by
  refine wn_enterV (own := RX6) (by decide) rfl (Nat.le_of_ble_eq_true rfl) (fun X ls Z hQ hl => ?_)
  have hl : lv_has ls 1 [(0, .ref (ad o))] := hl
  unfold f_X6_end at hF
  refine r_aload_n Z dX6_end_0 rfl (lv_at hl 0 rfl) ?_
  refine r_iconst (v := (-1)) Z dX6_end_1 (by decide) ?_
  obtain ⟨M1, eM1, hF⟩ := nm_some hF
  refine p_6_1 Z ho wm_21 dX6_end_2 ?_
  rw [← eM1]
  exact r_vret Z hQ hF dX6_end_5
theorem dX6_holdsRates_0 : decode cX6_holdsRates 0 = .ok (.iconst 0, 1) := by decide +kernel
theorem dX6_holdsRates_1 : decode cX6_holdsRates 1 = .ok (.istore_n 2, 1) := by decide +kernel
theorem dX6_holdsRates_2 : decode cX6_holdsRates 2 = .ok (.iload_n 2, 1) := by decide +kernel
theorem dX6_holdsRates_3 : decode cX6_holdsRates 3 = .ok (.iload_n 1, 1) := by decide +kernel
theorem dX6_holdsRates_4 : decode cX6_holdsRates 4 = .ok (.if_icmp .ge 52, 3) := by decide +kernel
theorem dX6_holdsRates_7 : decode cX6_holdsRates 7 = .ok (.iconst 0, 1) := by decide +kernel
theorem dX6_holdsRates_8 : decode cX6_holdsRates 8 = .ok (.istore_n 3, 1) := by decide +kernel
theorem dX6_holdsRates_9 : decode cX6_holdsRates 9 = .ok (.iload_n 3, 1) := by decide +kernel
theorem dX6_holdsRates_10 : decode cX6_holdsRates 10 = .ok (.iload_n 1, 1) := by decide +kernel
theorem dX6_holdsRates_11 : decode cX6_holdsRates 11 = .ok (.if_icmp .ge 39, 3) := by decide +kernel
theorem dX6_holdsRates_14 : decode cX6_holdsRates 14 = .ok (.aload_n 0, 1) := by decide +kernel
theorem dX6_holdsRates_15 : decode cX6_holdsRates 15 = .ok (.iload_n 2, 1) := by decide +kernel
theorem dX6_holdsRates_16 : decode cX6_holdsRates 16 = .ok (.iload_n 1, 1) := by decide +kernel
theorem dX6_holdsRates_17 : decode cX6_holdsRates 17 = .ok (.imul, 1) := by decide +kernel
theorem dX6_holdsRates_18 : decode cX6_holdsRates 18 = .ok (.iload_n 3, 1) := by decide +kernel
theorem dX6_holdsRates_19 : decode cX6_holdsRates 19 = .ok (.iadd, 1) := by decide +kernel
theorem dX6_holdsRates_20 : decode cX6_holdsRates 20 = .ok (.invokevirtual 42, 3) := by decide +kernel
theorem dX6_holdsRates_23 : decode cX6_holdsRates 23 = .ok (.istore 4, 2) := by decide +kernel
theorem dX6_holdsRates_25 : decode cX6_holdsRates 25 = .ok (.iload_n 2, 1) := by decide +kernel
theorem dX6_holdsRates_26 : decode cX6_holdsRates 26 = .ok (.iload_n 3, 1) := by decide +kernel
theorem dX6_holdsRates_27 : decode cX6_holdsRates 27 = .ok (.if_icmp .eq 17, 3) := by decide +kernel
theorem dX6_holdsRates_30 : decode cX6_holdsRates 30 = .ok (.iload 4, 2) := by decide +kernel
theorem dX6_holdsRates_32 : decode cX6_holdsRates 32 = .ok (.ifCond .lt 10, 3) := by decide +kernel
theorem dX6_holdsRates_35 : decode cX6_holdsRates 35 = .ok (.iload 4, 2) := by decide +kernel
theorem dX6_holdsRates_37 : decode cX6_holdsRates 37 = .ok (.bipush 12, 2) := by decide +kernel
theorem dX6_holdsRates_39 : decode cX6_holdsRates 39 = .ok (.if_icmp .le 5, 3) := by decide +kernel
theorem dX6_holdsRates_42 : decode cX6_holdsRates 42 = .ok (.iconst 0, 1) := by decide +kernel
theorem dX6_holdsRates_43 : decode cX6_holdsRates 43 = .ok (.ireturn, 1) := by decide +kernel
theorem dX6_holdsRates_44 : decode cX6_holdsRates 44 = .ok (.iinc 3 1, 3) := by decide +kernel
theorem dX6_holdsRates_47 : decode cX6_holdsRates 47 = .ok (.goto (-38), 3) := by decide +kernel
theorem dX6_holdsRates_50 : decode cX6_holdsRates 50 = .ok (.iinc 2 1, 3) := by decide +kernel
theorem dX6_holdsRates_53 : decode cX6_holdsRates 53 = .ok (.goto (-51), 3) := by decide +kernel
theorem dX6_holdsRates_56 : decode cX6_holdsRates 56 = .ok (.iconst 1, 1) := by decide +kernel
theorem dX6_holdsRates_57 : decode cX6_holdsRates 57 = .ok (.ireturn, 1) := by decide +kernel
theorem cv_X6_holdsRates : wn_cV yX6_holdsRates cX6_holdsRates 5 (some .boolean) RX6 1 := ⟨wm_343, wm_537, wm_538, wm_28, by decide +kernel⟩
abbrev rm_X6_holdsRates : Room := rmz 2 42
set_option maxHeartbeats 4000000 in
set_option maxRecDepth 100000 in
theorem c_X6_holdsRates {ad : Nat → Nat} {o : Nat} {x1 : Int32} {M : Mm} {q : Int32 × Mm} (ho : shp o = 6) (hF : f_X6_holdsRates o x1 M = some q) : KI ad yX6_holdsRates cX6_holdsRates 5 (some .boolean) rm_X6_holdsRates [.ref (ad o), .int x1] M q.1 q.2 := by
  refine wn_enterI (own := RX6) (by decide) rfl (Nat.le_of_ble_eq_true rfl) (fun X ls Z hQ hl => ?_)
  have hl : lv_has ls 5 [(0, .ref (ad o)), (1, .int x1)] := hl
  have L2 : ∀ (n2 : Nat) (v1 : Int32) (v2 : Int32) (M : Mm) (ls : Array Slot), lv_has ls 5 [(0, .ref (ad o)), (1, .int v1), (2, .int v2)] → f_X6_holdsRates_b2 o n2 v1 v2 M = some q → G ad X M 2 ls [] := by
    intro n2
    induction n2 with
    | zero =>
      intro v1 v2 M ls hl hF
      cases hF
    | succ n2 ih2 =>
      have L9 : ∀ (n9 : Nat) (v1 : Int32) (v2 : Int32) (v3 : Int32) (M : Mm) (ls : Array Slot), lv_has ls 5 [(0, .ref (ad o)), (1, .int v1), (2, .int v2), (3, .int v3)] → f_X6_holdsRates_b9 (f_X6_holdsRates_b2 o n2) o n9 v1 v2 v3 M = some q → G ad X M 9 ls [] := by
        intro n9
        induction n9 with
        | zero =>
          intro v1 v2 v3 M ls hl hF
          cases hF
        | succ n9 ih9 =>
          intro v1 v2 v3 M ls hl hF
          replace hF : f_X6_holdsRates_b9B (f_X6_holdsRates_b2 o n2) (f_X6_holdsRates_b9 (f_X6_holdsRates_b2 o n2) o n9) o v1 v2 v3 M = some q := hF
          unfold f_X6_holdsRates_b9B at hF
          refine r_iload_n Z dX6_holdsRates_9 rfl (lv_at hl 3 rfl) ?_
          refine r_iload_n Z dX6_holdsRates_10 rfl (lv_at hl 1 rfl) ?_
          refine r_icmp_ge Z 50 dX6_holdsRates_11 (by decide) (fun hc1 => ?_) (fun hc1 => ?_)
          · replace hF := if_some hc1 hF
            obtain ⟨t2, et2, hF⟩ := nm_some hF
            refine r_iinc (j := 2) Z t2 [(2, .int t2), (0, .ref (ad o)), (1, .int v1), (3, .int v3)] dX6_holdsRates_50 hl rfl (by rw [et2]; rfl) (by decide) rfl (fun ls hl => ?_)
            refine r_goto Z 2 dX6_holdsRates_53 (by decide) ?_
            exact ih2 v1 t2 M ls (lv_sub hl [1, 2, 0] rfl) hF
          · replace hF := nif_some hc1 hF
            refine r_aload_n Z dX6_holdsRates_14 rfl (lv_at hl 0 rfl) ?_
            refine r_iload_n Z dX6_holdsRates_15 rfl (lv_at hl 2 rfl) ?_
            refine r_iload_n Z dX6_holdsRates_16 rfl (lv_at hl 1 rfl) ?_
            refine r_imul Z dX6_holdsRates_17 ?_
            refine r_iload_n Z dX6_holdsRates_18 rfl (lv_at hl 3 rfl) ?_
            refine r_iadd Z dX6_holdsRates_19 ?_
            obtain ⟨q3, hq3, hF⟩ := bd_some hF
            refine r_invVi [] Z (c_X6_at ho hq3) cv_X6_at rfl (shp_lt ho (by decide)) (fun _ _ => ⟨_, ce_6 ho⟩) wm_340 rfl rfl ⟨Nat.le_of_ble_eq_true rfl, Nat.le_of_ble_eq_true rfl⟩ rfl hl.1 rfl (Nat.le_of_ble_eq_true rfl) dX6_holdsRates_20 ?_
            refine r_istore Z [(4, .int q3.1), (0, .ref (ad o)), (1, .int v1), (2, .int v2), (3, .int v3)] dX6_holdsRates_23 hl (by decide) rfl (fun ls hl => ?_)
            refine r_iload_n Z dX6_holdsRates_25 rfl (lv_at hl 3 rfl) ?_
            refine r_iload_n Z dX6_holdsRates_26 rfl (lv_at hl 4 rfl) ?_
            refine r_icmp_eq Z 44 dX6_holdsRates_27 (by decide) (fun hc4 => ?_) (fun hc4 => ?_)
            · replace hF := if_some hc4 hF
              obtain ⟨t5, et5, hF⟩ := nm_some hF
              refine r_iinc (j := 4) Z t5 [(3, .int t5), (4, .int q3.1), (0, .ref (ad o)), (1, .int v1), (2, .int v2)] dX6_holdsRates_44 hl rfl (by rw [et5]; rfl) (by decide) rfl (fun ls hl => ?_)
              refine r_goto Z 9 dX6_holdsRates_47 (by decide) ?_
              exact ih9 v1 v2 t5 q3.2 ls (lv_sub hl [2, 3, 4, 0] rfl) hF
            · replace hF := nif_some hc4 hF
              refine r_iload Z dX6_holdsRates_30 (lv_at hl 0 rfl) ?_
              refine r_if_lt Z 42 dX6_holdsRates_32 (by decide) (fun hc6 => ?_) (fun hc6 => ?_)
              · replace hF := if_some hc6 hF
                refine r_iconst (v := 0) Z dX6_holdsRates_42 (by decide) ?_
                exact r_zret Z hQ (by decide) hF dX6_holdsRates_43
              · replace hF := nif_some hc6 hF
                refine r_iload Z dX6_holdsRates_35 (lv_at hl 0 rfl) ?_
                refine r_bipush (v := 12) Z dX6_holdsRates_37 (by decide) ?_
                refine r_icmp_le Z 44 dX6_holdsRates_39 (by decide) (fun hc7 => ?_) (fun hc7 => ?_)
                · replace hF := if_some hc7 hF
                  obtain ⟨t8, et8, hF⟩ := nm_some hF
                  refine r_iinc (j := 4) Z t8 [(3, .int t8), (4, .int q3.1), (0, .ref (ad o)), (1, .int v1), (2, .int v2)] dX6_holdsRates_44 hl rfl (by rw [et8]; rfl) (by decide) rfl (fun ls hl => ?_)
                  refine r_goto Z 9 dX6_holdsRates_47 (by decide) ?_
                  exact ih9 v1 v2 t8 q3.2 ls (lv_sub hl [2, 3, 4, 0] rfl) hF
                · replace hF := nif_some hc7 hF
                  refine r_iconst (v := 0) Z dX6_holdsRates_42 (by decide) ?_
                  exact r_zret Z hQ (by decide) hF dX6_holdsRates_43
      intro v1 v2 M ls hl hF
      replace hF : f_X6_holdsRates_b2B (f_X6_holdsRates_b2 o n2) o v1 v2 M = some q := hF
      unfold f_X6_holdsRates_b2B at hF
      refine r_iload_n Z dX6_holdsRates_2 rfl (lv_at hl 2 rfl) ?_
      refine r_iload_n Z dX6_holdsRates_3 rfl (lv_at hl 1 rfl) ?_
      refine r_icmp_ge Z 56 dX6_holdsRates_4 (by decide) (fun hc9 => ?_) (fun hc9 => ?_)
      · replace hF := if_some hc9 hF
        refine r_iconst (v := 1) Z dX6_holdsRates_56 (by decide) ?_
        exact r_zret Z hQ (by decide) hF dX6_holdsRates_57
      · replace hF := nif_some hc9 hF
        refine r_iconst (v := 0) Z dX6_holdsRates_7 (by decide) ?_
        refine r_istore_n Z [(3, .int 0), (0, .ref (ad o)), (1, .int v1), (2, .int v2)] dX6_holdsRates_8 rfl hl (by decide) rfl (fun ls hl => ?_)
        exact L9 _ v1 v2 0 M ls (lv_sub hl [1, 2, 3, 0] rfl) hF
  unfold f_X6_holdsRates at hF
  refine r_iconst (v := 0) Z dX6_holdsRates_0 (by decide) ?_
  refine r_istore_n Z [(2, .int 0), (0, .ref (ad o)), (1, .int x1)] dX6_holdsRates_1 rfl hl (by decide) rfl (fun ls hl => ?_)
  exact L2 _ x1 0 M ls (lv_sub hl [1, 2, 0] rfl) hF
theorem dX6_isRising_0 : decode cX6_isRising 0 = .ok (.iconst 1, 1) := by decide +kernel
theorem dX6_isRising_1 : decode cX6_isRising 1 = .ok (.istore_n 1, 1) := by decide +kernel
theorem dX6_isRising_2 : decode cX6_isRising 2 = .ok (.iload_n 1, 1) := by decide +kernel
theorem dX6_isRising_3 : decode cX6_isRising 3 = .ok (.aload_n 0, 1) := by decide +kernel
theorem dX6_isRising_4 : decode cX6_isRising 4 = .ok (.getfield 15, 3) := by decide +kernel
theorem dX6_isRising_7 : decode cX6_isRising 7 = .ok (.if_icmp .ge 26, 3) := by decide +kernel
theorem dX6_isRising_10 : decode cX6_isRising 10 = .ok (.aload_n 0, 1) := by decide +kernel
theorem dX6_isRising_11 : decode cX6_isRising 11 = .ok (.iload_n 1, 1) := by decide +kernel
theorem dX6_isRising_12 : decode cX6_isRising 12 = .ok (.invokevirtual 42, 3) := by decide +kernel
theorem dX6_isRising_15 : decode cX6_isRising 15 = .ok (.aload_n 0, 1) := by decide +kernel
theorem dX6_isRising_16 : decode cX6_isRising 16 = .ok (.iload_n 1, 1) := by decide +kernel
theorem dX6_isRising_17 : decode cX6_isRising 17 = .ok (.iconst 1, 1) := by decide +kernel
theorem dX6_isRising_18 : decode cX6_isRising 18 = .ok (.isub, 1) := by decide +kernel
theorem dX6_isRising_19 : decode cX6_isRising 19 = .ok (.invokevirtual 42, 3) := by decide +kernel
theorem dX6_isRising_22 : decode cX6_isRising 22 = .ok (.if_icmp .ge 5, 3) := by decide +kernel
theorem dX6_isRising_25 : decode cX6_isRising 25 = .ok (.iconst 0, 1) := by decide +kernel
theorem dX6_isRising_26 : decode cX6_isRising 26 = .ok (.ireturn, 1) := by decide +kernel
theorem dX6_isRising_27 : decode cX6_isRising 27 = .ok (.iinc 1 1, 3) := by decide +kernel
theorem dX6_isRising_30 : decode cX6_isRising 30 = .ok (.goto (-28), 3) := by decide +kernel
theorem dX6_isRising_33 : decode cX6_isRising 33 = .ok (.iconst 1, 1) := by decide +kernel
theorem dX6_isRising_34 : decode cX6_isRising 34 = .ok (.ireturn, 1) := by decide +kernel
theorem cv_X6_isRising : wn_cV yX6_isRising cX6_isRising 2 (some .boolean) RX6 0 := ⟨wm_342, wm_566, wm_567, wm_28, by decide +kernel⟩
abbrev rm_X6_isRising : Room := rmz 2 42
set_option maxHeartbeats 4000000 in
set_option maxRecDepth 100000 in
theorem c_X6_isRising {ad : Nat → Nat} {o : Nat} {M : Mm} {q : Int32 × Mm} (ho : shp o = 6) (hF : f_X6_isRising o M = some q) : KI ad yX6_isRising cX6_isRising 2 (some .boolean) rm_X6_isRising [.ref (ad o)] M q.1 q.2 := by
  refine wn_enterI (own := RX6) (by decide) rfl (Nat.le_of_ble_eq_true rfl) (fun X ls Z hQ hl => ?_)
  have hl : lv_has ls 2 [(0, .ref (ad o))] := hl
  have L2 : ∀ (n2 : Nat) (v1 : Int32) (M : Mm) (ls : Array Slot), lv_has ls 2 [(0, .ref (ad o)), (1, .int v1)] → f_X6_isRising_b2 o n2 v1 M = some q → G ad X M 2 ls [] := by
    intro n2
    induction n2 with
    | zero =>
      intro v1 M ls hl hF
      cases hF
    | succ n2 ih2 =>
      intro v1 M ls hl hF
      replace hF : f_X6_isRising_b2B (f_X6_isRising_b2 o n2) o v1 M = some q := hF
      unfold f_X6_isRising_b2B at hF
      refine r_iload_n Z dX6_isRising_2 rfl (lv_at hl 1 rfl) ?_
      refine r_aload_n Z dX6_isRising_3 rfl (lv_at hl 0 rfl) ?_
      refine g_6_1 Z ho wm_21 dX6_isRising_4 ?_
      refine r_icmp_ge Z 33 dX6_isRising_7 (by decide) (fun hc1 => ?_) (fun hc1 => ?_)
      · replace hF := if_some hc1 hF
        refine r_iconst (v := 1) Z dX6_isRising_33 (by decide) ?_
        exact r_zret Z hQ (by decide) hF dX6_isRising_34
      · replace hF := nif_some hc1 hF
        refine r_aload_n Z dX6_isRising_10 rfl (lv_at hl 0 rfl) ?_
        refine r_iload_n Z dX6_isRising_11 rfl (lv_at hl 1 rfl) ?_
        obtain ⟨q2, hq2, hF⟩ := bd_some hF
        refine r_invVi [] Z (c_X6_at ho hq2) cv_X6_at rfl (shp_lt ho (by decide)) (fun _ _ => ⟨_, ce_6 ho⟩) wm_340 rfl rfl ⟨Nat.le_of_ble_eq_true rfl, Nat.le_of_ble_eq_true rfl⟩ rfl hl.1 rfl (Nat.le_of_ble_eq_true rfl) dX6_isRising_12 ?_
        refine r_aload_n Z dX6_isRising_15 rfl (lv_at hl 0 rfl) ?_
        refine r_iload_n Z dX6_isRising_16 rfl (lv_at hl 1 rfl) ?_
        refine r_iconst (v := 1) Z dX6_isRising_17 (by decide) ?_
        refine r_isub Z dX6_isRising_18 ?_
        obtain ⟨q3, hq3, hF⟩ := bd_some hF
        refine r_invVi [.int q2.1] Z (c_X6_at ho hq3) cv_X6_at rfl (shp_lt ho (by decide)) (fun _ _ => ⟨_, ce_6 ho⟩) wm_340 rfl rfl ⟨Nat.le_of_ble_eq_true rfl, Nat.le_of_ble_eq_true rfl⟩ rfl hl.1 rfl (Nat.le_of_ble_eq_true rfl) dX6_isRising_19 ?_
        refine r_icmp_ge Z 27 dX6_isRising_22 (by decide) (fun hc4 => ?_) (fun hc4 => ?_)
        · replace hF := if_some hc4 hF
          obtain ⟨t5, et5, hF⟩ := nm_some hF
          refine r_iinc (j := 1) Z t5 [(1, .int t5), (0, .ref (ad o))] dX6_isRising_27 hl rfl (by rw [et5]; rfl) (by decide) rfl (fun ls hl => ?_)
          refine r_goto Z 2 dX6_isRising_30 (by decide) ?_
          exact ih2 t5 q3.2 ls (lv_sub hl [1, 0] rfl) hF
        · replace hF := nif_some hc4 hF
          refine r_iconst (v := 0) Z dX6_isRising_25 (by decide) ?_
          exact r_zret Z hQ (by decide) hF dX6_isRising_26
  unfold f_X6_isRising at hF
  refine r_iconst (v := 1) Z dX6_isRising_0 (by decide) ?_
  refine r_istore_n Z [(1, .int 1), (0, .ref (ad o))] dX6_isRising_1 rfl hl (by decide) rfl (fun ls hl => ?_)
  exact L2 _ 1 M ls (lv_sub hl [1, 0] rfl) hF
theorem dX6_isThere_0 : decode cX6_isThere 0 = .ok (.aload_n 0, 1) := by decide +kernel
theorem dX6_isThere_1 : decode cX6_isThere 1 = .ok (.getfield 15, 3) := by decide +kernel
theorem dX6_isThere_4 : decode cX6_isThere 4 = .ok (.ifCond .lt 7, 3) := by decide +kernel
theorem dX6_isThere_7 : decode cX6_isThere 7 = .ok (.iconst 1, 1) := by decide +kernel
theorem dX6_isThere_8 : decode cX6_isThere 8 = .ok (.goto 4, 3) := by decide +kernel
theorem dX6_isThere_11 : decode cX6_isThere 11 = .ok (.iconst 0, 1) := by decide +kernel
theorem dX6_isThere_12 : decode cX6_isThere 12 = .ok (.ireturn, 1) := by decide +kernel
theorem cv_X6_isThere : wn_cV yX6_isThere cX6_isThere 1 (some .boolean) RX6 0 := ⟨wm_324, wm_386, wm_387, wm_28, by decide +kernel⟩
abbrev rm_X6_isThere : Room := rmz 0 0
set_option maxHeartbeats 4000000 in
set_option maxRecDepth 100000 in
theorem c_X6_isThere {ad : Nat → Nat} {o : Nat} {M : Mm} {q : Int32 × Mm} (ho : shp o = 6) (hF : f_X6_isThere o M = some q) : KI ad yX6_isThere cX6_isThere 1 (some .boolean) rm_X6_isThere [.ref (ad o)] M q.1 q.2 := by
  refine wn_enterI (own := RX6) (by decide) rfl (Nat.le_of_ble_eq_true rfl) (fun X ls Z hQ hl => ?_)
  have hl : lv_has ls 1 [(0, .ref (ad o))] := hl
  unfold f_X6_isThere at hF
  refine r_aload_n Z dX6_isThere_0 rfl (lv_at hl 0 rfl) ?_
  refine g_6_1 Z ho wm_21 dX6_isThere_1 ?_
  refine r_if_lt Z 11 dX6_isThere_4 (by decide) (fun hc1 => ?_) (fun hc1 => ?_)
  · replace hF := if_some hc1 hF
    refine r_iconst (v := 0) Z dX6_isThere_11 (by decide) ?_
    exact r_zret Z hQ (by decide) hF dX6_isThere_12
  · replace hF := nif_some hc1 hF
    refine r_iconst (v := 1) Z dX6_isThere_7 (by decide) ?_
    refine r_goto Z 12 dX6_isThere_8 (by decide) ?_
    exact r_zret Z hQ (by decide) hF dX6_isThere_12
theorem dX6_isWithin_0 : decode cX6_isWithin 0 = .ok (.iconst 0, 1) := by decide +kernel
theorem dX6_isWithin_1 : decode cX6_isWithin 1 = .ok (.istore_n 3, 1) := by decide +kernel
theorem dX6_isWithin_2 : decode cX6_isWithin 2 = .ok (.iload_n 3, 1) := by decide +kernel
theorem dX6_isWithin_3 : decode cX6_isWithin 3 = .ok (.aload_n 0, 1) := by decide +kernel
theorem dX6_isWithin_4 : decode cX6_isWithin 4 = .ok (.getfield 15, 3) := by decide +kernel
theorem dX6_isWithin_7 : decode cX6_isWithin 7 = .ok (.if_icmp .ge 29, 3) := by decide +kernel
theorem dX6_isWithin_10 : decode cX6_isWithin 10 = .ok (.aload_n 0, 1) := by decide +kernel
theorem dX6_isWithin_11 : decode cX6_isWithin 11 = .ok (.iload_n 3, 1) := by decide +kernel
theorem dX6_isWithin_12 : decode cX6_isWithin 12 = .ok (.invokevirtual 42, 3) := by decide +kernel
theorem dX6_isWithin_15 : decode cX6_isWithin 15 = .ok (.iload_n 1, 1) := by decide +kernel
theorem dX6_isWithin_16 : decode cX6_isWithin 16 = .ok (.if_icmp .lt 12, 3) := by decide +kernel
theorem dX6_isWithin_19 : decode cX6_isWithin 19 = .ok (.aload_n 0, 1) := by decide +kernel
theorem dX6_isWithin_20 : decode cX6_isWithin 20 = .ok (.iload_n 3, 1) := by decide +kernel
theorem dX6_isWithin_21 : decode cX6_isWithin 21 = .ok (.invokevirtual 42, 3) := by decide +kernel
theorem dX6_isWithin_24 : decode cX6_isWithin 24 = .ok (.iload_n 2, 1) := by decide +kernel
theorem dX6_isWithin_25 : decode cX6_isWithin 25 = .ok (.if_icmp .le 5, 3) := by decide +kernel
theorem dX6_isWithin_28 : decode cX6_isWithin 28 = .ok (.iconst 0, 1) := by decide +kernel
theorem dX6_isWithin_29 : decode cX6_isWithin 29 = .ok (.ireturn, 1) := by decide +kernel
theorem dX6_isWithin_30 : decode cX6_isWithin 30 = .ok (.iinc 3 1, 3) := by decide +kernel
theorem dX6_isWithin_33 : decode cX6_isWithin 33 = .ok (.goto (-31), 3) := by decide +kernel
theorem dX6_isWithin_36 : decode cX6_isWithin 36 = .ok (.iconst 1, 1) := by decide +kernel
theorem dX6_isWithin_37 : decode cX6_isWithin 37 = .ok (.ireturn, 1) := by decide +kernel
theorem cv_X6_isWithin : wn_cV yX6_isWithin cX6_isWithin 4 (some .boolean) RX6 2 := ⟨wm_341, wm_558, wm_559, wm_28, by decide +kernel⟩
abbrev rm_X6_isWithin : Room := rmz 2 42
set_option maxHeartbeats 4000000 in
set_option maxRecDepth 100000 in
theorem c_X6_isWithin {ad : Nat → Nat} {o : Nat} {x1 : Int32} {x2 : Int32} {M : Mm} {q : Int32 × Mm} (ho : shp o = 6) (hF : f_X6_isWithin o x1 x2 M = some q) : KI ad yX6_isWithin cX6_isWithin 4 (some .boolean) rm_X6_isWithin [.ref (ad o), .int x1, .int x2] M q.1 q.2 := by
  refine wn_enterI (own := RX6) (by decide) rfl (Nat.le_of_ble_eq_true rfl) (fun X ls Z hQ hl => ?_)
  have hl : lv_has ls 4 [(0, .ref (ad o)), (1, .int x1), (2, .int x2)] := hl
  have L2 : ∀ (n2 : Nat) (v1 : Int32) (v2 : Int32) (v3 : Int32) (M : Mm) (ls : Array Slot), lv_has ls 4 [(0, .ref (ad o)), (1, .int v1), (2, .int v2), (3, .int v3)] → f_X6_isWithin_b2 o n2 v1 v2 v3 M = some q → G ad X M 2 ls [] := by
    intro n2
    induction n2 with
    | zero =>
      intro v1 v2 v3 M ls hl hF
      cases hF
    | succ n2 ih2 =>
      intro v1 v2 v3 M ls hl hF
      replace hF : f_X6_isWithin_b2B (f_X6_isWithin_b2 o n2) o v1 v2 v3 M = some q := hF
      unfold f_X6_isWithin_b2B at hF
      refine r_iload_n Z dX6_isWithin_2 rfl (lv_at hl 3 rfl) ?_
      refine r_aload_n Z dX6_isWithin_3 rfl (lv_at hl 0 rfl) ?_
      refine g_6_1 Z ho wm_21 dX6_isWithin_4 ?_
      refine r_icmp_ge Z 36 dX6_isWithin_7 (by decide) (fun hc1 => ?_) (fun hc1 => ?_)
      · replace hF := if_some hc1 hF
        refine r_iconst (v := 1) Z dX6_isWithin_36 (by decide) ?_
        exact r_zret Z hQ (by decide) hF dX6_isWithin_37
      · replace hF := nif_some hc1 hF
        refine r_aload_n Z dX6_isWithin_10 rfl (lv_at hl 0 rfl) ?_
        refine r_iload_n Z dX6_isWithin_11 rfl (lv_at hl 3 rfl) ?_
        obtain ⟨q2, hq2, hF⟩ := bd_some hF
        refine r_invVi [] Z (c_X6_at ho hq2) cv_X6_at rfl (shp_lt ho (by decide)) (fun _ _ => ⟨_, ce_6 ho⟩) wm_340 rfl rfl ⟨Nat.le_of_ble_eq_true rfl, Nat.le_of_ble_eq_true rfl⟩ rfl hl.1 rfl (Nat.le_of_ble_eq_true rfl) dX6_isWithin_12 ?_
        refine r_iload_n Z dX6_isWithin_15 rfl (lv_at hl 1 rfl) ?_
        refine r_icmp_lt Z 28 dX6_isWithin_16 (by decide) (fun hc3 => ?_) (fun hc3 => ?_)
        · replace hF := if_some hc3 hF
          refine r_iconst (v := 0) Z dX6_isWithin_28 (by decide) ?_
          exact r_zret Z hQ (by decide) hF dX6_isWithin_29
        · replace hF := nif_some hc3 hF
          refine r_aload_n Z dX6_isWithin_19 rfl (lv_at hl 0 rfl) ?_
          refine r_iload_n Z dX6_isWithin_20 rfl (lv_at hl 3 rfl) ?_
          obtain ⟨q4, hq4, hF⟩ := bd_some hF
          refine r_invVi [] Z (c_X6_at ho hq4) cv_X6_at rfl (shp_lt ho (by decide)) (fun _ _ => ⟨_, ce_6 ho⟩) wm_340 rfl rfl ⟨Nat.le_of_ble_eq_true rfl, Nat.le_of_ble_eq_true rfl⟩ rfl hl.1 rfl (Nat.le_of_ble_eq_true rfl) dX6_isWithin_21 ?_
          refine r_iload_n Z dX6_isWithin_24 rfl (lv_at hl 2 rfl) ?_
          refine r_icmp_le Z 30 dX6_isWithin_25 (by decide) (fun hc5 => ?_) (fun hc5 => ?_)
          · replace hF := if_some hc5 hF
            obtain ⟨t6, et6, hF⟩ := nm_some hF
            refine r_iinc (j := 3) Z t6 [(3, .int t6), (0, .ref (ad o)), (1, .int v1), (2, .int v2)] dX6_isWithin_30 hl rfl (by rw [et6]; rfl) (by decide) rfl (fun ls hl => ?_)
            refine r_goto Z 2 dX6_isWithin_33 (by decide) ?_
            exact ih2 v1 v2 t6 q4.2 ls (lv_sub hl [1, 2, 3, 0] rfl) hF
          · replace hF := nif_some hc5 hF
            refine r_iconst (v := 0) Z dX6_isWithin_28 (by decide) ?_
            exact r_zret Z hQ (by decide) hF dX6_isWithin_29
  unfold f_X6_isWithin at hF
  refine r_iconst (v := 0) Z dX6_isWithin_0 (by decide) ?_
  refine r_istore_n Z [(3, .int 0), (0, .ref (ad o)), (1, .int x1), (2, .int x2)] dX6_isWithin_1 rfl hl (by decide) rfl (fun ls hl => ?_)
  exact L2 _ x1 x2 0 M ls (lv_sub hl [1, 2, 3, 0] rfl) hF
theorem dX6_mixInto_0 : decode cX6_mixInto 0 = .ok (.ldc2_w 46, 3) := by decide +kernel
theorem dX6_mixInto_3 : decode cX6_mixInto 3 = .ok (.lload_n 1, 1) := by decide +kernel
theorem dX6_mixInto_4 : decode cX6_mixInto 4 = .ok (.lmul, 1) := by decide +kernel
theorem dX6_mixInto_5 : decode cX6_mixInto 5 = .ok (.aload_n 0, 1) := by decide +kernel
theorem dX6_mixInto_6 : decode cX6_mixInto 6 = .ok (.getfield 15, 3) := by decide +kernel
theorem dX6_mixInto_9 : decode cX6_mixInto 9 = .ok (.i2l, 1) := by decide +kernel
theorem dX6_mixInto_10 : decode cX6_mixInto 10 = .ok (.ladd, 1) := by decide +kernel
theorem dX6_mixInto_11 : decode cX6_mixInto 11 = .ok (.lstore_n 3, 1) := by decide +kernel
theorem dX6_mixInto_12 : decode cX6_mixInto 12 = .ok (.iconst 0, 1) := by decide +kernel
theorem dX6_mixInto_13 : decode cX6_mixInto 13 = .ok (.istore 5, 2) := by decide +kernel
theorem dX6_mixInto_15 : decode cX6_mixInto 15 = .ok (.iload 5, 2) := by decide +kernel
theorem dX6_mixInto_17 : decode cX6_mixInto 17 = .ok (.aload_n 0, 1) := by decide +kernel
theorem dX6_mixInto_18 : decode cX6_mixInto 18 = .ok (.getfield 15, 3) := by decide +kernel
theorem dX6_mixInto_21 : decode cX6_mixInto 21 = .ok (.if_icmp .ge 23, 3) := by decide +kernel
theorem dX6_mixInto_24 : decode cX6_mixInto 24 = .ok (.ldc2_w 46, 3) := by decide +kernel
theorem dX6_mixInto_27 : decode cX6_mixInto 27 = .ok (.lload_n 3, 1) := by decide +kernel
theorem dX6_mixInto_28 : decode cX6_mixInto 28 = .ok (.lmul, 1) := by decide +kernel
theorem dX6_mixInto_29 : decode cX6_mixInto 29 = .ok (.aload_n 0, 1) := by decide +kernel
theorem dX6_mixInto_30 : decode cX6_mixInto 30 = .ok (.iload 5, 2) := by decide +kernel
theorem dX6_mixInto_32 : decode cX6_mixInto 32 = .ok (.invokevirtual 42, 3) := by decide +kernel
theorem dX6_mixInto_35 : decode cX6_mixInto 35 = .ok (.i2l, 1) := by decide +kernel
theorem dX6_mixInto_36 : decode cX6_mixInto 36 = .ok (.ladd, 1) := by decide +kernel
theorem dX6_mixInto_37 : decode cX6_mixInto 37 = .ok (.lstore_n 3, 1) := by decide +kernel
theorem dX6_mixInto_38 : decode cX6_mixInto 38 = .ok (.iinc 5 1, 3) := by decide +kernel
theorem dX6_mixInto_41 : decode cX6_mixInto 41 = .ok (.goto (-26), 3) := by decide +kernel
theorem dX6_mixInto_44 : decode cX6_mixInto 44 = .ok (.lload_n 3, 1) := by decide +kernel
theorem dX6_mixInto_45 : decode cX6_mixInto 45 = .ok (.lreturn, 1) := by decide +kernel
theorem cv_X6_mixInto : wn_cV yX6_mixInto cX6_mixInto 6 (some .long) RX6 1 := ⟨wm_344, wm_603, wm_604, wm_28, by decide +kernel⟩
abbrev rm_X6_mixInto : Room := rmz 2 42
set_option maxHeartbeats 4000000 in
set_option maxRecDepth 100000 in
theorem c_X6_mixInto {ad : Nat → Nat} {o : Nat} {x1 : Int64} {M : Mm} {q : Int64 × Mm} (ho : shp o = 6) (hF : f_X6_mixInto o x1 M = some q) : KL ad yX6_mixInto cX6_mixInto 6 (some .long) rm_X6_mixInto [.ref (ad o), .long x1] M q.1 q.2 := by
  refine wn_enterL (own := RX6) (by decide) rfl (Nat.le_of_ble_eq_true rfl) (fun X ls Z hQ hl => ?_)
  have hl : lv_has ls 6 [(0, .ref (ad o)), (1, .long x1)] := hl
  have L15 : ∀ (n15 : Nat) (v3 : Int64) (v5 : Int32) (M : Mm) (ls : Array Slot), lv_has ls 6 [(0, .ref (ad o)), (3, .long v3), (5, .int v5)] → f_X6_mixInto_b15 o n15 v3 v5 M = some q → G ad X M 15 ls [] := by
    intro n15
    induction n15 with
    | zero =>
      intro v3 v5 M ls hl hF
      cases hF
    | succ n15 ih15 =>
      intro v3 v5 M ls hl hF
      replace hF : f_X6_mixInto_b15B (f_X6_mixInto_b15 o n15) o v3 v5 M = some q := hF
      unfold f_X6_mixInto_b15B at hF
      refine r_iload Z dX6_mixInto_15 (lv_at hl 2 rfl) ?_
      refine r_aload_n Z dX6_mixInto_17 rfl (lv_at hl 0 rfl) ?_
      refine g_6_1 Z ho wm_21 dX6_mixInto_18 ?_
      refine r_icmp_ge Z 44 dX6_mixInto_21 (by decide) (fun hc1 => ?_) (fun hc1 => ?_)
      · replace hF := if_some hc1 hF
        refine r_lload_n Z dX6_mixInto_44 rfl (lv_at hl 1 rfl) ?_
        exact r_lret Z hQ hF dX6_mixInto_45
      · replace hF := nif_some hc1 hF
        refine r_ldc2 Z wm_345 dX6_mixInto_24 ?_
        refine r_lload_n Z dX6_mixInto_27 rfl (lv_at hl 1 rfl) ?_
        refine r_lmul Z dX6_mixInto_28 ?_
        refine r_aload_n Z dX6_mixInto_29 rfl (lv_at hl 0 rfl) ?_
        refine r_iload Z dX6_mixInto_30 (lv_at hl 2 rfl) ?_
        obtain ⟨q2, hq2, hF⟩ := bd_some hF
        refine r_invVi [.long (31 * v3)] Z (c_X6_at ho hq2) cv_X6_at rfl (shp_lt ho (by decide)) (fun _ _ => ⟨_, ce_6 ho⟩) wm_340 rfl rfl ⟨Nat.le_of_ble_eq_true rfl, Nat.le_of_ble_eq_true rfl⟩ rfl hl.1 rfl (Nat.le_of_ble_eq_true rfl) dX6_mixInto_32 ?_
        refine r_i2l Z dX6_mixInto_35 ?_
        refine r_ladd Z dX6_mixInto_36 ?_
        obtain ⟨t3, et3, hF⟩ := nm_some hF
        rw [← et3]
        refine r_lstore_n Z [(3, .long t3), (0, .ref (ad o)), (5, .int v5)] dX6_mixInto_37 rfl hl (by decide) rfl (fun ls hl => ?_)
        obtain ⟨t4, et4, hF⟩ := nm_some hF
        refine r_iinc (j := 2) Z t4 [(5, .int t4), (3, .long t3), (0, .ref (ad o))] dX6_mixInto_38 hl rfl (by rw [et4]; rfl) (by decide) rfl (fun ls hl => ?_)
        refine r_goto Z 15 dX6_mixInto_41 (by decide) ?_
        exact ih15 t3 t4 q2.2 ls (lv_sub hl [2, 1, 0] rfl) hF
  unfold f_X6_mixInto at hF
  refine r_ldc2 Z wm_345 dX6_mixInto_0 ?_
  refine r_lload_n Z dX6_mixInto_3 rfl (lv_at hl 1 rfl) ?_
  refine r_lmul Z dX6_mixInto_4 ?_
  refine r_aload_n Z dX6_mixInto_5 rfl (lv_at hl 0 rfl) ?_
  refine g_6_1 Z ho wm_21 dX6_mixInto_6 ?_
  refine r_i2l Z dX6_mixInto_9 ?_
  refine r_ladd Z dX6_mixInto_10 ?_
  obtain ⟨t5, et5, hF⟩ := nm_some hF
  rw [← et5]
  refine r_lstore_n Z [(3, .long t5), (0, .ref (ad o)), (1, .long x1)] dX6_mixInto_11 rfl hl (by decide) rfl (fun ls hl => ?_)
  refine r_iconst (v := 0) Z dX6_mixInto_12 (by decide) ?_
  refine r_istore Z [(5, .int 0), (3, .long t5), (0, .ref (ad o)), (1, .long x1)] dX6_mixInto_13 hl (by decide) rfl (fun ls hl => ?_)
  exact L15 _ t5 0 M ls (lv_sub hl [2, 1, 0] rfl) hF
theorem dX6_put_0 : decode cX6_put 0 = .ok (.aload_n 0, 1) := by decide +kernel
theorem dX6_put_1 : decode cX6_put 1 = .ok (.iload_n 1, 1) := by decide +kernel
theorem dX6_put_2 : decode cX6_put 2 = .ok (.invokevirtual 28, 3) := by decide +kernel
theorem dX6_put_5 : decode cX6_put 5 = .ok (.ifCond .eq 10, 3) := by decide +kernel
theorem dX6_put_8 : decode cX6_put 8 = .ok (.aload_n 0, 1) := by decide +kernel
theorem dX6_put_9 : decode cX6_put 9 = .ok (.getfield 9, 3) := by decide +kernel
theorem dX6_put_12 : decode cX6_put 12 = .ok (.iload_n 1, 1) := by decide +kernel
theorem dX6_put_13 : decode cX6_put 13 = .ok (.iload_n 2, 1) := by decide +kernel
theorem dX6_put_14 : decode cX6_put 14 = .ok (.iastore, 1) := by decide +kernel
theorem dX6_put_15 : decode cX6_put 15 = .ok (.return_, 1) := by decide +kernel
theorem cv_X6_put : wn_cV yX6_put cX6_put 3 none RX6 2 := ⟨wm_330, wm_391, wm_392, wm_28, by decide +kernel⟩
abbrev rm_X6_put : Room := rmz 1 21
set_option maxHeartbeats 4000000 in
set_option maxRecDepth 100000 in
theorem c_X6_put {ad : Nat → Nat} {o : Nat} {x1 : Int32} {x2 : Int32} {M : Mm} {q : Mm} (ho : shp o = 6) (hF : f_X6_put o x1 x2 M = some q) : KV ad yX6_put cX6_put 3 none rm_X6_put [.ref (ad o), .int x1, .int x2] M q := by
  refine wn_enterV (own := RX6) (by decide) rfl (Nat.le_of_ble_eq_true rfl) (fun X ls Z hQ hl => ?_)
  have hl : lv_has ls 3 [(0, .ref (ad o)), (1, .int x1), (2, .int x2)] := hl
  unfold f_X6_put at hF
  refine r_aload_n Z dX6_put_0 rfl (lv_at hl 0 rfl) ?_
  refine r_iload_n Z dX6_put_1 rfl (lv_at hl 1 rfl) ?_
  obtain ⟨q1, hq1, hF⟩ := bd_some hF
  refine r_invVi [] Z (c_X6_has ho hq1) cv_X6_has rfl (shp_lt ho (by decide)) (fun _ _ => ⟨_, ce_6 ho⟩) wm_25 rfl rfl ⟨Nat.le_of_ble_eq_true rfl, Nat.le_of_ble_eq_true rfl⟩ rfl hl.1 rfl (Nat.le_of_ble_eq_true rfl) dX6_put_2 ?_
  refine r_if_eq Z 15 dX6_put_5 (by decide) (fun hc2 => ?_) (fun hc2 => ?_)
  · replace hF := if_some hc2 hF
    exact r_vret Z hQ hF dX6_put_15
  · replace hF := nif_some hc2 hF
    refine r_aload_n Z dX6_put_8 rfl (lv_at hl 0 rfl) ?_
    refine g_6_0 Z ho wm_23 dX6_put_9 ?_
    refine r_iload_n Z dX6_put_12 rfl (lv_at hl 1 rfl) ?_
    refine r_iload_n Z dX6_put_13 rfl (lv_at hl 2 rfl) ?_
    obtain ⟨hi3, hF⟩ := ck_some hF
    obtain ⟨M4, eM4, hF⟩ := nm_some hF
    refine r_iastore Z (shp_lt (sh_6_0 ho) (by decide)) (fun _ _ => ce_140 (sh_6_0 ho)) hi3 dX6_put_14 ?_
    rw [← eM4]
    exact r_vret Z hQ hF dX6_put_15
theorem dX6_spans_0 : decode cX6_spans 0 = .ok (.iload_n 1, 1) := by decide +kernel
theorem dX6_spans_1 : decode cX6_spans 1 = .ok (.ifCond .lt 25, 3) := by decide +kernel
theorem dX6_spans_4 : decode cX6_spans 4 = .ok (.iload_n 2, 1) := by decide +kernel
theorem dX6_spans_5 : decode cX6_spans 5 = .ok (.ifCond .lt 21, 3) := by decide +kernel
theorem dX6_spans_8 : decode cX6_spans 8 = .ok (.iload_n 1, 1) := by decide +kernel
theorem dX6_spans_9 : decode cX6_spans 9 = .ok (.i2l, 1) := by decide +kernel
theorem dX6_spans_10 : decode cX6_spans 10 = .ok (.iload_n 2, 1) := by decide +kernel
theorem dX6_spans_11 : decode cX6_spans 11 = .ok (.i2l, 1) := by decide +kernel
theorem dX6_spans_12 : decode cX6_spans 12 = .ok (.ladd, 1) := by decide +kernel
theorem dX6_spans_13 : decode cX6_spans 13 = .ok (.aload_n 0, 1) := by decide +kernel
theorem dX6_spans_14 : decode cX6_spans 14 = .ok (.getfield 15, 3) := by decide +kernel
theorem dX6_spans_17 : decode cX6_spans 17 = .ok (.i2l, 1) := by decide +kernel
theorem dX6_spans_18 : decode cX6_spans 18 = .ok (.lcmp, 1) := by decide +kernel
theorem dX6_spans_19 : decode cX6_spans 19 = .ok (.ifCond .gt 7, 3) := by decide +kernel
theorem dX6_spans_22 : decode cX6_spans 22 = .ok (.iconst 1, 1) := by decide +kernel
theorem dX6_spans_23 : decode cX6_spans 23 = .ok (.goto 4, 3) := by decide +kernel
theorem dX6_spans_26 : decode cX6_spans 26 = .ok (.iconst 0, 1) := by decide +kernel
theorem dX6_spans_27 : decode cX6_spans 27 = .ok (.ireturn, 1) := by decide +kernel
theorem cv_X6_spans : wn_cV yX6_spans cX6_spans 3 (some .boolean) RX6 2 := ⟨wm_329, wm_337, wm_338, wm_28, by decide +kernel⟩
abbrev rm_X6_spans : Room := rmz 0 0
set_option maxHeartbeats 4000000 in
set_option maxRecDepth 100000 in
theorem c_X6_spans {ad : Nat → Nat} {o : Nat} {x1 : Int32} {x2 : Int32} {M : Mm} {q : Int32 × Mm} (ho : shp o = 6) (hF : f_X6_spans o x1 x2 M = some q) : KI ad yX6_spans cX6_spans 3 (some .boolean) rm_X6_spans [.ref (ad o), .int x1, .int x2] M q.1 q.2 := by
  refine wn_enterI (own := RX6) (by decide) rfl (Nat.le_of_ble_eq_true rfl) (fun X ls Z hQ hl => ?_)
  have hl : lv_has ls 3 [(0, .ref (ad o)), (1, .int x1), (2, .int x2)] := hl
  unfold f_X6_spans at hF
  refine r_iload_n Z dX6_spans_0 rfl (lv_at hl 1 rfl) ?_
  refine r_if_lt Z 26 dX6_spans_1 (by decide) (fun hc1 => ?_) (fun hc1 => ?_)
  · replace hF := if_some hc1 hF
    refine r_iconst (v := 0) Z dX6_spans_26 (by decide) ?_
    exact r_zret Z hQ (by decide) hF dX6_spans_27
  · replace hF := nif_some hc1 hF
    refine r_iload_n Z dX6_spans_4 rfl (lv_at hl 2 rfl) ?_
    refine r_if_lt Z 26 dX6_spans_5 (by decide) (fun hc2 => ?_) (fun hc2 => ?_)
    · replace hF := if_some hc2 hF
      refine r_iconst (v := 0) Z dX6_spans_26 (by decide) ?_
      exact r_zret Z hQ (by decide) hF dX6_spans_27
    · replace hF := nif_some hc2 hF
      refine r_iload_n Z dX6_spans_8 rfl (lv_at hl 1 rfl) ?_
      refine r_i2l Z dX6_spans_9 ?_
      refine r_iload_n Z dX6_spans_10 rfl (lv_at hl 2 rfl) ?_
      refine r_i2l Z dX6_spans_11 ?_
      refine r_ladd Z dX6_spans_12 ?_
      refine r_aload_n Z dX6_spans_13 rfl (lv_at hl 0 rfl) ?_
      refine g_6_1 Z ho wm_21 dX6_spans_14 ?_
      refine r_i2l Z dX6_spans_17 ?_
      refine r_lcmp Z dX6_spans_18 ?_
      refine r_if_gt Z 26 dX6_spans_19 (by decide) (fun hc3 => ?_) (fun hc3 => ?_)
      · replace hF := if_some hc3 hF
        refine r_iconst (v := 0) Z dX6_spans_26 (by decide) ?_
        exact r_zret Z hQ (by decide) hF dX6_spans_27
      · replace hF := nif_some hc3 hF
        refine r_iconst (v := 1) Z dX6_spans_22 (by decide) ?_
        refine r_goto Z 27 dX6_spans_23 (by decide) ?_
        exact r_zret Z hQ (by decide) hF dX6_spans_27
theorem dX6_sum_0 : decode cX6_sum 0 = .ok (.lconst 0, 1) := by decide +kernel
theorem dX6_sum_1 : decode cX6_sum 1 = .ok (.lstore_n 1, 1) := by decide +kernel
theorem dX6_sum_2 : decode cX6_sum 2 = .ok (.iconst 0, 1) := by decide +kernel
theorem dX6_sum_3 : decode cX6_sum 3 = .ok (.istore_n 3, 1) := by decide +kernel
theorem dX6_sum_4 : decode cX6_sum 4 = .ok (.iload_n 3, 1) := by decide +kernel
theorem dX6_sum_5 : decode cX6_sum 5 = .ok (.aload_n 0, 1) := by decide +kernel
theorem dX6_sum_6 : decode cX6_sum 6 = .ok (.getfield 15, 3) := by decide +kernel
theorem dX6_sum_9 : decode cX6_sum 9 = .ok (.if_icmp .ge 18, 3) := by decide +kernel
theorem dX6_sum_12 : decode cX6_sum 12 = .ok (.lload_n 1, 1) := by decide +kernel
theorem dX6_sum_13 : decode cX6_sum 13 = .ok (.aload_n 0, 1) := by decide +kernel
theorem dX6_sum_14 : decode cX6_sum 14 = .ok (.iload_n 3, 1) := by decide +kernel
theorem dX6_sum_15 : decode cX6_sum 15 = .ok (.invokevirtual 42, 3) := by decide +kernel
theorem dX6_sum_18 : decode cX6_sum 18 = .ok (.i2l, 1) := by decide +kernel
theorem dX6_sum_19 : decode cX6_sum 19 = .ok (.ladd, 1) := by decide +kernel
theorem dX6_sum_20 : decode cX6_sum 20 = .ok (.lstore_n 1, 1) := by decide +kernel
theorem dX6_sum_21 : decode cX6_sum 21 = .ok (.iinc 3 1, 3) := by decide +kernel
theorem dX6_sum_24 : decode cX6_sum 24 = .ok (.goto (-20), 3) := by decide +kernel
theorem dX6_sum_27 : decode cX6_sum 27 = .ok (.lload_n 1, 1) := by decide +kernel
theorem dX6_sum_28 : decode cX6_sum 28 = .ok (.lreturn, 1) := by decide +kernel
theorem cv_X6_sum : wn_cV yX6_sum cX6_sum 4 (some .long) RX6 0 := ⟨wm_339, wm_405, wm_406, wm_28, by decide +kernel⟩
abbrev rm_X6_sum : Room := rmz 2 42
set_option maxHeartbeats 4000000 in
set_option maxRecDepth 100000 in
theorem c_X6_sum {ad : Nat → Nat} {o : Nat} {M : Mm} {q : Int64 × Mm} (ho : shp o = 6) (hF : f_X6_sum o M = some q) : KL ad yX6_sum cX6_sum 4 (some .long) rm_X6_sum [.ref (ad o)] M q.1 q.2 := by
  refine wn_enterL (own := RX6) (by decide) rfl (Nat.le_of_ble_eq_true rfl) (fun X ls Z hQ hl => ?_)
  have hl : lv_has ls 4 [(0, .ref (ad o))] := hl
  have L4 : ∀ (n4 : Nat) (v1 : Int64) (v3 : Int32) (M : Mm) (ls : Array Slot), lv_has ls 4 [(0, .ref (ad o)), (1, .long v1), (3, .int v3)] → f_X6_sum_b4 o n4 v1 v3 M = some q → G ad X M 4 ls [] := by
    intro n4
    induction n4 with
    | zero =>
      intro v1 v3 M ls hl hF
      cases hF
    | succ n4 ih4 =>
      intro v1 v3 M ls hl hF
      replace hF : f_X6_sum_b4B (f_X6_sum_b4 o n4) o v1 v3 M = some q := hF
      unfold f_X6_sum_b4B at hF
      refine r_iload_n Z dX6_sum_4 rfl (lv_at hl 2 rfl) ?_
      refine r_aload_n Z dX6_sum_5 rfl (lv_at hl 0 rfl) ?_
      refine g_6_1 Z ho wm_21 dX6_sum_6 ?_
      refine r_icmp_ge Z 27 dX6_sum_9 (by decide) (fun hc1 => ?_) (fun hc1 => ?_)
      · replace hF := if_some hc1 hF
        refine r_lload_n Z dX6_sum_27 rfl (lv_at hl 1 rfl) ?_
        exact r_lret Z hQ hF dX6_sum_28
      · replace hF := nif_some hc1 hF
        refine r_lload_n Z dX6_sum_12 rfl (lv_at hl 1 rfl) ?_
        refine r_aload_n Z dX6_sum_13 rfl (lv_at hl 0 rfl) ?_
        refine r_iload_n Z dX6_sum_14 rfl (lv_at hl 2 rfl) ?_
        obtain ⟨q2, hq2, hF⟩ := bd_some hF
        refine r_invVi [.long v1] Z (c_X6_at ho hq2) cv_X6_at rfl (shp_lt ho (by decide)) (fun _ _ => ⟨_, ce_6 ho⟩) wm_340 rfl rfl ⟨Nat.le_of_ble_eq_true rfl, Nat.le_of_ble_eq_true rfl⟩ rfl hl.1 rfl (Nat.le_of_ble_eq_true rfl) dX6_sum_15 ?_
        refine r_i2l Z dX6_sum_18 ?_
        refine r_ladd Z dX6_sum_19 ?_
        obtain ⟨t3, et3, hF⟩ := nm_some hF
        rw [← et3]
        refine r_lstore_n Z [(1, .long t3), (0, .ref (ad o)), (3, .int v3)] dX6_sum_20 rfl hl (by decide) rfl (fun ls hl => ?_)
        obtain ⟨t4, et4, hF⟩ := nm_some hF
        refine r_iinc (j := 2) Z t4 [(3, .int t4), (1, .long t3), (0, .ref (ad o))] dX6_sum_21 hl rfl (by rw [et4]; rfl) (by decide) rfl (fun ls hl => ?_)
        refine r_goto Z 4 dX6_sum_24 (by decide) ?_
        exact ih4 t3 t4 q2.2 ls (lv_sub hl [2, 1, 0] rfl) hF
  unfold f_X6_sum at hF
  refine r_lconst (v := 0) Z dX6_sum_0 (by decide) ?_
  refine r_lstore_n Z [(1, .long 0), (0, .ref (ad o))] dX6_sum_1 rfl hl (by decide) rfl (fun ls hl => ?_)
  refine r_iconst (v := 0) Z dX6_sum_2 (by decide) ?_
  refine r_istore_n Z [(3, .int 0), (1, .long 0), (0, .ref (ad o))] dX6_sum_3 rfl hl (by decide) rfl (fun ls hl => ?_)
  exact L4 _ 0 0 M ls (lv_sub hl [2, 1, 0] rfl) hF
theorem dX6_take_0 : decode cX6_take 0 = .ok (.aload_n 1, 1) := by decide +kernel
theorem dX6_take_1 : decode cX6_take 1 = .ok (.iload_n 2, 1) := by decide +kernel
theorem dX6_take_2 : decode cX6_take 2 = .ok (.iload 4, 2) := by decide +kernel
theorem dX6_take_4 : decode cX6_take 4 = .ok (.invokevirtual 32, 3) := by decide +kernel
theorem dX6_take_7 : decode cX6_take 7 = .ok (.ifCond .eq 28, 3) := by decide +kernel
theorem dX6_take_10 : decode cX6_take 10 = .ok (.aload_n 0, 1) := by decide +kernel
theorem dX6_take_11 : decode cX6_take 11 = .ok (.iload_n 3, 1) := by decide +kernel
theorem dX6_take_12 : decode cX6_take 12 = .ok (.iload 4, 2) := by decide +kernel
theorem dX6_take_14 : decode cX6_take 14 = .ok (.invokevirtual 32, 3) := by decide +kernel
theorem dX6_take_17 : decode cX6_take 17 = .ok (.ifCond .eq 18, 3) := by decide +kernel
theorem dX6_take_20 : decode cX6_take 20 = .ok (.aload_n 1, 1) := by decide +kernel
theorem dX6_take_21 : decode cX6_take 21 = .ok (.getfield 9, 3) := by decide +kernel
theorem dX6_take_24 : decode cX6_take 24 = .ok (.iload_n 2, 1) := by decide +kernel
theorem dX6_take_25 : decode cX6_take 25 = .ok (.aload_n 0, 1) := by decide +kernel
theorem dX6_take_26 : decode cX6_take 26 = .ok (.getfield 9, 3) := by decide +kernel
theorem dX6_take_29 : decode cX6_take 29 = .ok (.iload_n 3, 1) := by decide +kernel
theorem dX6_take_30 : decode cX6_take 30 = .ok (.iload 4, 2) := by decide +kernel
theorem dX6_take_32 : decode cX6_take 32 = .ok (.invokestatic 36, 3) := by decide +kernel
theorem dX6_take_35 : decode cX6_take 35 = .ok (.return_, 1) := by decide +kernel
theorem cv_X6_take : wn_cV yX6_take cX6_take 5 none RX6 4 := ⟨wm_331, wm_400, wm_401, wm_28, by decide +kernel⟩
abbrev rm_X6_take : Room := rmz 1 22
set_option maxHeartbeats 4000000 in
set_option maxRecDepth 100000 in
theorem c_X6_take {ad : Nat → Nat} {o : Nat} {x1 : Nat} {x2 : Int32} {x3 : Int32} {x4 : Int32} {M : Mm} {q : Mm} (ho : shp o = 6) (h1 : shp x1 = 6) (hF : f_X6_take o x1 x2 x3 x4 M = some q) : KV ad yX6_take cX6_take 5 none rm_X6_take [.ref (ad o), .ref (ad x1), .int x2, .int x3, .int x4] M q := by
  refine wn_enterV (own := RX6) (by decide) rfl (Nat.le_of_ble_eq_true rfl) (fun X ls Z hQ hl => ?_)
  have hl : lv_has ls 5 [(0, .ref (ad o)), (1, .ref (ad x1)), (2, .int x2), (3, .int x3), (4, .int x4)] := hl
  unfold f_X6_take at hF
  refine r_aload_n Z dX6_take_0 rfl (lv_at hl 1 rfl) ?_
  refine r_iload_n Z dX6_take_1 rfl (lv_at hl 2 rfl) ?_
  refine r_iload Z dX6_take_2 (lv_at hl 4 rfl) ?_
  obtain ⟨q1, hq1, hF⟩ := bd_some hF
  refine r_invVi [] Z (c_X6_spans h1 hq1) cv_X6_spans rfl (shp_lt h1 (by decide)) (fun _ _ => ⟨_, ce_6 h1⟩) wm_336 rfl rfl ⟨Nat.le_of_ble_eq_true rfl, Nat.le_of_ble_eq_true rfl⟩ rfl hl.1 rfl (Nat.le_of_ble_eq_true rfl) dX6_take_4 ?_
  refine r_if_eq Z 35 dX6_take_7 (by decide) (fun hc2 => ?_) (fun hc2 => ?_)
  · replace hF := if_some hc2 hF
    exact r_vret Z hQ hF dX6_take_35
  · replace hF := nif_some hc2 hF
    refine r_aload_n Z dX6_take_10 rfl (lv_at hl 0 rfl) ?_
    refine r_iload_n Z dX6_take_11 rfl (lv_at hl 3 rfl) ?_
    refine r_iload Z dX6_take_12 (lv_at hl 4 rfl) ?_
    obtain ⟨q3, hq3, hF⟩ := bd_some hF
    refine r_invVi [] Z (c_X6_spans ho hq3) cv_X6_spans rfl (shp_lt ho (by decide)) (fun _ _ => ⟨_, ce_6 ho⟩) wm_336 rfl rfl ⟨Nat.le_of_ble_eq_true rfl, Nat.le_of_ble_eq_true rfl⟩ rfl hl.1 rfl (Nat.le_of_ble_eq_true rfl) dX6_take_14 ?_
    refine r_if_eq Z 35 dX6_take_17 (by decide) (fun hc4 => ?_) (fun hc4 => ?_)
    · replace hF := if_some hc4 hF
      exact r_vret Z hQ hF dX6_take_35
    · replace hF := nif_some hc4 hF
      refine r_aload_n Z dX6_take_20 rfl (lv_at hl 1 rfl) ?_
      refine g_6_0 Z h1 wm_23 dX6_take_21 ?_
      refine r_iload_n Z dX6_take_24 rfl (lv_at hl 2 rfl) ?_
      refine r_aload_n Z dX6_take_25 rfl (lv_at hl 0 rfl) ?_
      refine g_6_0 Z ho wm_23 dX6_take_26 ?_
      refine r_iload_n Z dX6_take_29 rfl (lv_at hl 3 rfl) ?_
      refine r_iload Z dX6_take_30 (lv_at hl 4 rfl) ?_
      obtain ⟨⟨hp51, hp52, hp53, hp54, hp55⟩, hF⟩ := cpk_some hF
      obtain ⟨M6, eM6, hF⟩ := nm_some hF
      refine r_acopy Z wm_332 wm_333 wm_334 wm_335 (shp_lt (sh_6_0 h1) (by decide)) (shp_lt (sh_6_0 ho) (by decide)) (fun _ _ => ce_140 (sh_6_0 h1)) (fun _ _ => ce_140 (sh_6_0 ho)) hp51 hp52 hp53 hp54 hp55 (Nat.le_of_ble_eq_true rfl) (Nat.le_of_ble_eq_true rfl) hl.1 dX6_take_32 ?_
      rw [← eM6]
      exact r_vret Z hQ hF dX6_take_35
theorem dX8_asked_0 : decode cX8_asked 0 = .ok (.aload_n 0, 1) := by decide +kernel
theorem dX8_asked_1 : decode cX8_asked 1 = .ok (.getfield 58, 3) := by decide +kernel
theorem dX8_asked_4 : decode cX8_asked 4 = .ok (.ireturn, 1) := by decide +kernel
theorem cv_X8_asked : wn_cV yX8_asked cX8_asked 1 (some .int) RX8 0 := ⟨wm_580, wm_1075, wm_1076, wm_377, by decide +kernel⟩
abbrev rm_X8_asked : Room := rmz 0 0
set_option maxHeartbeats 4000000 in
set_option maxRecDepth 100000 in
theorem c_X8_asked {ad : Nat → Nat} {o : Nat} {M : Mm} {q : Int32 × Mm} (ho : shp o = 8) (hF : f_X8_asked o M = some q) : KI ad yX8_asked cX8_asked 1 (some .int) rm_X8_asked [.ref (ad o)] M q.1 q.2 := by
  refine wn_enterI (own := RX8) (by decide) rfl (Nat.le_of_ble_eq_true rfl) (fun X ls Z hQ hl => ?_)
  have hl : lv_has ls 1 [(0, .ref (ad o))] := hl
  unfold f_X8_asked at hF
  refine r_aload_n Z dX8_asked_0 rfl (lv_at hl 0 rfl) ?_
  refine g_8_8 Z ho wm_365 dX8_asked_1 ?_
  exact r_iret Z hQ hF dX8_asked_4
theorem dX8_isRowNumber_0 : decode cX8_isRowNumber 0 = .ok (.iload_n 0, 1) := by decide +kernel
theorem dX8_isRowNumber_1 : decode cX8_isRowNumber 1 = .ok (.ifCond .lt 13, 3) := by decide +kernel
theorem dX8_isRowNumber_4 : decode cX8_isRowNumber 4 = .ok (.iload_n 0, 1) := by decide +kernel
theorem dX8_isRowNumber_5 : decode cX8_isRowNumber 5 = .ok (.bipush 6, 2) := by decide +kernel
theorem dX8_isRowNumber_7 : decode cX8_isRowNumber 7 = .ok (.if_icmp .ge 7, 3) := by decide +kernel
theorem dX8_isRowNumber_10 : decode cX8_isRowNumber 10 = .ok (.iconst 1, 1) := by decide +kernel
theorem dX8_isRowNumber_11 : decode cX8_isRowNumber 11 = .ok (.goto 4, 3) := by decide +kernel
theorem dX8_isRowNumber_14 : decode cX8_isRowNumber 14 = .ok (.iconst 0, 1) := by decide +kernel
theorem dX8_isRowNumber_15 : decode cX8_isRowNumber 15 = .ok (.ireturn, 1) := by decide +kernel
theorem cv_X8_isRowNumber : wn_cS yX8_isRowNumber cX8_isRowNumber 1 (some .boolean) 1 := ⟨wm_373, wm_376, wm_377, by decide +kernel⟩
abbrev rm_X8_isRowNumber : Room := rmz 0 0
set_option maxHeartbeats 4000000 in
set_option maxRecDepth 100000 in
theorem c_X8_isRowNumber {ad : Nat → Nat} {x1 : Int32} {M : Mm} {q : Int32 × Mm} (hF : f_X8_isRowNumber x1 M = some q) : KI ad yX8_isRowNumber cX8_isRowNumber 1 (some .boolean) rm_X8_isRowNumber [.int x1] M q.1 q.2 := by
  refine wn_enterI (own := RX8) (by decide) rfl (Nat.le_of_ble_eq_true rfl) (fun X ls Z hQ hl => ?_)
  have hl : lv_has ls 1 [(0, .int x1)] := hl
  unfold f_X8_isRowNumber at hF
  refine r_iload_n Z dX8_isRowNumber_0 rfl (lv_at hl 0 rfl) ?_
  refine r_if_lt Z 14 dX8_isRowNumber_1 (by decide) (fun hc1 => ?_) (fun hc1 => ?_)
  · replace hF := if_some hc1 hF
    refine r_iconst (v := 0) Z dX8_isRowNumber_14 (by decide) ?_
    exact r_zret Z hQ (by decide) hF dX8_isRowNumber_15
  · replace hF := nif_some hc1 hF
    refine r_iload_n Z dX8_isRowNumber_4 rfl (lv_at hl 0 rfl) ?_
    refine r_bipush (v := 6) Z dX8_isRowNumber_5 (by decide) ?_
    refine r_icmp_ge Z 14 dX8_isRowNumber_7 (by decide) (fun hc2 => ?_) (fun hc2 => ?_)
    · replace hF := if_some hc2 hF
      refine r_iconst (v := 0) Z dX8_isRowNumber_14 (by decide) ?_
      exact r_zret Z hQ (by decide) hF dX8_isRowNumber_15
    · replace hF := nif_some hc2 hF
      refine r_iconst (v := 1) Z dX8_isRowNumber_10 (by decide) ?_
      refine r_goto Z 15 dX8_isRowNumber_11 (by decide) ?_
      exact r_zret Z hQ (by decide) hF dX8_isRowNumber_15
theorem dX8_refuse_0 : decode cX8_refuse 0 = .ok (.iload_n 1, 1) := by decide +kernel
theorem dX8_refuse_1 : decode cX8_refuse 1 = .ok (.iconst 1, 1) := by decide +kernel
theorem dX8_refuse_2 : decode cX8_refuse 2 = .ok (.if_icmp .lt 23, 3) := by decide +kernel
theorem dX8_refuse_5 : decode cX8_refuse 5 = .ok (.iload_n 1, 1) := by decide +kernel
theorem dX8_refuse_6 : decode cX8_refuse 6 = .ok (.iconst 5, 1) := by decide +kernel
theorem dX8_refuse_7 : decode cX8_refuse 7 = .ok (.if_icmp .gt 18, 3) := by decide +kernel
theorem dX8_refuse_10 : decode cX8_refuse 10 = .ok (.aload_n 0, 1) := by decide +kernel
theorem dX8_refuse_11 : decode cX8_refuse 11 = .ok (.iload_n 1, 1) := by decide +kernel
theorem dX8_refuse_12 : decode cX8_refuse 12 = .ok (.putfield 54, 3) := by decide +kernel
theorem dX8_refuse_15 : decode cX8_refuse 15 = .ok (.aload_n 0, 1) := by decide +kernel
theorem dX8_refuse_16 : decode cX8_refuse 16 = .ok (.getfield 50, 3) := by decide +kernel
theorem dX8_refuse_19 : decode cX8_refuse 19 = .ok (.iload_n 1, 1) := by decide +kernel
theorem dX8_refuse_20 : decode cX8_refuse 20 = .ok (.dup2, 1) := by decide +kernel
theorem dX8_refuse_21 : decode cX8_refuse 21 = .ok (.iaload, 1) := by decide +kernel
theorem dX8_refuse_22 : decode cX8_refuse 22 = .ok (.iconst 1, 1) := by decide +kernel
theorem dX8_refuse_23 : decode cX8_refuse 23 = .ok (.iadd, 1) := by decide +kernel
theorem dX8_refuse_24 : decode cX8_refuse 24 = .ok (.iastore, 1) := by decide +kernel
theorem dX8_refuse_25 : decode cX8_refuse 25 = .ok (.bipush (-3), 2) := by decide +kernel
theorem dX8_refuse_27 : decode cX8_refuse 27 = .ok (.ireturn, 1) := by decide +kernel
theorem cv_X8_refuse : wn_cV yX8_refuse cX8_refuse 2 (some .int) RX8 1 := ⟨wm_374, wm_379, wm_380, wm_377, by decide +kernel⟩
abbrev rm_X8_refuse : Room := rmz 0 0
set_option maxHeartbeats 4000000 in
set_option maxRecDepth 100000 in
theorem c_X8_refuse {ad : Nat → Nat} {o : Nat} {x1 : Int32} {M : Mm} {q : Int32 × Mm} (ho : shp o = 8) (hF : f_X8_refuse o x1 M = some q) : KI ad yX8_refuse cX8_refuse 2 (some .int) rm_X8_refuse [.ref (ad o), .int x1] M q.1 q.2 := by
  refine wn_enterI (own := RX8) (by decide) rfl (Nat.le_of_ble_eq_true rfl) (fun X ls Z hQ hl => ?_)
  have hl : lv_has ls 2 [(0, .ref (ad o)), (1, .int x1)] := hl
  unfold f_X8_refuse at hF
  refine r_iload_n Z dX8_refuse_0 rfl (lv_at hl 1 rfl) ?_
  refine r_iconst (v := 1) Z dX8_refuse_1 (by decide) ?_
  refine r_icmp_lt Z 25 dX8_refuse_2 (by decide) (fun hc1 => ?_) (fun hc1 => ?_)
  · replace hF := if_some hc1 hF
    refine r_bipush (v := (-3)) Z dX8_refuse_25 (by decide) ?_
    exact r_iret Z hQ hF dX8_refuse_27
  · replace hF := nif_some hc1 hF
    refine r_iload_n Z dX8_refuse_5 rfl (lv_at hl 1 rfl) ?_
    refine r_iconst (v := 5) Z dX8_refuse_6 (by decide) ?_
    refine r_icmp_gt Z 25 dX8_refuse_7 (by decide) (fun hc2 => ?_) (fun hc2 => ?_)
    · replace hF := if_some hc2 hF
      refine r_bipush (v := (-3)) Z dX8_refuse_25 (by decide) ?_
      exact r_iret Z hQ hF dX8_refuse_27
    · replace hF := nif_some hc2 hF
      refine r_aload_n Z dX8_refuse_10 rfl (lv_at hl 0 rfl) ?_
      refine r_iload_n Z dX8_refuse_11 rfl (lv_at hl 1 rfl) ?_
      obtain ⟨M3, eM3, hF⟩ := nm_some hF
      refine p_8_7 Z ho wm_364 dX8_refuse_12 ?_
      rw [← eM3]
      refine r_aload_n Z dX8_refuse_15 rfl (lv_at hl 0 rfl) ?_
      refine g_8_6 Z ho wm_363 dX8_refuse_16 ?_
      refine r_iload_n Z dX8_refuse_19 rfl (lv_at hl 1 rfl) ?_
      refine r_dup2 Z dX8_refuse_20 rfl rfl ?_
      obtain ⟨hi4, hF⟩ := ck_some hF
      refine r_iaload Z (shp_lt (sh_8_6 ho) (by decide)) (fun _ _ => ce_106 (sh_8_6 ho)) hi4 dX8_refuse_21 ?_
      refine r_iconst (v := 1) Z dX8_refuse_22 (by decide) ?_
      refine r_iadd Z dX8_refuse_23 ?_
      obtain ⟨hi5, hF⟩ := ck_some hF
      obtain ⟨M6, eM6, hF⟩ := nm_some hF
      refine r_iastore Z (shp_lt (sh_8_6 ho) (by decide)) (fun _ _ => ce_106 (sh_8_6 ho)) hi5 dX8_refuse_24 ?_
      rw [← eM6]
      refine r_bipush (v := (-3)) Z dX8_refuse_25 (by decide) ?_
      exact r_iret Z hQ hF dX8_refuse_27

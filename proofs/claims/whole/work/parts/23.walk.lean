theorem dX9_counter_0 : decode cX9_counter 0 = .ok (.iload_n 1, 1) := by decide +kernel
theorem dX9_counter_1 : decode cX9_counter 1 = .ok (.invokestatic 100, 3) := by decide +kernel
theorem dX9_counter_4 : decode cX9_counter 4 = .ok (.ifCond .eq 12, 3) := by decide +kernel
theorem dX9_counter_7 : decode cX9_counter 7 = .ok (.iload_n 2, 1) := by decide +kernel
theorem dX9_counter_8 : decode cX9_counter 8 = .ok (.iconst 0, 1) := by decide +kernel
theorem dX9_counter_9 : decode cX9_counter 9 = .ok (.iconst 5, 1) := by decide +kernel
theorem dX9_counter_10 : decode cX9_counter 10 = .ok (.invokestatic 81, 3) := by decide +kernel
theorem dX9_counter_13 : decode cX9_counter 13 = .ok (.ifCond .ne 5, 3) := by decide +kernel
theorem dX9_counter_16 : decode cX9_counter 16 = .ok (.iconst (-1), 1) := by decide +kernel
theorem dX9_counter_17 : decode cX9_counter 17 = .ok (.ireturn, 1) := by decide +kernel
theorem dX9_counter_18 : decode cX9_counter 18 = .ok (.aload_n 0, 1) := by decide +kernel
theorem dX9_counter_19 : decode cX9_counter 19 = .ok (.getfield 26, 3) := by decide +kernel
theorem dX9_counter_22 : decode cX9_counter 22 = .ok (.iload_n 1, 1) := by decide +kernel
theorem dX9_counter_23 : decode cX9_counter 23 = .ok (.baload, 1) := by decide +kernel
theorem dX9_counter_24 : decode cX9_counter 24 = .ok (.ifCond .eq 7, 3) := by decide +kernel
theorem dX9_counter_27 : decode cX9_counter 27 = .ok (.iconst 1, 1) := by decide +kernel
theorem dX9_counter_28 : decode cX9_counter 28 = .ok (.goto 4, 3) := by decide +kernel
theorem dX9_counter_31 : decode cX9_counter 31 = .ok (.iconst 0, 1) := by decide +kernel
theorem dX9_counter_32 : decode cX9_counter 32 = .ok (.istore_n 3, 1) := by decide +kernel
theorem dX9_counter_33 : decode cX9_counter 33 = .ok (.aload_n 0, 1) := by decide +kernel
theorem dX9_counter_34 : decode cX9_counter 34 = .ok (.iload_n 1, 1) := by decide +kernel
theorem dX9_counter_35 : decode cX9_counter 35 = .ok (.invokevirtual 103, 3) := by decide +kernel
theorem dX9_counter_38 : decode cX9_counter 38 = .ok (.aload_n 0, 1) := by decide +kernel
theorem dX9_counter_39 : decode cX9_counter 39 = .ok (.getfield 26, 3) := by decide +kernel
theorem dX9_counter_42 : decode cX9_counter 42 = .ok (.iload_n 1, 1) := by decide +kernel
theorem dX9_counter_43 : decode cX9_counter 43 = .ok (.iconst 1, 1) := by decide +kernel
theorem dX9_counter_44 : decode cX9_counter 44 = .ok (.bastore, 1) := by decide +kernel
theorem dX9_counter_45 : decode cX9_counter 45 = .ok (.aload_n 0, 1) := by decide +kernel
theorem dX9_counter_46 : decode cX9_counter 46 = .ok (.getfield 30, 3) := by decide +kernel
theorem dX9_counter_49 : decode cX9_counter 49 = .ok (.iload_n 1, 1) := by decide +kernel
theorem dX9_counter_50 : decode cX9_counter 50 = .ok (.iload_n 2, 1) := by decide +kernel
theorem dX9_counter_51 : decode cX9_counter 51 = .ok (.iastore, 1) := by decide +kernel
theorem dX9_counter_52 : decode cX9_counter 52 = .ok (.aload_n 0, 1) := by decide +kernel
theorem dX9_counter_53 : decode cX9_counter 53 = .ok (.getfield 33, 3) := by decide +kernel
theorem dX9_counter_56 : decode cX9_counter 56 = .ok (.iload_n 1, 1) := by decide +kernel
theorem dX9_counter_57 : decode cX9_counter 57 = .ok (.iconst 1, 1) := by decide +kernel
theorem dX9_counter_58 : decode cX9_counter 58 = .ok (.iastore, 1) := by decide +kernel
theorem dX9_counter_59 : decode cX9_counter 59 = .ok (.aload_n 0, 1) := by decide +kernel
theorem dX9_counter_60 : decode cX9_counter 60 = .ok (.getfield 36, 3) := by decide +kernel
theorem dX9_counter_63 : decode cX9_counter 63 = .ok (.iload_n 1, 1) := by decide +kernel
theorem dX9_counter_64 : decode cX9_counter 64 = .ok (.iconst 1, 1) := by decide +kernel
theorem dX9_counter_65 : decode cX9_counter 65 = .ok (.iastore, 1) := by decide +kernel
theorem dX9_counter_66 : decode cX9_counter 66 = .ok (.aload_n 0, 1) := by decide +kernel
theorem dX9_counter_67 : decode cX9_counter 67 = .ok (.getfield 39, 3) := by decide +kernel
theorem dX9_counter_70 : decode cX9_counter 70 = .ok (.iload_n 1, 1) := by decide +kernel
theorem dX9_counter_71 : decode cX9_counter 71 = .ok (.iconst 1, 1) := by decide +kernel
theorem dX9_counter_72 : decode cX9_counter 72 = .ok (.iastore, 1) := by decide +kernel
theorem dX9_counter_73 : decode cX9_counter 73 = .ok (.iload_n 3, 1) := by decide +kernel
theorem dX9_counter_74 : decode cX9_counter 74 = .ok (.ireturn, 1) := by decide +kernel
theorem cv_X9_counter : wn_cV yX9_counter cX9_counter 4 (some .int) RX9 2 := ⟨wm_663, wm_892, wm_893, wm_637, by decide +kernel⟩
abbrev rm_X9_counter : Room := rmz 2 42
set_option maxHeartbeats 4000000 in
set_option maxRecDepth 100000 in
theorem c_X9_counter {ad : Nat → Nat} {o : Nat} {x1 : Int32} {x2 : Int32} {M : Mm} {q : Int32 × Mm} (ho : shp o = 9) (hF : f_X9_counter o x1 x2 M = some q) : KI ad yX9_counter cX9_counter 4 (some .int) rm_X9_counter [.ref (ad o), .int x1, .int x2] M q.1 q.2 := by
  refine wn_enterI (own := RX9) (by decide) rfl (Nat.le_of_ble_eq_true rfl) (fun X ls Z hQ hl => ?_)
  have hl : lv_has ls 4 [(0, .ref (ad o)), (1, .int x1), (2, .int x2)] := hl
  have L32 : ∀ (v1 : Int32) (v2 : Int32) (s0 : Int32) (M : Mm) (ls : Array Slot), lv_has ls 4 [(0, .ref (ad o)), (1, .int v1), (2, .int v2)] → f_X9_counter_b32 o v1 v2 s0 M = some q → G ad X M 32 ls [.int s0] := by
    intro v1 v2 s0 M ls hl hF
    unfold f_X9_counter_b32 at hF
    refine r_istore_n Z [(3, .int s0), (0, .ref (ad o)), (1, .int v1), (2, .int v2)] dX9_counter_32 rfl hl (by decide) rfl (fun ls hl => ?_)
    refine r_aload_n Z dX9_counter_33 rfl (lv_at hl 1 rfl) ?_
    refine r_iload_n Z dX9_counter_34 rfl (lv_at hl 2 rfl) ?_
    obtain ⟨M1, hM1, hF⟩ := bd_some hF
    refine r_invVv [] Z (c_X9_empty ho hM1) cv_X9_empty rfl (shp_lt ho (by decide)) (fun _ _ => ⟨_, ce_9 ho⟩) wm_664 rfl rfl ⟨Nat.le_of_ble_eq_true rfl, Nat.le_of_ble_eq_true rfl⟩ rfl hl.1 rfl (Nat.le_of_ble_eq_true rfl) dX9_counter_35 ?_
    refine r_aload_n Z dX9_counter_38 rfl (lv_at hl 1 rfl) ?_
    refine g_9_8 Z ho wm_614 dX9_counter_39 ?_
    refine r_iload_n Z dX9_counter_42 rfl (lv_at hl 2 rfl) ?_
    refine r_iconst (v := 1) Z dX9_counter_43 (by decide) ?_
    obtain ⟨hi2, hF⟩ := ck_some hF
    obtain ⟨M3, eM3, hF⟩ := nm_some hF
    refine r_zastore Z (by decide) (shp_lt (sh_9_8 ho) (by decide)) (fun _ _ => ce_2004 (sh_9_8 ho)) hi2 dX9_counter_44 ?_
    rw [← eM3]
    refine r_aload_n Z dX9_counter_45 rfl (lv_at hl 1 rfl) ?_
    refine g_9_9 Z ho wm_615 dX9_counter_46 ?_
    refine r_iload_n Z dX9_counter_49 rfl (lv_at hl 2 rfl) ?_
    refine r_iload_n Z dX9_counter_50 rfl (lv_at hl 3 rfl) ?_
    obtain ⟨hi4, hF⟩ := ck_some hF
    obtain ⟨M5, eM5, hF⟩ := nm_some hF
    refine r_iastore Z (shp_lt (sh_9_9 ho) (by decide)) (fun _ _ => ce_104 (sh_9_9 ho)) hi4 dX9_counter_51 ?_
    rw [← eM5]
    refine r_aload_n Z dX9_counter_52 rfl (lv_at hl 1 rfl) ?_
    refine g_9_10 Z ho wm_616 dX9_counter_53 ?_
    refine r_iload_n Z dX9_counter_56 rfl (lv_at hl 2 rfl) ?_
    refine r_iconst (v := 1) Z dX9_counter_57 (by decide) ?_
    obtain ⟨hi6, hF⟩ := ck_some hF
    obtain ⟨M7, eM7, hF⟩ := nm_some hF
    refine r_iastore Z (shp_lt (sh_9_10 ho) (by decide)) (fun _ _ => ce_104 (sh_9_10 ho)) hi6 dX9_counter_58 ?_
    rw [← eM7]
    refine r_aload_n Z dX9_counter_59 rfl (lv_at hl 1 rfl) ?_
    refine g_9_11 Z ho wm_617 dX9_counter_60 ?_
    refine r_iload_n Z dX9_counter_63 rfl (lv_at hl 2 rfl) ?_
    refine r_iconst (v := 1) Z dX9_counter_64 (by decide) ?_
    obtain ⟨hi8, hF⟩ := ck_some hF
    obtain ⟨M9, eM9, hF⟩ := nm_some hF
    refine r_iastore Z (shp_lt (sh_9_11 ho) (by decide)) (fun _ _ => ce_104 (sh_9_11 ho)) hi8 dX9_counter_65 ?_
    rw [← eM9]
    refine r_aload_n Z dX9_counter_66 rfl (lv_at hl 1 rfl) ?_
    refine g_9_12 Z ho wm_618 dX9_counter_67 ?_
    refine r_iload_n Z dX9_counter_70 rfl (lv_at hl 2 rfl) ?_
    refine r_iconst (v := 1) Z dX9_counter_71 (by decide) ?_
    obtain ⟨hi10, hF⟩ := ck_some hF
    obtain ⟨M11, eM11, hF⟩ := nm_some hF
    refine r_iastore Z (shp_lt (sh_9_12 ho) (by decide)) (fun _ _ => ce_104 (sh_9_12 ho)) hi10 dX9_counter_72 ?_
    rw [← eM11]
    refine r_iload_n Z dX9_counter_73 rfl (lv_at hl 0 rfl) ?_
    exact r_iret Z hQ hF dX9_counter_74
  unfold f_X9_counter at hF
  refine r_iload_n Z dX9_counter_0 rfl (lv_at hl 1 rfl) ?_
  obtain ⟨q12, hq12, hF⟩ := bd_some hF
  refine r_invSi [] Z (c_X9_isCounter hq12) cv_X9_isCounter wm_660 rfl rfl ⟨Nat.le_of_ble_eq_true rfl, Nat.le_of_ble_eq_true rfl⟩ rfl hl.1 rfl (Nat.le_of_ble_eq_true rfl) dX9_counter_1 ?_
  refine r_if_eq Z 16 dX9_counter_4 (by decide) (fun hc13 => ?_) (fun hc13 => ?_)
  · replace hF := if_some hc13 hF
    refine r_iconst (v := (-1)) Z dX9_counter_16 (by decide) ?_
    exact r_iret Z hQ hF dX9_counter_17
  · replace hF := nif_some hc13 hF
    refine r_iload_n Z dX9_counter_7 rfl (lv_at hl 2 rfl) ?_
    refine r_iconst (v := 0) Z dX9_counter_8 (by decide) ?_
    refine r_iconst (v := 5) Z dX9_counter_9 (by decide) ?_
    obtain ⟨q14, hq14, hF⟩ := bd_some hF
    refine r_invSi [] Z (c_X9_in hq14) cv_X9_in wm_639 rfl rfl ⟨Nat.le_of_ble_eq_true rfl, Nat.le_of_ble_eq_true rfl⟩ rfl hl.1 rfl (Nat.le_of_ble_eq_true rfl) dX9_counter_10 ?_
    refine r_if_ne Z 18 dX9_counter_13 (by decide) (fun hc15 => ?_) (fun hc15 => ?_)
    · replace hF := nif_some hc15 hF
      refine r_aload_n Z dX9_counter_18 rfl (lv_at hl 0 rfl) ?_
      refine g_9_8 Z ho wm_614 dX9_counter_19 ?_
      refine r_iload_n Z dX9_counter_22 rfl (lv_at hl 1 rfl) ?_
      obtain ⟨hi16, hF⟩ := ck_some hF
      refine r_zaload Z (shp_lt (sh_9_8 ho) (by decide)) (fun _ _ => ce_2004 (sh_9_8 ho)) hi16 dX9_counter_23 ?_
      refine r_if_eq Z 31 dX9_counter_24 (by decide) (fun hc17 => ?_) (fun hc17 => ?_)
      · replace hF := if_some hc17 hF
        refine r_iconst (v := 0) Z dX9_counter_31 (by decide) ?_
        exact L32 x1 x2 0 q14.2 ls (lv_sub hl [0, 1, 2] rfl) hF
      · replace hF := nif_some hc17 hF
        refine r_iconst (v := 1) Z dX9_counter_27 (by decide) ?_
        refine r_goto Z 32 dX9_counter_28 (by decide) ?_
        exact L32 x1 x2 1 q14.2 ls (lv_sub hl [0, 1, 2] rfl) hF
    · replace hF := if_some hc15 hF
      refine r_iconst (v := (-1)) Z dX9_counter_16 (by decide) ?_
      exact r_iret Z hQ hF dX9_counter_17
theorem dX9_mix_0 : decode cX9_mix 0 = .ok (.aload_n 0, 1) := by decide +kernel
theorem dX9_mix_1 : decode cX9_mix 1 = .ok (.ldc2_w 237, 3) := by decide +kernel
theorem dX9_mix_4 : decode cX9_mix 4 = .ok (.aload_n 0, 1) := by decide +kernel
theorem dX9_mix_5 : decode cX9_mix 5 = .ok (.getfield 239, 3) := by decide +kernel
theorem dX9_mix_8 : decode cX9_mix 8 = .ok (.lmul, 1) := by decide +kernel
theorem dX9_mix_9 : decode cX9_mix 9 = .ok (.iload_n 1, 1) := by decide +kernel
theorem dX9_mix_10 : decode cX9_mix 10 = .ok (.i2l, 1) := by decide +kernel
theorem dX9_mix_11 : decode cX9_mix 11 = .ok (.ladd, 1) := by decide +kernel
theorem dX9_mix_12 : decode cX9_mix 12 = .ok (.putfield 239, 3) := by decide +kernel
theorem dX9_mix_15 : decode cX9_mix 15 = .ok (.return_, 1) := by decide +kernel
theorem cv_X9_mix : wn_cV yX9_mix cX9_mix 2 none RX9 1 := ⟨wm_839, wm_844, wm_845, wm_637, by decide +kernel⟩
abbrev rm_X9_mix : Room := rmz 0 0
set_option maxHeartbeats 4000000 in
set_option maxRecDepth 100000 in
theorem c_X9_mix {ad : Nat → Nat} {o : Nat} {x1 : Int32} {M : Mm} {q : Mm} (ho : shp o = 9) (hF : f_X9_mix o x1 M = some q) : KV ad yX9_mix cX9_mix 2 none rm_X9_mix [.ref (ad o), .int x1] M q := by
  refine wn_enterV (own := RX9) (by decide) rfl (Nat.le_of_ble_eq_true rfl) (fun X ls Z hQ hl => ?_)
  have hl : lv_has ls 2 [(0, .ref (ad o)), (1, .int x1)] := hl
  unfold f_X9_mix at hF
  refine r_aload_n Z dX9_mix_0 rfl (lv_at hl 0 rfl) ?_
  refine r_ldc2 Z wm_840 dX9_mix_1 ?_
  refine r_aload_n Z dX9_mix_4 rfl (lv_at hl 0 rfl) ?_
  refine g_9_25 Z ho wm_841 dX9_mix_5 ?_
  refine r_lmul Z dX9_mix_8 ?_
  refine r_iload_n Z dX9_mix_9 rfl (lv_at hl 1 rfl) ?_
  refine r_i2l Z dX9_mix_10 ?_
  refine r_ladd Z dX9_mix_11 ?_
  obtain ⟨M1, eM1, hF⟩ := nm_some hF
  refine p_9_25 Z ho wm_841 dX9_mix_12 ?_
  rw [← eM1]
  exact r_vret Z hQ hF dX9_mix_15
theorem dX9_tells_0 : decode cX9_tells 0 = .ok (.iload_n 2, 1) := by decide +kernel
theorem dX9_tells_1 : decode cX9_tells 1 = .ok (.ifCond .ne 12, 3) := by decide +kernel
theorem dX9_tells_4 : decode cX9_tells 4 = .ok (.aload_n 0, 1) := by decide +kernel
theorem dX9_tells_5 : decode cX9_tells 5 = .ok (.getfield 30, 3) := by decide +kernel
theorem dX9_tells_8 : decode cX9_tells 8 = .ok (.iload_n 1, 1) := by decide +kernel
theorem dX9_tells_9 : decode cX9_tells 9 = .ok (.iaload, 1) := by decide +kernel
theorem dX9_tells_10 : decode cX9_tells 10 = .ok (.goto 52, 3) := by decide +kernel
theorem dX9_tells_13 : decode cX9_tells 13 = .ok (.iload_n 2, 1) := by decide +kernel
theorem dX9_tells_14 : decode cX9_tells 14 = .ok (.iconst 1, 1) := by decide +kernel
theorem dX9_tells_15 : decode cX9_tells 15 = .ok (.if_icmp .ne 12, 3) := by decide +kernel
theorem dX9_tells_18 : decode cX9_tells 18 = .ok (.aload_n 0, 1) := by decide +kernel
theorem dX9_tells_19 : decode cX9_tells 19 = .ok (.getfield 33, 3) := by decide +kernel
theorem dX9_tells_22 : decode cX9_tells 22 = .ok (.iload_n 1, 1) := by decide +kernel
theorem dX9_tells_23 : decode cX9_tells 23 = .ok (.iaload, 1) := by decide +kernel
theorem dX9_tells_24 : decode cX9_tells 24 = .ok (.goto 38, 3) := by decide +kernel
theorem dX9_tells_27 : decode cX9_tells 27 = .ok (.iload_n 2, 1) := by decide +kernel
theorem dX9_tells_28 : decode cX9_tells 28 = .ok (.iconst 2, 1) := by decide +kernel
theorem dX9_tells_29 : decode cX9_tells 29 = .ok (.if_icmp .ne 12, 3) := by decide +kernel
theorem dX9_tells_32 : decode cX9_tells 32 = .ok (.aload_n 0, 1) := by decide +kernel
theorem dX9_tells_33 : decode cX9_tells 33 = .ok (.getfield 36, 3) := by decide +kernel
theorem dX9_tells_36 : decode cX9_tells 36 = .ok (.iload_n 1, 1) := by decide +kernel
theorem dX9_tells_37 : decode cX9_tells 37 = .ok (.iaload, 1) := by decide +kernel
theorem dX9_tells_38 : decode cX9_tells 38 = .ok (.goto 24, 3) := by decide +kernel
theorem dX9_tells_41 : decode cX9_tells 41 = .ok (.iload_n 2, 1) := by decide +kernel
theorem dX9_tells_42 : decode cX9_tells 42 = .ok (.iconst 3, 1) := by decide +kernel
theorem dX9_tells_43 : decode cX9_tells 43 = .ok (.if_icmp .ne 12, 3) := by decide +kernel
theorem dX9_tells_46 : decode cX9_tells 46 = .ok (.aload_n 0, 1) := by decide +kernel
theorem dX9_tells_47 : decode cX9_tells 47 = .ok (.getfield 42, 3) := by decide +kernel
theorem dX9_tells_50 : decode cX9_tells 50 = .ok (.iload_n 1, 1) := by decide +kernel
theorem dX9_tells_51 : decode cX9_tells 51 = .ok (.iaload, 1) := by decide +kernel
theorem dX9_tells_52 : decode cX9_tells 52 = .ok (.goto 10, 3) := by decide +kernel
theorem dX9_tells_55 : decode cX9_tells 55 = .ok (.iconst 4, 1) := by decide +kernel
theorem dX9_tells_56 : decode cX9_tells 56 = .ok (.aload_n 0, 1) := by decide +kernel
theorem dX9_tells_57 : decode cX9_tells 57 = .ok (.iload_n 1, 1) := by decide +kernel
theorem dX9_tells_58 : decode cX9_tells 58 = .ok (.invokevirtual 110, 3) := by decide +kernel
theorem dX9_tells_61 : decode cX9_tells 61 = .ok (.isub, 1) := by decide +kernel
theorem dX9_tells_62 : decode cX9_tells 62 = .ok (.ireturn, 1) := by decide +kernel
theorem cv_X9_tells : wn_cV yX9_tells cX9_tells 3 (some .int) RX9 2 := ⟨wm_680, wm_682, wm_683, wm_637, by decide +kernel⟩
abbrev rm_X9_tells : Room := rmz 1 23
set_option maxHeartbeats 4000000 in
set_option maxRecDepth 100000 in
theorem c_X9_tells {ad : Nat → Nat} {o : Nat} {x1 : Int32} {x2 : Int32} {M : Mm} {q : Int32 × Mm} (ho : shp o = 9) (hF : f_X9_tells o x1 x2 M = some q) : KI ad yX9_tells cX9_tells 3 (some .int) rm_X9_tells [.ref (ad o), .int x1, .int x2] M q.1 q.2 := by
  refine wn_enterI (own := RX9) (by decide) rfl (Nat.le_of_ble_eq_true rfl) (fun X ls Z hQ hl => ?_)
  have hl : lv_has ls 3 [(0, .ref (ad o)), (1, .int x1), (2, .int x2)] := hl
  unfold f_X9_tells at hF
  refine r_iload_n Z dX9_tells_0 rfl (lv_at hl 2 rfl) ?_
  refine r_if_ne Z 13 dX9_tells_1 (by decide) (fun hc1 => ?_) (fun hc1 => ?_)
  · replace hF := nif_some hc1 hF
    refine r_iload_n Z dX9_tells_13 rfl (lv_at hl 2 rfl) ?_
    refine r_iconst (v := 1) Z dX9_tells_14 (by decide) ?_
    refine r_icmp_ne Z 27 dX9_tells_15 (by decide) (fun hc2 => ?_) (fun hc2 => ?_)
    · replace hF := nif_some hc2 hF
      refine r_iload_n Z dX9_tells_27 rfl (lv_at hl 2 rfl) ?_
      refine r_iconst (v := 2) Z dX9_tells_28 (by decide) ?_
      refine r_icmp_ne Z 41 dX9_tells_29 (by decide) (fun hc3 => ?_) (fun hc3 => ?_)
      · replace hF := nif_some hc3 hF
        refine r_iload_n Z dX9_tells_41 rfl (lv_at hl 2 rfl) ?_
        refine r_iconst (v := 3) Z dX9_tells_42 (by decide) ?_
        refine r_icmp_ne Z 55 dX9_tells_43 (by decide) (fun hc4 => ?_) (fun hc4 => ?_)
        · replace hF := nif_some hc4 hF
          refine r_iconst (v := 4) Z dX9_tells_55 (by decide) ?_
          refine r_aload_n Z dX9_tells_56 rfl (lv_at hl 0 rfl) ?_
          refine r_iload_n Z dX9_tells_57 rfl (lv_at hl 1 rfl) ?_
          obtain ⟨q5, hq5, hF⟩ := bd_some hF
          refine r_invVi [.int 4] Z (c_X9_outOf ho hq5) cv_X9_outOf rfl (shp_lt ho (by decide)) (fun _ _ => ⟨_, ce_9 ho⟩) wm_676 rfl rfl ⟨Nat.le_of_ble_eq_true rfl, Nat.le_of_ble_eq_true rfl⟩ rfl hl.1 rfl (Nat.le_of_ble_eq_true rfl) dX9_tells_58 ?_
          refine r_isub Z dX9_tells_61 ?_
          exact r_iret Z hQ hF dX9_tells_62
        · replace hF := if_some hc4 hF
          refine r_aload_n Z dX9_tells_46 rfl (lv_at hl 0 rfl) ?_
          refine g_9_13 Z ho wm_619 dX9_tells_47 ?_
          refine r_iload_n Z dX9_tells_50 rfl (lv_at hl 1 rfl) ?_
          obtain ⟨hi6, hF⟩ := ck_some hF
          refine r_iaload Z (shp_lt (sh_9_13 ho) (by decide)) (fun _ _ => ce_104 (sh_9_13 ho)) hi6 dX9_tells_51 ?_
          refine r_goto Z 62 dX9_tells_52 (by decide) ?_
          exact r_iret Z hQ hF dX9_tells_62
      · replace hF := if_some hc3 hF
        refine r_aload_n Z dX9_tells_32 rfl (lv_at hl 0 rfl) ?_
        refine g_9_11 Z ho wm_617 dX9_tells_33 ?_
        refine r_iload_n Z dX9_tells_36 rfl (lv_at hl 1 rfl) ?_
        obtain ⟨hi7, hF⟩ := ck_some hF
        refine r_iaload Z (shp_lt (sh_9_11 ho) (by decide)) (fun _ _ => ce_104 (sh_9_11 ho)) hi7 dX9_tells_37 ?_
        refine r_goto Z 62 dX9_tells_38 (by decide) ?_
        exact r_iret Z hQ hF dX9_tells_62
    · replace hF := if_some hc2 hF
      refine r_aload_n Z dX9_tells_18 rfl (lv_at hl 0 rfl) ?_
      refine g_9_10 Z ho wm_616 dX9_tells_19 ?_
      refine r_iload_n Z dX9_tells_22 rfl (lv_at hl 1 rfl) ?_
      obtain ⟨hi8, hF⟩ := ck_some hF
      refine r_iaload Z (shp_lt (sh_9_10 ho) (by decide)) (fun _ _ => ce_104 (sh_9_10 ho)) hi8 dX9_tells_23 ?_
      refine r_goto Z 62 dX9_tells_24 (by decide) ?_
      exact r_iret Z hQ hF dX9_tells_62
  · replace hF := if_some hc1 hF
    refine r_aload_n Z dX9_tells_4 rfl (lv_at hl 0 rfl) ?_
    refine g_9_9 Z ho wm_615 dX9_tells_5 ?_
    refine r_iload_n Z dX9_tells_8 rfl (lv_at hl 1 rfl) ?_
    obtain ⟨hi9, hF⟩ := ck_some hF
    refine r_iaload Z (shp_lt (sh_9_9 ho) (by decide)) (fun _ _ => ce_104 (sh_9_9 ho)) hi9 dX9_tells_9 ?_
    refine r_goto Z 62 dX9_tells_10 (by decide) ?_
    exact r_iret Z hQ hF dX9_tells_62
theorem dX9_digest_0 : decode cX9_digest 0 = .ok (.aload_n 0, 1) := by decide +kernel
theorem dX9_digest_1 : decode cX9_digest 1 = .ok (.ldc2_w 242, 3) := by decide +kernel
theorem dX9_digest_4 : decode cX9_digest 4 = .ok (.putfield 239, 3) := by decide +kernel
theorem dX9_digest_7 : decode cX9_digest 7 = .ok (.iconst 0, 1) := by decide +kernel
theorem dX9_digest_8 : decode cX9_digest 8 = .ok (.istore_n 1, 1) := by decide +kernel
theorem dX9_digest_9 : decode cX9_digest 9 = .ok (.iload_n 1, 1) := by decide +kernel
theorem dX9_digest_10 : decode cX9_digest 10 = .ok (.iconst 4, 1) := by decide +kernel
theorem dX9_digest_11 : decode cX9_digest 11 = .ok (.if_icmp .ge 96, 3) := by decide +kernel
theorem dX9_digest_14 : decode cX9_digest 14 = .ok (.aload_n 0, 1) := by decide +kernel
theorem dX9_digest_15 : decode cX9_digest 15 = .ok (.getfield 26, 3) := by decide +kernel
theorem dX9_digest_18 : decode cX9_digest 18 = .ok (.iload_n 1, 1) := by decide +kernel
theorem dX9_digest_19 : decode cX9_digest 19 = .ok (.baload, 1) := by decide +kernel
theorem dX9_digest_20 : decode cX9_digest 20 = .ok (.ifCond .ne 11, 3) := by decide +kernel
theorem dX9_digest_23 : decode cX9_digest 23 = .ok (.aload_n 0, 1) := by decide +kernel
theorem dX9_digest_24 : decode cX9_digest 24 = .ok (.iconst (-1), 1) := by decide +kernel
theorem dX9_digest_25 : decode cX9_digest 25 = .ok (.invokevirtual 244, 3) := by decide +kernel
theorem dX9_digest_28 : decode cX9_digest 28 = .ok (.goto 73, 3) := by decide +kernel
theorem dX9_digest_31 : decode cX9_digest 31 = .ok (.iconst 0, 1) := by decide +kernel
theorem dX9_digest_32 : decode cX9_digest 32 = .ok (.istore_n 2, 1) := by decide +kernel
theorem dX9_digest_33 : decode cX9_digest 33 = .ok (.iload_n 2, 1) := by decide +kernel
theorem dX9_digest_34 : decode cX9_digest 34 = .ok (.iconst 4, 1) := by decide +kernel
theorem dX9_digest_35 : decode cX9_digest 35 = .ok (.if_icmp .gt 19, 3) := by decide +kernel
theorem dX9_digest_38 : decode cX9_digest 38 = .ok (.aload_n 0, 1) := by decide +kernel
theorem dX9_digest_39 : decode cX9_digest 39 = .ok (.aload_n 0, 1) := by decide +kernel
theorem dX9_digest_40 : decode cX9_digest 40 = .ok (.iload_n 1, 1) := by decide +kernel
theorem dX9_digest_41 : decode cX9_digest 41 = .ok (.iload_n 2, 1) := by decide +kernel
theorem dX9_digest_42 : decode cX9_digest 42 = .ok (.invokevirtual 113, 3) := by decide +kernel
theorem dX9_digest_45 : decode cX9_digest 45 = .ok (.invokevirtual 244, 3) := by decide +kernel
theorem dX9_digest_48 : decode cX9_digest 48 = .ok (.iinc 2 1, 3) := by decide +kernel
theorem dX9_digest_51 : decode cX9_digest 51 = .ok (.goto (-18), 3) := by decide +kernel
theorem dX9_digest_54 : decode cX9_digest 54 = .ok (.aload_n 0, 1) := by decide +kernel
theorem dX9_digest_55 : decode cX9_digest 55 = .ok (.getfield 30, 3) := by decide +kernel
theorem dX9_digest_58 : decode cX9_digest 58 = .ok (.iload_n 1, 1) := by decide +kernel
theorem dX9_digest_59 : decode cX9_digest 59 = .ok (.iaload, 1) := by decide +kernel
theorem dX9_digest_60 : decode cX9_digest 60 = .ok (.iconst 5, 1) := by decide +kernel
theorem dX9_digest_61 : decode cX9_digest 61 = .ok (.if_icmp .ne 13, 3) := by decide +kernel
theorem dX9_digest_64 : decode cX9_digest 64 = .ok (.aload_n 0, 1) := by decide +kernel
theorem dX9_digest_65 : decode cX9_digest 65 = .ok (.aload_n 0, 1) := by decide +kernel
theorem dX9_digest_66 : decode cX9_digest 66 = .ok (.getfield 39, 3) := by decide +kernel
theorem dX9_digest_69 : decode cX9_digest 69 = .ok (.iload_n 1, 1) := by decide +kernel
theorem dX9_digest_70 : decode cX9_digest 70 = .ok (.iaload, 1) := by decide +kernel
theorem dX9_digest_71 : decode cX9_digest 71 = .ok (.invokevirtual 244, 3) := by decide +kernel
theorem dX9_digest_74 : decode cX9_digest 74 = .ok (.iconst 0, 1) := by decide +kernel
theorem dX9_digest_75 : decode cX9_digest 75 = .ok (.istore_n 2, 1) := by decide +kernel
theorem dX9_digest_76 : decode cX9_digest 76 = .ok (.iload_n 2, 1) := by decide +kernel
theorem dX9_digest_77 : decode cX9_digest 77 = .ok (.iconst 4, 1) := by decide +kernel
theorem dX9_digest_78 : decode cX9_digest 78 = .ok (.if_icmp .ge 23, 3) := by decide +kernel
theorem dX9_digest_81 : decode cX9_digest 81 = .ok (.aload_n 0, 1) := by decide +kernel
theorem dX9_digest_82 : decode cX9_digest 82 = .ok (.aload_n 0, 1) := by decide +kernel
theorem dX9_digest_83 : decode cX9_digest 83 = .ok (.getfield 45, 3) := by decide +kernel
theorem dX9_digest_86 : decode cX9_digest 86 = .ok (.iconst 4, 1) := by decide +kernel
theorem dX9_digest_87 : decode cX9_digest 87 = .ok (.iload_n 1, 1) := by decide +kernel
theorem dX9_digest_88 : decode cX9_digest 88 = .ok (.imul, 1) := by decide +kernel
theorem dX9_digest_89 : decode cX9_digest 89 = .ok (.iload_n 2, 1) := by decide +kernel
theorem dX9_digest_90 : decode cX9_digest 90 = .ok (.iadd, 1) := by decide +kernel
theorem dX9_digest_91 : decode cX9_digest 91 = .ok (.iaload, 1) := by decide +kernel
theorem dX9_digest_92 : decode cX9_digest 92 = .ok (.invokevirtual 244, 3) := by decide +kernel
theorem dX9_digest_95 : decode cX9_digest 95 = .ok (.iinc 2 1, 3) := by decide +kernel
theorem dX9_digest_98 : decode cX9_digest 98 = .ok (.goto (-22), 3) := by decide +kernel
theorem dX9_digest_101 : decode cX9_digest 101 = .ok (.iinc 1 1, 3) := by decide +kernel
theorem dX9_digest_104 : decode cX9_digest 104 = .ok (.goto (-95), 3) := by decide +kernel
theorem dX9_digest_107 : decode cX9_digest 107 = .ok (.iconst 0, 1) := by decide +kernel
theorem dX9_digest_108 : decode cX9_digest 108 = .ok (.istore_n 1, 1) := by decide +kernel
theorem dX9_digest_109 : decode cX9_digest 109 = .ok (.iload_n 1, 1) := by decide +kernel
theorem dX9_digest_110 : decode cX9_digest 110 = .ok (.bipush 6, 2) := by decide +kernel
theorem dX9_digest_112 : decode cX9_digest 112 = .ok (.if_icmp .ge 65, 3) := by decide +kernel
theorem dX9_digest_115 : decode cX9_digest 115 = .ok (.aload_n 0, 1) := by decide +kernel
theorem dX9_digest_116 : decode cX9_digest 116 = .ok (.aload_n 0, 1) := by decide +kernel
theorem dX9_digest_117 : decode cX9_digest 117 = .ok (.getfield 17, 3) := by decide +kernel
theorem dX9_digest_120 : decode cX9_digest 120 = .ok (.iload_n 1, 1) := by decide +kernel
theorem dX9_digest_121 : decode cX9_digest 121 = .ok (.iaload, 1) := by decide +kernel
theorem dX9_digest_122 : decode cX9_digest 122 = .ok (.ifCond .ge 7, 3) := by decide +kernel
theorem dX9_digest_125 : decode cX9_digest 125 = .ok (.iconst (-1), 1) := by decide +kernel
theorem dX9_digest_126 : decode cX9_digest 126 = .ok (.goto 9, 3) := by decide +kernel
theorem dX9_digest_129 : decode cX9_digest 129 = .ok (.aload_n 0, 1) := by decide +kernel
theorem dX9_digest_130 : decode cX9_digest 130 = .ok (.getfield 17, 3) := by decide +kernel
theorem dX9_digest_133 : decode cX9_digest 133 = .ok (.iload_n 1, 1) := by decide +kernel
theorem dX9_digest_134 : decode cX9_digest 134 = .ok (.iaload, 1) := by decide +kernel
theorem dX9_digest_135 : decode cX9_digest 135 = .ok (.invokevirtual 244, 3) := by decide +kernel
theorem dX9_digest_138 : decode cX9_digest 138 = .ok (.iconst 0, 1) := by decide +kernel
theorem dX9_digest_139 : decode cX9_digest 139 = .ok (.istore_n 2, 1) := by decide +kernel
theorem dX9_digest_140 : decode cX9_digest 140 = .ok (.iload_n 2, 1) := by decide +kernel
theorem dX9_digest_141 : decode cX9_digest 141 = .ok (.aload_n 0, 1) := by decide +kernel
theorem dX9_digest_142 : decode cX9_digest 142 = .ok (.getfield 17, 3) := by decide +kernel
theorem dX9_digest_145 : decode cX9_digest 145 = .ok (.iload_n 1, 1) := by decide +kernel
theorem dX9_digest_146 : decode cX9_digest 146 = .ok (.iaload, 1) := by decide +kernel
theorem dX9_digest_147 : decode cX9_digest 147 = .ok (.if_icmp .ge 24, 3) := by decide +kernel
theorem dX9_digest_150 : decode cX9_digest 150 = .ok (.aload_n 0, 1) := by decide +kernel
theorem dX9_digest_151 : decode cX9_digest 151 = .ok (.aload_n 0, 1) := by decide +kernel
theorem dX9_digest_152 : decode cX9_digest 152 = .ok (.getfield 20, 3) := by decide +kernel
theorem dX9_digest_155 : decode cX9_digest 155 = .ok (.bipush 40, 2) := by decide +kernel
theorem dX9_digest_157 : decode cX9_digest 157 = .ok (.iload_n 1, 1) := by decide +kernel
theorem dX9_digest_158 : decode cX9_digest 158 = .ok (.imul, 1) := by decide +kernel
theorem dX9_digest_159 : decode cX9_digest 159 = .ok (.iload_n 2, 1) := by decide +kernel
theorem dX9_digest_160 : decode cX9_digest 160 = .ok (.iadd, 1) := by decide +kernel
theorem dX9_digest_161 : decode cX9_digest 161 = .ok (.iaload, 1) := by decide +kernel
theorem dX9_digest_162 : decode cX9_digest 162 = .ok (.invokevirtual 244, 3) := by decide +kernel
theorem dX9_digest_165 : decode cX9_digest 165 = .ok (.iinc 2 1, 3) := by decide +kernel
theorem dX9_digest_168 : decode cX9_digest 168 = .ok (.goto (-28), 3) := by decide +kernel
theorem dX9_digest_171 : decode cX9_digest 171 = .ok (.iinc 1 1, 3) := by decide +kernel
theorem dX9_digest_174 : decode cX9_digest 174 = .ok (.goto (-65), 3) := by decide +kernel
theorem dX9_digest_177 : decode cX9_digest 177 = .ok (.aload_n 0, 1) := by decide +kernel
theorem dX9_digest_178 : decode cX9_digest 178 = .ok (.getfield 239, 3) := by decide +kernel
theorem dX9_digest_181 : decode cX9_digest 181 = .ok (.lreturn, 1) := by decide +kernel
theorem cv_X9_digest : wn_cV yX9_digest cX9_digest 3 (some .long) RX9 0 := ⟨wm_846, wm_1114, wm_1115, wm_637, by decide +kernel⟩
abbrev rm_X9_digest : Room := rmz 2 45
set_option maxHeartbeats 4000000 in
set_option maxRecDepth 100000 in
theorem c_X9_digest {ad : Nat → Nat} {o : Nat} {M : Mm} {q : Int64 × Mm} (ho : shp o = 9) (hF : f_X9_digest o M = some q) : KL ad yX9_digest cX9_digest 3 (some .long) rm_X9_digest [.ref (ad o)] M q.1 q.2 := by
  refine wn_enterL (own := RX9) (by decide) rfl (Nat.le_of_ble_eq_true rfl) (fun X ls Z hQ hl => ?_)
  have hl : lv_has ls 3 [(0, .ref (ad o))] := hl
  have L109 : ∀ (n109 : Nat) (v1 : Int32) (M : Mm) (ls : Array Slot), lv_has ls 3 [(0, .ref (ad o)), (1, .int v1)] → f_X9_digest_b109 o n109 v1 M = some q → G ad X M 109 ls [] := by
    intro n109
    induction n109 with
    | zero =>
      intro v1 M ls hl hF
      cases hF
    | succ n109 ih109 =>
      have L140 : ∀ (n140 : Nat) (v1 : Int32) (v2 : Int32) (M : Mm) (ls : Array Slot), lv_has ls 3 [(0, .ref (ad o)), (1, .int v1), (2, .int v2)] → f_X9_digest_b140 (f_X9_digest_b109 o n109) o n140 v1 v2 M = some q → G ad X M 140 ls [] := by
        intro n140
        induction n140 with
        | zero =>
          intro v1 v2 M ls hl hF
          cases hF
        | succ n140 ih140 =>
          intro v1 v2 M ls hl hF
          replace hF : f_X9_digest_b140B (f_X9_digest_b109 o n109) (f_X9_digest_b140 (f_X9_digest_b109 o n109) o n140) o v1 v2 M = some q := hF
          unfold f_X9_digest_b140B at hF
          refine r_iload_n Z dX9_digest_140 rfl (lv_at hl 2 rfl) ?_
          refine r_aload_n Z dX9_digest_141 rfl (lv_at hl 0 rfl) ?_
          refine g_9_5 Z ho wm_610 dX9_digest_142 ?_
          refine r_iload_n Z dX9_digest_145 rfl (lv_at hl 1 rfl) ?_
          obtain ⟨hi14, hF⟩ := ck_some hF
          refine r_iaload Z (shp_lt (sh_9_5 ho) (by decide)) (fun _ _ => ce_106 (sh_9_5 ho)) hi14 dX9_digest_146 ?_
          refine r_icmp_ge Z 171 dX9_digest_147 (by decide) (fun hc15 => ?_) (fun hc15 => ?_)
          · replace hF := if_some hc15 hF
            obtain ⟨t16, et16, hF⟩ := nm_some hF
            refine r_iinc (j := 1) Z t16 [(1, .int t16), (0, .ref (ad o)), (2, .int v2)] dX9_digest_171 hl rfl (by rw [et16]; rfl) (by decide) rfl (fun ls hl => ?_)
            refine r_goto Z 109 dX9_digest_174 (by decide) ?_
            exact ih109 t16 M ls (lv_sub hl [1, 0] rfl) hF
          · replace hF := nif_some hc15 hF
            refine r_aload_n Z dX9_digest_150 rfl (lv_at hl 0 rfl) ?_
            refine r_aload_n Z dX9_digest_151 rfl (lv_at hl 0 rfl) ?_
            refine g_9_6 Z ho wm_611 dX9_digest_152 ?_
            refine r_bipush (v := 40) Z dX9_digest_155 (by decide) ?_
            refine r_iload_n Z dX9_digest_157 rfl (lv_at hl 1 rfl) ?_
            refine r_imul Z dX9_digest_158 ?_
            refine r_iload_n Z dX9_digest_159 rfl (lv_at hl 2 rfl) ?_
            refine r_iadd Z dX9_digest_160 ?_
            obtain ⟨hi17, hF⟩ := ck_some hF
            refine r_iaload Z (shp_lt (sh_9_6 ho) (by decide)) (fun _ _ => ce_340 (sh_9_6 ho)) hi17 dX9_digest_161 ?_
            obtain ⟨M18, hM18, hF⟩ := bd_some hF
            refine r_invVv [] Z (c_X9_mix ho hM18) cv_X9_mix rfl (shp_lt ho (by decide)) (fun _ _ => ⟨_, ce_9 ho⟩) wm_843 rfl rfl ⟨Nat.le_of_ble_eq_true rfl, Nat.le_of_ble_eq_true rfl⟩ rfl hl.1 rfl (Nat.le_of_ble_eq_true rfl) dX9_digest_162 ?_
            obtain ⟨t19, et19, hF⟩ := nm_some hF
            refine r_iinc (j := 2) Z t19 [(2, .int t19), (0, .ref (ad o)), (1, .int v1)] dX9_digest_165 hl rfl (by rw [et19]; rfl) (by decide) rfl (fun ls hl => ?_)
            refine r_goto Z 140 dX9_digest_168 (by decide) ?_
            exact ih140 v1 t19 M18 ls (lv_sub hl [1, 2, 0] rfl) hF
      have L135 : ∀ (v1 : Int32) (s0 : Nat) (s1 : Int32) (M : Mm) (ls : Array Slot), shp s0 = 9 → lv_has ls 3 [(0, .ref (ad o)), (1, .int v1)] → f_X9_digest_b135 (f_X9_digest_b109 o n109) o v1 s0 s1 M = some q → G ad X M 135 ls [.int s1, .ref (ad s0)] := by
        intro v1 s0 s1 M ls hs0 hl hF
        unfold f_X9_digest_b135 at hF
        obtain ⟨M20, hM20, hF⟩ := bd_some hF
        refine r_invVv [] Z (c_X9_mix hs0 hM20) cv_X9_mix rfl (shp_lt hs0 (by decide)) (fun _ _ => ⟨_, ce_9 hs0⟩) wm_843 rfl rfl ⟨Nat.le_of_ble_eq_true rfl, Nat.le_of_ble_eq_true rfl⟩ rfl hl.1 rfl (Nat.le_of_ble_eq_true rfl) dX9_digest_135 ?_
        refine r_iconst (v := 0) Z dX9_digest_138 (by decide) ?_
        refine r_istore_n Z [(2, .int 0), (0, .ref (ad o)), (1, .int v1)] dX9_digest_139 rfl hl (by decide) rfl (fun ls hl => ?_)
        exact L140 _ v1 0 M20 ls (lv_sub hl [1, 2, 0] rfl) hF
      intro v1 M ls hl hF
      replace hF : f_X9_digest_b109B (f_X9_digest_b109 o n109) o v1 M = some q := hF
      unfold f_X9_digest_b109B at hF
      refine r_iload_n Z dX9_digest_109 rfl (lv_at hl 1 rfl) ?_
      refine r_bipush (v := 6) Z dX9_digest_110 (by decide) ?_
      refine r_icmp_ge Z 177 dX9_digest_112 (by decide) (fun hc21 => ?_) (fun hc21 => ?_)
      · replace hF := if_some hc21 hF
        refine r_aload_n Z dX9_digest_177 rfl (lv_at hl 0 rfl) ?_
        refine g_9_25 Z ho wm_841 dX9_digest_178 ?_
        exact r_lret Z hQ hF dX9_digest_181
      · replace hF := nif_some hc21 hF
        refine r_aload_n Z dX9_digest_115 rfl (lv_at hl 0 rfl) ?_
        refine r_aload_n Z dX9_digest_116 rfl (lv_at hl 0 rfl) ?_
        refine g_9_5 Z ho wm_610 dX9_digest_117 ?_
        refine r_iload_n Z dX9_digest_120 rfl (lv_at hl 1 rfl) ?_
        obtain ⟨hi22, hF⟩ := ck_some hF
        refine r_iaload Z (shp_lt (sh_9_5 ho) (by decide)) (fun _ _ => ce_106 (sh_9_5 ho)) hi22 dX9_digest_121 ?_
        refine r_if_ge Z 129 dX9_digest_122 (by decide) (fun hc23 => ?_) (fun hc23 => ?_)
        · replace hF := if_some hc23 hF
          refine r_aload_n Z dX9_digest_129 rfl (lv_at hl 0 rfl) ?_
          refine g_9_5 Z ho wm_610 dX9_digest_130 ?_
          refine r_iload_n Z dX9_digest_133 rfl (lv_at hl 1 rfl) ?_
          obtain ⟨hi24, hF⟩ := ck_some hF
          refine r_iaload Z (shp_lt (sh_9_5 ho) (by decide)) (fun _ _ => ce_106 (sh_9_5 ho)) hi24 dX9_digest_134 ?_
          exact L135 v1 o (mI M (fld o 5) (Int32.toNatClampNeg v1)) M ls ho (lv_sub hl [0, 1] rfl) hF
        · replace hF := nif_some hc23 hF
          refine r_iconst (v := (-1)) Z dX9_digest_125 (by decide) ?_
          refine r_goto Z 135 dX9_digest_126 (by decide) ?_
          exact L135 v1 o (-1) M ls ho (lv_sub hl [0, 1] rfl) hF
  have L9 : ∀ (n9 : Nat) (v1 : Int32) (M : Mm) (ls : Array Slot), lv_has ls 3 [(0, .ref (ad o)), (1, .int v1)] → f_X9_digest_b9 o n9 v1 M = some q → G ad X M 9 ls [] := by
    intro n9
    induction n9 with
    | zero =>
      intro v1 M ls hl hF
      cases hF
    | succ n9 ih9 =>
      have L76 : ∀ (n76 : Nat) (v1 : Int32) (v2 : Int32) (M : Mm) (ls : Array Slot), lv_has ls 3 [(0, .ref (ad o)), (1, .int v1), (2, .int v2)] → f_X9_digest_b76 (f_X9_digest_b9 o n9) o n76 v1 v2 M = some q → G ad X M 76 ls [] := by
        intro n76
        induction n76 with
        | zero =>
          intro v1 v2 M ls hl hF
          cases hF
        | succ n76 ih76 =>
          intro v1 v2 M ls hl hF
          replace hF : f_X9_digest_b76B (f_X9_digest_b9 o n9) (f_X9_digest_b76 (f_X9_digest_b9 o n9) o n76) o v1 v2 M = some q := hF
          unfold f_X9_digest_b76B at hF
          refine r_iload_n Z dX9_digest_76 rfl (lv_at hl 2 rfl) ?_
          refine r_iconst (v := 4) Z dX9_digest_77 (by decide) ?_
          refine r_icmp_ge Z 101 dX9_digest_78 (by decide) (fun hc1 => ?_) (fun hc1 => ?_)
          · replace hF := if_some hc1 hF
            obtain ⟨t2, et2, hF⟩ := nm_some hF
            refine r_iinc (j := 1) Z t2 [(1, .int t2), (0, .ref (ad o)), (2, .int v2)] dX9_digest_101 hl rfl (by rw [et2]; rfl) (by decide) rfl (fun ls hl => ?_)
            refine r_goto Z 9 dX9_digest_104 (by decide) ?_
            exact ih9 t2 M ls (lv_sub hl [1, 0] rfl) hF
          · replace hF := nif_some hc1 hF
            refine r_aload_n Z dX9_digest_81 rfl (lv_at hl 0 rfl) ?_
            refine r_aload_n Z dX9_digest_82 rfl (lv_at hl 0 rfl) ?_
            refine g_9_14 Z ho wm_620 dX9_digest_83 ?_
            refine r_iconst (v := 4) Z dX9_digest_86 (by decide) ?_
            refine r_iload_n Z dX9_digest_87 rfl (lv_at hl 1 rfl) ?_
            refine r_imul Z dX9_digest_88 ?_
            refine r_iload_n Z dX9_digest_89 rfl (lv_at hl 2 rfl) ?_
            refine r_iadd Z dX9_digest_90 ?_
            obtain ⟨hi3, hF⟩ := ck_some hF
            refine r_iaload Z (shp_lt (sh_9_14 ho) (by decide)) (fun _ _ => ce_116 (sh_9_14 ho)) hi3 dX9_digest_91 ?_
            obtain ⟨M4, hM4, hF⟩ := bd_some hF
            refine r_invVv [] Z (c_X9_mix ho hM4) cv_X9_mix rfl (shp_lt ho (by decide)) (fun _ _ => ⟨_, ce_9 ho⟩) wm_843 rfl rfl ⟨Nat.le_of_ble_eq_true rfl, Nat.le_of_ble_eq_true rfl⟩ rfl hl.1 rfl (Nat.le_of_ble_eq_true rfl) dX9_digest_92 ?_
            obtain ⟨t5, et5, hF⟩ := nm_some hF
            refine r_iinc (j := 2) Z t5 [(2, .int t5), (0, .ref (ad o)), (1, .int v1)] dX9_digest_95 hl rfl (by rw [et5]; rfl) (by decide) rfl (fun ls hl => ?_)
            refine r_goto Z 76 dX9_digest_98 (by decide) ?_
            exact ih76 v1 t5 M4 ls (lv_sub hl [1, 2, 0] rfl) hF
      have L33 : ∀ (n33 : Nat) (v1 : Int32) (v2 : Int32) (M : Mm) (ls : Array Slot), lv_has ls 3 [(0, .ref (ad o)), (1, .int v1), (2, .int v2)] → f_X9_digest_b33 (f_X9_digest_b9 o n9) o n33 v1 v2 M = some q → G ad X M 33 ls [] := by
        intro n33
        induction n33 with
        | zero =>
          intro v1 v2 M ls hl hF
          cases hF
        | succ n33 ih33 =>
          intro v1 v2 M ls hl hF
          replace hF : f_X9_digest_b33B (f_X9_digest_b9 o n9) (f_X9_digest_b33 (f_X9_digest_b9 o n9) o n33) o v1 v2 M = some q := hF
          unfold f_X9_digest_b33B at hF
          refine r_iload_n Z dX9_digest_33 rfl (lv_at hl 2 rfl) ?_
          refine r_iconst (v := 4) Z dX9_digest_34 (by decide) ?_
          refine r_icmp_gt Z 54 dX9_digest_35 (by decide) (fun hc6 => ?_) (fun hc6 => ?_)
          · replace hF := if_some hc6 hF
            refine r_aload_n Z dX9_digest_54 rfl (lv_at hl 0 rfl) ?_
            refine g_9_9 Z ho wm_615 dX9_digest_55 ?_
            refine r_iload_n Z dX9_digest_58 rfl (lv_at hl 1 rfl) ?_
            obtain ⟨hi7, hF⟩ := ck_some hF
            refine r_iaload Z (shp_lt (sh_9_9 ho) (by decide)) (fun _ _ => ce_104 (sh_9_9 ho)) hi7 dX9_digest_59 ?_
            refine r_iconst (v := 5) Z dX9_digest_60 (by decide) ?_
            refine r_icmp_ne Z 74 dX9_digest_61 (by decide) (fun hc8 => ?_) (fun hc8 => ?_)
            · replace hF := nif_some hc8 hF
              refine r_iconst (v := 0) Z dX9_digest_74 (by decide) ?_
              refine r_istore_n Z [(2, .int 0), (0, .ref (ad o)), (1, .int v1)] dX9_digest_75 rfl hl (by decide) rfl (fun ls hl => ?_)
              exact L76 _ v1 0 M ls (lv_sub hl [1, 2, 0] rfl) hF
            · replace hF := if_some hc8 hF
              refine r_aload_n Z dX9_digest_64 rfl (lv_at hl 0 rfl) ?_
              refine r_aload_n Z dX9_digest_65 rfl (lv_at hl 0 rfl) ?_
              refine g_9_12 Z ho wm_618 dX9_digest_66 ?_
              refine r_iload_n Z dX9_digest_69 rfl (lv_at hl 1 rfl) ?_
              obtain ⟨hi9, hF⟩ := ck_some hF
              refine r_iaload Z (shp_lt (sh_9_12 ho) (by decide)) (fun _ _ => ce_104 (sh_9_12 ho)) hi9 dX9_digest_70 ?_
              obtain ⟨M10, hM10, hF⟩ := bd_some hF
              refine r_invVv [] Z (c_X9_mix ho hM10) cv_X9_mix rfl (shp_lt ho (by decide)) (fun _ _ => ⟨_, ce_9 ho⟩) wm_843 rfl rfl ⟨Nat.le_of_ble_eq_true rfl, Nat.le_of_ble_eq_true rfl⟩ rfl hl.1 rfl (Nat.le_of_ble_eq_true rfl) dX9_digest_71 ?_
              refine r_iconst (v := 0) Z dX9_digest_74 (by decide) ?_
              refine r_istore_n Z [(2, .int 0), (0, .ref (ad o)), (1, .int v1)] dX9_digest_75 rfl hl (by decide) rfl (fun ls hl => ?_)
              exact L76 _ v1 0 M10 ls (lv_sub hl [1, 2, 0] rfl) hF
          · replace hF := nif_some hc6 hF
            refine r_aload_n Z dX9_digest_38 rfl (lv_at hl 0 rfl) ?_
            refine r_aload_n Z dX9_digest_39 rfl (lv_at hl 0 rfl) ?_
            refine r_iload_n Z dX9_digest_40 rfl (lv_at hl 1 rfl) ?_
            refine r_iload_n Z dX9_digest_41 rfl (lv_at hl 2 rfl) ?_
            obtain ⟨q11, hq11, hF⟩ := bd_some hF
            refine r_invVi [.ref (ad o)] Z (c_X9_tells ho hq11) cv_X9_tells rfl (shp_lt ho (by decide)) (fun _ _ => ⟨_, ce_9 ho⟩) wm_681 rfl rfl ⟨Nat.le_of_ble_eq_true rfl, Nat.le_of_ble_eq_true rfl⟩ rfl hl.1 rfl (Nat.le_of_ble_eq_true rfl) dX9_digest_42 ?_
            obtain ⟨M12, hM12, hF⟩ := bd_some hF
            refine r_invVv [] Z (c_X9_mix ho hM12) cv_X9_mix rfl (shp_lt ho (by decide)) (fun _ _ => ⟨_, ce_9 ho⟩) wm_843 rfl rfl ⟨Nat.le_of_ble_eq_true rfl, Nat.le_of_ble_eq_true rfl⟩ rfl hl.1 rfl (Nat.le_of_ble_eq_true rfl) dX9_digest_45 ?_
            obtain ⟨t13, et13, hF⟩ := nm_some hF
            refine r_iinc (j := 2) Z t13 [(2, .int t13), (0, .ref (ad o)), (1, .int v1)] dX9_digest_48 hl rfl (by rw [et13]; rfl) (by decide) rfl (fun ls hl => ?_)
            refine r_goto Z 33 dX9_digest_51 (by decide) ?_
            exact ih33 v1 t13 M12 ls (lv_sub hl [1, 2, 0] rfl) hF
      intro v1 M ls hl hF
      replace hF : f_X9_digest_b9B (f_X9_digest_b9 o n9) o v1 M = some q := hF
      unfold f_X9_digest_b9B at hF
      refine r_iload_n Z dX9_digest_9 rfl (lv_at hl 1 rfl) ?_
      refine r_iconst (v := 4) Z dX9_digest_10 (by decide) ?_
      refine r_icmp_ge Z 107 dX9_digest_11 (by decide) (fun hc25 => ?_) (fun hc25 => ?_)
      · replace hF := if_some hc25 hF
        refine r_iconst (v := 0) Z dX9_digest_107 (by decide) ?_
        refine r_istore_n Z [(1, .int 0), (0, .ref (ad o))] dX9_digest_108 rfl hl (by decide) rfl (fun ls hl => ?_)
        exact L109 _ 0 M ls (lv_sub hl [1, 0] rfl) hF
      · replace hF := nif_some hc25 hF
        refine r_aload_n Z dX9_digest_14 rfl (lv_at hl 0 rfl) ?_
        refine g_9_8 Z ho wm_614 dX9_digest_15 ?_
        refine r_iload_n Z dX9_digest_18 rfl (lv_at hl 1 rfl) ?_
        obtain ⟨hi26, hF⟩ := ck_some hF
        refine r_zaload Z (shp_lt (sh_9_8 ho) (by decide)) (fun _ _ => ce_2004 (sh_9_8 ho)) hi26 dX9_digest_19 ?_
        refine r_if_ne Z 31 dX9_digest_20 (by decide) (fun hc27 => ?_) (fun hc27 => ?_)
        · replace hF := nif_some hc27 hF
          refine r_iconst (v := 0) Z dX9_digest_31 (by decide) ?_
          refine r_istore_n Z [(2, .int 0), (0, .ref (ad o)), (1, .int v1)] dX9_digest_32 rfl hl (by decide) rfl (fun ls hl => ?_)
          exact L33 _ v1 0 M ls (lv_sub hl [1, 2, 0] rfl) hF
        · replace hF := if_some hc27 hF
          refine r_aload_n Z dX9_digest_23 rfl (lv_at hl 0 rfl) ?_
          refine r_iconst (v := (-1)) Z dX9_digest_24 (by decide) ?_
          obtain ⟨M28, hM28, hF⟩ := bd_some hF
          refine r_invVv [] Z (c_X9_mix ho hM28) cv_X9_mix rfl (shp_lt ho (by decide)) (fun _ _ => ⟨_, ce_9 ho⟩) wm_843 rfl rfl ⟨Nat.le_of_ble_eq_true rfl, Nat.le_of_ble_eq_true rfl⟩ rfl hl.1 rfl (Nat.le_of_ble_eq_true rfl) dX9_digest_25 ?_
          refine r_goto Z 101 dX9_digest_28 (by decide) ?_
          obtain ⟨t29, et29, hF⟩ := nm_some hF
          refine r_iinc (j := 1) Z t29 [(1, .int t29), (0, .ref (ad o))] dX9_digest_101 hl rfl (by rw [et29]; rfl) (by decide) rfl (fun ls hl => ?_)
          refine r_goto Z 9 dX9_digest_104 (by decide) ?_
          exact ih9 t29 M28 ls (lv_sub hl [1, 0] rfl) hF
  unfold f_X9_digest at hF
  refine r_aload_n Z dX9_digest_0 rfl (lv_at hl 0 rfl) ?_
  refine r_ldc2 Z wm_842 dX9_digest_1 ?_
  obtain ⟨M30, eM30, hF⟩ := nm_some hF
  refine p_9_25 Z ho wm_841 dX9_digest_4 ?_
  rw [← eM30]
  refine r_iconst (v := 0) Z dX9_digest_7 (by decide) ?_
  refine r_istore_n Z [(1, .int 0), (0, .ref (ad o))] dX9_digest_8 rfl hl (by decide) rfl (fun ls hl => ?_)
  exact L9 _ 0 M30 ls (lv_sub hl [1, 0] rfl) hF
theorem dX9_drop_0 : decode cX9_drop 0 = .ok (.aload_n 0, 1) := by decide +kernel
theorem dX9_drop_1 : decode cX9_drop 1 = .ok (.iload_n 1, 1) := by decide +kernel
theorem dX9_drop_2 : decode cX9_drop 2 = .ok (.invokevirtual 107, 3) := by decide +kernel
theorem dX9_drop_5 : decode cX9_drop 5 = .ok (.istore_n 2, 1) := by decide +kernel
theorem dX9_drop_6 : decode cX9_drop 6 = .ok (.iload_n 2, 1) := by decide +kernel
theorem dX9_drop_7 : decode cX9_drop 7 = .ok (.ifCond .ge 5, 3) := by decide +kernel
theorem dX9_drop_10 : decode cX9_drop 10 = .ok (.iload_n 2, 1) := by decide +kernel
theorem dX9_drop_11 : decode cX9_drop 11 = .ok (.ireturn, 1) := by decide +kernel
theorem dX9_drop_12 : decode cX9_drop 12 = .ok (.aload_n 0, 1) := by decide +kernel
theorem dX9_drop_13 : decode cX9_drop 13 = .ok (.iload_n 1, 1) := by decide +kernel
theorem dX9_drop_14 : decode cX9_drop 14 = .ok (.invokevirtual 103, 3) := by decide +kernel
theorem dX9_drop_17 : decode cX9_drop 17 = .ok (.aload_n 0, 1) := by decide +kernel
theorem dX9_drop_18 : decode cX9_drop 18 = .ok (.getfield 26, 3) := by decide +kernel
theorem dX9_drop_21 : decode cX9_drop 21 = .ok (.iload_n 1, 1) := by decide +kernel
theorem dX9_drop_22 : decode cX9_drop 22 = .ok (.iconst 0, 1) := by decide +kernel
theorem dX9_drop_23 : decode cX9_drop 23 = .ok (.bastore, 1) := by decide +kernel
theorem dX9_drop_24 : decode cX9_drop 24 = .ok (.iconst 1, 1) := by decide +kernel
theorem dX9_drop_25 : decode cX9_drop 25 = .ok (.ireturn, 1) := by decide +kernel
theorem cv_X9_drop : wn_cV yX9_drop cX9_drop 3 (some .int) RX9 1 := ⟨wm_667, wm_898, wm_899, wm_637, by decide +kernel⟩
abbrev rm_X9_drop : Room := rmz 3 63
set_option maxHeartbeats 4000000 in
set_option maxRecDepth 100000 in
theorem c_X9_drop {ad : Nat → Nat} {o : Nat} {x1 : Int32} {M : Mm} {q : Int32 × Mm} (ho : shp o = 9) (hF : f_X9_drop o x1 M = some q) : KI ad yX9_drop cX9_drop 3 (some .int) rm_X9_drop [.ref (ad o), .int x1] M q.1 q.2 := by
  refine wn_enterI (own := RX9) (by decide) rfl (Nat.le_of_ble_eq_true rfl) (fun X ls Z hQ hl => ?_)
  have hl : lv_has ls 3 [(0, .ref (ad o)), (1, .int x1)] := hl
  unfold f_X9_drop at hF
  refine r_aload_n Z dX9_drop_0 rfl (lv_at hl 0 rfl) ?_
  refine r_iload_n Z dX9_drop_1 rfl (lv_at hl 1 rfl) ?_
  obtain ⟨q1, hq1, hF⟩ := bd_some hF
  refine r_invVi [] Z (c_X9_askedFor ho hq1) cv_X9_askedFor rfl (shp_lt ho (by decide)) (fun _ _ => ⟨_, ce_9 ho⟩) wm_668 rfl rfl ⟨Nat.le_of_ble_eq_true rfl, Nat.le_of_ble_eq_true rfl⟩ rfl hl.1 rfl (Nat.le_of_ble_eq_true rfl) dX9_drop_2 ?_
  refine r_istore_n Z [(2, .int q1.1), (0, .ref (ad o)), (1, .int x1)] dX9_drop_5 rfl hl (by decide) rfl (fun ls hl => ?_)
  refine r_iload_n Z dX9_drop_6 rfl (lv_at hl 0 rfl) ?_
  refine r_if_ge Z 12 dX9_drop_7 (by decide) (fun hc2 => ?_) (fun hc2 => ?_)
  · replace hF := if_some hc2 hF
    refine r_aload_n Z dX9_drop_12 rfl (lv_at hl 1 rfl) ?_
    refine r_iload_n Z dX9_drop_13 rfl (lv_at hl 2 rfl) ?_
    obtain ⟨M3, hM3, hF⟩ := bd_some hF
    refine r_invVv [] Z (c_X9_empty ho hM3) cv_X9_empty rfl (shp_lt ho (by decide)) (fun _ _ => ⟨_, ce_9 ho⟩) wm_664 rfl rfl ⟨Nat.le_of_ble_eq_true rfl, Nat.le_of_ble_eq_true rfl⟩ rfl hl.1 rfl (Nat.le_of_ble_eq_true rfl) dX9_drop_14 ?_
    refine r_aload_n Z dX9_drop_17 rfl (lv_at hl 1 rfl) ?_
    refine g_9_8 Z ho wm_614 dX9_drop_18 ?_
    refine r_iload_n Z dX9_drop_21 rfl (lv_at hl 2 rfl) ?_
    refine r_iconst (v := 0) Z dX9_drop_22 (by decide) ?_
    obtain ⟨hi4, hF⟩ := ck_some hF
    obtain ⟨M5, eM5, hF⟩ := nm_some hF
    refine r_zastore Z (by decide) (shp_lt (sh_9_8 ho) (by decide)) (fun _ _ => ce_2004 (sh_9_8 ho)) hi4 dX9_drop_23 ?_
    rw [← eM5]
    refine r_iconst (v := 1) Z dX9_drop_24 (by decide) ?_
    exact r_iret Z hQ hF dX9_drop_25
  · replace hF := nif_some hc2 hF
    refine r_iload_n Z dX9_drop_10 rfl (lv_at hl 0 rfl) ?_
    exact r_iret Z hQ hF dX9_drop_11
theorem dX9_finding_0 : decode cX9_finding 0 = .ok (.aload_n 0, 1) := by decide +kernel
theorem dX9_finding_1 : decode cX9_finding 1 = .ok (.getfield 67, 3) := by decide +kernel
theorem dX9_finding_4 : decode cX9_finding 4 = .ok (.ireturn, 1) := by decide +kernel
theorem cv_X9_finding : wn_cV yX9_finding cX9_finding 1 (some .int) RX9 0 := ⟨wm_837, wm_1102, wm_1103, wm_637, by decide +kernel⟩
abbrev rm_X9_finding : Room := rmz 0 0
set_option maxHeartbeats 4000000 in
set_option maxRecDepth 100000 in
theorem c_X9_finding {ad : Nat → Nat} {o : Nat} {M : Mm} {q : Int32 × Mm} (ho : shp o = 9) (hF : f_X9_finding o M = some q) : KI ad yX9_finding cX9_finding 1 (some .int) rm_X9_finding [.ref (ad o)] M q.1 q.2 := by
  refine wn_enterI (own := RX9) (by decide) rfl (Nat.le_of_ble_eq_true rfl) (fun X ls Z hQ hl => ?_)
  have hl : lv_has ls 1 [(0, .ref (ad o))] := hl
  unfold f_X9_finding at hF
  refine r_aload_n Z dX9_finding_0 rfl (lv_at hl 0 rfl) ?_
  refine g_9_0 Z ho wm_629 dX9_finding_1 ?_
  exact r_iret Z hQ hF dX9_finding_4
theorem dX9_findings_0 : decode cX9_findings 0 = .ok (.iload_n 1, 1) := by decide +kernel
theorem dX9_findings_1 : decode cX9_findings 1 = .ok (.iconst 1, 1) := by decide +kernel
theorem dX9_findings_2 : decode cX9_findings 2 = .ok (.iconst 5, 1) := by decide +kernel
theorem dX9_findings_3 : decode cX9_findings 3 = .ok (.invokestatic 81, 3) := by decide +kernel
theorem dX9_findings_6 : decode cX9_findings 6 = .ok (.ifCond .eq 12, 3) := by decide +kernel
theorem dX9_findings_9 : decode cX9_findings 9 = .ok (.aload_n 0, 1) := by decide +kernel
theorem dX9_findings_10 : decode cX9_findings 10 = .ok (.getfield 7, 3) := by decide +kernel
theorem dX9_findings_13 : decode cX9_findings 13 = .ok (.iload_n 1, 1) := by decide +kernel
theorem dX9_findings_14 : decode cX9_findings 14 = .ok (.iaload, 1) := by decide +kernel
theorem dX9_findings_15 : decode cX9_findings 15 = .ok (.goto 4, 3) := by decide +kernel
theorem dX9_findings_18 : decode cX9_findings 18 = .ok (.iconst (-1), 1) := by decide +kernel
theorem dX9_findings_19 : decode cX9_findings 19 = .ok (.ireturn, 1) := by decide +kernel
theorem cv_X9_findings : wn_cV yX9_findings cX9_findings 2 (some .int) RX9 1 := ⟨wm_838, wm_1108, wm_1109, wm_637, by decide +kernel⟩
abbrev rm_X9_findings : Room := rmz 1 22
set_option maxHeartbeats 4000000 in
set_option maxRecDepth 100000 in
theorem c_X9_findings {ad : Nat → Nat} {o : Nat} {x1 : Int32} {M : Mm} {q : Int32 × Mm} (ho : shp o = 9) (hF : f_X9_findings o x1 M = some q) : KI ad yX9_findings cX9_findings 2 (some .int) rm_X9_findings [.ref (ad o), .int x1] M q.1 q.2 := by
  refine wn_enterI (own := RX9) (by decide) rfl (Nat.le_of_ble_eq_true rfl) (fun X ls Z hQ hl => ?_)
  have hl : lv_has ls 2 [(0, .ref (ad o)), (1, .int x1)] := hl
  unfold f_X9_findings at hF
  refine r_iload_n Z dX9_findings_0 rfl (lv_at hl 1 rfl) ?_
  refine r_iconst (v := 1) Z dX9_findings_1 (by decide) ?_
  refine r_iconst (v := 5) Z dX9_findings_2 (by decide) ?_
  obtain ⟨q1, hq1, hF⟩ := bd_some hF
  refine r_invSi [] Z (c_X9_in hq1) cv_X9_in wm_639 rfl rfl ⟨Nat.le_of_ble_eq_true rfl, Nat.le_of_ble_eq_true rfl⟩ rfl hl.1 rfl (Nat.le_of_ble_eq_true rfl) dX9_findings_3 ?_
  refine r_if_eq Z 18 dX9_findings_6 (by decide) (fun hc2 => ?_) (fun hc2 => ?_)
  · replace hF := if_some hc2 hF
    refine r_iconst (v := (-1)) Z dX9_findings_18 (by decide) ?_
    exact r_iret Z hQ hF dX9_findings_19
  · replace hF := nif_some hc2 hF
    refine r_aload_n Z dX9_findings_9 rfl (lv_at hl 0 rfl) ?_
    refine g_9_1 Z ho wm_608 dX9_findings_10 ?_
    refine r_iload_n Z dX9_findings_13 rfl (lv_at hl 1 rfl) ?_
    obtain ⟨hi3, hF⟩ := ck_some hF
    refine r_iaload Z (shp_lt (sh_9_1 ho) (by decide)) (fun _ _ => ce_106 (sh_9_1 ho)) hi3 dX9_findings_14 ?_
    refine r_goto Z 19 dX9_findings_15 (by decide) ?_
    exact r_iret Z hQ hF dX9_findings_19
theorem dX9_flow_0 : decode cX9_flow 0 = .ok (.aload_n 0, 1) := by decide +kernel
theorem dX9_flow_1 : decode cX9_flow 1 = .ok (.iload_n 1, 1) := by decide +kernel
theorem dX9_flow_2 : decode cX9_flow 2 = .ok (.invokevirtual 146, 3) := by decide +kernel
theorem dX9_flow_5 : decode cX9_flow 5 = .ok (.istore_n 2, 1) := by decide +kernel
theorem dX9_flow_6 : decode cX9_flow 6 = .ok (.iload_n 2, 1) := by decide +kernel
theorem dX9_flow_7 : decode cX9_flow 7 = .ok (.ifCond .ge 7, 3) := by decide +kernel
theorem dX9_flow_10 : decode cX9_flow 10 = .ok (.iload_n 2, 1) := by decide +kernel
theorem dX9_flow_11 : decode cX9_flow 11 = .ok (.goto 16, 3) := by decide +kernel
theorem dX9_flow_14 : decode cX9_flow 14 = .ok (.aload_n 0, 1) := by decide +kernel
theorem dX9_flow_15 : decode cX9_flow 15 = .ok (.aload_n 0, 1) := by decide +kernel
theorem dX9_flow_16 : decode cX9_flow 16 = .ok (.getfield 131, 3) := by decide +kernel
theorem dX9_flow_19 : decode cX9_flow 19 = .ok (.aload_n 0, 1) := by decide +kernel
theorem dX9_flow_20 : decode cX9_flow 20 = .ok (.getfield 134, 3) := by decide +kernel
theorem dX9_flow_23 : decode cX9_flow 23 = .ok (.iconst 1, 1) := by decide +kernel
theorem dX9_flow_24 : decode cX9_flow 24 = .ok (.invokevirtual 149, 3) := by decide +kernel
theorem dX9_flow_27 : decode cX9_flow 27 = .ok (.ireturn, 1) := by decide +kernel
theorem cv_X9_flow : wn_cV yX9_flow cX9_flow 3 (some .int) RX9 1 := ⟨wm_722, wm_958, wm_959, wm_637, by decide +kernel⟩
abbrev rm_X9_flow : Room := rmz 4 104
set_option maxHeartbeats 4000000 in
set_option maxRecDepth 100000 in
theorem c_X9_flow {ad : Nat → Nat} {o : Nat} {x1 : Int32} {M : Mm} {q : Int32 × Mm} (ho : shp o = 9) (hF : f_X9_flow o x1 M = some q) : KI ad yX9_flow cX9_flow 3 (some .int) rm_X9_flow [.ref (ad o), .int x1] M q.1 q.2 := by
  refine wn_enterI (own := RX9) (by decide) rfl (Nat.le_of_ble_eq_true rfl) (fun X ls Z hQ hl => ?_)
  have hl : lv_has ls 3 [(0, .ref (ad o)), (1, .int x1)] := hl
  unfold f_X9_flow at hF
  refine r_aload_n Z dX9_flow_0 rfl (lv_at hl 0 rfl) ?_
  refine r_iload_n Z dX9_flow_1 rfl (lv_at hl 1 rfl) ?_
  obtain ⟨q1, hq1, hF⟩ := bd_some hF
  refine r_invVi [] Z (c_X9_askedFlow ho hq1) cv_X9_askedFlow rfl (shp_lt ho (by decide)) (fun _ _ => ⟨_, ce_9 ho⟩) wm_716 rfl rfl ⟨Nat.le_of_ble_eq_true rfl, Nat.le_of_ble_eq_true rfl⟩ rfl hl.1 rfl (Nat.le_of_ble_eq_true rfl) dX9_flow_2 ?_
  refine r_istore_n Z [(2, .int q1.1), (0, .ref (ad o)), (1, .int x1)] dX9_flow_5 rfl hl (by decide) rfl (fun ls hl => ?_)
  refine r_iload_n Z dX9_flow_6 rfl (lv_at hl 0 rfl) ?_
  refine r_if_ge Z 14 dX9_flow_7 (by decide) (fun hc2 => ?_) (fun hc2 => ?_)
  · replace hF := if_some hc2 hF
    refine r_aload_n Z dX9_flow_14 rfl (lv_at hl 1 rfl) ?_
    refine r_aload_n Z dX9_flow_15 rfl (lv_at hl 1 rfl) ?_
    refine g_9_18 Z ho wm_705 dX9_flow_16 ?_
    refine r_aload_n Z dX9_flow_19 rfl (lv_at hl 1 rfl) ?_
    refine g_9_19 Z ho wm_706 dX9_flow_20 ?_
    refine r_iconst (v := 1) Z dX9_flow_23 (by decide) ?_
    obtain ⟨q3, hq3, hF⟩ := bd_some hF
    refine r_invVi [] Z (c_X9_share ho hq3) cv_X9_share rfl (shp_lt ho (by decide)) (fun _ _ => ⟨_, ce_9 ho⟩) wm_719 rfl rfl ⟨Nat.le_of_ble_eq_true rfl, Nat.le_of_ble_eq_true rfl⟩ rfl hl.1 rfl (Nat.le_of_ble_eq_true rfl) dX9_flow_24 ?_
    exact r_iret Z hQ hF dX9_flow_27
  · replace hF := nif_some hc2 hF
    refine r_iload_n Z dX9_flow_10 rfl (lv_at hl 0 rfl) ?_
    refine r_goto Z 27 dX9_flow_11 (by decide) ?_
    exact r_iret Z hQ hF dX9_flow_27
theorem dX9_hands_0 : decode cX9_hands 0 = .ok (.iload_n 2, 1) := by decide +kernel
theorem dX9_hands_1 : decode cX9_hands 1 = .ok (.iconst 1, 1) := by decide +kernel
theorem dX9_hands_2 : decode cX9_hands 2 = .ok (.iconst 2, 1) := by decide +kernel
theorem dX9_hands_3 : decode cX9_hands 3 = .ok (.invokestatic 81, 3) := by decide +kernel
theorem dX9_hands_6 : decode cX9_hands 6 = .ok (.ifCond .ne 5, 3) := by decide +kernel
theorem dX9_hands_9 : decode cX9_hands 9 = .ok (.iconst (-1), 1) := by decide +kernel
theorem dX9_hands_10 : decode cX9_hands 10 = .ok (.ireturn, 1) := by decide +kernel
theorem dX9_hands_11 : decode cX9_hands 11 = .ok (.aload_n 0, 1) := by decide +kernel
theorem dX9_hands_12 : decode cX9_hands 12 = .ok (.iload_n 1, 1) := by decide +kernel
theorem dX9_hands_13 : decode cX9_hands 13 = .ok (.invokevirtual 107, 3) := by decide +kernel
theorem dX9_hands_16 : decode cX9_hands 16 = .ok (.istore_n 3, 1) := by decide +kernel
theorem dX9_hands_17 : decode cX9_hands 17 = .ok (.iload_n 3, 1) := by decide +kernel
theorem dX9_hands_18 : decode cX9_hands 18 = .ok (.ifCond .ge 5, 3) := by decide +kernel
theorem dX9_hands_21 : decode cX9_hands 21 = .ok (.iload_n 3, 1) := by decide +kernel
theorem dX9_hands_22 : decode cX9_hands 22 = .ok (.ireturn, 1) := by decide +kernel
theorem dX9_hands_23 : decode cX9_hands 23 = .ok (.aload_n 0, 1) := by decide +kernel
theorem dX9_hands_24 : decode cX9_hands 24 = .ok (.getfield 30, 3) := by decide +kernel
theorem dX9_hands_27 : decode cX9_hands 27 = .ok (.iload_n 1, 1) := by decide +kernel
theorem dX9_hands_28 : decode cX9_hands 28 = .ok (.iaload, 1) := by decide +kernel
theorem dX9_hands_29 : decode cX9_hands 29 = .ok (.ifCond .eq 9, 3) := by decide +kernel
theorem dX9_hands_32 : decode cX9_hands 32 = .ok (.aload_n 0, 1) := by decide +kernel
theorem dX9_hands_33 : decode cX9_hands 33 = .ok (.iconst 3, 1) := by decide +kernel
theorem dX9_hands_34 : decode cX9_hands 34 = .ok (.invokevirtual 89, 3) := by decide +kernel
theorem dX9_hands_37 : decode cX9_hands 37 = .ok (.ireturn, 1) := by decide +kernel
theorem dX9_hands_38 : decode cX9_hands 38 = .ok (.aload_n 0, 1) := by decide +kernel
theorem dX9_hands_39 : decode cX9_hands 39 = .ok (.getfield 36, 3) := by decide +kernel
theorem dX9_hands_42 : decode cX9_hands 42 = .ok (.iload_n 1, 1) := by decide +kernel
theorem dX9_hands_43 : decode cX9_hands 43 = .ok (.iaload, 1) := by decide +kernel
theorem dX9_hands_44 : decode cX9_hands 44 = .ok (.istore 4, 2) := by decide +kernel
theorem dX9_hands_46 : decode cX9_hands 46 = .ok (.aload_n 0, 1) := by decide +kernel
theorem dX9_hands_47 : decode cX9_hands 47 = .ok (.getfield 36, 3) := by decide +kernel
theorem dX9_hands_50 : decode cX9_hands 50 = .ok (.iload_n 1, 1) := by decide +kernel
theorem dX9_hands_51 : decode cX9_hands 51 = .ok (.iload_n 2, 1) := by decide +kernel
theorem dX9_hands_52 : decode cX9_hands 52 = .ok (.iastore, 1) := by decide +kernel
theorem dX9_hands_53 : decode cX9_hands 53 = .ok (.iload 4, 2) := by decide +kernel
theorem dX9_hands_55 : decode cX9_hands 55 = .ok (.ireturn, 1) := by decide +kernel
theorem cv_X9_hands : wn_cV yX9_hands cX9_hands 5 (some .int) RX9 2 := ⟨wm_672, wm_910, wm_911, wm_637, by decide +kernel⟩
abbrev rm_X9_hands : Room := rmz 3 63
set_option maxHeartbeats 4000000 in
set_option maxRecDepth 100000 in
theorem c_X9_hands {ad : Nat → Nat} {o : Nat} {x1 : Int32} {x2 : Int32} {M : Mm} {q : Int32 × Mm} (ho : shp o = 9) (hF : f_X9_hands o x1 x2 M = some q) : KI ad yX9_hands cX9_hands 5 (some .int) rm_X9_hands [.ref (ad o), .int x1, .int x2] M q.1 q.2 := by
  refine wn_enterI (own := RX9) (by decide) rfl (Nat.le_of_ble_eq_true rfl) (fun X ls Z hQ hl => ?_)
  have hl : lv_has ls 5 [(0, .ref (ad o)), (1, .int x1), (2, .int x2)] := hl
  unfold f_X9_hands at hF
  refine r_iload_n Z dX9_hands_0 rfl (lv_at hl 2 rfl) ?_
  refine r_iconst (v := 1) Z dX9_hands_1 (by decide) ?_
  refine r_iconst (v := 2) Z dX9_hands_2 (by decide) ?_
  obtain ⟨q1, hq1, hF⟩ := bd_some hF
  refine r_invSi [] Z (c_X9_in hq1) cv_X9_in wm_639 rfl rfl ⟨Nat.le_of_ble_eq_true rfl, Nat.le_of_ble_eq_true rfl⟩ rfl hl.1 rfl (Nat.le_of_ble_eq_true rfl) dX9_hands_3 ?_
  refine r_if_ne Z 11 dX9_hands_6 (by decide) (fun hc2 => ?_) (fun hc2 => ?_)
  · replace hF := nif_some hc2 hF
    refine r_aload_n Z dX9_hands_11 rfl (lv_at hl 0 rfl) ?_
    refine r_iload_n Z dX9_hands_12 rfl (lv_at hl 1 rfl) ?_
    obtain ⟨q3, hq3, hF⟩ := bd_some hF
    refine r_invVi [] Z (c_X9_askedFor ho hq3) cv_X9_askedFor rfl (shp_lt ho (by decide)) (fun _ _ => ⟨_, ce_9 ho⟩) wm_668 rfl rfl ⟨Nat.le_of_ble_eq_true rfl, Nat.le_of_ble_eq_true rfl⟩ rfl hl.1 rfl (Nat.le_of_ble_eq_true rfl) dX9_hands_13 ?_
    refine r_istore_n Z [(3, .int q3.1), (0, .ref (ad o)), (1, .int x1), (2, .int x2)] dX9_hands_16 rfl hl (by decide) rfl (fun ls hl => ?_)
    refine r_iload_n Z dX9_hands_17 rfl (lv_at hl 0 rfl) ?_
    refine r_if_ge Z 23 dX9_hands_18 (by decide) (fun hc4 => ?_) (fun hc4 => ?_)
    · replace hF := if_some hc4 hF
      refine r_aload_n Z dX9_hands_23 rfl (lv_at hl 1 rfl) ?_
      refine g_9_9 Z ho wm_615 dX9_hands_24 ?_
      refine r_iload_n Z dX9_hands_27 rfl (lv_at hl 2 rfl) ?_
      obtain ⟨hi5, hF⟩ := ck_some hF
      refine r_iaload Z (shp_lt (sh_9_9 ho) (by decide)) (fun _ _ => ce_104 (sh_9_9 ho)) hi5 dX9_hands_28 ?_
      refine r_if_eq Z 38 dX9_hands_29 (by decide) (fun hc6 => ?_) (fun hc6 => ?_)
      · replace hF := if_some hc6 hF
        refine r_aload_n Z dX9_hands_38 rfl (lv_at hl 1 rfl) ?_
        refine g_9_11 Z ho wm_617 dX9_hands_39 ?_
        refine r_iload_n Z dX9_hands_42 rfl (lv_at hl 2 rfl) ?_
        obtain ⟨hi7, hF⟩ := ck_some hF
        refine r_iaload Z (shp_lt (sh_9_11 ho) (by decide)) (fun _ _ => ce_104 (sh_9_11 ho)) hi7 dX9_hands_43 ?_
        obtain ⟨t8, et8, hF⟩ := nm_some hF
        rw [← et8]
        refine r_istore Z [(4, .int t8), (3, .int q3.1), (0, .ref (ad o)), (1, .int x1), (2, .int x2)] dX9_hands_44 hl (by decide) rfl (fun ls hl => ?_)
        refine r_aload_n Z dX9_hands_46 rfl (lv_at hl 2 rfl) ?_
        refine g_9_11 Z ho wm_617 dX9_hands_47 ?_
        refine r_iload_n Z dX9_hands_50 rfl (lv_at hl 3 rfl) ?_
        refine r_iload_n Z dX9_hands_51 rfl (lv_at hl 4 rfl) ?_
        obtain ⟨hi9, hF⟩ := ck_some hF
        obtain ⟨M10, eM10, hF⟩ := nm_some hF
        refine r_iastore Z (shp_lt (sh_9_11 ho) (by decide)) (fun _ _ => ce_104 (sh_9_11 ho)) hi9 dX9_hands_52 ?_
        rw [← eM10]
        refine r_iload Z dX9_hands_53 (lv_at hl 0 rfl) ?_
        exact r_iret Z hQ hF dX9_hands_55
      · replace hF := nif_some hc6 hF
        refine r_aload_n Z dX9_hands_32 rfl (lv_at hl 1 rfl) ?_
        refine r_iconst (v := 3) Z dX9_hands_33 (by decide) ?_
        obtain ⟨q11, hq11, hF⟩ := bd_some hF
        refine r_invVi [] Z (c_X9_meets ho hq11) cv_X9_meets rfl (shp_lt ho (by decide)) (fun _ _ => ⟨_, ce_9 ho⟩) wm_644 rfl rfl ⟨Nat.le_of_ble_eq_true rfl, Nat.le_of_ble_eq_true rfl⟩ rfl hl.1 rfl (Nat.le_of_ble_eq_true rfl) dX9_hands_34 ?_
        exact r_iret Z hQ hF dX9_hands_37
    · replace hF := nif_some hc4 hF
      refine r_iload_n Z dX9_hands_21 rfl (lv_at hl 0 rfl) ?_
      exact r_iret Z hQ hF dX9_hands_22
  · replace hF := if_some hc2 hF
    refine r_iconst (v := (-1)) Z dX9_hands_9 (by decide) ?_
    exact r_iret Z hQ hF dX9_hands_10
theorem dX9_isFull_0 : decode cX9_isFull 0 = .ok (.aload_n 0, 1) := by decide +kernel
theorem dX9_isFull_1 : decode cX9_isFull 1 = .ok (.getfield 30, 3) := by decide +kernel
theorem dX9_isFull_4 : decode cX9_isFull 4 = .ok (.iload_n 1, 1) := by decide +kernel
theorem dX9_isFull_5 : decode cX9_isFull 5 = .ok (.iaload, 1) := by decide +kernel
theorem dX9_isFull_6 : decode cX9_isFull 6 = .ok (.iconst 3, 1) := by decide +kernel
theorem dX9_isFull_7 : decode cX9_isFull 7 = .ok (.if_icmp .eq 26, 3) := by decide +kernel
theorem dX9_isFull_10 : decode cX9_isFull 10 = .ok (.aload_n 0, 1) := by decide +kernel
theorem dX9_isFull_11 : decode cX9_isFull 11 = .ok (.getfield 131, 3) := by decide +kernel
theorem dX9_isFull_14 : decode cX9_isFull 14 = .ok (.aload_n 0, 1) := by decide +kernel
theorem dX9_isFull_15 : decode cX9_isFull 15 = .ok (.getfield 134, 3) := by decide +kernel
theorem dX9_isFull_18 : decode cX9_isFull 18 = .ok (.aload_n 0, 1) := by decide +kernel
theorem dX9_isFull_19 : decode cX9_isFull 19 = .ok (.iload_n 1, 1) := by decide +kernel
theorem dX9_isFull_20 : decode cX9_isFull 20 = .ok (.invokevirtual 153, 3) := by decide +kernel
theorem dX9_isFull_23 : decode cX9_isFull 23 = .ok (.i2l, 1) := by decide +kernel
theorem dX9_isFull_24 : decode cX9_isFull 24 = .ok (.lmul, 1) := by decide +kernel
theorem dX9_isFull_25 : decode cX9_isFull 25 = .ok (.lcmp, 1) := by decide +kernel
theorem dX9_isFull_26 : decode cX9_isFull 26 = .ok (.ifCond .lt 7, 3) := by decide +kernel
theorem dX9_isFull_29 : decode cX9_isFull 29 = .ok (.iconst 1, 1) := by decide +kernel
theorem dX9_isFull_30 : decode cX9_isFull 30 = .ok (.goto 4, 3) := by decide +kernel
theorem dX9_isFull_33 : decode cX9_isFull 33 = .ok (.iconst 0, 1) := by decide +kernel
theorem dX9_isFull_34 : decode cX9_isFull 34 = .ok (.ireturn, 1) := by decide +kernel
theorem cv_X9_isFull : wn_cV yX9_isFull cX9_isFull 2 (some .boolean) RX9 1 := ⟨wm_724, wm_729, wm_730, wm_637, by decide +kernel⟩
abbrev rm_X9_isFull : Room := rmz 1 21
set_option maxHeartbeats 4000000 in
set_option maxRecDepth 100000 in
theorem c_X9_isFull {ad : Nat → Nat} {o : Nat} {x1 : Int32} {M : Mm} {q : Int32 × Mm} (ho : shp o = 9) (hF : f_X9_isFull o x1 M = some q) : KI ad yX9_isFull cX9_isFull 2 (some .boolean) rm_X9_isFull [.ref (ad o), .int x1] M q.1 q.2 := by
  refine wn_enterI (own := RX9) (by decide) rfl (Nat.le_of_ble_eq_true rfl) (fun X ls Z hQ hl => ?_)
  have hl : lv_has ls 2 [(0, .ref (ad o)), (1, .int x1)] := hl
  unfold f_X9_isFull at hF
  refine r_aload_n Z dX9_isFull_0 rfl (lv_at hl 0 rfl) ?_
  refine g_9_9 Z ho wm_615 dX9_isFull_1 ?_
  refine r_iload_n Z dX9_isFull_4 rfl (lv_at hl 1 rfl) ?_
  obtain ⟨hi1, hF⟩ := ck_some hF
  refine r_iaload Z (shp_lt (sh_9_9 ho) (by decide)) (fun _ _ => ce_104 (sh_9_9 ho)) hi1 dX9_isFull_5 ?_
  refine r_iconst (v := 3) Z dX9_isFull_6 (by decide) ?_
  refine r_icmp_eq Z 33 dX9_isFull_7 (by decide) (fun hc2 => ?_) (fun hc2 => ?_)
  · replace hF := if_some hc2 hF
    refine r_iconst (v := 0) Z dX9_isFull_33 (by decide) ?_
    exact r_zret Z hQ (by decide) hF dX9_isFull_34
  · replace hF := nif_some hc2 hF
    refine r_aload_n Z dX9_isFull_10 rfl (lv_at hl 0 rfl) ?_
    refine g_9_18 Z ho wm_705 dX9_isFull_11 ?_
    refine r_aload_n Z dX9_isFull_14 rfl (lv_at hl 0 rfl) ?_
    refine g_9_19 Z ho wm_706 dX9_isFull_15 ?_
    refine r_aload_n Z dX9_isFull_18 rfl (lv_at hl 0 rfl) ?_
    refine r_iload_n Z dX9_isFull_19 rfl (lv_at hl 1 rfl) ?_
    obtain ⟨q3, hq3, hF⟩ := bd_some hF
    refine r_invVi [.long (mJ M o 19), .long (mJ M o 18)] Z (c_X9_bears ho hq3) cv_X9_bears rfl (shp_lt ho (by decide)) (fun _ _ => ⟨_, ce_9 ho⟩) wm_725 rfl rfl ⟨Nat.le_of_ble_eq_true rfl, Nat.le_of_ble_eq_true rfl⟩ rfl hl.1 rfl (Nat.le_of_ble_eq_true rfl) dX9_isFull_20 ?_
    refine r_i2l Z dX9_isFull_23 ?_
    refine r_lmul Z dX9_isFull_24 ?_
    refine r_lcmp Z dX9_isFull_25 ?_
    refine r_if_lt Z 33 dX9_isFull_26 (by decide) (fun hc4 => ?_) (fun hc4 => ?_)
    · replace hF := if_some hc4 hF
      refine r_iconst (v := 0) Z dX9_isFull_33 (by decide) ?_
      exact r_zret Z hQ (by decide) hF dX9_isFull_34
    · replace hF := nif_some hc4 hF
      refine r_iconst (v := 1) Z dX9_isFull_29 (by decide) ?_
      refine r_goto Z 34 dX9_isFull_30 (by decide) ?_
      exact r_zret Z hQ (by decide) hF dX9_isFull_34
theorem dX9_judge_0 : decode cX9_judge 0 = .ok (.iload_n 1, 1) := by decide +kernel
theorem dX9_judge_1 : decode cX9_judge 1 = .ok (.invokestatic 85, 3) := by decide +kernel
theorem dX9_judge_4 : decode cX9_judge 4 = .ok (.ifCond .eq 10, 3) := by decide +kernel
theorem dX9_judge_7 : decode cX9_judge 7 = .ok (.iload_n 2, 1) := by decide +kernel
theorem dX9_judge_8 : decode cX9_judge 8 = .ok (.invokestatic 85, 3) := by decide +kernel
theorem dX9_judge_11 : decode cX9_judge 11 = .ok (.ifCond .ne 5, 3) := by decide +kernel
theorem dX9_judge_14 : decode cX9_judge 14 = .ok (.iconst (-1), 1) := by decide +kernel
theorem dX9_judge_15 : decode cX9_judge 15 = .ok (.ireturn, 1) := by decide +kernel
theorem dX9_judge_16 : decode cX9_judge 16 = .ok (.aload_n 0, 1) := by decide +kernel
theorem dX9_judge_17 : decode cX9_judge 17 = .ok (.getfield 17, 3) := by decide +kernel
theorem dX9_judge_20 : decode cX9_judge 20 = .ok (.iload_n 1, 1) := by decide +kernel
theorem dX9_judge_21 : decode cX9_judge 21 = .ok (.iaload, 1) := by decide +kernel
theorem dX9_judge_22 : decode cX9_judge 22 = .ok (.ifCond .lt 12, 3) := by decide +kernel
theorem dX9_judge_25 : decode cX9_judge 25 = .ok (.aload_n 0, 1) := by decide +kernel
theorem dX9_judge_26 : decode cX9_judge 26 = .ok (.getfield 17, 3) := by decide +kernel
theorem dX9_judge_29 : decode cX9_judge 29 = .ok (.iload_n 2, 1) := by decide +kernel
theorem dX9_judge_30 : decode cX9_judge 30 = .ok (.iaload, 1) := by decide +kernel
theorem dX9_judge_31 : decode cX9_judge 31 = .ok (.ifCond .ge 9, 3) := by decide +kernel
theorem dX9_judge_34 : decode cX9_judge 34 = .ok (.aload_n 0, 1) := by decide +kernel
theorem dX9_judge_35 : decode cX9_judge 35 = .ok (.iconst 1, 1) := by decide +kernel
theorem dX9_judge_36 : decode cX9_judge 36 = .ok (.invokevirtual 89, 3) := by decide +kernel
theorem dX9_judge_39 : decode cX9_judge 39 = .ok (.ireturn, 1) := by decide +kernel
theorem dX9_judge_40 : decode cX9_judge 40 = .ok (.aload_n 0, 1) := by decide +kernel
theorem dX9_judge_41 : decode cX9_judge 41 = .ok (.iload_n 1, 1) := by decide +kernel
theorem dX9_judge_42 : decode cX9_judge 42 = .ok (.invokevirtual 222, 3) := by decide +kernel
theorem dX9_judge_45 : decode cX9_judge 45 = .ok (.istore_n 3, 1) := by decide +kernel
theorem dX9_judge_46 : decode cX9_judge 46 = .ok (.iload_n 3, 1) := by decide +kernel
theorem dX9_judge_47 : decode cX9_judge 47 = .ok (.ifCond .ge 5, 3) := by decide +kernel
theorem dX9_judge_50 : decode cX9_judge 50 = .ok (.iload_n 3, 1) := by decide +kernel
theorem dX9_judge_51 : decode cX9_judge 51 = .ok (.ireturn, 1) := by decide +kernel
theorem dX9_judge_52 : decode cX9_judge 52 = .ok (.aload_n 0, 1) := by decide +kernel
theorem dX9_judge_53 : decode cX9_judge 53 = .ok (.getfield 17, 3) := by decide +kernel
theorem dX9_judge_56 : decode cX9_judge 56 = .ok (.iload_n 2, 1) := by decide +kernel
theorem dX9_judge_57 : decode cX9_judge 57 = .ok (.iaload, 1) := by decide +kernel
theorem dX9_judge_58 : decode cX9_judge 58 = .ok (.iload_n 3, 1) := by decide +kernel
theorem dX9_judge_59 : decode cX9_judge 59 = .ok (.if_icmp .eq 9, 3) := by decide +kernel
theorem dX9_judge_62 : decode cX9_judge 62 = .ok (.aload_n 0, 1) := by decide +kernel
theorem dX9_judge_63 : decode cX9_judge 63 = .ok (.iconst 5, 1) := by decide +kernel
theorem dX9_judge_64 : decode cX9_judge 64 = .ok (.invokevirtual 89, 3) := by decide +kernel
theorem dX9_judge_67 : decode cX9_judge 67 = .ok (.ireturn, 1) := by decide +kernel
theorem dX9_judge_68 : decode cX9_judge 68 = .ok (.aload_n 0, 1) := by decide +kernel
theorem dX9_judge_69 : decode cX9_judge 69 = .ok (.iload_n 1, 1) := by decide +kernel
theorem dX9_judge_70 : decode cX9_judge 70 = .ok (.iload_n 3, 1) := by decide +kernel
theorem dX9_judge_71 : decode cX9_judge 71 = .ok (.invokevirtual 225, 3) := by decide +kernel
theorem dX9_judge_74 : decode cX9_judge 74 = .ok (.istore 4, 2) := by decide +kernel
theorem dX9_judge_76 : decode cX9_judge 76 = .ok (.lconst 0, 1) := by decide +kernel
theorem dX9_judge_77 : decode cX9_judge 77 = .ok (.lstore 5, 2) := by decide +kernel
theorem dX9_judge_79 : decode cX9_judge 79 = .ok (.iconst 0, 1) := by decide +kernel
theorem dX9_judge_80 : decode cX9_judge 80 = .ok (.istore 7, 2) := by decide +kernel
theorem dX9_judge_82 : decode cX9_judge 82 = .ok (.iload 7, 2) := by decide +kernel
theorem dX9_judge_84 : decode cX9_judge 84 = .ok (.iload_n 3, 1) := by decide +kernel
theorem dX9_judge_85 : decode cX9_judge 85 = .ok (.if_icmp .ge 60, 3) := by decide +kernel
theorem dX9_judge_88 : decode cX9_judge 88 = .ok (.iload 4, 2) := by decide +kernel
theorem dX9_judge_90 : decode cX9_judge 90 = .ok (.ifCond .eq 28, 3) := by decide +kernel
theorem dX9_judge_93 : decode cX9_judge 93 = .ok (.aload_n 0, 1) := by decide +kernel
theorem dX9_judge_94 : decode cX9_judge 94 = .ok (.getfield 20, 3) := by decide +kernel
theorem dX9_judge_97 : decode cX9_judge 97 = .ok (.bipush 40, 2) := by decide +kernel
theorem dX9_judge_99 : decode cX9_judge 99 = .ok (.iload_n 2, 1) := by decide +kernel
theorem dX9_judge_100 : decode cX9_judge 100 = .ok (.imul, 1) := by decide +kernel
theorem dX9_judge_101 : decode cX9_judge 101 = .ok (.iload 7, 2) := by decide +kernel
theorem dX9_judge_103 : decode cX9_judge 103 = .ok (.iadd, 1) := by decide +kernel
theorem dX9_judge_104 : decode cX9_judge 104 = .ok (.iaload, 1) := by decide +kernel
theorem dX9_judge_105 : decode cX9_judge 105 = .ok (.iconst 0, 1) := by decide +kernel
theorem dX9_judge_106 : decode cX9_judge 106 = .ok (.ldc 232, 2) := by decide +kernel
theorem dX9_judge_108 : decode cX9_judge 108 = .ok (.invokestatic 81, 3) := by decide +kernel
theorem dX9_judge_111 : decode cX9_judge 111 = .ok (.ifCond .eq 7, 3) := by decide +kernel
theorem dX9_judge_114 : decode cX9_judge 114 = .ok (.iconst 1, 1) := by decide +kernel
theorem dX9_judge_115 : decode cX9_judge 115 = .ok (.goto 4, 3) := by decide +kernel
theorem dX9_judge_118 : decode cX9_judge 118 = .ok (.iconst 0, 1) := by decide +kernel
theorem dX9_judge_119 : decode cX9_judge 119 = .ok (.istore 4, 2) := by decide +kernel
theorem dX9_judge_121 : decode cX9_judge 121 = .ok (.lload 5, 2) := by decide +kernel
theorem dX9_judge_123 : decode cX9_judge 123 = .ok (.aload_n 0, 1) := by decide +kernel
theorem dX9_judge_124 : decode cX9_judge 124 = .ok (.getfield 20, 3) := by decide +kernel
theorem dX9_judge_127 : decode cX9_judge 127 = .ok (.bipush 40, 2) := by decide +kernel
theorem dX9_judge_129 : decode cX9_judge 129 = .ok (.iload_n 2, 1) := by decide +kernel
theorem dX9_judge_130 : decode cX9_judge 130 = .ok (.imul, 1) := by decide +kernel
theorem dX9_judge_131 : decode cX9_judge 131 = .ok (.iload 7, 2) := by decide +kernel
theorem dX9_judge_133 : decode cX9_judge 133 = .ok (.iadd, 1) := by decide +kernel
theorem dX9_judge_134 : decode cX9_judge 134 = .ok (.iaload, 1) := by decide +kernel
theorem dX9_judge_135 : decode cX9_judge 135 = .ok (.i2l, 1) := by decide +kernel
theorem dX9_judge_136 : decode cX9_judge 136 = .ok (.ladd, 1) := by decide +kernel
theorem dX9_judge_137 : decode cX9_judge 137 = .ok (.lstore 5, 2) := by decide +kernel
theorem dX9_judge_139 : decode cX9_judge 139 = .ok (.iinc 7 1, 3) := by decide +kernel
theorem dX9_judge_142 : decode cX9_judge 142 = .ok (.goto (-60), 3) := by decide +kernel
theorem dX9_judge_145 : decode cX9_judge 145 = .ok (.iload 4, 2) := by decide +kernel
theorem dX9_judge_147 : decode cX9_judge 147 = .ok (.ifCond .ne 9, 3) := by decide +kernel
theorem dX9_judge_150 : decode cX9_judge 150 = .ok (.aload_n 0, 1) := by decide +kernel
theorem dX9_judge_151 : decode cX9_judge 151 = .ok (.iconst 3, 1) := by decide +kernel
theorem dX9_judge_152 : decode cX9_judge 152 = .ok (.invokevirtual 89, 3) := by decide +kernel
theorem dX9_judge_155 : decode cX9_judge 155 = .ok (.ireturn, 1) := by decide +kernel
theorem dX9_judge_156 : decode cX9_judge 156 = .ok (.lload 5, 2) := by decide +kernel
theorem dX9_judge_158 : decode cX9_judge 158 = .ok (.lconst 0, 1) := by decide +kernel
theorem dX9_judge_159 : decode cX9_judge 159 = .ok (.lcmp, 1) := by decide +kernel
theorem dX9_judge_160 : decode cX9_judge 160 = .ok (.ifCond .ne 5, 3) := by decide +kernel
theorem dX9_judge_163 : decode cX9_judge 163 = .ok (.iload_n 3, 1) := by decide +kernel
theorem dX9_judge_164 : decode cX9_judge 164 = .ok (.ireturn, 1) := by decide +kernel
theorem dX9_judge_165 : decode cX9_judge 165 = .ok (.iconst 0, 1) := by decide +kernel
theorem dX9_judge_166 : decode cX9_judge 166 = .ok (.istore 7, 2) := by decide +kernel
theorem dX9_judge_168 : decode cX9_judge 168 = .ok (.iload 7, 2) := by decide +kernel
theorem dX9_judge_170 : decode cX9_judge 170 = .ok (.iload_n 3, 1) := by decide +kernel
theorem dX9_judge_171 : decode cX9_judge 171 = .ok (.if_icmp .ge 101, 3) := by decide +kernel
theorem dX9_judge_174 : decode cX9_judge 174 = .ok (.lconst 0, 1) := by decide +kernel
theorem dX9_judge_175 : decode cX9_judge 175 = .ok (.lstore 8, 2) := by decide +kernel
theorem dX9_judge_177 : decode cX9_judge 177 = .ok (.lconst 0, 1) := by decide +kernel
theorem dX9_judge_178 : decode cX9_judge 178 = .ok (.lstore 10, 2) := by decide +kernel
theorem dX9_judge_180 : decode cX9_judge 180 = .ok (.iconst 0, 1) := by decide +kernel
theorem dX9_judge_181 : decode cX9_judge 181 = .ok (.istore 12, 2) := by decide +kernel
theorem dX9_judge_183 : decode cX9_judge 183 = .ok (.iload 12, 2) := by decide +kernel
theorem dX9_judge_185 : decode cX9_judge 185 = .ok (.iload_n 3, 1) := by decide +kernel
theorem dX9_judge_186 : decode cX9_judge 186 = .ok (.if_icmp .ge 69, 3) := by decide +kernel
theorem dX9_judge_189 : decode cX9_judge 189 = .ok (.lload 8, 2) := by decide +kernel
theorem dX9_judge_191 : decode cX9_judge 191 = .ok (.aload_n 0, 1) := by decide +kernel
theorem dX9_judge_192 : decode cX9_judge 192 = .ok (.getfield 20, 3) := by decide +kernel
theorem dX9_judge_195 : decode cX9_judge 195 = .ok (.bipush 40, 2) := by decide +kernel
theorem dX9_judge_197 : decode cX9_judge 197 = .ok (.iload_n 2, 1) := by decide +kernel
theorem dX9_judge_198 : decode cX9_judge 198 = .ok (.imul, 1) := by decide +kernel
theorem dX9_judge_199 : decode cX9_judge 199 = .ok (.iload 7, 2) := by decide +kernel
theorem dX9_judge_201 : decode cX9_judge 201 = .ok (.iadd, 1) := by decide +kernel
theorem dX9_judge_202 : decode cX9_judge 202 = .ok (.iaload, 1) := by decide +kernel
theorem dX9_judge_203 : decode cX9_judge 203 = .ok (.i2l, 1) := by decide +kernel
theorem dX9_judge_204 : decode cX9_judge 204 = .ok (.aload_n 0, 1) := by decide +kernel
theorem dX9_judge_205 : decode cX9_judge 205 = .ok (.iload_n 1, 1) := by decide +kernel
theorem dX9_judge_206 : decode cX9_judge 206 = .ok (.iload_n 3, 1) := by decide +kernel
theorem dX9_judge_207 : decode cX9_judge 207 = .ok (.iload 7, 2) := by decide +kernel
theorem dX9_judge_209 : decode cX9_judge 209 = .ok (.iload 12, 2) := by decide +kernel
theorem dX9_judge_211 : decode cX9_judge 211 = .ok (.invokevirtual 211, 3) := by decide +kernel
theorem dX9_judge_214 : decode cX9_judge 214 = .ok (.i2l, 1) := by decide +kernel
theorem dX9_judge_215 : decode cX9_judge 215 = .ok (.lmul, 1) := by decide +kernel
theorem dX9_judge_216 : decode cX9_judge 216 = .ok (.ladd, 1) := by decide +kernel
theorem dX9_judge_217 : decode cX9_judge 217 = .ok (.lstore 8, 2) := by decide +kernel
theorem dX9_judge_219 : decode cX9_judge 219 = .ok (.lload 10, 2) := by decide +kernel
theorem dX9_judge_221 : decode cX9_judge 221 = .ok (.aload_n 0, 1) := by decide +kernel
theorem dX9_judge_222 : decode cX9_judge 222 = .ok (.getfield 20, 3) := by decide +kernel
theorem dX9_judge_225 : decode cX9_judge 225 = .ok (.bipush 40, 2) := by decide +kernel
theorem dX9_judge_227 : decode cX9_judge 227 = .ok (.iload_n 2, 1) := by decide +kernel
theorem dX9_judge_228 : decode cX9_judge 228 = .ok (.imul, 1) := by decide +kernel
theorem dX9_judge_229 : decode cX9_judge 229 = .ok (.iload 12, 2) := by decide +kernel
theorem dX9_judge_231 : decode cX9_judge 231 = .ok (.iadd, 1) := by decide +kernel
theorem dX9_judge_232 : decode cX9_judge 232 = .ok (.iaload, 1) := by decide +kernel
theorem dX9_judge_233 : decode cX9_judge 233 = .ok (.i2l, 1) := by decide +kernel
theorem dX9_judge_234 : decode cX9_judge 234 = .ok (.aload_n 0, 1) := by decide +kernel
theorem dX9_judge_235 : decode cX9_judge 235 = .ok (.iload_n 1, 1) := by decide +kernel
theorem dX9_judge_236 : decode cX9_judge 236 = .ok (.iload_n 3, 1) := by decide +kernel
theorem dX9_judge_237 : decode cX9_judge 237 = .ok (.iload 12, 2) := by decide +kernel
theorem dX9_judge_239 : decode cX9_judge 239 = .ok (.iload 7, 2) := by decide +kernel
theorem dX9_judge_241 : decode cX9_judge 241 = .ok (.invokevirtual 211, 3) := by decide +kernel
theorem dX9_judge_244 : decode cX9_judge 244 = .ok (.i2l, 1) := by decide +kernel
theorem dX9_judge_245 : decode cX9_judge 245 = .ok (.lmul, 1) := by decide +kernel
theorem dX9_judge_246 : decode cX9_judge 246 = .ok (.ladd, 1) := by decide +kernel
theorem dX9_judge_247 : decode cX9_judge 247 = .ok (.lstore 10, 2) := by decide +kernel
theorem dX9_judge_249 : decode cX9_judge 249 = .ok (.iinc 12 1, 3) := by decide +kernel
theorem dX9_judge_252 : decode cX9_judge 252 = .ok (.goto (-69), 3) := by decide +kernel
theorem dX9_judge_255 : decode cX9_judge 255 = .ok (.lload 8, 2) := by decide +kernel
theorem dX9_judge_257 : decode cX9_judge 257 = .ok (.lload 10, 2) := by decide +kernel
theorem dX9_judge_259 : decode cX9_judge 259 = .ok (.lcmp, 1) := by decide +kernel
theorem dX9_judge_260 : decode cX9_judge 260 = .ok (.ifCond .eq 6, 3) := by decide +kernel
theorem dX9_judge_263 : decode cX9_judge 263 = .ok (.iload 7, 2) := by decide +kernel
theorem dX9_judge_265 : decode cX9_judge 265 = .ok (.ireturn, 1) := by decide +kernel
theorem dX9_judge_266 : decode cX9_judge 266 = .ok (.iinc 7 1, 3) := by decide +kernel
theorem dX9_judge_269 : decode cX9_judge 269 = .ok (.goto (-101), 3) := by decide +kernel
theorem dX9_judge_272 : decode cX9_judge 272 = .ok (.bipush (-9), 2) := by decide +kernel
theorem dX9_judge_274 : decode cX9_judge 274 = .ok (.ireturn, 1) := by decide +kernel
theorem cv_X9_judge : wn_cV yX9_judge cX9_judge 13 (some .int) RX9 2 := ⟨wm_825, wm_1060, wm_1061, wm_637, by decide +kernel⟩
abbrev rm_X9_judge : Room := rmz 4 86
set_option maxHeartbeats 4000000 in
set_option maxRecDepth 100000 in
theorem c_X9_judge {ad : Nat → Nat} {o : Nat} {x1 : Int32} {x2 : Int32} {M : Mm} {q : Int32 × Mm} (ho : shp o = 9) (hF : f_X9_judge o x1 x2 M = some q) : KI ad yX9_judge cX9_judge 13 (some .int) rm_X9_judge [.ref (ad o), .int x1, .int x2] M q.1 q.2 := by
  refine wn_enterI (own := RX9) (by decide) rfl (Nat.le_of_ble_eq_true rfl) (fun X ls Z hQ hl => ?_)
  have hl : lv_has ls 13 [(0, .ref (ad o)), (1, .int x1), (2, .int x2)] := hl
  have L34 : ∀ (M : Mm) (ls : Array Slot), lv_has ls 13 [(0, .ref (ad o))] → f_X9_judge_b34 o M = some q → G ad X M 34 ls [] := by
    intro M ls hl hF
    unfold f_X9_judge_b34 at hF
    refine r_aload_n Z dX9_judge_34 rfl (lv_at hl 0 rfl) ?_
    refine r_iconst (v := 1) Z dX9_judge_35 (by decide) ?_
    obtain ⟨q1, hq1, hF⟩ := bd_some hF
    refine r_invVi [] Z (c_X9_meets ho hq1) cv_X9_meets rfl (shp_lt ho (by decide)) (fun _ _ => ⟨_, ce_9 ho⟩) wm_644 rfl rfl ⟨Nat.le_of_ble_eq_true rfl, Nat.le_of_ble_eq_true rfl⟩ rfl hl.1 rfl (Nat.le_of_ble_eq_true rfl) dX9_judge_36 ?_
    exact r_iret Z hQ hF dX9_judge_39
  have L168 : ∀ (n168 : Nat) (v1 : Int32) (v2 : Int32) (v3 : Int32) (v7 : Int32) (M : Mm) (ls : Array Slot), lv_has ls 13 [(0, .ref (ad o)), (1, .int v1), (2, .int v2), (3, .int v3), (7, .int v7)] → f_X9_judge_b168 o n168 v1 v2 v3 v7 M = some q → G ad X M 168 ls [] := by
    intro n168
    induction n168 with
    | zero =>
      intro v1 v2 v3 v7 M ls hl hF
      cases hF
    | succ n168 ih168 =>
      have L183 : ∀ (n183 : Nat) (v1 : Int32) (v2 : Int32) (v3 : Int32) (v7 : Int32) (v8 : Int64) (v10 : Int64) (v12 : Int32) (M : Mm) (ls : Array Slot), lv_has ls 13 [(0, .ref (ad o)), (1, .int v1), (2, .int v2), (3, .int v3), (7, .int v7), (8, .long v8), (10, .long v10), (12, .int v12)] → f_X9_judge_b183 (f_X9_judge_b168 o n168) o n183 v1 v2 v3 v7 v8 v10 v12 M = some q → G ad X M 183 ls [] := by
        intro n183
        induction n183 with
        | zero =>
          intro v1 v2 v3 v7 v8 v10 v12 M ls hl hF
          cases hF
        | succ n183 ih183 =>
          intro v1 v2 v3 v7 v8 v10 v12 M ls hl hF
          replace hF : f_X9_judge_b183B (f_X9_judge_b168 o n168) (f_X9_judge_b183 (f_X9_judge_b168 o n168) o n183) o v1 v2 v3 v7 v8 v10 v12 M = some q := hF
          unfold f_X9_judge_b183B at hF
          refine r_iload Z dX9_judge_183 (lv_at hl 7 rfl) ?_
          refine r_iload_n Z dX9_judge_185 rfl (lv_at hl 3 rfl) ?_
          refine r_icmp_ge Z 255 dX9_judge_186 (by decide) (fun hc5 => ?_) (fun hc5 => ?_)
          · replace hF := if_some hc5 hF
            refine r_lload Z dX9_judge_255 (lv_at hl 5 rfl) ?_
            refine r_lload Z dX9_judge_257 (lv_at hl 6 rfl) ?_
            refine r_lcmp Z dX9_judge_259 ?_
            refine r_if_eq Z 266 dX9_judge_260 (by decide) (fun hc6 => ?_) (fun hc6 => ?_)
            · replace hF := if_some hc6 hF
              obtain ⟨t7, et7, hF⟩ := nm_some hF
              refine r_iinc (j := 4) Z t7 [(7, .int t7), (0, .ref (ad o)), (1, .int v1), (2, .int v2), (3, .int v3), (8, .long v8), (10, .long v10), (12, .int v12)] dX9_judge_266 hl rfl (by rw [et7]; rfl) (by decide) rfl (fun ls hl => ?_)
              refine r_goto Z 168 dX9_judge_269 (by decide) ?_
              exact ih168 v1 v2 v3 t7 M ls (lv_sub hl [1, 2, 3, 4, 0] rfl) hF
            · replace hF := nif_some hc6 hF
              refine r_iload Z dX9_judge_263 (lv_at hl 4 rfl) ?_
              exact r_iret Z hQ hF dX9_judge_265
          · replace hF := nif_some hc5 hF
            refine r_lload Z dX9_judge_189 (lv_at hl 5 rfl) ?_
            refine r_aload_n Z dX9_judge_191 rfl (lv_at hl 0 rfl) ?_
            refine g_9_6 Z ho wm_611 dX9_judge_192 ?_
            refine r_bipush (v := 40) Z dX9_judge_195 (by decide) ?_
            refine r_iload_n Z dX9_judge_197 rfl (lv_at hl 2 rfl) ?_
            refine r_imul Z dX9_judge_198 ?_
            refine r_iload Z dX9_judge_199 (lv_at hl 4 rfl) ?_
            refine r_iadd Z dX9_judge_201 ?_
            obtain ⟨hi8, hF⟩ := ck_some hF
            refine r_iaload Z (shp_lt (sh_9_6 ho) (by decide)) (fun _ _ => ce_340 (sh_9_6 ho)) hi8 dX9_judge_202 ?_
            refine r_i2l Z dX9_judge_203 ?_
            refine r_aload_n Z dX9_judge_204 rfl (lv_at hl 0 rfl) ?_
            refine r_iload_n Z dX9_judge_205 rfl (lv_at hl 1 rfl) ?_
            refine r_iload_n Z dX9_judge_206 rfl (lv_at hl 3 rfl) ?_
            refine r_iload Z dX9_judge_207 (lv_at hl 4 rfl) ?_
            refine r_iload Z dX9_judge_209 (lv_at hl 7 rfl) ?_
            obtain ⟨q9, hq9, hF⟩ := bd_some hF
            refine r_invVi [.long (Int32.toInt64 (mI M (fld o 6) (Int32.toNatClampNeg ((40 * v2) + v7)))), .long v8] Z (c_X9_rateOf ho hq9) cv_X9_rateOf rfl (shp_lt ho (by decide)) (fun _ _ => ⟨_, ce_9 ho⟩) wm_805 rfl rfl ⟨Nat.le_of_ble_eq_true rfl, Nat.le_of_ble_eq_true rfl⟩ rfl hl.1 rfl (Nat.le_of_ble_eq_true rfl) dX9_judge_211 ?_
            refine r_i2l Z dX9_judge_214 ?_
            refine r_lmul Z dX9_judge_215 ?_
            refine r_ladd Z dX9_judge_216 ?_
            obtain ⟨t10, et10, hF⟩ := nm_some hF
            rw [← et10]
            refine r_lstore Z [(8, .long t10), (0, .ref (ad o)), (1, .int v1), (2, .int v2), (3, .int v3), (7, .int v7), (10, .long v10), (12, .int v12)] dX9_judge_217 hl (by decide) rfl (fun ls hl => ?_)
            refine r_lload Z dX9_judge_219 (lv_at hl 6 rfl) ?_
            refine r_aload_n Z dX9_judge_221 rfl (lv_at hl 1 rfl) ?_
            refine g_9_6 Z ho wm_611 dX9_judge_222 ?_
            refine r_bipush (v := 40) Z dX9_judge_225 (by decide) ?_
            refine r_iload_n Z dX9_judge_227 rfl (lv_at hl 3 rfl) ?_
            refine r_imul Z dX9_judge_228 ?_
            refine r_iload Z dX9_judge_229 (lv_at hl 7 rfl) ?_
            refine r_iadd Z dX9_judge_231 ?_
            obtain ⟨hi11, hF⟩ := ck_some hF
            refine r_iaload Z (shp_lt (sh_9_6 ho) (by decide)) (fun _ _ => ce_340 (sh_9_6 ho)) hi11 dX9_judge_232 ?_
            refine r_i2l Z dX9_judge_233 ?_
            refine r_aload_n Z dX9_judge_234 rfl (lv_at hl 1 rfl) ?_
            refine r_iload_n Z dX9_judge_235 rfl (lv_at hl 2 rfl) ?_
            refine r_iload_n Z dX9_judge_236 rfl (lv_at hl 4 rfl) ?_
            refine r_iload Z dX9_judge_237 (lv_at hl 7 rfl) ?_
            refine r_iload Z dX9_judge_239 (lv_at hl 5 rfl) ?_
            obtain ⟨q12, hq12, hF⟩ := bd_some hF
            refine r_invVi [.long (Int32.toInt64 (mI q9.2 (fld o 6) (Int32.toNatClampNeg ((40 * v2) + v12)))), .long v10] Z (c_X9_rateOf ho hq12) cv_X9_rateOf rfl (shp_lt ho (by decide)) (fun _ _ => ⟨_, ce_9 ho⟩) wm_805 rfl rfl ⟨Nat.le_of_ble_eq_true rfl, Nat.le_of_ble_eq_true rfl⟩ rfl hl.1 rfl (Nat.le_of_ble_eq_true rfl) dX9_judge_241 ?_
            refine r_i2l Z dX9_judge_244 ?_
            refine r_lmul Z dX9_judge_245 ?_
            refine r_ladd Z dX9_judge_246 ?_
            obtain ⟨t13, et13, hF⟩ := nm_some hF
            rw [← et13]
            refine r_lstore Z [(10, .long t13), (8, .long t10), (0, .ref (ad o)), (1, .int v1), (2, .int v2), (3, .int v3), (7, .int v7), (12, .int v12)] dX9_judge_247 hl (by decide) rfl (fun ls hl => ?_)
            obtain ⟨t14, et14, hF⟩ := nm_some hF
            refine r_iinc (j := 7) Z t14 [(12, .int t14), (10, .long t13), (8, .long t10), (0, .ref (ad o)), (1, .int v1), (2, .int v2), (3, .int v3), (7, .int v7)] dX9_judge_249 hl rfl (by rw [et14]; rfl) (by decide) rfl (fun ls hl => ?_)
            refine r_goto Z 183 dX9_judge_252 (by decide) ?_
            exact ih183 v1 v2 v3 v7 t10 t13 t14 q12.2 ls (lv_sub hl [3, 4, 5, 6, 7, 2, 1, 0] rfl) hF
      intro v1 v2 v3 v7 M ls hl hF
      replace hF : f_X9_judge_b168B (f_X9_judge_b168 o n168) o v1 v2 v3 v7 M = some q := hF
      unfold f_X9_judge_b168B at hF
      refine r_iload Z dX9_judge_168 (lv_at hl 4 rfl) ?_
      refine r_iload_n Z dX9_judge_170 rfl (lv_at hl 3 rfl) ?_
      refine r_icmp_ge Z 272 dX9_judge_171 (by decide) (fun hc15 => ?_) (fun hc15 => ?_)
      · replace hF := if_some hc15 hF
        refine r_bipush (v := (-9)) Z dX9_judge_272 (by decide) ?_
        exact r_iret Z hQ hF dX9_judge_274
      · replace hF := nif_some hc15 hF
        refine r_lconst (v := 0) Z dX9_judge_174 (by decide) ?_
        refine r_lstore Z [(8, .long 0), (0, .ref (ad o)), (1, .int v1), (2, .int v2), (3, .int v3), (7, .int v7)] dX9_judge_175 hl (by decide) rfl (fun ls hl => ?_)
        refine r_lconst (v := 0) Z dX9_judge_177 (by decide) ?_
        refine r_lstore Z [(10, .long 0), (8, .long 0), (0, .ref (ad o)), (1, .int v1), (2, .int v2), (3, .int v3), (7, .int v7)] dX9_judge_178 hl (by decide) rfl (fun ls hl => ?_)
        refine r_iconst (v := 0) Z dX9_judge_180 (by decide) ?_
        refine r_istore Z [(12, .int 0), (10, .long 0), (8, .long 0), (0, .ref (ad o)), (1, .int v1), (2, .int v2), (3, .int v3), (7, .int v7)] dX9_judge_181 hl (by decide) rfl (fun ls hl => ?_)
        exact L183 _ v1 v2 v3 v7 0 0 0 M ls (lv_sub hl [3, 4, 5, 6, 7, 2, 1, 0] rfl) hF
  have L82 : ∀ (n82 : Nat) (v1 : Int32) (v2 : Int32) (v3 : Int32) (v4 : Int32) (v5 : Int64) (v7 : Int32) (M : Mm) (ls : Array Slot), lv_has ls 13 [(0, .ref (ad o)), (1, .int v1), (2, .int v2), (3, .int v3), (4, .int v4), (5, .long v5), (7, .int v7)] → f_X9_judge_b82 o n82 v1 v2 v3 v4 v5 v7 M = some q → G ad X M 82 ls [] := by
    intro n82
    induction n82 with
    | zero =>
      intro v1 v2 v3 v4 v5 v7 M ls hl hF
      cases hF
    | succ n82 ih82 =>
      have L119 : ∀ (v1 : Int32) (v2 : Int32) (v3 : Int32) (v5 : Int64) (v7 : Int32) (s0 : Int32) (M : Mm) (ls : Array Slot), lv_has ls 13 [(0, .ref (ad o)), (1, .int v1), (2, .int v2), (3, .int v3), (5, .long v5), (7, .int v7)] → f_X9_judge_b119 (f_X9_judge_b82 o n82) o v1 v2 v3 v5 v7 s0 M = some q → G ad X M 119 ls [.int s0] := by
        intro v1 v2 v3 v5 v7 s0 M ls hl hF
        unfold f_X9_judge_b119 at hF
        refine r_istore Z [(4, .int s0), (0, .ref (ad o)), (1, .int v1), (2, .int v2), (3, .int v3), (5, .long v5), (7, .int v7)] dX9_judge_119 hl (by decide) rfl (fun ls hl => ?_)
        refine r_lload Z dX9_judge_121 (lv_at hl 5 rfl) ?_
        refine r_aload_n Z dX9_judge_123 rfl (lv_at hl 1 rfl) ?_
        refine g_9_6 Z ho wm_611 dX9_judge_124 ?_
        refine r_bipush (v := 40) Z dX9_judge_127 (by decide) ?_
        refine r_iload_n Z dX9_judge_129 rfl (lv_at hl 3 rfl) ?_
        refine r_imul Z dX9_judge_130 ?_
        refine r_iload Z dX9_judge_131 (lv_at hl 6 rfl) ?_
        refine r_iadd Z dX9_judge_133 ?_
        obtain ⟨hi2, hF⟩ := ck_some hF
        refine r_iaload Z (shp_lt (sh_9_6 ho) (by decide)) (fun _ _ => ce_340 (sh_9_6 ho)) hi2 dX9_judge_134 ?_
        refine r_i2l Z dX9_judge_135 ?_
        refine r_ladd Z dX9_judge_136 ?_
        obtain ⟨t3, et3, hF⟩ := nm_some hF
        rw [← et3]
        refine r_lstore Z [(5, .long t3), (4, .int s0), (0, .ref (ad o)), (1, .int v1), (2, .int v2), (3, .int v3), (7, .int v7)] dX9_judge_137 hl (by decide) rfl (fun ls hl => ?_)
        obtain ⟨t4, et4, hF⟩ := nm_some hF
        refine r_iinc (j := 6) Z t4 [(7, .int t4), (5, .long t3), (4, .int s0), (0, .ref (ad o)), (1, .int v1), (2, .int v2), (3, .int v3)] dX9_judge_139 hl rfl (by rw [et4]; rfl) (by decide) rfl (fun ls hl => ?_)
        refine r_goto Z 82 dX9_judge_142 (by decide) ?_
        exact ih82 v1 v2 v3 s0 t3 t4 M ls (lv_sub hl [3, 4, 5, 6, 2, 1, 0] rfl) hF
      have L118 : ∀ (v1 : Int32) (v2 : Int32) (v3 : Int32) (v5 : Int64) (v7 : Int32) (M : Mm) (ls : Array Slot), lv_has ls 13 [(0, .ref (ad o)), (1, .int v1), (2, .int v2), (3, .int v3), (5, .long v5), (7, .int v7)] → f_X9_judge_b118 (f_X9_judge_b82 o n82) o v1 v2 v3 v5 v7 M = some q → G ad X M 118 ls [] := by
        intro v1 v2 v3 v5 v7 M ls hl hF
        unfold f_X9_judge_b118 at hF
        refine r_iconst (v := 0) Z dX9_judge_118 (by decide) ?_
        exact L119 v1 v2 v3 v5 v7 0 M ls (lv_sub hl [0, 1, 2, 3, 4, 5] rfl) hF
      intro v1 v2 v3 v4 v5 v7 M ls hl hF
      replace hF : f_X9_judge_b82B (f_X9_judge_b82 o n82) o v1 v2 v3 v4 v5 v7 M = some q := hF
      unfold f_X9_judge_b82B at hF
      refine r_iload Z dX9_judge_82 (lv_at hl 6 rfl) ?_
      refine r_iload_n Z dX9_judge_84 rfl (lv_at hl 3 rfl) ?_
      refine r_icmp_ge Z 145 dX9_judge_85 (by decide) (fun hc16 => ?_) (fun hc16 => ?_)
      · replace hF := if_some hc16 hF
        refine r_iload Z dX9_judge_145 (lv_at hl 4 rfl) ?_
        refine r_if_ne Z 156 dX9_judge_147 (by decide) (fun hc17 => ?_) (fun hc17 => ?_)
        · replace hF := nif_some hc17 hF
          refine r_lload Z dX9_judge_156 (lv_at hl 5 rfl) ?_
          refine r_lconst (v := 0) Z dX9_judge_158 (by decide) ?_
          refine r_lcmp Z dX9_judge_159 ?_
          refine r_if_ne Z 165 dX9_judge_160 (by decide) (fun hc18 => ?_) (fun hc18 => ?_)
          · replace hF := nif_some hc18 hF
            refine r_iconst (v := 0) Z dX9_judge_165 (by decide) ?_
            refine r_istore Z [(7, .int 0), (0, .ref (ad o)), (1, .int v1), (2, .int v2), (3, .int v3), (4, .int v4), (5, .long v5)] dX9_judge_166 hl (by decide) rfl (fun ls hl => ?_)
            exact L168 _ v1 v2 v3 0 M ls (lv_sub hl [1, 2, 3, 4, 0] rfl) hF
          · replace hF := if_some hc18 hF
            refine r_iload_n Z dX9_judge_163 rfl (lv_at hl 3 rfl) ?_
            exact r_iret Z hQ hF dX9_judge_164
        · replace hF := if_some hc17 hF
          refine r_aload_n Z dX9_judge_150 rfl (lv_at hl 0 rfl) ?_
          refine r_iconst (v := 3) Z dX9_judge_151 (by decide) ?_
          obtain ⟨q19, hq19, hF⟩ := bd_some hF
          refine r_invVi [] Z (c_X9_meets ho hq19) cv_X9_meets rfl (shp_lt ho (by decide)) (fun _ _ => ⟨_, ce_9 ho⟩) wm_644 rfl rfl ⟨Nat.le_of_ble_eq_true rfl, Nat.le_of_ble_eq_true rfl⟩ rfl hl.1 rfl (Nat.le_of_ble_eq_true rfl) dX9_judge_152 ?_
          exact r_iret Z hQ hF dX9_judge_155
      · replace hF := nif_some hc16 hF
        refine r_iload Z dX9_judge_88 (lv_at hl 4 rfl) ?_
        refine r_if_eq Z 118 dX9_judge_90 (by decide) (fun hc20 => ?_) (fun hc20 => ?_)
        · replace hF := if_some hc20 hF
          exact L118 v1 v2 v3 v5 v7 M ls (lv_sub hl [0, 1, 2, 3, 5, 6] rfl) hF
        · replace hF := nif_some hc20 hF
          refine r_aload_n Z dX9_judge_93 rfl (lv_at hl 0 rfl) ?_
          refine g_9_6 Z ho wm_611 dX9_judge_94 ?_
          refine r_bipush (v := 40) Z dX9_judge_97 (by decide) ?_
          refine r_iload_n Z dX9_judge_99 rfl (lv_at hl 2 rfl) ?_
          refine r_imul Z dX9_judge_100 ?_
          refine r_iload Z dX9_judge_101 (lv_at hl 6 rfl) ?_
          refine r_iadd Z dX9_judge_103 ?_
          obtain ⟨hi21, hF⟩ := ck_some hF
          refine r_iaload Z (shp_lt (sh_9_6 ho) (by decide)) (fun _ _ => ce_340 (sh_9_6 ho)) hi21 dX9_judge_104 ?_
          refine r_iconst (v := 0) Z dX9_judge_105 (by decide) ?_
          refine r_ldc Z wm_824 dX9_judge_106 ?_
          obtain ⟨q22, hq22, hF⟩ := bd_some hF
          refine r_invSi [] Z (c_X9_in hq22) cv_X9_in wm_639 rfl rfl ⟨Nat.le_of_ble_eq_true rfl, Nat.le_of_ble_eq_true rfl⟩ rfl hl.1 rfl (Nat.le_of_ble_eq_true rfl) dX9_judge_108 ?_
          refine r_if_eq Z 118 dX9_judge_111 (by decide) (fun hc23 => ?_) (fun hc23 => ?_)
          · replace hF := if_some hc23 hF
            exact L118 v1 v2 v3 v5 v7 q22.2 ls (lv_sub hl [0, 1, 2, 3, 5, 6] rfl) hF
          · replace hF := nif_some hc23 hF
            refine r_iconst (v := 1) Z dX9_judge_114 (by decide) ?_
            refine r_goto Z 119 dX9_judge_115 (by decide) ?_
            exact L119 v1 v2 v3 v5 v7 1 q22.2 ls (lv_sub hl [0, 1, 2, 3, 5, 6] rfl) hF
  unfold f_X9_judge at hF
  refine r_iload_n Z dX9_judge_0 rfl (lv_at hl 1 rfl) ?_
  obtain ⟨q24, hq24, hF⟩ := bd_some hF
  refine r_invSi [] Z (c_X9_isRow hq24) cv_X9_isRow wm_642 rfl rfl ⟨Nat.le_of_ble_eq_true rfl, Nat.le_of_ble_eq_true rfl⟩ rfl hl.1 rfl (Nat.le_of_ble_eq_true rfl) dX9_judge_1 ?_
  refine r_if_eq Z 14 dX9_judge_4 (by decide) (fun hc25 => ?_) (fun hc25 => ?_)
  · replace hF := if_some hc25 hF
    refine r_iconst (v := (-1)) Z dX9_judge_14 (by decide) ?_
    exact r_iret Z hQ hF dX9_judge_15
  · replace hF := nif_some hc25 hF
    refine r_iload_n Z dX9_judge_7 rfl (lv_at hl 2 rfl) ?_
    obtain ⟨q26, hq26, hF⟩ := bd_some hF
    refine r_invSi [] Z (c_X9_isRow hq26) cv_X9_isRow wm_642 rfl rfl ⟨Nat.le_of_ble_eq_true rfl, Nat.le_of_ble_eq_true rfl⟩ rfl hl.1 rfl (Nat.le_of_ble_eq_true rfl) dX9_judge_8 ?_
    refine r_if_ne Z 16 dX9_judge_11 (by decide) (fun hc27 => ?_) (fun hc27 => ?_)
    · replace hF := nif_some hc27 hF
      refine r_aload_n Z dX9_judge_16 rfl (lv_at hl 0 rfl) ?_
      refine g_9_5 Z ho wm_610 dX9_judge_17 ?_
      refine r_iload_n Z dX9_judge_20 rfl (lv_at hl 1 rfl) ?_
      obtain ⟨hi28, hF⟩ := ck_some hF
      refine r_iaload Z (shp_lt (sh_9_5 ho) (by decide)) (fun _ _ => ce_106 (sh_9_5 ho)) hi28 dX9_judge_21 ?_
      refine r_if_lt Z 34 dX9_judge_22 (by decide) (fun hc29 => ?_) (fun hc29 => ?_)
      · replace hF := if_some hc29 hF
        exact L34 q26.2 ls (lv_sub hl [0] rfl) hF
      · replace hF := nif_some hc29 hF
        refine r_aload_n Z dX9_judge_25 rfl (lv_at hl 0 rfl) ?_
        refine g_9_5 Z ho wm_610 dX9_judge_26 ?_
        refine r_iload_n Z dX9_judge_29 rfl (lv_at hl 2 rfl) ?_
        obtain ⟨hi30, hF⟩ := ck_some hF
        refine r_iaload Z (shp_lt (sh_9_5 ho) (by decide)) (fun _ _ => ce_106 (sh_9_5 ho)) hi30 dX9_judge_30 ?_
        refine r_if_ge Z 40 dX9_judge_31 (by decide) (fun hc31 => ?_) (fun hc31 => ?_)
        · replace hF := if_some hc31 hF
          refine r_aload_n Z dX9_judge_40 rfl (lv_at hl 0 rfl) ?_
          refine r_iload_n Z dX9_judge_41 rfl (lv_at hl 1 rfl) ?_
          obtain ⟨q32, hq32, hF⟩ := bd_some hF
          refine r_invVi [] Z (c_X9_askedChain ho hq32) cv_X9_askedChain rfl (shp_lt ho (by decide)) (fun _ _ => ⟨_, ce_9 ho⟩) wm_813 rfl rfl ⟨Nat.le_of_ble_eq_true rfl, Nat.le_of_ble_eq_true rfl⟩ rfl hl.1 rfl (Nat.le_of_ble_eq_true rfl) dX9_judge_42 ?_
          refine r_istore_n Z [(3, .int q32.1), (0, .ref (ad o)), (1, .int x1), (2, .int x2)] dX9_judge_45 rfl hl (by decide) rfl (fun ls hl => ?_)
          refine r_iload_n Z dX9_judge_46 rfl (lv_at hl 0 rfl) ?_
          refine r_if_ge Z 52 dX9_judge_47 (by decide) (fun hc33 => ?_) (fun hc33 => ?_)
          · replace hF := if_some hc33 hF
            refine r_aload_n Z dX9_judge_52 rfl (lv_at hl 1 rfl) ?_
            refine g_9_5 Z ho wm_610 dX9_judge_53 ?_
            refine r_iload_n Z dX9_judge_56 rfl (lv_at hl 3 rfl) ?_
            obtain ⟨hi34, hF⟩ := ck_some hF
            refine r_iaload Z (shp_lt (sh_9_5 ho) (by decide)) (fun _ _ => ce_106 (sh_9_5 ho)) hi34 dX9_judge_57 ?_
            refine r_iload_n Z dX9_judge_58 rfl (lv_at hl 0 rfl) ?_
            refine r_icmp_eq Z 68 dX9_judge_59 (by decide) (fun hc35 => ?_) (fun hc35 => ?_)
            · replace hF := if_some hc35 hF
              refine r_aload_n Z dX9_judge_68 rfl (lv_at hl 1 rfl) ?_
              refine r_iload_n Z dX9_judge_69 rfl (lv_at hl 2 rfl) ?_
              refine r_iload_n Z dX9_judge_70 rfl (lv_at hl 0 rfl) ?_
              obtain ⟨q36, hq36, hF⟩ := bd_some hF
              refine r_invVi [] Z (c_X9_areRates ho hq36) cv_X9_areRates rfl (shp_lt ho (by decide)) (fun _ _ => ⟨_, ce_9 ho⟩) wm_816 rfl rfl ⟨Nat.le_of_ble_eq_true rfl, Nat.le_of_ble_eq_true rfl⟩ rfl hl.1 rfl (Nat.le_of_ble_eq_true rfl) dX9_judge_71 ?_
              refine r_istore Z [(4, .int q36.1), (3, .int q32.1), (0, .ref (ad o)), (1, .int x1), (2, .int x2)] dX9_judge_74 hl (by decide) rfl (fun ls hl => ?_)
              refine r_lconst (v := 0) Z dX9_judge_76 (by decide) ?_
              refine r_lstore Z [(5, .long 0), (4, .int q36.1), (3, .int q32.1), (0, .ref (ad o)), (1, .int x1), (2, .int x2)] dX9_judge_77 hl (by decide) rfl (fun ls hl => ?_)
              refine r_iconst (v := 0) Z dX9_judge_79 (by decide) ?_
              refine r_istore Z [(7, .int 0), (5, .long 0), (4, .int q36.1), (3, .int q32.1), (0, .ref (ad o)), (1, .int x1), (2, .int x2)] dX9_judge_80 hl (by decide) rfl (fun ls hl => ?_)
              exact L82 _ x1 x2 q32.1 q36.1 0 0 q36.2 ls (lv_sub hl [4, 5, 6, 3, 2, 1, 0] rfl) hF
            · replace hF := nif_some hc35 hF
              refine r_aload_n Z dX9_judge_62 rfl (lv_at hl 1 rfl) ?_
              refine r_iconst (v := 5) Z dX9_judge_63 (by decide) ?_
              obtain ⟨q37, hq37, hF⟩ := bd_some hF
              refine r_invVi [] Z (c_X9_meets ho hq37) cv_X9_meets rfl (shp_lt ho (by decide)) (fun _ _ => ⟨_, ce_9 ho⟩) wm_644 rfl rfl ⟨Nat.le_of_ble_eq_true rfl, Nat.le_of_ble_eq_true rfl⟩ rfl hl.1 rfl (Nat.le_of_ble_eq_true rfl) dX9_judge_64 ?_
              exact r_iret Z hQ hF dX9_judge_67
          · replace hF := nif_some hc33 hF
            refine r_iload_n Z dX9_judge_50 rfl (lv_at hl 0 rfl) ?_
            exact r_iret Z hQ hF dX9_judge_51
        · replace hF := nif_some hc31 hF
          exact L34 q26.2 ls (lv_sub hl [0] rfl) hF
    · replace hF := if_some hc27 hF
      refine r_iconst (v := (-1)) Z dX9_judge_14 (by decide) ?_
      exact r_iret Z hQ hF dX9_judge_15
theorem dX9_kept_0 : decode cX9_kept 0 = .ok (.aload_n 0, 1) := by decide +kernel
theorem dX9_kept_1 : decode cX9_kept 1 = .ok (.invokevirtual 128, 3) := by decide +kernel
theorem dX9_kept_4 : decode cX9_kept 4 = .ok (.ireturn, 1) := by decide +kernel
theorem cv_X9_kept : wn_cV yX9_kept cX9_kept 1 (some .int) RX9 0 := ⟨wm_701, wm_952, wm_953, wm_637, by decide +kernel⟩
abbrev rm_X9_kept : Room := rmz 2 48
set_option maxHeartbeats 4000000 in
set_option maxRecDepth 100000 in
theorem c_X9_kept {ad : Nat → Nat} {o : Nat} {M : Mm} {q : Int32 × Mm} (ho : shp o = 9) (hF : f_X9_kept o M = some q) : KI ad yX9_kept cX9_kept 1 (some .int) rm_X9_kept [.ref (ad o)] M q.1 q.2 := by
  refine wn_enterI (own := RX9) (by decide) rfl (Nat.le_of_ble_eq_true rfl) (fun X ls Z hQ hl => ?_)
  have hl : lv_has ls 1 [(0, .ref (ad o))] := hl
  unfold f_X9_kept at hF
  refine r_aload_n Z dX9_kept_0 rfl (lv_at hl 0 rfl) ?_
  obtain ⟨q1, hq1, hF⟩ := bd_some hF
  refine r_invVi [] Z (c_X9_keptOf ho hq1) cv_X9_keptOf rfl (shp_lt ho (by decide)) (fun _ _ => ⟨_, ce_9 ho⟩) wm_702 rfl rfl ⟨Nat.le_of_ble_eq_true rfl, Nat.le_of_ble_eq_true rfl⟩ rfl hl.1 rfl (Nat.le_of_ble_eq_true rfl) dX9_kept_1 ?_
  exact r_iret Z hQ hF dX9_kept_4
theorem dX9_partsOf_0 : decode cX9_partsOf 0 = .ok (.iconst 0, 1) := by decide +kernel
theorem dX9_partsOf_1 : decode cX9_partsOf 1 = .ok (.istore_n 3, 1) := by decide +kernel
theorem dX9_partsOf_2 : decode cX9_partsOf 2 = .ok (.iconst 0, 1) := by decide +kernel
theorem dX9_partsOf_3 : decode cX9_partsOf 3 = .ok (.istore 4, 2) := by decide +kernel
theorem dX9_partsOf_5 : decode cX9_partsOf 5 = .ok (.aload_n 0, 1) := by decide +kernel
theorem dX9_partsOf_6 : decode cX9_partsOf 6 = .ok (.iconst 0, 1) := by decide +kernel
theorem dX9_partsOf_7 : decode cX9_partsOf 7 = .ok (.putfield 215, 3) := by decide +kernel
theorem dX9_partsOf_10 : decode cX9_partsOf 10 = .ok (.iconst 0, 1) := by decide +kernel
theorem dX9_partsOf_11 : decode cX9_partsOf 11 = .ok (.istore 5, 2) := by decide +kernel
theorem dX9_partsOf_13 : decode cX9_partsOf 13 = .ok (.iload 5, 2) := by decide +kernel
theorem dX9_partsOf_15 : decode cX9_partsOf 15 = .ok (.iload_n 2, 1) := by decide +kernel
theorem dX9_partsOf_16 : decode cX9_partsOf 16 = .ok (.if_icmp .ge 118, 3) := by decide +kernel
theorem dX9_partsOf_19 : decode cX9_partsOf 19 = .ok (.aload_n 0, 1) := by decide +kernel
theorem dX9_partsOf_20 : decode cX9_partsOf 20 = .ok (.iload_n 1, 1) := by decide +kernel
theorem dX9_partsOf_21 : decode cX9_partsOf 21 = .ok (.iload_n 2, 1) := by decide +kernel
theorem dX9_partsOf_22 : decode cX9_partsOf 22 = .ok (.iload 5, 2) := by decide +kernel
theorem dX9_partsOf_24 : decode cX9_partsOf 24 = .ok (.invokevirtual 218, 3) := by decide +kernel
theorem dX9_partsOf_27 : decode cX9_partsOf 27 = .ok (.istore 6, 2) := by decide +kernel
theorem dX9_partsOf_29 : decode cX9_partsOf 29 = .ok (.iload 4, 2) := by decide +kernel
theorem dX9_partsOf_31 : decode cX9_partsOf 31 = .ok (.iload 5, 2) := by decide +kernel
theorem dX9_partsOf_33 : decode cX9_partsOf 33 = .ok (.ishr, 1) := by decide +kernel
theorem dX9_partsOf_34 : decode cX9_partsOf 34 = .ok (.iconst 1, 1) := by decide +kernel
theorem dX9_partsOf_35 : decode cX9_partsOf 35 = .ok (.iand, 1) := by decide +kernel
theorem dX9_partsOf_36 : decode cX9_partsOf 36 = .ok (.ifCond .ne 7, 3) := by decide +kernel
theorem dX9_partsOf_39 : decode cX9_partsOf 39 = .ok (.iconst 1, 1) := by decide +kernel
theorem dX9_partsOf_40 : decode cX9_partsOf 40 = .ok (.goto 4, 3) := by decide +kernel
theorem dX9_partsOf_43 : decode cX9_partsOf 43 = .ok (.iconst 0, 1) := by decide +kernel
theorem dX9_partsOf_44 : decode cX9_partsOf 44 = .ok (.istore 7, 2) := by decide +kernel
theorem dX9_partsOf_46 : decode cX9_partsOf 46 = .ok (.iconst 0, 1) := by decide +kernel
theorem dX9_partsOf_47 : decode cX9_partsOf 47 = .ok (.istore 8, 2) := by decide +kernel
theorem dX9_partsOf_49 : decode cX9_partsOf 49 = .ok (.iload 8, 2) := by decide +kernel
theorem dX9_partsOf_51 : decode cX9_partsOf 51 = .ok (.iload_n 2, 1) := by decide +kernel
theorem dX9_partsOf_52 : decode cX9_partsOf 52 = .ok (.if_icmp .ge 44, 3) := by decide +kernel
theorem dX9_partsOf_55 : decode cX9_partsOf 55 = .ok (.iload 7, 2) := by decide +kernel
theorem dX9_partsOf_57 : decode cX9_partsOf 57 = .ok (.ifCond .eq 30, 3) := by decide +kernel
theorem dX9_partsOf_60 : decode cX9_partsOf 60 = .ok (.iload 6, 2) := by decide +kernel
theorem dX9_partsOf_62 : decode cX9_partsOf 62 = .ok (.iload 8, 2) := by decide +kernel
theorem dX9_partsOf_64 : decode cX9_partsOf 64 = .ok (.ishr, 1) := by decide +kernel
theorem dX9_partsOf_65 : decode cX9_partsOf 65 = .ok (.iconst 1, 1) := by decide +kernel
theorem dX9_partsOf_66 : decode cX9_partsOf 66 = .ok (.iand, 1) := by decide +kernel
theorem dX9_partsOf_67 : decode cX9_partsOf 67 = .ok (.ifCond .eq 16, 3) := by decide +kernel
theorem dX9_partsOf_70 : decode cX9_partsOf 70 = .ok (.aload_n 0, 1) := by decide +kernel
theorem dX9_partsOf_71 : decode cX9_partsOf 71 = .ok (.iload_n 1, 1) := by decide +kernel
theorem dX9_partsOf_72 : decode cX9_partsOf 72 = .ok (.iload_n 2, 1) := by decide +kernel
theorem dX9_partsOf_73 : decode cX9_partsOf 73 = .ok (.iload 8, 2) := by decide +kernel
theorem dX9_partsOf_75 : decode cX9_partsOf 75 = .ok (.invokevirtual 218, 3) := by decide +kernel
theorem dX9_partsOf_78 : decode cX9_partsOf 78 = .ok (.iload 6, 2) := by decide +kernel
theorem dX9_partsOf_80 : decode cX9_partsOf 80 = .ok (.if_icmp .ne 7, 3) := by decide +kernel
theorem dX9_partsOf_83 : decode cX9_partsOf 83 = .ok (.iconst 1, 1) := by decide +kernel
theorem dX9_partsOf_84 : decode cX9_partsOf 84 = .ok (.goto 4, 3) := by decide +kernel
theorem dX9_partsOf_87 : decode cX9_partsOf 87 = .ok (.iconst 0, 1) := by decide +kernel
theorem dX9_partsOf_88 : decode cX9_partsOf 88 = .ok (.istore 7, 2) := by decide +kernel
theorem dX9_partsOf_90 : decode cX9_partsOf 90 = .ok (.iinc 8 1, 3) := by decide +kernel
theorem dX9_partsOf_93 : decode cX9_partsOf 93 = .ok (.goto (-44), 3) := by decide +kernel
theorem dX9_partsOf_96 : decode cX9_partsOf 96 = .ok (.iload 7, 2) := by decide +kernel
theorem dX9_partsOf_98 : decode cX9_partsOf 98 = .ok (.ifCond .eq 30, 3) := by decide +kernel
theorem dX9_partsOf_101 : decode cX9_partsOf 101 = .ok (.aload_n 0, 1) := by decide +kernel
theorem dX9_partsOf_102 : decode cX9_partsOf 102 = .ok (.iload_n 3, 1) := by decide +kernel
theorem dX9_partsOf_103 : decode cX9_partsOf 103 = .ok (.ifCond .ne 8, 3) := by decide +kernel
theorem dX9_partsOf_106 : decode cX9_partsOf 106 = .ok (.iload 6, 2) := by decide +kernel
theorem dX9_partsOf_108 : decode cX9_partsOf 108 = .ok (.goto 7, 3) := by decide +kernel
theorem dX9_partsOf_111 : decode cX9_partsOf 111 = .ok (.aload_n 0, 1) := by decide +kernel
theorem dX9_partsOf_112 : decode cX9_partsOf 112 = .ok (.getfield 215, 3) := by decide +kernel
theorem dX9_partsOf_115 : decode cX9_partsOf 115 = .ok (.putfield 215, 3) := by decide +kernel
theorem dX9_partsOf_118 : decode cX9_partsOf 118 = .ok (.iinc 3 1, 3) := by decide +kernel
theorem dX9_partsOf_121 : decode cX9_partsOf 121 = .ok (.iload 4, 2) := by decide +kernel
theorem dX9_partsOf_123 : decode cX9_partsOf 123 = .ok (.iload 6, 2) := by decide +kernel
theorem dX9_partsOf_125 : decode cX9_partsOf 125 = .ok (.ior, 1) := by decide +kernel
theorem dX9_partsOf_126 : decode cX9_partsOf 126 = .ok (.istore 4, 2) := by decide +kernel
theorem dX9_partsOf_128 : decode cX9_partsOf 128 = .ok (.iinc 5 1, 3) := by decide +kernel
theorem dX9_partsOf_131 : decode cX9_partsOf 131 = .ok (.goto (-118), 3) := by decide +kernel
theorem dX9_partsOf_134 : decode cX9_partsOf 134 = .ok (.iload_n 3, 1) := by decide +kernel
theorem dX9_partsOf_135 : decode cX9_partsOf 135 = .ok (.ireturn, 1) := by decide +kernel
theorem cv_X9_partsOf : wn_cV yX9_partsOf cX9_partsOf 9 (some .int) RX9 2 := ⟨wm_808, wm_820, wm_821, wm_637, by decide +kernel⟩
abbrev rm_X9_partsOf : Room := rmz 2 51
set_option maxHeartbeats 4000000 in
set_option maxRecDepth 100000 in
theorem c_X9_partsOf {ad : Nat → Nat} {o : Nat} {x1 : Int32} {x2 : Int32} {M : Mm} {q : Int32 × Mm} (ho : shp o = 9) (hF : f_X9_partsOf o x1 x2 M = some q) : KI ad yX9_partsOf cX9_partsOf 9 (some .int) rm_X9_partsOf [.ref (ad o), .int x1, .int x2] M q.1 q.2 := by
  refine wn_enterI (own := RX9) (by decide) rfl (Nat.le_of_ble_eq_true rfl) (fun X ls Z hQ hl => ?_)
  have hl : lv_has ls 9 [(0, .ref (ad o)), (1, .int x1), (2, .int x2)] := hl
  have L13 : ∀ (n13 : Nat) (v1 : Int32) (v2 : Int32) (v3 : Int32) (v4 : Int32) (v5 : Int32) (M : Mm) (ls : Array Slot), lv_has ls 9 [(0, .ref (ad o)), (1, .int v1), (2, .int v2), (3, .int v3), (4, .int v4), (5, .int v5)] → f_X9_partsOf_b13 o n13 v1 v2 v3 v4 v5 M = some q → G ad X M 13 ls [] := by
    intro n13
    induction n13 with
    | zero =>
      intro v1 v2 v3 v4 v5 M ls hl hF
      cases hF
    | succ n13 ih13 =>
      have L115 : ∀ (v1 : Int32) (v2 : Int32) (v3 : Int32) (v4 : Int32) (v5 : Int32) (v6 : Int32) (s0 : Nat) (s1 : Int32) (M : Mm) (ls : Array Slot), shp s0 = 9 → lv_has ls 9 [(0, .ref (ad o)), (1, .int v1), (2, .int v2), (3, .int v3), (4, .int v4), (5, .int v5), (6, .int v6)] → f_X9_partsOf_b115 (f_X9_partsOf_b13 o n13) o v1 v2 v3 v4 v5 v6 s0 s1 M = some q → G ad X M 115 ls [.int s1, .ref (ad s0)] := by
        intro v1 v2 v3 v4 v5 v6 s0 s1 M ls hs0 hl hF
        unfold f_X9_partsOf_b115 at hF
        obtain ⟨M2, eM2, hF⟩ := nm_some hF
        refine p_9_23 Z hs0 wm_809 dX9_partsOf_115 ?_
        rw [← eM2]
        obtain ⟨t3, et3, hF⟩ := nm_some hF
        refine r_iinc (j := 3) Z t3 [(3, .int t3), (0, .ref (ad o)), (1, .int v1), (2, .int v2), (4, .int v4), (5, .int v5), (6, .int v6)] dX9_partsOf_118 hl rfl (by rw [et3]; rfl) (by decide) rfl (fun ls hl => ?_)
        refine r_iload Z dX9_partsOf_121 (lv_at hl 4 rfl) ?_
        refine r_iload Z dX9_partsOf_123 (lv_at hl 6 rfl) ?_
        refine r_ior Z dX9_partsOf_125 ?_
        obtain ⟨t4, et4, hF⟩ := nm_some hF
        rw [← et4]
        refine r_istore Z [(4, .int t4), (3, .int t3), (0, .ref (ad o)), (1, .int v1), (2, .int v2), (5, .int v5), (6, .int v6)] dX9_partsOf_126 hl (by decide) rfl (fun ls hl => ?_)
        obtain ⟨t5, et5, hF⟩ := nm_some hF
        refine r_iinc (j := 5) Z t5 [(5, .int t5), (4, .int t4), (3, .int t3), (0, .ref (ad o)), (1, .int v1), (2, .int v2), (6, .int v6)] dX9_partsOf_128 hl rfl (by rw [et5]; rfl) (by decide) rfl (fun ls hl => ?_)
        refine r_goto Z 13 dX9_partsOf_131 (by decide) ?_
        exact ih13 v1 v2 t3 t4 t5 M2 ls (lv_sub hl [3, 4, 5, 2, 1, 0] rfl) hF
      have L49 : ∀ (n49 : Nat) (v1 : Int32) (v2 : Int32) (v3 : Int32) (v4 : Int32) (v5 : Int32) (v6 : Int32) (v7 : Int32) (v8 : Int32) (M : Mm) (ls : Array Slot), lv_has ls 9 [(0, .ref (ad o)), (1, .int v1), (2, .int v2), (3, .int v3), (4, .int v4), (5, .int v5), (6, .int v6), (7, .int v7), (8, .int v8)] → f_X9_partsOf_b49 (f_X9_partsOf_b13 o n13) o n49 v1 v2 v3 v4 v5 v6 v7 v8 M = some q → G ad X M 49 ls [] := by
        intro n49
        induction n49 with
        | zero =>
          intro v1 v2 v3 v4 v5 v6 v7 v8 M ls hl hF
          cases hF
        | succ n49 ih49 =>
          have L83 : ∀ (v1 : Int32) (v2 : Int32) (v3 : Int32) (v4 : Int32) (v5 : Int32) (v6 : Int32) (v8 : Int32) (M : Mm) (ls : Array Slot), lv_has ls 9 [(0, .ref (ad o)), (1, .int v1), (2, .int v2), (3, .int v3), (4, .int v4), (5, .int v5), (6, .int v6), (8, .int v8)] → f_X9_partsOf_b83 (f_X9_partsOf_b13 o n13) (f_X9_partsOf_b49 (f_X9_partsOf_b13 o n13) o n49) o v1 v2 v3 v4 v5 v6 v8 M = some q → G ad X M 83 ls [] := by
            intro v1 v2 v3 v4 v5 v6 v8 M ls hl hF
            unfold f_X9_partsOf_b83 at hF
            refine r_iconst (v := 1) Z dX9_partsOf_83 (by decide) ?_
            refine r_goto Z 88 dX9_partsOf_84 (by decide) ?_
            refine r_istore Z [(7, .int 1), (0, .ref (ad o)), (1, .int v1), (2, .int v2), (3, .int v3), (4, .int v4), (5, .int v5), (6, .int v6), (8, .int v8)] dX9_partsOf_88 hl (by decide) rfl (fun ls hl => ?_)
            obtain ⟨t1, et1, hF⟩ := nm_some hF
            refine r_iinc (j := 8) Z t1 [(8, .int t1), (7, .int 1), (0, .ref (ad o)), (1, .int v1), (2, .int v2), (3, .int v3), (4, .int v4), (5, .int v5), (6, .int v6)] dX9_partsOf_90 hl rfl (by rw [et1]; rfl) (by decide) rfl (fun ls hl => ?_)
            refine r_goto Z 49 dX9_partsOf_93 (by decide) ?_
            exact ih49 v1 v2 v3 v4 v5 v6 1 t1 M ls (lv_sub hl [2, 3, 4, 5, 6, 7, 8, 1, 0] rfl) hF
          intro v1 v2 v3 v4 v5 v6 v7 v8 M ls hl hF
          replace hF : f_X9_partsOf_b49B (f_X9_partsOf_b13 o n13) (f_X9_partsOf_b49 (f_X9_partsOf_b13 o n13) o n49) o v1 v2 v3 v4 v5 v6 v7 v8 M = some q := hF
          unfold f_X9_partsOf_b49B at hF
          refine r_iload Z dX9_partsOf_49 (lv_at hl 8 rfl) ?_
          refine r_iload_n Z dX9_partsOf_51 rfl (lv_at hl 2 rfl) ?_
          refine r_icmp_ge Z 96 dX9_partsOf_52 (by decide) (fun hc6 => ?_) (fun hc6 => ?_)
          · replace hF := if_some hc6 hF
            refine r_iload Z dX9_partsOf_96 (lv_at hl 7 rfl) ?_
            refine r_if_eq Z 128 dX9_partsOf_98 (by decide) (fun hc7 => ?_) (fun hc7 => ?_)
            · replace hF := if_some hc7 hF
              obtain ⟨t8, et8, hF⟩ := nm_some hF
              refine r_iinc (j := 5) Z t8 [(5, .int t8), (0, .ref (ad o)), (1, .int v1), (2, .int v2), (3, .int v3), (4, .int v4), (6, .int v6), (7, .int v7), (8, .int v8)] dX9_partsOf_128 hl rfl (by rw [et8]; rfl) (by decide) rfl (fun ls hl => ?_)
              refine r_goto Z 13 dX9_partsOf_131 (by decide) ?_
              exact ih13 v1 v2 v3 v4 t8 M ls (lv_sub hl [1, 2, 3, 4, 5, 0] rfl) hF
            · replace hF := nif_some hc7 hF
              refine r_aload_n Z dX9_partsOf_101 rfl (lv_at hl 0 rfl) ?_
              refine r_iload_n Z dX9_partsOf_102 rfl (lv_at hl 3 rfl) ?_
              refine r_if_ne Z 111 dX9_partsOf_103 (by decide) (fun hc9 => ?_) (fun hc9 => ?_)
              · replace hF := nif_some hc9 hF
                refine r_aload_n Z dX9_partsOf_111 rfl (lv_at hl 0 rfl) ?_
                refine g_9_23 Z ho wm_809 dX9_partsOf_112 ?_
                exact L115 v1 v2 v3 v4 v5 v6 o (mI M o 23) M ls ho (lv_sub hl [0, 1, 2, 3, 4, 5, 6] rfl) hF
              · replace hF := if_some hc9 hF
                refine r_iload Z dX9_partsOf_106 (lv_at hl 6 rfl) ?_
                refine r_goto Z 115 dX9_partsOf_108 (by decide) ?_
                exact L115 v1 v2 v3 v4 v5 v6 o v6 M ls ho (lv_sub hl [0, 1, 2, 3, 4, 5, 6] rfl) hF
          · replace hF := nif_some hc6 hF
            refine r_iload Z dX9_partsOf_55 (lv_at hl 7 rfl) ?_
            refine r_if_eq Z 87 dX9_partsOf_57 (by decide) (fun hc10 => ?_) (fun hc10 => ?_)
            · replace hF := if_some hc10 hF
              refine r_iconst (v := 0) Z dX9_partsOf_87 (by decide) ?_
              refine r_istore Z [(7, .int 0), (0, .ref (ad o)), (1, .int v1), (2, .int v2), (3, .int v3), (4, .int v4), (5, .int v5), (6, .int v6), (8, .int v8)] dX9_partsOf_88 hl (by decide) rfl (fun ls hl => ?_)
              obtain ⟨t11, et11, hF⟩ := nm_some hF
              refine r_iinc (j := 8) Z t11 [(8, .int t11), (7, .int 0), (0, .ref (ad o)), (1, .int v1), (2, .int v2), (3, .int v3), (4, .int v4), (5, .int v5), (6, .int v6)] dX9_partsOf_90 hl rfl (by rw [et11]; rfl) (by decide) rfl (fun ls hl => ?_)
              refine r_goto Z 49 dX9_partsOf_93 (by decide) ?_
              exact ih49 v1 v2 v3 v4 v5 v6 0 t11 M ls (lv_sub hl [2, 3, 4, 5, 6, 7, 8, 1, 0] rfl) hF
            · replace hF := nif_some hc10 hF
              refine r_iload Z dX9_partsOf_60 (lv_at hl 6 rfl) ?_
              refine r_iload Z dX9_partsOf_62 (lv_at hl 8 rfl) ?_
              refine r_ishr Z dX9_partsOf_64 ?_
              refine r_iconst (v := 1) Z dX9_partsOf_65 (by decide) ?_
              refine r_iand Z dX9_partsOf_66 ?_
              refine r_if_eq Z 83 dX9_partsOf_67 (by decide) (fun hc12 => ?_) (fun hc12 => ?_)
              · replace hF := if_some hc12 hF
                exact L83 v1 v2 v3 v4 v5 v6 v8 M ls (lv_sub hl [0, 1, 2, 3, 4, 5, 6, 8] rfl) hF
              · replace hF := nif_some hc12 hF
                refine r_aload_n Z dX9_partsOf_70 rfl (lv_at hl 0 rfl) ?_
                refine r_iload_n Z dX9_partsOf_71 rfl (lv_at hl 1 rfl) ?_
                refine r_iload_n Z dX9_partsOf_72 rfl (lv_at hl 2 rfl) ?_
                refine r_iload Z dX9_partsOf_73 (lv_at hl 8 rfl) ?_
                obtain ⟨q13, hq13, hF⟩ := bd_some hF
                refine r_invVi [] Z (c_X9_comesTo ho hq13) cv_X9_comesTo rfl (shp_lt ho (by decide)) (fun _ _ => ⟨_, ce_9 ho⟩) wm_810 rfl rfl ⟨Nat.le_of_ble_eq_true rfl, Nat.le_of_ble_eq_true rfl⟩ rfl hl.1 rfl (Nat.le_of_ble_eq_true rfl) dX9_partsOf_75 ?_
                refine r_iload Z dX9_partsOf_78 (lv_at hl 6 rfl) ?_
                refine r_icmp_ne Z 87 dX9_partsOf_80 (by decide) (fun hc14 => ?_) (fun hc14 => ?_)
                · replace hF := nif_some hc14 hF
                  refine r_iconst (v := 0) Z dX9_partsOf_87 (by decide) ?_
                  refine r_istore Z [(7, .int 0), (0, .ref (ad o)), (1, .int v1), (2, .int v2), (3, .int v3), (4, .int v4), (5, .int v5), (6, .int v6), (8, .int v8)] dX9_partsOf_88 hl (by decide) rfl (fun ls hl => ?_)
                  obtain ⟨t15, et15, hF⟩ := nm_some hF
                  refine r_iinc (j := 8) Z t15 [(8, .int t15), (7, .int 0), (0, .ref (ad o)), (1, .int v1), (2, .int v2), (3, .int v3), (4, .int v4), (5, .int v5), (6, .int v6)] dX9_partsOf_90 hl rfl (by rw [et15]; rfl) (by decide) rfl (fun ls hl => ?_)
                  refine r_goto Z 49 dX9_partsOf_93 (by decide) ?_
                  exact ih49 v1 v2 v3 v4 v5 v6 0 t15 q13.2 ls (lv_sub hl [2, 3, 4, 5, 6, 7, 8, 1, 0] rfl) hF
                · replace hF := if_some hc14 hF
                  exact L83 v1 v2 v3 v4 v5 v6 v8 q13.2 ls (lv_sub hl [0, 1, 2, 3, 4, 5, 6, 8] rfl) hF
      intro v1 v2 v3 v4 v5 M ls hl hF
      replace hF : f_X9_partsOf_b13B (f_X9_partsOf_b13 o n13) o v1 v2 v3 v4 v5 M = some q := hF
      unfold f_X9_partsOf_b13B at hF
      refine r_iload Z dX9_partsOf_13 (lv_at hl 5 rfl) ?_
      refine r_iload_n Z dX9_partsOf_15 rfl (lv_at hl 2 rfl) ?_
      refine r_icmp_ge Z 134 dX9_partsOf_16 (by decide) (fun hc16 => ?_) (fun hc16 => ?_)
      · replace hF := if_some hc16 hF
        refine r_iload_n Z dX9_partsOf_134 rfl (lv_at hl 3 rfl) ?_
        exact r_iret Z hQ hF dX9_partsOf_135
      · replace hF := nif_some hc16 hF
        refine r_aload_n Z dX9_partsOf_19 rfl (lv_at hl 0 rfl) ?_
        refine r_iload_n Z dX9_partsOf_20 rfl (lv_at hl 1 rfl) ?_
        refine r_iload_n Z dX9_partsOf_21 rfl (lv_at hl 2 rfl) ?_
        refine r_iload Z dX9_partsOf_22 (lv_at hl 5 rfl) ?_
        obtain ⟨q17, hq17, hF⟩ := bd_some hF
        refine r_invVi [] Z (c_X9_comesTo ho hq17) cv_X9_comesTo rfl (shp_lt ho (by decide)) (fun _ _ => ⟨_, ce_9 ho⟩) wm_810 rfl rfl ⟨Nat.le_of_ble_eq_true rfl, Nat.le_of_ble_eq_true rfl⟩ rfl hl.1 rfl (Nat.le_of_ble_eq_true rfl) dX9_partsOf_24 ?_
        refine r_istore Z [(6, .int q17.1), (0, .ref (ad o)), (1, .int v1), (2, .int v2), (3, .int v3), (4, .int v4), (5, .int v5)] dX9_partsOf_27 hl (by decide) rfl (fun ls hl => ?_)
        refine r_iload Z dX9_partsOf_29 (lv_at hl 5 rfl) ?_
        refine r_iload Z dX9_partsOf_31 (lv_at hl 6 rfl) ?_
        refine r_ishr Z dX9_partsOf_33 ?_
        refine r_iconst (v := 1) Z dX9_partsOf_34 (by decide) ?_
        refine r_iand Z dX9_partsOf_35 ?_
        refine r_if_ne Z 43 dX9_partsOf_36 (by decide) (fun hc18 => ?_) (fun hc18 => ?_)
        · replace hF := nif_some hc18 hF
          refine r_iconst (v := 0) Z dX9_partsOf_43 (by decide) ?_
          refine r_istore Z [(7, .int 0), (6, .int q17.1), (0, .ref (ad o)), (1, .int v1), (2, .int v2), (3, .int v3), (4, .int v4), (5, .int v5)] dX9_partsOf_44 hl (by decide) rfl (fun ls hl => ?_)
          refine r_iconst (v := 0) Z dX9_partsOf_46 (by decide) ?_
          refine r_istore Z [(8, .int 0), (7, .int 0), (6, .int q17.1), (0, .ref (ad o)), (1, .int v1), (2, .int v2), (3, .int v3), (4, .int v4), (5, .int v5)] dX9_partsOf_47 hl (by decide) rfl (fun ls hl => ?_)
          exact L49 _ v1 v2 v3 v4 v5 q17.1 0 0 q17.2 ls (lv_sub hl [3, 4, 5, 6, 7, 8, 2, 1, 0] rfl) hF
        · replace hF := if_some hc18 hF
          refine r_iconst (v := 1) Z dX9_partsOf_39 (by decide) ?_
          refine r_goto Z 44 dX9_partsOf_40 (by decide) ?_
          refine r_istore Z [(7, .int 1), (6, .int q17.1), (0, .ref (ad o)), (1, .int v1), (2, .int v2), (3, .int v3), (4, .int v4), (5, .int v5)] dX9_partsOf_44 hl (by decide) rfl (fun ls hl => ?_)
          refine r_iconst (v := 0) Z dX9_partsOf_46 (by decide) ?_
          refine r_istore Z [(8, .int 0), (7, .int 1), (6, .int q17.1), (0, .ref (ad o)), (1, .int v1), (2, .int v2), (3, .int v3), (4, .int v4), (5, .int v5)] dX9_partsOf_47 hl (by decide) rfl (fun ls hl => ?_)
          exact L49 _ v1 v2 v3 v4 v5 q17.1 1 0 q17.2 ls (lv_sub hl [3, 4, 5, 6, 7, 8, 2, 1, 0] rfl) hF
  unfold f_X9_partsOf at hF
  refine r_iconst (v := 0) Z dX9_partsOf_0 (by decide) ?_
  refine r_istore_n Z [(3, .int 0), (0, .ref (ad o)), (1, .int x1), (2, .int x2)] dX9_partsOf_1 rfl hl (by decide) rfl (fun ls hl => ?_)
  refine r_iconst (v := 0) Z dX9_partsOf_2 (by decide) ?_
  refine r_istore Z [(4, .int 0), (3, .int 0), (0, .ref (ad o)), (1, .int x1), (2, .int x2)] dX9_partsOf_3 hl (by decide) rfl (fun ls hl => ?_)
  refine r_aload_n Z dX9_partsOf_5 rfl (lv_at hl 2 rfl) ?_
  refine r_iconst (v := 0) Z dX9_partsOf_6 (by decide) ?_
  obtain ⟨M19, eM19, hF⟩ := nm_some hF
  refine p_9_23 Z ho wm_809 dX9_partsOf_7 ?_
  rw [← eM19]
  refine r_iconst (v := 0) Z dX9_partsOf_10 (by decide) ?_
  refine r_istore Z [(5, .int 0), (4, .int 0), (3, .int 0), (0, .ref (ad o)), (1, .int x1), (2, .int x2)] dX9_partsOf_11 hl (by decide) rfl (fun ls hl => ?_)
  exact L13 _ x1 x2 0 0 0 M19 ls (lv_sub hl [3, 4, 5, 2, 1, 0] rfl) hF

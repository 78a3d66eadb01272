/-! the cases of the law -/
theorem lc_11 {ad : Nat → Nat} {X : Cx} {M : Mm} {ls : Array Slot} {b L : Nat} {xs : Nat → Int32} {i : Nat} (Z : Zk ad X cL_law RL 4 (some .boolean) room_1) (hX : Lx b L xs X) (hin : ∀ j : Nat, j < 6 → vp_in (nI i + nI j) L) (hl : lv_has ls 4 [(0, .ref b), (1, .ref (ad 0)), (2, .ref (ad 1)), (3, .int (nI i))]) (hI : Inv M) (k : ∀ M1, Inv M1 → G ad X M1 1494 ls []) : G ad X M 603 ls [] := by
  refine r_aload_n Z dL_law_603 rfl (lv_at hl 1 rfl) ?_
  refine r_aload_n Z dL_law_604 rfl (lv_at hl 0 rfl) ?_
  refine r_iload_n Z dL_law_605 rfl (lv_at hl 3 rfl) ?_
  refine r_iconst (v := 1) Z dL_law_606 rfl ?_
  refine r_iadd Z dL_law_607 ?_
  refine r_sld Z hX (hin 1 (by omega)) dL_law_608 ?_
  refine r_aload_n Z dL_law_609 rfl (lv_at hl 0 rfl) ?_
  refine r_iload_n Z dL_law_610 rfl (lv_at hl 3 rfl) ?_
  refine r_iconst (v := 2) Z dL_law_611 rfl ?_
  refine r_iadd Z dL_law_612 ?_
  refine r_sld Z hX (hin 2 (by omega)) dL_law_613 ?_
  obtain ⟨r, M1, M2, f1, f2, hI2⟩ := al_comes (xs (nI i + 1).toNatClampNeg) (xs (nI i + 2).toNatClampNeg) M hI
  refine r_invVi [] Z (c_X8_comes (o := 0) (show shp 0 = 8 by decide) f1) cv_X8_comes rfl (by decide) (fun _ _ => ⟨_, ce_8 (show shp 0 = 8 by decide)⟩) wm_924 rfl rfl ⟨Nat.le_of_ble_eq_true rfl, Nat.le_of_ble_eq_true rfl⟩ rfl hl.1 rfl (Nat.le_of_ble_eq_true rfl) dL_law_614 ?_
  refine r_aload_n Z dL_law_617 rfl (lv_at hl 2 rfl) ?_
  refine r_aload_n Z dL_law_618 rfl (lv_at hl 0 rfl) ?_
  refine r_iload_n Z dL_law_619 rfl (lv_at hl 3 rfl) ?_
  refine r_iconst (v := 1) Z dL_law_620 rfl ?_
  refine r_iadd Z dL_law_621 ?_
  refine r_sld Z hX (hin 1 (by omega)) dL_law_622 ?_
  refine r_aload_n Z dL_law_623 rfl (lv_at hl 0 rfl) ?_
  refine r_iload_n Z dL_law_624 rfl (lv_at hl 3 rfl) ?_
  refine r_iconst (v := 2) Z dL_law_625 rfl ?_
  refine r_iadd Z dL_law_626 ?_
  refine r_sld Z hX (hin 2 (by omega)) dL_law_627 ?_
  refine r_invVi [.int r] Z (c_X9_comes (o := 1) (show shp 1 = 9 by decide) f2) cv_X9_comes rfl (by decide) (fun _ _ => ⟨_, ce_9 (show shp 1 = 9 by decide)⟩) wm_927 rfl rfl ⟨Nat.le_of_ble_eq_true rfl, Nat.le_of_ble_eq_true rfl⟩ rfl hl.1 rfl (Nat.le_of_ble_eq_true rfl) dL_law_628 ?_
  exact r_icmp_eq Z 1494 dL_law_631 (by decide) (fun _ => k M2 hI2) (fun hq => absurd rfl hq)
theorem lc_12 {ad : Nat → Nat} {X : Cx} {M : Mm} {ls : Array Slot} {b L : Nat} {xs : Nat → Int32} {i : Nat} (Z : Zk ad X cL_law RL 4 (some .boolean) room_1) (hX : Lx b L xs X) (hin : ∀ j : Nat, j < 6 → vp_in (nI i + nI j) L) (hl : lv_has ls 4 [(0, .ref b), (1, .ref (ad 0)), (2, .ref (ad 1)), (3, .int (nI i))]) (hI : Inv M) (k : ∀ M1, Inv M1 → G ad X M1 1494 ls []) : G ad X M 636 ls [] := by
  refine r_aload_n Z dL_law_636 rfl (lv_at hl 1 rfl) ?_
  refine r_aload_n Z dL_law_637 rfl (lv_at hl 0 rfl) ?_
  refine r_iload_n Z dL_law_638 rfl (lv_at hl 3 rfl) ?_
  refine r_iconst (v := 1) Z dL_law_639 rfl ?_
  refine r_iadd Z dL_law_640 ?_
  refine r_sld Z hX (hin 1 (by omega)) dL_law_641 ?_
  refine r_aload_n Z dL_law_642 rfl (lv_at hl 0 rfl) ?_
  refine r_iload_n Z dL_law_643 rfl (lv_at hl 3 rfl) ?_
  refine r_iconst (v := 2) Z dL_law_644 rfl ?_
  refine r_iadd Z dL_law_645 ?_
  refine r_sld Z hX (hin 2 (by omega)) dL_law_646 ?_
  obtain ⟨r, M1, M2, f1, f2, hI2⟩ := al_told (xs (nI i + 1).toNatClampNeg) (xs (nI i + 2).toNatClampNeg) M hI
  refine r_invVi [] Z (c_X8_told (o := 0) (show shp 0 = 8 by decide) f1) cv_X8_told rfl (by decide) (fun _ _ => ⟨_, ce_8 (show shp 0 = 8 by decide)⟩) wm_930 rfl rfl ⟨Nat.le_of_ble_eq_true rfl, Nat.le_of_ble_eq_true rfl⟩ rfl hl.1 rfl (Nat.le_of_ble_eq_true rfl) dL_law_647 ?_
  refine r_aload_n Z dL_law_650 rfl (lv_at hl 2 rfl) ?_
  refine r_aload_n Z dL_law_651 rfl (lv_at hl 0 rfl) ?_
  refine r_iload_n Z dL_law_652 rfl (lv_at hl 3 rfl) ?_
  refine r_iconst (v := 1) Z dL_law_653 rfl ?_
  refine r_iadd Z dL_law_654 ?_
  refine r_sld Z hX (hin 1 (by omega)) dL_law_655 ?_
  refine r_aload_n Z dL_law_656 rfl (lv_at hl 0 rfl) ?_
  refine r_iload_n Z dL_law_657 rfl (lv_at hl 3 rfl) ?_
  refine r_iconst (v := 2) Z dL_law_658 rfl ?_
  refine r_iadd Z dL_law_659 ?_
  refine r_sld Z hX (hin 2 (by omega)) dL_law_660 ?_
  refine r_invVi [.int r] Z (c_X9_told (o := 1) (show shp 1 = 9 by decide) f2) cv_X9_told rfl (by decide) (fun _ _ => ⟨_, ce_9 (show shp 1 = 9 by decide)⟩) wm_933 rfl rfl ⟨Nat.le_of_ble_eq_true rfl, Nat.le_of_ble_eq_true rfl⟩ rfl hl.1 rfl (Nat.le_of_ble_eq_true rfl) dL_law_661 ?_
  exact r_icmp_eq Z 1494 dL_law_664 (by decide) (fun _ => k M2 hI2) (fun hq => absurd rfl hq)
theorem lc_13 {ad : Nat → Nat} {X : Cx} {M : Mm} {ls : Array Slot} {b L : Nat} {xs : Nat → Int32} {i : Nat} (Z : Zk ad X cL_law RL 4 (some .boolean) room_1) (hX : Lx b L xs X) (hin : ∀ j : Nat, j < 6 → vp_in (nI i + nI j) L) (hl : lv_has ls 4 [(0, .ref b), (1, .ref (ad 0)), (2, .ref (ad 1)), (3, .int (nI i))]) (hI : Inv M) (k : ∀ M1, Inv M1 → G ad X M1 1494 ls []) : G ad X M 669 ls [] := by
  refine r_aload_n Z dL_law_669 rfl (lv_at hl 1 rfl) ?_
  refine r_aload_n Z dL_law_670 rfl (lv_at hl 0 rfl) ?_
  refine r_iload_n Z dL_law_671 rfl (lv_at hl 3 rfl) ?_
  refine r_iconst (v := 1) Z dL_law_672 rfl ?_
  refine r_iadd Z dL_law_673 ?_
  refine r_sld Z hX (hin 1 (by omega)) dL_law_674 ?_
  refine r_aload_n Z dL_law_675 rfl (lv_at hl 0 rfl) ?_
  refine r_iload_n Z dL_law_676 rfl (lv_at hl 3 rfl) ?_
  refine r_iconst (v := 2) Z dL_law_677 rfl ?_
  refine r_iadd Z dL_law_678 ?_
  refine r_sld Z hX (hin 2 (by omega)) dL_law_679 ?_
  obtain ⟨r, M1, M2, f1, f2, hI2⟩ := al_mark (xs (nI i + 1).toNatClampNeg) (xs (nI i + 2).toNatClampNeg) M hI
  refine r_invVi [] Z (c_X8_mark (o := 0) (show shp 0 = 8 by decide) f1) cv_X8_mark rfl (by decide) (fun _ _ => ⟨_, ce_8 (show shp 0 = 8 by decide)⟩) wm_936 rfl rfl ⟨Nat.le_of_ble_eq_true rfl, Nat.le_of_ble_eq_true rfl⟩ rfl hl.1 rfl (Nat.le_of_ble_eq_true rfl) dL_law_680 ?_
  refine r_aload_n Z dL_law_683 rfl (lv_at hl 2 rfl) ?_
  refine r_aload_n Z dL_law_684 rfl (lv_at hl 0 rfl) ?_
  refine r_iload_n Z dL_law_685 rfl (lv_at hl 3 rfl) ?_
  refine r_iconst (v := 1) Z dL_law_686 rfl ?_
  refine r_iadd Z dL_law_687 ?_
  refine r_sld Z hX (hin 1 (by omega)) dL_law_688 ?_
  refine r_aload_n Z dL_law_689 rfl (lv_at hl 0 rfl) ?_
  refine r_iload_n Z dL_law_690 rfl (lv_at hl 3 rfl) ?_
  refine r_iconst (v := 2) Z dL_law_691 rfl ?_
  refine r_iadd Z dL_law_692 ?_
  refine r_sld Z hX (hin 2 (by omega)) dL_law_693 ?_
  refine r_invVi [.int r] Z (c_X9_mark (o := 1) (show shp 1 = 9 by decide) f2) cv_X9_mark rfl (by decide) (fun _ _ => ⟨_, ce_9 (show shp 1 = 9 by decide)⟩) wm_939 rfl rfl ⟨Nat.le_of_ble_eq_true rfl, Nat.le_of_ble_eq_true rfl⟩ rfl hl.1 rfl (Nat.le_of_ble_eq_true rfl) dL_law_694 ?_
  exact r_icmp_eq Z 1494 dL_law_697 (by decide) (fun _ => k M2 hI2) (fun hq => absurd rfl hq)
theorem lc_14 {ad : Nat → Nat} {X : Cx} {M : Mm} {ls : Array Slot} {b L : Nat} {xs : Nat → Int32} {i : Nat} (Z : Zk ad X cL_law RL 4 (some .boolean) room_1) (hX : Lx b L xs X) (hin : ∀ j : Nat, j < 6 → vp_in (nI i + nI j) L) (hl : lv_has ls 4 [(0, .ref b), (1, .ref (ad 0)), (2, .ref (ad 1)), (3, .int (nI i))]) (hI : Inv M) (k : ∀ M1, Inv M1 → G ad X M1 1494 ls []) : G ad X M 702 ls [] := by
  refine r_aload_n Z dL_law_702 rfl (lv_at hl 1 rfl) ?_
  obtain ⟨r, M1, M2, f1, f2, hI2⟩ := al_product M hI
  refine r_invVi [] Z (c_X8_product (o := 0) (show shp 0 = 8 by decide) f1) cv_X8_product rfl (by decide) (fun _ _ => ⟨_, ce_8 (show shp 0 = 8 by decide)⟩) wm_942 rfl rfl ⟨Nat.le_of_ble_eq_true rfl, Nat.le_of_ble_eq_true rfl⟩ rfl hl.1 rfl (Nat.le_of_ble_eq_true rfl) dL_law_703 ?_
  refine r_aload_n Z dL_law_706 rfl (lv_at hl 2 rfl) ?_
  refine r_invVi [.int r] Z (c_X9_product (o := 1) (show shp 1 = 9 by decide) f2) cv_X9_product rfl (by decide) (fun _ _ => ⟨_, ce_9 (show shp 1 = 9 by decide)⟩) wm_945 rfl rfl ⟨Nat.le_of_ble_eq_true rfl, Nat.le_of_ble_eq_true rfl⟩ rfl hl.1 rfl (Nat.le_of_ble_eq_true rfl) dL_law_707 ?_
  exact r_icmp_eq Z 1494 dL_law_710 (by decide) (fun _ => k M2 hI2) (fun hq => absurd rfl hq)
theorem lc_15 {ad : Nat → Nat} {X : Cx} {M : Mm} {ls : Array Slot} {b L : Nat} {xs : Nat → Int32} {i : Nat} (Z : Zk ad X cL_law RL 4 (some .boolean) room_1) (hX : Lx b L xs X) (hin : ∀ j : Nat, j < 6 → vp_in (nI i + nI j) L) (hl : lv_has ls 4 [(0, .ref b), (1, .ref (ad 0)), (2, .ref (ad 1)), (3, .int (nI i))]) (hI : Inv M) (k : ∀ M1, Inv M1 → G ad X M1 1494 ls []) : G ad X M 715 ls [] := by
  refine r_aload_n Z dL_law_715 rfl (lv_at hl 1 rfl) ?_
  obtain ⟨r, M1, M2, f1, f2, hI2⟩ := al_kept M hI
  refine r_invVi [] Z (c_X8_kept (o := 0) (show shp 0 = 8 by decide) f1) cv_X8_kept rfl (by decide) (fun _ _ => ⟨_, ce_8 (show shp 0 = 8 by decide)⟩) wm_948 rfl rfl ⟨Nat.le_of_ble_eq_true rfl, Nat.le_of_ble_eq_true rfl⟩ rfl hl.1 rfl (Nat.le_of_ble_eq_true rfl) dL_law_716 ?_
  refine r_aload_n Z dL_law_719 rfl (lv_at hl 2 rfl) ?_
  refine r_invVi [.int r] Z (c_X9_kept (o := 1) (show shp 1 = 9 by decide) f2) cv_X9_kept rfl (by decide) (fun _ _ => ⟨_, ce_9 (show shp 1 = 9 by decide)⟩) wm_951 rfl rfl ⟨Nat.le_of_ble_eq_true rfl, Nat.le_of_ble_eq_true rfl⟩ rfl hl.1 rfl (Nat.le_of_ble_eq_true rfl) dL_law_720 ?_
  exact r_icmp_eq Z 1494 dL_law_723 (by decide) (fun _ => k M2 hI2) (fun hq => absurd rfl hq)
theorem lc_16 {ad : Nat → Nat} {X : Cx} {M : Mm} {ls : Array Slot} {b L : Nat} {xs : Nat → Int32} {i : Nat} (Z : Zk ad X cL_law RL 4 (some .boolean) room_1) (hX : Lx b L xs X) (hin : ∀ j : Nat, j < 6 → vp_in (nI i + nI j) L) (hl : lv_has ls 4 [(0, .ref b), (1, .ref (ad 0)), (2, .ref (ad 1)), (3, .int (nI i))]) (hI : Inv M) (k : ∀ M1, Inv M1 → G ad X M1 1494 ls []) : G ad X M 728 ls [] := by
  refine r_aload_n Z dL_law_728 rfl (lv_at hl 1 rfl) ?_
  refine r_aload_n Z dL_law_729 rfl (lv_at hl 0 rfl) ?_
  refine r_iload_n Z dL_law_730 rfl (lv_at hl 3 rfl) ?_
  refine r_iconst (v := 1) Z dL_law_731 rfl ?_
  refine r_iadd Z dL_law_732 ?_
  refine r_sld Z hX (hin 1 (by omega)) dL_law_733 ?_
  obtain ⟨r, M1, M2, f1, f2, hI2⟩ := al_flow (xs (nI i + 1).toNatClampNeg) M hI
  refine r_invVi [] Z (c_X8_flow (o := 0) (show shp 0 = 8 by decide) f1) cv_X8_flow rfl (by decide) (fun _ _ => ⟨_, ce_8 (show shp 0 = 8 by decide)⟩) wm_954 rfl rfl ⟨Nat.le_of_ble_eq_true rfl, Nat.le_of_ble_eq_true rfl⟩ rfl hl.1 rfl (Nat.le_of_ble_eq_true rfl) dL_law_734 ?_
  refine r_aload_n Z dL_law_737 rfl (lv_at hl 2 rfl) ?_
  refine r_aload_n Z dL_law_738 rfl (lv_at hl 0 rfl) ?_
  refine r_iload_n Z dL_law_739 rfl (lv_at hl 3 rfl) ?_
  refine r_iconst (v := 1) Z dL_law_740 rfl ?_
  refine r_iadd Z dL_law_741 ?_
  refine r_sld Z hX (hin 1 (by omega)) dL_law_742 ?_
  refine r_invVi [.int r] Z (c_X9_flow (o := 1) (show shp 1 = 9 by decide) f2) cv_X9_flow rfl (by decide) (fun _ _ => ⟨_, ce_9 (show shp 1 = 9 by decide)⟩) wm_957 rfl rfl ⟨Nat.le_of_ble_eq_true rfl, Nat.le_of_ble_eq_true rfl⟩ rfl hl.1 rfl (Nat.le_of_ble_eq_true rfl) dL_law_743 ?_
  exact r_icmp_eq Z 1494 dL_law_746 (by decide) (fun _ => k M2 hI2) (fun hq => absurd rfl hq)
theorem lc_17 {ad : Nat → Nat} {X : Cx} {M : Mm} {ls : Array Slot} {b L : Nat} {xs : Nat → Int32} {i : Nat} (Z : Zk ad X cL_law RL 4 (some .boolean) room_1) (hX : Lx b L xs X) (hin : ∀ j : Nat, j < 6 → vp_in (nI i + nI j) L) (hl : lv_has ls 4 [(0, .ref b), (1, .ref (ad 0)), (2, .ref (ad 1)), (3, .int (nI i))]) (hI : Inv M) (k : ∀ M1, Inv M1 → G ad X M1 1494 ls []) : G ad X M 751 ls [] := by
  refine r_aload_n Z dL_law_751 rfl (lv_at hl 1 rfl) ?_
  refine r_aload_n Z dL_law_752 rfl (lv_at hl 0 rfl) ?_
  refine r_iload_n Z dL_law_753 rfl (lv_at hl 3 rfl) ?_
  refine r_iconst (v := 1) Z dL_law_754 rfl ?_
  refine r_iadd Z dL_law_755 ?_
  refine r_sld Z hX (hin 1 (by omega)) dL_law_756 ?_
  obtain ⟨r, M1, M2, f1, f2, hI2⟩ := al_use (xs (nI i + 1).toNatClampNeg) M hI
  refine r_invVi [] Z (c_X8_use (o := 0) (show shp 0 = 8 by decide) f1) cv_X8_use rfl (by decide) (fun _ _ => ⟨_, ce_8 (show shp 0 = 8 by decide)⟩) wm_960 rfl rfl ⟨Nat.le_of_ble_eq_true rfl, Nat.le_of_ble_eq_true rfl⟩ rfl hl.1 rfl (Nat.le_of_ble_eq_true rfl) dL_law_757 ?_
  refine r_aload_n Z dL_law_760 rfl (lv_at hl 2 rfl) ?_
  refine r_aload_n Z dL_law_761 rfl (lv_at hl 0 rfl) ?_
  refine r_iload_n Z dL_law_762 rfl (lv_at hl 3 rfl) ?_
  refine r_iconst (v := 1) Z dL_law_763 rfl ?_
  refine r_iadd Z dL_law_764 ?_
  refine r_sld Z hX (hin 1 (by omega)) dL_law_765 ?_
  refine r_invVi [.int r] Z (c_X9_use (o := 1) (show shp 1 = 9 by decide) f2) cv_X9_use rfl (by decide) (fun _ _ => ⟨_, ce_9 (show shp 1 = 9 by decide)⟩) wm_963 rfl rfl ⟨Nat.le_of_ble_eq_true rfl, Nat.le_of_ble_eq_true rfl⟩ rfl hl.1 rfl (Nat.le_of_ble_eq_true rfl) dL_law_766 ?_
  exact r_icmp_eq Z 1494 dL_law_769 (by decide) (fun _ => k M2 hI2) (fun hq => absurd rfl hq)
theorem lc_18 {ad : Nat → Nat} {X : Cx} {M : Mm} {ls : Array Slot} {b L : Nat} {xs : Nat → Int32} {i : Nat} (Z : Zk ad X cL_law RL 4 (some .boolean) room_1) (hX : Lx b L xs X) (hin : ∀ j : Nat, j < 6 → vp_in (nI i + nI j) L) (hl : lv_has ls 4 [(0, .ref b), (1, .ref (ad 0)), (2, .ref (ad 1)), (3, .int (nI i))]) (hI : Inv M) (k : ∀ M1, Inv M1 → G ad X M1 1494 ls []) : G ad X M 774 ls [] := by
  refine r_aload_n Z dL_law_774 rfl (lv_at hl 1 rfl) ?_
  refine r_aload_n Z dL_law_775 rfl (lv_at hl 0 rfl) ?_
  refine r_iload_n Z dL_law_776 rfl (lv_at hl 3 rfl) ?_
  refine r_iconst (v := 1) Z dL_law_777 rfl ?_
  refine r_iadd Z dL_law_778 ?_
  refine r_sld Z hX (hin 1 (by omega)) dL_law_779 ?_
  refine r_aload_n Z dL_law_780 rfl (lv_at hl 0 rfl) ?_
  refine r_iload_n Z dL_law_781 rfl (lv_at hl 3 rfl) ?_
  refine r_iconst (v := 2) Z dL_law_782 rfl ?_
  refine r_iadd Z dL_law_783 ?_
  refine r_sld Z hX (hin 2 (by omega)) dL_law_784 ?_
  refine r_if_eq Z 792 dL_law_785 (by decide) (fun hb2 => ?_) (fun hb2 => ?_)
  · refine r_iconst (v := 0) Z dL_law_792 rfl ?_
    obtain ⟨r, M1, M2, f1, f2, hI2⟩ := al_mean (xs (nI i + 1).toNatClampNeg) 0 M hI
    refine r_invVi [] Z (c_X8_mean (o := 0) (show shp 0 = 8 by decide) f1) cv_X8_mean rfl (by decide) (fun _ _ => ⟨_, ce_8 (show shp 0 = 8 by decide)⟩) wm_966 rfl rfl ⟨Nat.le_of_ble_eq_true rfl, Nat.le_of_ble_eq_true rfl⟩ rfl hl.1 rfl (Nat.le_of_ble_eq_true rfl) dL_law_793 ?_
    refine r_aload_n Z dL_law_796 rfl (lv_at hl 2 rfl) ?_
    refine r_aload_n Z dL_law_797 rfl (lv_at hl 0 rfl) ?_
    refine r_iload_n Z dL_law_798 rfl (lv_at hl 3 rfl) ?_
    refine r_iconst (v := 1) Z dL_law_799 rfl ?_
    refine r_iadd Z dL_law_800 ?_
    refine r_sld Z hX (hin 1 (by omega)) dL_law_801 ?_
    refine r_aload_n Z dL_law_802 rfl (lv_at hl 0 rfl) ?_
    refine r_iload_n Z dL_law_803 rfl (lv_at hl 3 rfl) ?_
    refine r_iconst (v := 2) Z dL_law_804 rfl ?_
    refine r_iadd Z dL_law_805 ?_
    refine r_sld Z hX (hin 2 (by omega)) dL_law_806 ?_
    refine r_if_eq Z 814 dL_law_807 (by decide) (fun _ => ?_) (fun hq => absurd hb2 hq)
    refine r_iconst (v := 0) Z dL_law_814 rfl ?_
    refine r_invVi [.int r] Z (c_X9_mean (o := 1) (show shp 1 = 9 by decide) f2) cv_X9_mean rfl (by decide) (fun _ _ => ⟨_, ce_9 (show shp 1 = 9 by decide)⟩) wm_969 rfl rfl ⟨Nat.le_of_ble_eq_true rfl, Nat.le_of_ble_eq_true rfl⟩ rfl hl.1 rfl (Nat.le_of_ble_eq_true rfl) dL_law_815 ?_
    exact r_icmp_eq Z 1494 dL_law_818 (by decide) (fun _ => k M2 hI2) (fun hq => absurd rfl hq)
  · refine r_iconst (v := 1) Z dL_law_788 rfl ?_
    refine r_goto Z 793 dL_law_789 (by decide) ?_
    obtain ⟨r, M1, M2, f1, f2, hI2⟩ := al_mean (xs (nI i + 1).toNatClampNeg) 1 M hI
    refine r_invVi [] Z (c_X8_mean (o := 0) (show shp 0 = 8 by decide) f1) cv_X8_mean rfl (by decide) (fun _ _ => ⟨_, ce_8 (show shp 0 = 8 by decide)⟩) wm_966 rfl rfl ⟨Nat.le_of_ble_eq_true rfl, Nat.le_of_ble_eq_true rfl⟩ rfl hl.1 rfl (Nat.le_of_ble_eq_true rfl) dL_law_793 ?_
    refine r_aload_n Z dL_law_796 rfl (lv_at hl 2 rfl) ?_
    refine r_aload_n Z dL_law_797 rfl (lv_at hl 0 rfl) ?_
    refine r_iload_n Z dL_law_798 rfl (lv_at hl 3 rfl) ?_
    refine r_iconst (v := 1) Z dL_law_799 rfl ?_
    refine r_iadd Z dL_law_800 ?_
    refine r_sld Z hX (hin 1 (by omega)) dL_law_801 ?_
    refine r_aload_n Z dL_law_802 rfl (lv_at hl 0 rfl) ?_
    refine r_iload_n Z dL_law_803 rfl (lv_at hl 3 rfl) ?_
    refine r_iconst (v := 2) Z dL_law_804 rfl ?_
    refine r_iadd Z dL_law_805 ?_
    refine r_sld Z hX (hin 2 (by omega)) dL_law_806 ?_
    refine r_if_eq Z 814 dL_law_807 (by decide) (fun hq => absurd hq hb2) (fun _ => ?_)
    refine r_iconst (v := 1) Z dL_law_810 rfl ?_
    refine r_goto Z 815 dL_law_811 (by decide) ?_
    refine r_invVi [.int r] Z (c_X9_mean (o := 1) (show shp 1 = 9 by decide) f2) cv_X9_mean rfl (by decide) (fun _ _ => ⟨_, ce_9 (show shp 1 = 9 by decide)⟩) wm_969 rfl rfl ⟨Nat.le_of_ble_eq_true rfl, Nat.le_of_ble_eq_true rfl⟩ rfl hl.1 rfl (Nat.le_of_ble_eq_true rfl) dL_law_815 ?_
    exact r_icmp_eq Z 1494 dL_law_818 (by decide) (fun _ => k M2 hI2) (fun hq => absurd rfl hq)
theorem lc_19 {ad : Nat → Nat} {X : Cx} {M : Mm} {ls : Array Slot} {b L : Nat} {xs : Nat → Int32} {i : Nat} (Z : Zk ad X cL_law RL 4 (some .boolean) room_1) (hX : Lx b L xs X) (hin : ∀ j : Nat, j < 6 → vp_in (nI i + nI j) L) (hl : lv_has ls 4 [(0, .ref b), (1, .ref (ad 0)), (2, .ref (ad 1)), (3, .int (nI i))]) (hI : Inv M) (k : ∀ M1, Inv M1 → G ad X M1 1494 ls []) : G ad X M 823 ls [] := by
  refine r_aload_n Z dL_law_823 rfl (lv_at hl 1 rfl) ?_
  obtain ⟨r, M1, M2, f1, f2, hI2⟩ := al_closed M hI
  refine r_invVi [] Z (c_X8_closed (o := 0) (show shp 0 = 8 by decide) f1) cv_X8_closed rfl (by decide) (fun _ _ => ⟨_, ce_8 (show shp 0 = 8 by decide)⟩) wm_972 rfl rfl ⟨Nat.le_of_ble_eq_true rfl, Nat.le_of_ble_eq_true rfl⟩ rfl hl.1 rfl (Nat.le_of_ble_eq_true rfl) dL_law_824 ?_
  refine r_aload_n Z dL_law_827 rfl (lv_at hl 2 rfl) ?_
  refine r_invVi [.int r] Z (c_X9_closed (o := 1) (show shp 1 = 9 by decide) f2) cv_X9_closed rfl (by decide) (fun _ _ => ⟨_, ce_9 (show shp 1 = 9 by decide)⟩) wm_975 rfl rfl ⟨Nat.le_of_ble_eq_true rfl, Nat.le_of_ble_eq_true rfl⟩ rfl hl.1 rfl (Nat.le_of_ble_eq_true rfl) dL_law_828 ?_
  exact r_icmp_eq Z 1494 dL_law_831 (by decide) (fun _ => k M2 hI2) (fun hq => absurd rfl hq)
theorem lc_20 {ad : Nat → Nat} {X : Cx} {M : Mm} {ls : Array Slot} {b L : Nat} {xs : Nat → Int32} {i : Nat} (Z : Zk ad X cL_law RL 4 (some .boolean) room_1) (hX : Lx b L xs X) (hin : ∀ j : Nat, j < 6 → vp_in (nI i + nI j) L) (hl : lv_has ls 4 [(0, .ref b), (1, .ref (ad 0)), (2, .ref (ad 1)), (3, .int (nI i))]) (hI : Inv M) (k : ∀ M1, Inv M1 → G ad X M1 1494 ls []) : G ad X M 836 ls [] := by
  refine r_aload_n Z dL_law_836 rfl (lv_at hl 1 rfl) ?_
  refine r_aload_n Z dL_law_837 rfl (lv_at hl 0 rfl) ?_
  refine r_iload_n Z dL_law_838 rfl (lv_at hl 3 rfl) ?_
  refine r_iconst (v := 1) Z dL_law_839 rfl ?_
  refine r_iadd Z dL_law_840 ?_
  refine r_sld Z hX (hin 1 (by omega)) dL_law_841 ?_
  obtain ⟨r, M1, M2, f1, f2, hI2⟩ := al_visits (xs (nI i + 1).toNatClampNeg) M hI
  refine r_invVi [] Z (c_X8_visits (o := 0) (show shp 0 = 8 by decide) f1) cv_X8_visits rfl (by decide) (fun _ _ => ⟨_, ce_8 (show shp 0 = 8 by decide)⟩) wm_978 rfl rfl ⟨Nat.le_of_ble_eq_true rfl, Nat.le_of_ble_eq_true rfl⟩ rfl hl.1 rfl (Nat.le_of_ble_eq_true rfl) dL_law_842 ?_
  refine r_aload_n Z dL_law_845 rfl (lv_at hl 2 rfl) ?_
  refine r_aload_n Z dL_law_846 rfl (lv_at hl 0 rfl) ?_
  refine r_iload_n Z dL_law_847 rfl (lv_at hl 3 rfl) ?_
  refine r_iconst (v := 1) Z dL_law_848 rfl ?_
  refine r_iadd Z dL_law_849 ?_
  refine r_sld Z hX (hin 1 (by omega)) dL_law_850 ?_
  refine r_invVi [.int r] Z (c_X9_visits (o := 1) (show shp 1 = 9 by decide) f2) cv_X9_visits rfl (by decide) (fun _ _ => ⟨_, ce_9 (show shp 1 = 9 by decide)⟩) wm_981 rfl rfl ⟨Nat.le_of_ble_eq_true rfl, Nat.le_of_ble_eq_true rfl⟩ rfl hl.1 rfl (Nat.le_of_ble_eq_true rfl) dL_law_851 ?_
  exact r_icmp_eq Z 1494 dL_law_854 (by decide) (fun _ => k M2 hI2) (fun hq => absurd rfl hq)
theorem lc_21 {ad : Nat → Nat} {X : Cx} {M : Mm} {ls : Array Slot} {b L : Nat} {xs : Nat → Int32} {i : Nat} (Z : Zk ad X cL_law RL 4 (some .boolean) room_1) (hX : Lx b L xs X) (hin : ∀ j : Nat, j < 6 → vp_in (nI i + nI j) L) (hl : lv_has ls 4 [(0, .ref b), (1, .ref (ad 0)), (2, .ref (ad 1)), (3, .int (nI i))]) (hI : Inv M) (k : ∀ M1, Inv M1 → G ad X M1 1494 ls []) : G ad X M 859 ls [] := by
  refine r_aload_n Z dL_law_859 rfl (lv_at hl 1 rfl) ?_
  refine r_aload_n Z dL_law_860 rfl (lv_at hl 0 rfl) ?_
  refine r_iload_n Z dL_law_861 rfl (lv_at hl 3 rfl) ?_
  refine r_iconst (v := 1) Z dL_law_862 rfl ?_
  refine r_iadd Z dL_law_863 ?_
  refine r_sld Z hX (hin 1 (by omega)) dL_law_864 ?_
  obtain ⟨r, M1, M2, f1, f2, hI2⟩ := al_chance (xs (nI i + 1).toNatClampNeg) M hI
  refine r_invVi [] Z (c_X8_chance (o := 0) (show shp 0 = 8 by decide) f1) cv_X8_chance rfl (by decide) (fun _ _ => ⟨_, ce_8 (show shp 0 = 8 by decide)⟩) wm_984 rfl rfl ⟨Nat.le_of_ble_eq_true rfl, Nat.le_of_ble_eq_true rfl⟩ rfl hl.1 rfl (Nat.le_of_ble_eq_true rfl) dL_law_865 ?_
  refine r_aload_n Z dL_law_868 rfl (lv_at hl 2 rfl) ?_
  refine r_aload_n Z dL_law_869 rfl (lv_at hl 0 rfl) ?_
  refine r_iload_n Z dL_law_870 rfl (lv_at hl 3 rfl) ?_
  refine r_iconst (v := 1) Z dL_law_871 rfl ?_
  refine r_iadd Z dL_law_872 ?_
  refine r_sld Z hX (hin 1 (by omega)) dL_law_873 ?_
  refine r_invVi [.int r] Z (c_X9_chance (o := 1) (show shp 1 = 9 by decide) f2) cv_X9_chance rfl (by decide) (fun _ _ => ⟨_, ce_9 (show shp 1 = 9 by decide)⟩) wm_987 rfl rfl ⟨Nat.le_of_ble_eq_true rfl, Nat.le_of_ble_eq_true rfl⟩ rfl hl.1 rfl (Nat.le_of_ble_eq_true rfl) dL_law_874 ?_
  exact r_icmp_eq Z 1494 dL_law_877 (by decide) (fun _ => k M2 hI2) (fun hq => absurd rfl hq)

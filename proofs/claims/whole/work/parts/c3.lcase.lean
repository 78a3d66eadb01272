/-! the cases of the law -/
theorem lc_22 {ad : Nat → Nat} {X : Cx} {M : Mm} {ls : Array Slot} {b L : Nat} {xs : Nat → Int32} {i : Nat} (Z : Zk ad X cL_law RL 4 (some .boolean) room_1) (hX : Lx b L xs X) (hin : ∀ j : Nat, j < 6 → vp_in (nI i + nI j) L) (hl : lv_has ls 4 [(0, .ref b), (1, .ref (ad 0)), (2, .ref (ad 1)), (3, .int (nI i))]) (hI : Inv M) (k : ∀ M1, Inv M1 → G ad X M1 1494 ls []) : G ad X M 882 ls [] := by
  refine r_aload_n Z dL_law_882 rfl (lv_at hl 1 rfl) ?_
  refine r_aload_n Z dL_law_883 rfl (lv_at hl 0 rfl) ?_
  refine r_iload_n Z dL_law_884 rfl (lv_at hl 3 rfl) ?_
  refine r_iconst (v := 1) Z dL_law_885 rfl ?_
  refine r_iadd Z dL_law_886 ?_
  refine r_sld Z hX (hin 1 (by omega)) dL_law_887 ?_
  refine r_aload_n Z dL_law_888 rfl (lv_at hl 0 rfl) ?_
  refine r_iload_n Z dL_law_889 rfl (lv_at hl 3 rfl) ?_
  refine r_iconst (v := 2) Z dL_law_890 rfl ?_
  refine r_iadd Z dL_law_891 ?_
  refine r_sld Z hX (hin 2 (by omega)) dL_law_892 ?_
  obtain ⟨r, M1, M2, f1, f2, hI2⟩ := al_through (xs (nI i + 1).toNatClampNeg) (xs (nI i + 2).toNatClampNeg) M hI
  refine r_invVi [] Z (c_X8_through (o := 0) (show shp 0 = 8 by decide) f1) cv_X8_through rfl (by decide) (fun _ _ => ⟨_, ce_8 (show shp 0 = 8 by decide)⟩) wm_990 rfl rfl ⟨Nat.le_of_ble_eq_true rfl, Nat.le_of_ble_eq_true rfl⟩ rfl hl.1 rfl (Nat.le_of_ble_eq_true rfl) dL_law_893 ?_
  refine r_aload_n Z dL_law_896 rfl (lv_at hl 2 rfl) ?_
  refine r_aload_n Z dL_law_897 rfl (lv_at hl 0 rfl) ?_
  refine r_iload_n Z dL_law_898 rfl (lv_at hl 3 rfl) ?_
  refine r_iconst (v := 1) Z dL_law_899 rfl ?_
  refine r_iadd Z dL_law_900 ?_
  refine r_sld Z hX (hin 1 (by omega)) dL_law_901 ?_
  refine r_aload_n Z dL_law_902 rfl (lv_at hl 0 rfl) ?_
  refine r_iload_n Z dL_law_903 rfl (lv_at hl 3 rfl) ?_
  refine r_iconst (v := 2) Z dL_law_904 rfl ?_
  refine r_iadd Z dL_law_905 ?_
  refine r_sld Z hX (hin 2 (by omega)) dL_law_906 ?_
  refine r_invVi [.int r] Z (c_X9_through (o := 1) (show shp 1 = 9 by decide) f2) cv_X9_through rfl (by decide) (fun _ _ => ⟨_, ce_9 (show shp 1 = 9 by decide)⟩) wm_993 rfl rfl ⟨Nat.le_of_ble_eq_true rfl, Nat.le_of_ble_eq_true rfl⟩ rfl hl.1 rfl (Nat.le_of_ble_eq_true rfl) dL_law_907 ?_
  exact r_icmp_eq Z 1494 dL_law_910 (by decide) (fun _ => k M2 hI2) (fun hq => absurd rfl hq)
theorem lc_23 {ad : Nat → Nat} {X : Cx} {M : Mm} {ls : Array Slot} {b L : Nat} {xs : Nat → Int32} {i : Nat} (Z : Zk ad X cL_law RL 4 (some .boolean) room_1) (hX : Lx b L xs X) (hin : ∀ j : Nat, j < 6 → vp_in (nI i + nI j) L) (hl : lv_has ls 4 [(0, .ref b), (1, .ref (ad 0)), (2, .ref (ad 1)), (3, .int (nI i))]) (hI : Inv M) (k : ∀ M1, Inv M1 → G ad X M1 1494 ls []) : G ad X M 915 ls [] := by
  refine r_aload_n Z dL_law_915 rfl (lv_at hl 1 rfl) ?_
  refine r_aload_n Z dL_law_916 rfl (lv_at hl 0 rfl) ?_
  refine r_iload_n Z dL_law_917 rfl (lv_at hl 3 rfl) ?_
  refine r_iconst (v := 1) Z dL_law_918 rfl ?_
  refine r_iadd Z dL_law_919 ?_
  refine r_sld Z hX (hin 1 (by omega)) dL_law_920 ?_
  refine r_aload_n Z dL_law_921 rfl (lv_at hl 0 rfl) ?_
  refine r_iload_n Z dL_law_922 rfl (lv_at hl 3 rfl) ?_
  refine r_iconst (v := 2) Z dL_law_923 rfl ?_
  refine r_iadd Z dL_law_924 ?_
  refine r_sld Z hX (hin 2 (by omega)) dL_law_925 ?_
  obtain ⟨r, M1, M2, f1, f2, hI2⟩ := al_meanOf (xs (nI i + 1).toNatClampNeg) (xs (nI i + 2).toNatClampNeg) M hI
  refine r_invVi [] Z (c_X8_meanOf (o := 0) (show shp 0 = 8 by decide) f1) cv_X8_meanOf rfl (by decide) (fun _ _ => ⟨_, ce_8 (show shp 0 = 8 by decide)⟩) wm_996 rfl rfl ⟨Nat.le_of_ble_eq_true rfl, Nat.le_of_ble_eq_true rfl⟩ rfl hl.1 rfl (Nat.le_of_ble_eq_true rfl) dL_law_926 ?_
  refine r_aload_n Z dL_law_929 rfl (lv_at hl 2 rfl) ?_
  refine r_aload_n Z dL_law_930 rfl (lv_at hl 0 rfl) ?_
  refine r_iload_n Z dL_law_931 rfl (lv_at hl 3 rfl) ?_
  refine r_iconst (v := 1) Z dL_law_932 rfl ?_
  refine r_iadd Z dL_law_933 ?_
  refine r_sld Z hX (hin 1 (by omega)) dL_law_934 ?_
  refine r_aload_n Z dL_law_935 rfl (lv_at hl 0 rfl) ?_
  refine r_iload_n Z dL_law_936 rfl (lv_at hl 3 rfl) ?_
  refine r_iconst (v := 2) Z dL_law_937 rfl ?_
  refine r_iadd Z dL_law_938 ?_
  refine r_sld Z hX (hin 2 (by omega)) dL_law_939 ?_
  refine r_invVi [.int r] Z (c_X9_meanOf (o := 1) (show shp 1 = 9 by decide) f2) cv_X9_meanOf rfl (by decide) (fun _ _ => ⟨_, ce_9 (show shp 1 = 9 by decide)⟩) wm_999 rfl rfl ⟨Nat.le_of_ble_eq_true rfl, Nat.le_of_ble_eq_true rfl⟩ rfl hl.1 rfl (Nat.le_of_ble_eq_true rfl) dL_law_940 ?_
  exact r_icmp_eq Z 1494 dL_law_943 (by decide) (fun _ => k M2 hI2) (fun hq => absurd rfl hq)
theorem lc_24 {ad : Nat → Nat} {X : Cx} {M : Mm} {ls : Array Slot} {b L : Nat} {xs : Nat → Int32} {i : Nat} (Z : Zk ad X cL_law RL 4 (some .boolean) room_1) (hX : Lx b L xs X) (hin : ∀ j : Nat, j < 6 → vp_in (nI i + nI j) L) (hl : lv_has ls 4 [(0, .ref b), (1, .ref (ad 0)), (2, .ref (ad 1)), (3, .int (nI i))]) (hI : Inv M) (k : ∀ M1, Inv M1 → G ad X M1 1494 ls []) : G ad X M 948 ls [] := by
  refine r_aload_n Z dL_law_948 rfl (lv_at hl 1 rfl) ?_
  refine r_aload_n Z dL_law_949 rfl (lv_at hl 0 rfl) ?_
  refine r_iload_n Z dL_law_950 rfl (lv_at hl 3 rfl) ?_
  refine r_iconst (v := 1) Z dL_law_951 rfl ?_
  refine r_iadd Z dL_law_952 ?_
  refine r_sld Z hX (hin 1 (by omega)) dL_law_953 ?_
  refine r_aload_n Z dL_law_954 rfl (lv_at hl 0 rfl) ?_
  refine r_iload_n Z dL_law_955 rfl (lv_at hl 3 rfl) ?_
  refine r_iconst (v := 2) Z dL_law_956 rfl ?_
  refine r_iadd Z dL_law_957 ?_
  refine r_sld Z hX (hin 2 (by omega)) dL_law_958 ?_
  obtain ⟨r, M1, M2, f1, f2, hI2⟩ := al_round (xs (nI i + 1).toNatClampNeg) (xs (nI i + 2).toNatClampNeg) M hI
  refine r_invVi [] Z (c_X8_round (o := 0) (show shp 0 = 8 by decide) f1) cv_X8_round rfl (by decide) (fun _ _ => ⟨_, ce_8 (show shp 0 = 8 by decide)⟩) wm_1002 rfl rfl ⟨Nat.le_of_ble_eq_true rfl, Nat.le_of_ble_eq_true rfl⟩ rfl hl.1 rfl (Nat.le_of_ble_eq_true rfl) dL_law_959 ?_
  refine r_aload_n Z dL_law_962 rfl (lv_at hl 2 rfl) ?_
  refine r_aload_n Z dL_law_963 rfl (lv_at hl 0 rfl) ?_
  refine r_iload_n Z dL_law_964 rfl (lv_at hl 3 rfl) ?_
  refine r_iconst (v := 1) Z dL_law_965 rfl ?_
  refine r_iadd Z dL_law_966 ?_
  refine r_sld Z hX (hin 1 (by omega)) dL_law_967 ?_
  refine r_aload_n Z dL_law_968 rfl (lv_at hl 0 rfl) ?_
  refine r_iload_n Z dL_law_969 rfl (lv_at hl 3 rfl) ?_
  refine r_iconst (v := 2) Z dL_law_970 rfl ?_
  refine r_iadd Z dL_law_971 ?_
  refine r_sld Z hX (hin 2 (by omega)) dL_law_972 ?_
  refine r_invVi [.int r] Z (c_X9_round (o := 1) (show shp 1 = 9 by decide) f2) cv_X9_round rfl (by decide) (fun _ _ => ⟨_, ce_9 (show shp 1 = 9 by decide)⟩) wm_1005 rfl rfl ⟨Nat.le_of_ble_eq_true rfl, Nat.le_of_ble_eq_true rfl⟩ rfl hl.1 rfl (Nat.le_of_ble_eq_true rfl) dL_law_973 ?_
  exact r_icmp_eq Z 1494 dL_law_976 (by decide) (fun _ => k M2 hI2) (fun hq => absurd rfl hq)
theorem lc_25 {ad : Nat → Nat} {X : Cx} {M : Mm} {ls : Array Slot} {b L : Nat} {xs : Nat → Int32} {i : Nat} (Z : Zk ad X cL_law RL 4 (some .boolean) room_1) (hX : Lx b L xs X) (hin : ∀ j : Nat, j < 6 → vp_in (nI i + nI j) L) (hl : lv_has ls 4 [(0, .ref b), (1, .ref (ad 0)), (2, .ref (ad 1)), (3, .int (nI i))]) (hI : Inv M) (k : ∀ M1, Inv M1 → G ad X M1 1494 ls []) : G ad X M 981 ls [] := by
  refine r_aload_n Z dL_law_981 rfl (lv_at hl 1 rfl) ?_
  obtain ⟨r, M1, M2, f1, f2, hI2⟩ := al_narrow M hI
  refine r_invVi [] Z (c_X8_narrow (o := 0) (show shp 0 = 8 by decide) f1) cv_X8_narrow rfl (by decide) (fun _ _ => ⟨_, ce_8 (show shp 0 = 8 by decide)⟩) wm_1008 rfl rfl ⟨Nat.le_of_ble_eq_true rfl, Nat.le_of_ble_eq_true rfl⟩ rfl hl.1 rfl (Nat.le_of_ble_eq_true rfl) dL_law_982 ?_
  refine r_aload_n Z dL_law_985 rfl (lv_at hl 2 rfl) ?_
  refine r_invVi [.int r] Z (c_X9_narrow (o := 1) (show shp 1 = 9 by decide) f2) cv_X9_narrow rfl (by decide) (fun _ _ => ⟨_, ce_9 (show shp 1 = 9 by decide)⟩) wm_1011 rfl rfl ⟨Nat.le_of_ble_eq_true rfl, Nat.le_of_ble_eq_true rfl⟩ rfl hl.1 rfl (Nat.le_of_ble_eq_true rfl) dL_law_986 ?_
  exact r_icmp_eq Z 1494 dL_law_989 (by decide) (fun _ => k M2 hI2) (fun hq => absurd rfl hq)
theorem lc_26 {ad : Nat → Nat} {X : Cx} {M : Mm} {ls : Array Slot} {b L : Nat} {xs : Nat → Int32} {i : Nat} (Z : Zk ad X cL_law RL 4 (some .boolean) room_1) (hX : Lx b L xs X) (hin : ∀ j : Nat, j < 6 → vp_in (nI i + nI j) L) (hl : lv_has ls 4 [(0, .ref b), (1, .ref (ad 0)), (2, .ref (ad 1)), (3, .int (nI i))]) (hI : Inv M) (k : ∀ M1, Inv M1 → G ad X M1 1494 ls []) : G ad X M 994 ls [] := by
  refine r_aload_n Z dL_law_994 rfl (lv_at hl 1 rfl) ?_
  refine r_aload_n Z dL_law_995 rfl (lv_at hl 0 rfl) ?_
  refine r_iload_n Z dL_law_996 rfl (lv_at hl 3 rfl) ?_
  refine r_iconst (v := 1) Z dL_law_997 rfl ?_
  refine r_iadd Z dL_law_998 ?_
  refine r_sld Z hX (hin 1 (by omega)) dL_law_999 ?_
  refine r_aload_n Z dL_law_1000 rfl (lv_at hl 0 rfl) ?_
  refine r_iload_n Z dL_law_1001 rfl (lv_at hl 3 rfl) ?_
  refine r_iconst (v := 2) Z dL_law_1002 rfl ?_
  refine r_iadd Z dL_law_1003 ?_
  refine r_sld Z hX (hin 2 (by omega)) dL_law_1004 ?_
  obtain ⟨r, M1, M2, f1, f2, hI2⟩ := al_bound (xs (nI i + 1).toNatClampNeg) (xs (nI i + 2).toNatClampNeg) M hI
  refine r_invVi [] Z (c_X8_bound (o := 0) (show shp 0 = 8 by decide) f1) cv_X8_bound rfl (by decide) (fun _ _ => ⟨_, ce_8 (show shp 0 = 8 by decide)⟩) wm_1014 rfl rfl ⟨Nat.le_of_ble_eq_true rfl, Nat.le_of_ble_eq_true rfl⟩ rfl hl.1 rfl (Nat.le_of_ble_eq_true rfl) dL_law_1005 ?_
  refine r_aload_n Z dL_law_1008 rfl (lv_at hl 2 rfl) ?_
  refine r_aload_n Z dL_law_1009 rfl (lv_at hl 0 rfl) ?_
  refine r_iload_n Z dL_law_1010 rfl (lv_at hl 3 rfl) ?_
  refine r_iconst (v := 1) Z dL_law_1011 rfl ?_
  refine r_iadd Z dL_law_1012 ?_
  refine r_sld Z hX (hin 1 (by omega)) dL_law_1013 ?_
  refine r_aload_n Z dL_law_1014 rfl (lv_at hl 0 rfl) ?_
  refine r_iload_n Z dL_law_1015 rfl (lv_at hl 3 rfl) ?_
  refine r_iconst (v := 2) Z dL_law_1016 rfl ?_
  refine r_iadd Z dL_law_1017 ?_
  refine r_sld Z hX (hin 2 (by omega)) dL_law_1018 ?_
  refine r_invVi [.int r] Z (c_X9_bound (o := 1) (show shp 1 = 9 by decide) f2) cv_X9_bound rfl (by decide) (fun _ _ => ⟨_, ce_9 (show shp 1 = 9 by decide)⟩) wm_1017 rfl rfl ⟨Nat.le_of_ble_eq_true rfl, Nat.le_of_ble_eq_true rfl⟩ rfl hl.1 rfl (Nat.le_of_ble_eq_true rfl) dL_law_1019 ?_
  exact r_icmp_eq Z 1494 dL_law_1022 (by decide) (fun _ => k M2 hI2) (fun hq => absurd rfl hq)
theorem lc_27 {ad : Nat → Nat} {X : Cx} {M : Mm} {ls : Array Slot} {b L : Nat} {xs : Nat → Int32} {i : Nat} (Z : Zk ad X cL_law RL 4 (some .boolean) room_1) (hX : Lx b L xs X) (hin : ∀ j : Nat, j < 6 → vp_in (nI i + nI j) L) (hl : lv_has ls 4 [(0, .ref b), (1, .ref (ad 0)), (2, .ref (ad 1)), (3, .int (nI i))]) (hI : Inv M) (k : ∀ M1, Inv M1 → G ad X M1 1494 ls []) : G ad X M 1027 ls [] := by
  refine r_aload_n Z dL_law_1027 rfl (lv_at hl 1 rfl) ?_
  refine r_aload_n Z dL_law_1028 rfl (lv_at hl 0 rfl) ?_
  refine r_iload_n Z dL_law_1029 rfl (lv_at hl 3 rfl) ?_
  refine r_iconst (v := 1) Z dL_law_1030 rfl ?_
  refine r_iadd Z dL_law_1031 ?_
  refine r_sld Z hX (hin 1 (by omega)) dL_law_1032 ?_
  obtain ⟨r, M1, M2, f1, f2, hI2⟩ := al_best (xs (nI i + 1).toNatClampNeg) M hI
  refine r_invVi [] Z (c_X8_best (o := 0) (show shp 0 = 8 by decide) f1) cv_X8_best rfl (by decide) (fun _ _ => ⟨_, ce_8 (show shp 0 = 8 by decide)⟩) wm_1020 rfl rfl ⟨Nat.le_of_ble_eq_true rfl, Nat.le_of_ble_eq_true rfl⟩ rfl hl.1 rfl (Nat.le_of_ble_eq_true rfl) dL_law_1033 ?_
  refine r_aload_n Z dL_law_1036 rfl (lv_at hl 2 rfl) ?_
  refine r_aload_n Z dL_law_1037 rfl (lv_at hl 0 rfl) ?_
  refine r_iload_n Z dL_law_1038 rfl (lv_at hl 3 rfl) ?_
  refine r_iconst (v := 1) Z dL_law_1039 rfl ?_
  refine r_iadd Z dL_law_1040 ?_
  refine r_sld Z hX (hin 1 (by omega)) dL_law_1041 ?_
  refine r_invVi [.int r] Z (c_X9_best (o := 1) (show shp 1 = 9 by decide) f2) cv_X9_best rfl (by decide) (fun _ _ => ⟨_, ce_9 (show shp 1 = 9 by decide)⟩) wm_1023 rfl rfl ⟨Nat.le_of_ble_eq_true rfl, Nat.le_of_ble_eq_true rfl⟩ rfl hl.1 rfl (Nat.le_of_ble_eq_true rfl) dL_law_1042 ?_
  exact r_icmp_eq Z 1494 dL_law_1045 (by decide) (fun _ => k M2 hI2) (fun hq => absurd rfl hq)
theorem lc_28 {ad : Nat → Nat} {X : Cx} {M : Mm} {ls : Array Slot} {b L : Nat} {xs : Nat → Int32} {i : Nat} (Z : Zk ad X cL_law RL 4 (some .boolean) room_1) (hX : Lx b L xs X) (hin : ∀ j : Nat, j < 6 → vp_in (nI i + nI j) L) (hl : lv_has ls 4 [(0, .ref b), (1, .ref (ad 0)), (2, .ref (ad 1)), (3, .int (nI i))]) (hI : Inv M) (k : ∀ M1, Inv M1 → G ad X M1 1494 ls []) : G ad X M 1050 ls [] := by
  refine r_aload_n Z dL_law_1050 rfl (lv_at hl 1 rfl) ?_
  refine r_aload_n Z dL_law_1051 rfl (lv_at hl 0 rfl) ?_
  refine r_iload_n Z dL_law_1052 rfl (lv_at hl 3 rfl) ?_
  refine r_iconst (v := 1) Z dL_law_1053 rfl ?_
  refine r_iadd Z dL_law_1054 ?_
  refine r_sld Z hX (hin 1 (by omega)) dL_law_1055 ?_
  obtain ⟨r, M1, M2, f1, f2, hI2⟩ := al_balance (xs (nI i + 1).toNatClampNeg) M hI
  refine r_invVi [] Z (c_X8_balance (o := 0) (show shp 0 = 8 by decide) f1) cv_X8_balance rfl (by decide) (fun _ _ => ⟨_, ce_8 (show shp 0 = 8 by decide)⟩) wm_1026 rfl rfl ⟨Nat.le_of_ble_eq_true rfl, Nat.le_of_ble_eq_true rfl⟩ rfl hl.1 rfl (Nat.le_of_ble_eq_true rfl) dL_law_1056 ?_
  refine r_aload_n Z dL_law_1059 rfl (lv_at hl 2 rfl) ?_
  refine r_aload_n Z dL_law_1060 rfl (lv_at hl 0 rfl) ?_
  refine r_iload_n Z dL_law_1061 rfl (lv_at hl 3 rfl) ?_
  refine r_iconst (v := 1) Z dL_law_1062 rfl ?_
  refine r_iadd Z dL_law_1063 ?_
  refine r_sld Z hX (hin 1 (by omega)) dL_law_1064 ?_
  refine r_invVi [.int r] Z (c_X9_balance (o := 1) (show shp 1 = 9 by decide) f2) cv_X9_balance rfl (by decide) (fun _ _ => ⟨_, ce_9 (show shp 1 = 9 by decide)⟩) wm_1029 rfl rfl ⟨Nat.le_of_ble_eq_true rfl, Nat.le_of_ble_eq_true rfl⟩ rfl hl.1 rfl (Nat.le_of_ble_eq_true rfl) dL_law_1065 ?_
  exact r_icmp_eq Z 1494 dL_law_1068 (by decide) (fun _ => k M2 hI2) (fun hq => absurd rfl hq)
theorem lc_29 {ad : Nat → Nat} {X : Cx} {M : Mm} {ls : Array Slot} {b L : Nat} {xs : Nat → Int32} {i : Nat} (Z : Zk ad X cL_law RL 4 (some .boolean) room_1) (hX : Lx b L xs X) (hin : ∀ j : Nat, j < 6 → vp_in (nI i + nI j) L) (hl : lv_has ls 4 [(0, .ref b), (1, .ref (ad 0)), (2, .ref (ad 1)), (3, .int (nI i))]) (hI : Inv M) (k : ∀ M1, Inv M1 → G ad X M1 1494 ls []) : G ad X M 1073 ls [] := by
  refine r_aload_n Z dL_law_1073 rfl (lv_at hl 1 rfl) ?_
  refine r_aload_n Z dL_law_1074 rfl (lv_at hl 0 rfl) ?_
  refine r_iload_n Z dL_law_1075 rfl (lv_at hl 3 rfl) ?_
  refine r_iconst (v := 1) Z dL_law_1076 rfl ?_
  refine r_iadd Z dL_law_1077 ?_
  refine r_sld Z hX (hin 1 (by omega)) dL_law_1078 ?_
  refine r_aload_n Z dL_law_1079 rfl (lv_at hl 0 rfl) ?_
  refine r_iload_n Z dL_law_1080 rfl (lv_at hl 3 rfl) ?_
  refine r_iconst (v := 2) Z dL_law_1081 rfl ?_
  refine r_iadd Z dL_law_1082 ?_
  refine r_sld Z hX (hin 2 (by omega)) dL_law_1083 ?_
  refine r_aload_n Z dL_law_1084 rfl (lv_at hl 0 rfl) ?_
  refine r_iload_n Z dL_law_1085 rfl (lv_at hl 3 rfl) ?_
  refine r_iconst (v := 3) Z dL_law_1086 rfl ?_
  refine r_iadd Z dL_law_1087 ?_
  refine r_sld Z hX (hin 3 (by omega)) dL_law_1088 ?_
  refine r_aload_n Z dL_law_1089 rfl (lv_at hl 0 rfl) ?_
  refine r_iload_n Z dL_law_1090 rfl (lv_at hl 3 rfl) ?_
  refine r_iconst (v := 4) Z dL_law_1091 rfl ?_
  refine r_iadd Z dL_law_1092 ?_
  refine r_sld Z hX (hin 4 (by omega)) dL_law_1093 ?_
  refine r_if_eq Z 1101 dL_law_1094 (by decide) (fun hb4 => ?_) (fun hb4 => ?_)
  · refine r_iconst (v := 0) Z dL_law_1101 rfl ?_
    refine r_aload_n Z dL_law_1102 rfl (lv_at hl 0 rfl) ?_
    refine r_iload_n Z dL_law_1103 rfl (lv_at hl 3 rfl) ?_
    refine r_iconst (v := 5) Z dL_law_1104 rfl ?_
    refine r_iadd Z dL_law_1105 ?_
    refine r_sld Z hX (hin 5 (by omega)) dL_law_1106 ?_
    obtain ⟨r, M1, M2, f1, f2, hI2⟩ := al_ranked (xs (nI i + 1).toNatClampNeg) (xs (nI i + 2).toNatClampNeg) (xs (nI i + 3).toNatClampNeg) 0 (xs (nI i + 5).toNatClampNeg) M hI
    refine r_invVi [] Z (c_X8_ranked (o := 0) (show shp 0 = 8 by decide) f1) cv_X8_ranked rfl (by decide) (fun _ _ => ⟨_, ce_8 (show shp 0 = 8 by decide)⟩) wm_1032 rfl rfl ⟨Nat.le_of_ble_eq_true rfl, Nat.le_of_ble_eq_true rfl⟩ rfl hl.1 rfl (Nat.le_of_ble_eq_true rfl) dL_law_1107 ?_
    refine r_aload_n Z dL_law_1110 rfl (lv_at hl 2 rfl) ?_
    refine r_aload_n Z dL_law_1111 rfl (lv_at hl 0 rfl) ?_
    refine r_iload_n Z dL_law_1112 rfl (lv_at hl 3 rfl) ?_
    refine r_iconst (v := 1) Z dL_law_1113 rfl ?_
    refine r_iadd Z dL_law_1114 ?_
    refine r_sld Z hX (hin 1 (by omega)) dL_law_1115 ?_
    refine r_aload_n Z dL_law_1116 rfl (lv_at hl 0 rfl) ?_
    refine r_iload_n Z dL_law_1117 rfl (lv_at hl 3 rfl) ?_
    refine r_iconst (v := 2) Z dL_law_1118 rfl ?_
    refine r_iadd Z dL_law_1119 ?_
    refine r_sld Z hX (hin 2 (by omega)) dL_law_1120 ?_
    refine r_aload_n Z dL_law_1121 rfl (lv_at hl 0 rfl) ?_
    refine r_iload_n Z dL_law_1122 rfl (lv_at hl 3 rfl) ?_
    refine r_iconst (v := 3) Z dL_law_1123 rfl ?_
    refine r_iadd Z dL_law_1124 ?_
    refine r_sld Z hX (hin 3 (by omega)) dL_law_1125 ?_
    refine r_aload_n Z dL_law_1126 rfl (lv_at hl 0 rfl) ?_
    refine r_iload_n Z dL_law_1127 rfl (lv_at hl 3 rfl) ?_
    refine r_iconst (v := 4) Z dL_law_1128 rfl ?_
    refine r_iadd Z dL_law_1129 ?_
    refine r_sld Z hX (hin 4 (by omega)) dL_law_1130 ?_
    refine r_if_eq Z 1138 dL_law_1131 (by decide) (fun _ => ?_) (fun hq => absurd hb4 hq)
    refine r_iconst (v := 0) Z dL_law_1138 rfl ?_
    refine r_aload_n Z dL_law_1139 rfl (lv_at hl 0 rfl) ?_
    refine r_iload_n Z dL_law_1140 rfl (lv_at hl 3 rfl) ?_
    refine r_iconst (v := 5) Z dL_law_1141 rfl ?_
    refine r_iadd Z dL_law_1142 ?_
    refine r_sld Z hX (hin 5 (by omega)) dL_law_1143 ?_
    refine r_invVi [.int r] Z (c_X9_ranked (o := 1) (show shp 1 = 9 by decide) f2) cv_X9_ranked rfl (by decide) (fun _ _ => ⟨_, ce_9 (show shp 1 = 9 by decide)⟩) wm_1035 rfl rfl ⟨Nat.le_of_ble_eq_true rfl, Nat.le_of_ble_eq_true rfl⟩ rfl hl.1 rfl (Nat.le_of_ble_eq_true rfl) dL_law_1144 ?_
    exact r_icmp_eq Z 1494 dL_law_1147 (by decide) (fun _ => k M2 hI2) (fun hq => absurd rfl hq)
  · refine r_iconst (v := 1) Z dL_law_1097 rfl ?_
    refine r_goto Z 1102 dL_law_1098 (by decide) ?_
    refine r_aload_n Z dL_law_1102 rfl (lv_at hl 0 rfl) ?_
    refine r_iload_n Z dL_law_1103 rfl (lv_at hl 3 rfl) ?_
    refine r_iconst (v := 5) Z dL_law_1104 rfl ?_
    refine r_iadd Z dL_law_1105 ?_
    refine r_sld Z hX (hin 5 (by omega)) dL_law_1106 ?_
    obtain ⟨r, M1, M2, f1, f2, hI2⟩ := al_ranked (xs (nI i + 1).toNatClampNeg) (xs (nI i + 2).toNatClampNeg) (xs (nI i + 3).toNatClampNeg) 1 (xs (nI i + 5).toNatClampNeg) M hI
    refine r_invVi [] Z (c_X8_ranked (o := 0) (show shp 0 = 8 by decide) f1) cv_X8_ranked rfl (by decide) (fun _ _ => ⟨_, ce_8 (show shp 0 = 8 by decide)⟩) wm_1032 rfl rfl ⟨Nat.le_of_ble_eq_true rfl, Nat.le_of_ble_eq_true rfl⟩ rfl hl.1 rfl (Nat.le_of_ble_eq_true rfl) dL_law_1107 ?_
    refine r_aload_n Z dL_law_1110 rfl (lv_at hl 2 rfl) ?_
    refine r_aload_n Z dL_law_1111 rfl (lv_at hl 0 rfl) ?_
    refine r_iload_n Z dL_law_1112 rfl (lv_at hl 3 rfl) ?_
    refine r_iconst (v := 1) Z dL_law_1113 rfl ?_
    refine r_iadd Z dL_law_1114 ?_
    refine r_sld Z hX (hin 1 (by omega)) dL_law_1115 ?_
    refine r_aload_n Z dL_law_1116 rfl (lv_at hl 0 rfl) ?_
    refine r_iload_n Z dL_law_1117 rfl (lv_at hl 3 rfl) ?_
    refine r_iconst (v := 2) Z dL_law_1118 rfl ?_
    refine r_iadd Z dL_law_1119 ?_
    refine r_sld Z hX (hin 2 (by omega)) dL_law_1120 ?_
    refine r_aload_n Z dL_law_1121 rfl (lv_at hl 0 rfl) ?_
    refine r_iload_n Z dL_law_1122 rfl (lv_at hl 3 rfl) ?_
    refine r_iconst (v := 3) Z dL_law_1123 rfl ?_
    refine r_iadd Z dL_law_1124 ?_
    refine r_sld Z hX (hin 3 (by omega)) dL_law_1125 ?_
    refine r_aload_n Z dL_law_1126 rfl (lv_at hl 0 rfl) ?_
    refine r_iload_n Z dL_law_1127 rfl (lv_at hl 3 rfl) ?_
    refine r_iconst (v := 4) Z dL_law_1128 rfl ?_
    refine r_iadd Z dL_law_1129 ?_
    refine r_sld Z hX (hin 4 (by omega)) dL_law_1130 ?_
    refine r_if_eq Z 1138 dL_law_1131 (by decide) (fun hq => absurd hq hb4) (fun _ => ?_)
    refine r_iconst (v := 1) Z dL_law_1134 rfl ?_
    refine r_goto Z 1139 dL_law_1135 (by decide) ?_
    refine r_aload_n Z dL_law_1139 rfl (lv_at hl 0 rfl) ?_
    refine r_iload_n Z dL_law_1140 rfl (lv_at hl 3 rfl) ?_
    refine r_iconst (v := 5) Z dL_law_1141 rfl ?_
    refine r_iadd Z dL_law_1142 ?_
    refine r_sld Z hX (hin 5 (by omega)) dL_law_1143 ?_
    refine r_invVi [.int r] Z (c_X9_ranked (o := 1) (show shp 1 = 9 by decide) f2) cv_X9_ranked rfl (by decide) (fun _ _ => ⟨_, ce_9 (show shp 1 = 9 by decide)⟩) wm_1035 rfl rfl ⟨Nat.le_of_ble_eq_true rfl, Nat.le_of_ble_eq_true rfl⟩ rfl hl.1 rfl (Nat.le_of_ble_eq_true rfl) dL_law_1144 ?_
    exact r_icmp_eq Z 1494 dL_law_1147 (by decide) (fun _ => k M2 hI2) (fun hq => absurd rfl hq)
theorem lc_30 {ad : Nat → Nat} {X : Cx} {M : Mm} {ls : Array Slot} {b L : Nat} {xs : Nat → Int32} {i : Nat} (Z : Zk ad X cL_law RL 4 (some .boolean) room_1) (hX : Lx b L xs X) (hin : ∀ j : Nat, j < 6 → vp_in (nI i + nI j) L) (hl : lv_has ls 4 [(0, .ref b), (1, .ref (ad 0)), (2, .ref (ad 1)), (3, .int (nI i))]) (hI : Inv M) (k : ∀ M1, Inv M1 → G ad X M1 1494 ls []) : G ad X M 1152 ls [] := by
  refine r_aload_n Z dL_law_1152 rfl (lv_at hl 1 rfl) ?_
  refine r_aload_n Z dL_law_1153 rfl (lv_at hl 0 rfl) ?_
  refine r_iload_n Z dL_law_1154 rfl (lv_at hl 3 rfl) ?_
  refine r_iconst (v := 1) Z dL_law_1155 rfl ?_
  refine r_iadd Z dL_law_1156 ?_
  refine r_sld Z hX (hin 1 (by omega)) dL_law_1157 ?_
  refine r_aload_n Z dL_law_1158 rfl (lv_at hl 0 rfl) ?_
  refine r_iload_n Z dL_law_1159 rfl (lv_at hl 3 rfl) ?_
  refine r_iconst (v := 2) Z dL_law_1160 rfl ?_
  refine r_iadd Z dL_law_1161 ?_
  refine r_sld Z hX (hin 2 (by omega)) dL_law_1162 ?_
  refine r_aload_n Z dL_law_1163 rfl (lv_at hl 0 rfl) ?_
  refine r_iload_n Z dL_law_1164 rfl (lv_at hl 3 rfl) ?_
  refine r_iconst (v := 3) Z dL_law_1165 rfl ?_
  refine r_iadd Z dL_law_1166 ?_
  refine r_sld Z hX (hin 3 (by omega)) dL_law_1167 ?_
  obtain ⟨r, M1, M2, f1, f2, hI2⟩ := al_roomed (xs (nI i + 1).toNatClampNeg) (xs (nI i + 2).toNatClampNeg) (xs (nI i + 3).toNatClampNeg) M hI
  refine r_invVi [] Z (c_X8_roomed (o := 0) (show shp 0 = 8 by decide) f1) cv_X8_roomed rfl (by decide) (fun _ _ => ⟨_, ce_8 (show shp 0 = 8 by decide)⟩) wm_1038 rfl rfl ⟨Nat.le_of_ble_eq_true rfl, Nat.le_of_ble_eq_true rfl⟩ rfl hl.1 rfl (Nat.le_of_ble_eq_true rfl) dL_law_1168 ?_
  refine r_aload_n Z dL_law_1171 rfl (lv_at hl 2 rfl) ?_
  refine r_aload_n Z dL_law_1172 rfl (lv_at hl 0 rfl) ?_
  refine r_iload_n Z dL_law_1173 rfl (lv_at hl 3 rfl) ?_
  refine r_iconst (v := 1) Z dL_law_1174 rfl ?_
  refine r_iadd Z dL_law_1175 ?_
  refine r_sld Z hX (hin 1 (by omega)) dL_law_1176 ?_
  refine r_aload_n Z dL_law_1177 rfl (lv_at hl 0 rfl) ?_
  refine r_iload_n Z dL_law_1178 rfl (lv_at hl 3 rfl) ?_
  refine r_iconst (v := 2) Z dL_law_1179 rfl ?_
  refine r_iadd Z dL_law_1180 ?_
  refine r_sld Z hX (hin 2 (by omega)) dL_law_1181 ?_
  refine r_aload_n Z dL_law_1182 rfl (lv_at hl 0 rfl) ?_
  refine r_iload_n Z dL_law_1183 rfl (lv_at hl 3 rfl) ?_
  refine r_iconst (v := 3) Z dL_law_1184 rfl ?_
  refine r_iadd Z dL_law_1185 ?_
  refine r_sld Z hX (hin 3 (by omega)) dL_law_1186 ?_
  refine r_invVi [.int r] Z (c_X9_roomed (o := 1) (show shp 1 = 9 by decide) f2) cv_X9_roomed rfl (by decide) (fun _ _ => ⟨_, ce_9 (show shp 1 = 9 by decide)⟩) wm_1041 rfl rfl ⟨Nat.le_of_ble_eq_true rfl, Nat.le_of_ble_eq_true rfl⟩ rfl hl.1 rfl (Nat.le_of_ble_eq_true rfl) dL_law_1187 ?_
  exact r_icmp_eq Z 1494 dL_law_1190 (by decide) (fun _ => k M2 hI2) (fun hq => absurd rfl hq)
theorem lc_31 {ad : Nat → Nat} {X : Cx} {M : Mm} {ls : Array Slot} {b L : Nat} {xs : Nat → Int32} {i : Nat} (Z : Zk ad X cL_law RL 4 (some .boolean) room_1) (hX : Lx b L xs X) (hin : ∀ j : Nat, j < 6 → vp_in (nI i + nI j) L) (hl : lv_has ls 4 [(0, .ref b), (1, .ref (ad 0)), (2, .ref (ad 1)), (3, .int (nI i))]) (hI : Inv M) (k : ∀ M1, Inv M1 → G ad X M1 1494 ls []) : G ad X M 1195 ls [] := by
  refine r_aload_n Z dL_law_1195 rfl (lv_at hl 1 rfl) ?_
  refine r_aload_n Z dL_law_1196 rfl (lv_at hl 0 rfl) ?_
  refine r_iload_n Z dL_law_1197 rfl (lv_at hl 3 rfl) ?_
  refine r_iconst (v := 1) Z dL_law_1198 rfl ?_
  refine r_iadd Z dL_law_1199 ?_
  refine r_sld Z hX (hin 1 (by omega)) dL_law_1200 ?_
  refine r_aload_n Z dL_law_1201 rfl (lv_at hl 0 rfl) ?_
  refine r_iload_n Z dL_law_1202 rfl (lv_at hl 3 rfl) ?_
  refine r_iconst (v := 2) Z dL_law_1203 rfl ?_
  refine r_iadd Z dL_law_1204 ?_
  refine r_sld Z hX (hin 2 (by omega)) dL_law_1205 ?_
  obtain ⟨r, M1, M2, f1, f2, hI2⟩ := al_lasting (xs (nI i + 1).toNatClampNeg) (xs (nI i + 2).toNatClampNeg) M hI
  refine r_invVi [] Z (c_X8_lasting (o := 0) (show shp 0 = 8 by decide) f1) cv_X8_lasting rfl (by decide) (fun _ _ => ⟨_, ce_8 (show shp 0 = 8 by decide)⟩) wm_1044 rfl rfl ⟨Nat.le_of_ble_eq_true rfl, Nat.le_of_ble_eq_true rfl⟩ rfl hl.1 rfl (Nat.le_of_ble_eq_true rfl) dL_law_1206 ?_
  refine r_aload_n Z dL_law_1209 rfl (lv_at hl 2 rfl) ?_
  refine r_aload_n Z dL_law_1210 rfl (lv_at hl 0 rfl) ?_
  refine r_iload_n Z dL_law_1211 rfl (lv_at hl 3 rfl) ?_
  refine r_iconst (v := 1) Z dL_law_1212 rfl ?_
  refine r_iadd Z dL_law_1213 ?_
  refine r_sld Z hX (hin 1 (by omega)) dL_law_1214 ?_
  refine r_aload_n Z dL_law_1215 rfl (lv_at hl 0 rfl) ?_
  refine r_iload_n Z dL_law_1216 rfl (lv_at hl 3 rfl) ?_
  refine r_iconst (v := 2) Z dL_law_1217 rfl ?_
  refine r_iadd Z dL_law_1218 ?_
  refine r_sld Z hX (hin 2 (by omega)) dL_law_1219 ?_
  refine r_invVi [.int r] Z (c_X9_lasting (o := 1) (show shp 1 = 9 by decide) f2) cv_X9_lasting rfl (by decide) (fun _ _ => ⟨_, ce_9 (show shp 1 = 9 by decide)⟩) wm_1047 rfl rfl ⟨Nat.le_of_ble_eq_true rfl, Nat.le_of_ble_eq_true rfl⟩ rfl hl.1 rfl (Nat.le_of_ble_eq_true rfl) dL_law_1220 ?_
  exact r_icmp_eq Z 1494 dL_law_1223 (by decide) (fun _ => k M2 hI2) (fun hq => absurd rfl hq)
theorem lc_32 {ad : Nat → Nat} {X : Cx} {M : Mm} {ls : Array Slot} {b L : Nat} {xs : Nat → Int32} {i : Nat} (Z : Zk ad X cL_law RL 4 (some .boolean) room_1) (hX : Lx b L xs X) (hin : ∀ j : Nat, j < 6 → vp_in (nI i + nI j) L) (hl : lv_has ls 4 [(0, .ref b), (1, .ref (ad 0)), (2, .ref (ad 1)), (3, .int (nI i))]) (hI : Inv M) (k : ∀ M1, Inv M1 → G ad X M1 1494 ls []) : G ad X M 1228 ls [] := by
  refine r_aload_n Z dL_law_1228 rfl (lv_at hl 1 rfl) ?_
  refine r_aload_n Z dL_law_1229 rfl (lv_at hl 0 rfl) ?_
  refine r_iload_n Z dL_law_1230 rfl (lv_at hl 3 rfl) ?_
  refine r_iconst (v := 1) Z dL_law_1231 rfl ?_
  refine r_iadd Z dL_law_1232 ?_
  refine r_sld Z hX (hin 1 (by omega)) dL_law_1233 ?_
  obtain ⟨r, M1, M2, f1, f2, hI2⟩ := al_parts (xs (nI i + 1).toNatClampNeg) M hI
  refine r_invVi [] Z (c_X8_parts (o := 0) (show shp 0 = 8 by decide) f1) cv_X8_parts rfl (by decide) (fun _ _ => ⟨_, ce_8 (show shp 0 = 8 by decide)⟩) wm_1050 rfl rfl ⟨Nat.le_of_ble_eq_true rfl, Nat.le_of_ble_eq_true rfl⟩ rfl hl.1 rfl (Nat.le_of_ble_eq_true rfl) dL_law_1234 ?_
  refine r_aload_n Z dL_law_1237 rfl (lv_at hl 2 rfl) ?_
  refine r_aload_n Z dL_law_1238 rfl (lv_at hl 0 rfl) ?_
  refine r_iload_n Z dL_law_1239 rfl (lv_at hl 3 rfl) ?_
  refine r_iconst (v := 1) Z dL_law_1240 rfl ?_
  refine r_iadd Z dL_law_1241 ?_
  refine r_sld Z hX (hin 1 (by omega)) dL_law_1242 ?_
  refine r_invVi [.int r] Z (c_X9_parts (o := 1) (show shp 1 = 9 by decide) f2) cv_X9_parts rfl (by decide) (fun _ _ => ⟨_, ce_9 (show shp 1 = 9 by decide)⟩) wm_1053 rfl rfl ⟨Nat.le_of_ble_eq_true rfl, Nat.le_of_ble_eq_true rfl⟩ rfl hl.1 rfl (Nat.le_of_ble_eq_true rfl) dL_law_1243 ?_
  exact r_icmp_eq Z 1494 dL_law_1246 (by decide) (fun _ => k M2 hI2) (fun hq => absurd rfl hq)

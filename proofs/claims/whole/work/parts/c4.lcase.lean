/-! the cases of the law -/
theorem lc_33 {ad : Nat → Nat} {X : Cx} {M : Mm} {ls : Array Slot} {b L : Nat} {xs : Nat → Int32} {i : Nat} (Z : Zk ad X cL_law RL 4 (some .boolean) room_1) (hX : Lx b L xs X) (hin : ∀ j : Nat, j < 6 → vp_in (nI i + nI j) L) (hl : lv_has ls 4 [(0, .ref b), (1, .ref (ad 0)), (2, .ref (ad 1)), (3, .int (nI i))]) (hI : Inv M) (k : ∀ M1, Inv M1 → G ad X M1 1494 ls []) : G ad X M 1251 ls [] := by
  refine r_aload_n Z dL_law_1251 rfl (lv_at hl 1 rfl) ?_
  refine r_aload_n Z dL_law_1252 rfl (lv_at hl 0 rfl) ?_
  refine r_iload_n Z dL_law_1253 rfl (lv_at hl 3 rfl) ?_
  refine r_iconst (v := 1) Z dL_law_1254 rfl ?_
  refine r_iadd Z dL_law_1255 ?_
  refine r_sld Z hX (hin 1 (by omega)) dL_law_1256 ?_
  refine r_aload_n Z dL_law_1257 rfl (lv_at hl 0 rfl) ?_
  refine r_iload_n Z dL_law_1258 rfl (lv_at hl 3 rfl) ?_
  refine r_iconst (v := 2) Z dL_law_1259 rfl ?_
  refine r_iadd Z dL_law_1260 ?_
  refine r_sld Z hX (hin 2 (by omega)) dL_law_1261 ?_
  obtain ⟨r, M1, M2, f1, f2, hI2⟩ := al_judge (xs (nI i + 1).toNatClampNeg) (xs (nI i + 2).toNatClampNeg) M hI
  refine r_invVi [] Z (c_X8_judge (o := 0) (show shp 0 = 8 by decide) f1) cv_X8_judge rfl (by decide) (fun _ _ => ⟨_, ce_8 (show shp 0 = 8 by decide)⟩) wm_1056 rfl rfl ⟨Nat.le_of_ble_eq_true rfl, Nat.le_of_ble_eq_true rfl⟩ rfl hl.1 rfl (Nat.le_of_ble_eq_true rfl) dL_law_1262 ?_
  refine r_aload_n Z dL_law_1265 rfl (lv_at hl 2 rfl) ?_
  refine r_aload_n Z dL_law_1266 rfl (lv_at hl 0 rfl) ?_
  refine r_iload_n Z dL_law_1267 rfl (lv_at hl 3 rfl) ?_
  refine r_iconst (v := 1) Z dL_law_1268 rfl ?_
  refine r_iadd Z dL_law_1269 ?_
  refine r_sld Z hX (hin 1 (by omega)) dL_law_1270 ?_
  refine r_aload_n Z dL_law_1271 rfl (lv_at hl 0 rfl) ?_
  refine r_iload_n Z dL_law_1272 rfl (lv_at hl 3 rfl) ?_
  refine r_iconst (v := 2) Z dL_law_1273 rfl ?_
  refine r_iadd Z dL_law_1274 ?_
  refine r_sld Z hX (hin 2 (by omega)) dL_law_1275 ?_
  refine r_invVi [.int r] Z (c_X9_judge (o := 1) (show shp 1 = 9 by decide) f2) cv_X9_judge rfl (by decide) (fun _ _ => ⟨_, ce_9 (show shp 1 = 9 by decide)⟩) wm_1059 rfl rfl ⟨Nat.le_of_ble_eq_true rfl, Nat.le_of_ble_eq_true rfl⟩ rfl hl.1 rfl (Nat.le_of_ble_eq_true rfl) dL_law_1276 ?_
  exact r_icmp_eq Z 1494 dL_law_1279 (by decide) (fun _ => k M2 hI2) (fun hq => absurd rfl hq)
theorem lc_34 {ad : Nat → Nat} {X : Cx} {M : Mm} {ls : Array Slot} {b L : Nat} {xs : Nat → Int32} {i : Nat} (Z : Zk ad X cL_law RL 4 (some .boolean) room_1) (hX : Lx b L xs X) (hin : ∀ j : Nat, j < 6 → vp_in (nI i + nI j) L) (hl : lv_has ls 4 [(0, .ref b), (1, .ref (ad 0)), (2, .ref (ad 1)), (3, .int (nI i))]) (hI : Inv M) (k : ∀ M1, Inv M1 → G ad X M1 1494 ls []) : G ad X M 1284 ls [] := by
  refine r_aload_n Z dL_law_1284 rfl (lv_at hl 1 rfl) ?_
  refine r_aload_n Z dL_law_1285 rfl (lv_at hl 0 rfl) ?_
  refine r_iload_n Z dL_law_1286 rfl (lv_at hl 3 rfl) ?_
  refine r_iconst (v := 1) Z dL_law_1287 rfl ?_
  refine r_iadd Z dL_law_1288 ?_
  refine r_sld Z hX (hin 1 (by omega)) dL_law_1289 ?_
  refine r_aload_n Z dL_law_1290 rfl (lv_at hl 0 rfl) ?_
  refine r_iload_n Z dL_law_1291 rfl (lv_at hl 3 rfl) ?_
  refine r_iconst (v := 2) Z dL_law_1292 rfl ?_
  refine r_iadd Z dL_law_1293 ?_
  refine r_sld Z hX (hin 2 (by omega)) dL_law_1294 ?_
  refine r_aload_n Z dL_law_1295 rfl (lv_at hl 0 rfl) ?_
  refine r_iload_n Z dL_law_1296 rfl (lv_at hl 3 rfl) ?_
  refine r_iconst (v := 3) Z dL_law_1297 rfl ?_
  refine r_iadd Z dL_law_1298 ?_
  refine r_sld Z hX (hin 3 (by omega)) dL_law_1299 ?_
  refine r_aload_n Z dL_law_1300 rfl (lv_at hl 0 rfl) ?_
  refine r_iload_n Z dL_law_1301 rfl (lv_at hl 3 rfl) ?_
  refine r_iconst (v := 4) Z dL_law_1302 rfl ?_
  refine r_iadd Z dL_law_1303 ?_
  refine r_sld Z hX (hin 4 (by omega)) dL_law_1304 ?_
  obtain ⟨r, M1, M2, f1, f2, hI2⟩ := al_waited (xs (nI i + 1).toNatClampNeg) (xs (nI i + 2).toNatClampNeg) (xs (nI i + 3).toNatClampNeg) (xs (nI i + 4).toNatClampNeg) M hI
  refine r_invVi [] Z (c_X8_waited (o := 0) (show shp 0 = 8 by decide) f1) cv_X8_waited rfl (by decide) (fun _ _ => ⟨_, ce_8 (show shp 0 = 8 by decide)⟩) wm_1062 rfl rfl ⟨Nat.le_of_ble_eq_true rfl, Nat.le_of_ble_eq_true rfl⟩ rfl hl.1 rfl (Nat.le_of_ble_eq_true rfl) dL_law_1305 ?_
  refine r_aload_n Z dL_law_1308 rfl (lv_at hl 2 rfl) ?_
  refine r_aload_n Z dL_law_1309 rfl (lv_at hl 0 rfl) ?_
  refine r_iload_n Z dL_law_1310 rfl (lv_at hl 3 rfl) ?_
  refine r_iconst (v := 1) Z dL_law_1311 rfl ?_
  refine r_iadd Z dL_law_1312 ?_
  refine r_sld Z hX (hin 1 (by omega)) dL_law_1313 ?_
  refine r_aload_n Z dL_law_1314 rfl (lv_at hl 0 rfl) ?_
  refine r_iload_n Z dL_law_1315 rfl (lv_at hl 3 rfl) ?_
  refine r_iconst (v := 2) Z dL_law_1316 rfl ?_
  refine r_iadd Z dL_law_1317 ?_
  refine r_sld Z hX (hin 2 (by omega)) dL_law_1318 ?_
  refine r_aload_n Z dL_law_1319 rfl (lv_at hl 0 rfl) ?_
  refine r_iload_n Z dL_law_1320 rfl (lv_at hl 3 rfl) ?_
  refine r_iconst (v := 3) Z dL_law_1321 rfl ?_
  refine r_iadd Z dL_law_1322 ?_
  refine r_sld Z hX (hin 3 (by omega)) dL_law_1323 ?_
  refine r_aload_n Z dL_law_1324 rfl (lv_at hl 0 rfl) ?_
  refine r_iload_n Z dL_law_1325 rfl (lv_at hl 3 rfl) ?_
  refine r_iconst (v := 4) Z dL_law_1326 rfl ?_
  refine r_iadd Z dL_law_1327 ?_
  refine r_sld Z hX (hin 4 (by omega)) dL_law_1328 ?_
  refine r_invVi [.int r] Z (c_X9_waited (o := 1) (show shp 1 = 9 by decide) f2) cv_X9_waited rfl (by decide) (fun _ _ => ⟨_, ce_9 (show shp 1 = 9 by decide)⟩) wm_1065 rfl rfl ⟨Nat.le_of_ble_eq_true rfl, Nat.le_of_ble_eq_true rfl⟩ rfl hl.1 rfl (Nat.le_of_ble_eq_true rfl) dL_law_1329 ?_
  exact r_icmp_eq Z 1494 dL_law_1332 (by decide) (fun _ => k M2 hI2) (fun hq => absurd rfl hq)
theorem lc_35 {ad : Nat → Nat} {X : Cx} {M : Mm} {ls : Array Slot} {b L : Nat} {xs : Nat → Int32} {i : Nat} (Z : Zk ad X cL_law RL 4 (some .boolean) room_1) (hX : Lx b L xs X) (hin : ∀ j : Nat, j < 6 → vp_in (nI i + nI j) L) (hl : lv_has ls 4 [(0, .ref b), (1, .ref (ad 0)), (2, .ref (ad 1)), (3, .int (nI i))]) (hI : Inv M) (k : ∀ M1, Inv M1 → G ad X M1 1494 ls []) : G ad X M 1337 ls [] := by
  refine r_aload_n Z dL_law_1337 rfl (lv_at hl 1 rfl) ?_
  refine r_aload_n Z dL_law_1338 rfl (lv_at hl 0 rfl) ?_
  refine r_iload_n Z dL_law_1339 rfl (lv_at hl 3 rfl) ?_
  refine r_iconst (v := 1) Z dL_law_1340 rfl ?_
  refine r_iadd Z dL_law_1341 ?_
  refine r_sld Z hX (hin 1 (by omega)) dL_law_1342 ?_
  refine r_aload_n Z dL_law_1343 rfl (lv_at hl 0 rfl) ?_
  refine r_iload_n Z dL_law_1344 rfl (lv_at hl 3 rfl) ?_
  refine r_iconst (v := 2) Z dL_law_1345 rfl ?_
  refine r_iadd Z dL_law_1346 ?_
  refine r_sld Z hX (hin 2 (by omega)) dL_law_1347 ?_
  refine r_aload_n Z dL_law_1348 rfl (lv_at hl 0 rfl) ?_
  refine r_iload_n Z dL_law_1349 rfl (lv_at hl 3 rfl) ?_
  refine r_iconst (v := 3) Z dL_law_1350 rfl ?_
  refine r_iadd Z dL_law_1351 ?_
  refine r_sld Z hX (hin 3 (by omega)) dL_law_1352 ?_
  obtain ⟨r, M1, M2, f1, f2, hI2⟩ := al_seen (xs (nI i + 1).toNatClampNeg) (xs (nI i + 2).toNatClampNeg) (xs (nI i + 3).toNatClampNeg) M hI
  refine r_invVi [] Z (c_X8_seen (o := 0) (show shp 0 = 8 by decide) f1) cv_X8_seen rfl (by decide) (fun _ _ => ⟨_, ce_8 (show shp 0 = 8 by decide)⟩) wm_1068 rfl rfl ⟨Nat.le_of_ble_eq_true rfl, Nat.le_of_ble_eq_true rfl⟩ rfl hl.1 rfl (Nat.le_of_ble_eq_true rfl) dL_law_1353 ?_
  refine r_aload_n Z dL_law_1356 rfl (lv_at hl 2 rfl) ?_
  refine r_aload_n Z dL_law_1357 rfl (lv_at hl 0 rfl) ?_
  refine r_iload_n Z dL_law_1358 rfl (lv_at hl 3 rfl) ?_
  refine r_iconst (v := 1) Z dL_law_1359 rfl ?_
  refine r_iadd Z dL_law_1360 ?_
  refine r_sld Z hX (hin 1 (by omega)) dL_law_1361 ?_
  refine r_aload_n Z dL_law_1362 rfl (lv_at hl 0 rfl) ?_
  refine r_iload_n Z dL_law_1363 rfl (lv_at hl 3 rfl) ?_
  refine r_iconst (v := 2) Z dL_law_1364 rfl ?_
  refine r_iadd Z dL_law_1365 ?_
  refine r_sld Z hX (hin 2 (by omega)) dL_law_1366 ?_
  refine r_aload_n Z dL_law_1367 rfl (lv_at hl 0 rfl) ?_
  refine r_iload_n Z dL_law_1368 rfl (lv_at hl 3 rfl) ?_
  refine r_iconst (v := 3) Z dL_law_1369 rfl ?_
  refine r_iadd Z dL_law_1370 ?_
  refine r_sld Z hX (hin 3 (by omega)) dL_law_1371 ?_
  refine r_invVi [.int r] Z (c_X9_seen (o := 1) (show shp 1 = 9 by decide) f2) cv_X9_seen rfl (by decide) (fun _ _ => ⟨_, ce_9 (show shp 1 = 9 by decide)⟩) wm_1071 rfl rfl ⟨Nat.le_of_ble_eq_true rfl, Nat.le_of_ble_eq_true rfl⟩ rfl hl.1 rfl (Nat.le_of_ble_eq_true rfl) dL_law_1372 ?_
  exact r_icmp_eq Z 1494 dL_law_1375 (by decide) (fun _ => k M2 hI2) (fun hq => absurd rfl hq)
theorem lc_36 {ad : Nat → Nat} {X : Cx} {M : Mm} {ls : Array Slot} {b L : Nat} {xs : Nat → Int32} {i : Nat} (Z : Zk ad X cL_law RL 4 (some .boolean) room_1) (hX : Lx b L xs X) (hin : ∀ j : Nat, j < 6 → vp_in (nI i + nI j) L) (hl : lv_has ls 4 [(0, .ref b), (1, .ref (ad 0)), (2, .ref (ad 1)), (3, .int (nI i))]) (hI : Inv M) (k : ∀ M1, Inv M1 → G ad X M1 1494 ls []) : G ad X M 1380 ls [] := by
  refine r_aload_n Z dL_law_1380 rfl (lv_at hl 1 rfl) ?_
  obtain ⟨r, M1, M2, f1, f2, hI2⟩ := al_asked M hI
  refine r_invVi [] Z (c_X8_asked (o := 0) (show shp 0 = 8 by decide) f1) cv_X8_asked rfl (by decide) (fun _ _ => ⟨_, ce_8 (show shp 0 = 8 by decide)⟩) wm_1074 rfl rfl ⟨Nat.le_of_ble_eq_true rfl, Nat.le_of_ble_eq_true rfl⟩ rfl hl.1 rfl (Nat.le_of_ble_eq_true rfl) dL_law_1381 ?_
  refine r_aload_n Z dL_law_1384 rfl (lv_at hl 2 rfl) ?_
  refine r_invVi [.int r] Z (c_X9_asked (o := 1) (show shp 1 = 9 by decide) f2) cv_X9_asked rfl (by decide) (fun _ _ => ⟨_, ce_9 (show shp 1 = 9 by decide)⟩) wm_1077 rfl rfl ⟨Nat.le_of_ble_eq_true rfl, Nat.le_of_ble_eq_true rfl⟩ rfl hl.1 rfl (Nat.le_of_ble_eq_true rfl) dL_law_1385 ?_
  exact r_icmp_eq Z 1494 dL_law_1388 (by decide) (fun _ => k M2 hI2) (fun hq => absurd rfl hq)
theorem lc_37 {ad : Nat → Nat} {X : Cx} {M : Mm} {ls : Array Slot} {b L : Nat} {xs : Nat → Int32} {i : Nat} (Z : Zk ad X cL_law RL 4 (some .boolean) room_1) (hX : Lx b L xs X) (hin : ∀ j : Nat, j < 6 → vp_in (nI i + nI j) L) (hl : lv_has ls 4 [(0, .ref b), (1, .ref (ad 0)), (2, .ref (ad 1)), (3, .int (nI i))]) (hI : Inv M) (k : ∀ M1, Inv M1 → G ad X M1 1494 ls []) : G ad X M 1393 ls [] := by
  refine r_aload_n Z dL_law_1393 rfl (lv_at hl 1 rfl) ?_
  obtain ⟨r, M1, M2, f1, f2, hI2⟩ := al_upper M hI
  refine r_invVl [] Z (c_X8_upper (o := 0) (show shp 0 = 8 by decide) f1) cv_X8_upper rfl (by decide) (fun _ _ => ⟨_, ce_8 (show shp 0 = 8 by decide)⟩) wm_1080 rfl rfl ⟨Nat.le_of_ble_eq_true rfl, Nat.le_of_ble_eq_true rfl⟩ rfl hl.1 rfl (Nat.le_of_ble_eq_true rfl) dL_law_1394 ?_
  refine r_aload_n Z dL_law_1397 rfl (lv_at hl 2 rfl) ?_
  refine r_invVl [.long r] Z (c_X9_upper (o := 1) (show shp 1 = 9 by decide) f2) cv_X9_upper rfl (by decide) (fun _ _ => ⟨_, ce_9 (show shp 1 = 9 by decide)⟩) wm_1083 rfl rfl ⟨Nat.le_of_ble_eq_true rfl, Nat.le_of_ble_eq_true rfl⟩ rfl hl.1 rfl (Nat.le_of_ble_eq_true rfl) dL_law_1398 ?_
  refine r_lcmp Z dL_law_1401 ?_
  exact r_if_eq Z 1494 dL_law_1402 (by decide) (fun _ => k M2 hI2) (fun hq => absurd ((lg_cmp_eq r r).mpr rfl) hq)
theorem lc_38 {ad : Nat → Nat} {X : Cx} {M : Mm} {ls : Array Slot} {b L : Nat} {xs : Nat → Int32} {i : Nat} (Z : Zk ad X cL_law RL 4 (some .boolean) room_1) (hX : Lx b L xs X) (hin : ∀ j : Nat, j < 6 → vp_in (nI i + nI j) L) (hl : lv_has ls 4 [(0, .ref b), (1, .ref (ad 0)), (2, .ref (ad 1)), (3, .int (nI i))]) (hI : Inv M) (k : ∀ M1, Inv M1 → G ad X M1 1494 ls []) : G ad X M 1407 ls [] := by
  refine r_aload_n Z dL_law_1407 rfl (lv_at hl 1 rfl) ?_
  obtain ⟨r, M1, M2, f1, f2, hI2⟩ := al_lower M hI
  refine r_invVl [] Z (c_X8_lower (o := 0) (show shp 0 = 8 by decide) f1) cv_X8_lower rfl (by decide) (fun _ _ => ⟨_, ce_8 (show shp 0 = 8 by decide)⟩) wm_1086 rfl rfl ⟨Nat.le_of_ble_eq_true rfl, Nat.le_of_ble_eq_true rfl⟩ rfl hl.1 rfl (Nat.le_of_ble_eq_true rfl) dL_law_1408 ?_
  refine r_aload_n Z dL_law_1411 rfl (lv_at hl 2 rfl) ?_
  refine r_invVl [.long r] Z (c_X9_lower (o := 1) (show shp 1 = 9 by decide) f2) cv_X9_lower rfl (by decide) (fun _ _ => ⟨_, ce_9 (show shp 1 = 9 by decide)⟩) wm_1089 rfl rfl ⟨Nat.le_of_ble_eq_true rfl, Nat.le_of_ble_eq_true rfl⟩ rfl hl.1 rfl (Nat.le_of_ble_eq_true rfl) dL_law_1412 ?_
  refine r_lcmp Z dL_law_1415 ?_
  exact r_if_eq Z 1494 dL_law_1416 (by decide) (fun _ => k M2 hI2) (fun hq => absurd ((lg_cmp_eq r r).mpr rfl) hq)
theorem lc_39 {ad : Nat → Nat} {X : Cx} {M : Mm} {ls : Array Slot} {b L : Nat} {xs : Nat → Int32} {i : Nat} (Z : Zk ad X cL_law RL 4 (some .boolean) room_1) (hX : Lx b L xs X) (hin : ∀ j : Nat, j < 6 → vp_in (nI i + nI j) L) (hl : lv_has ls 4 [(0, .ref b), (1, .ref (ad 0)), (2, .ref (ad 1)), (3, .int (nI i))]) (hI : Inv M) (k : ∀ M1, Inv M1 → G ad X M1 1494 ls []) : G ad X M 1421 ls [] := by
  refine r_aload_n Z dL_law_1421 rfl (lv_at hl 1 rfl) ?_
  refine r_aload_n Z dL_law_1422 rfl (lv_at hl 0 rfl) ?_
  refine r_iload_n Z dL_law_1423 rfl (lv_at hl 3 rfl) ?_
  refine r_iconst (v := 1) Z dL_law_1424 rfl ?_
  refine r_iadd Z dL_law_1425 ?_
  refine r_sld Z hX (hin 1 (by omega)) dL_law_1426 ?_
  obtain ⟨r, M1, M2, f1, f2, hI2⟩ := al_count (xs (nI i + 1).toNatClampNeg) M hI
  refine r_invVi [] Z (c_X8_count (o := 0) (show shp 0 = 8 by decide) f1) cv_X8_count rfl (by decide) (fun _ _ => ⟨_, ce_8 (show shp 0 = 8 by decide)⟩) wm_1092 rfl rfl ⟨Nat.le_of_ble_eq_true rfl, Nat.le_of_ble_eq_true rfl⟩ rfl hl.1 rfl (Nat.le_of_ble_eq_true rfl) dL_law_1427 ?_
  refine r_aload_n Z dL_law_1430 rfl (lv_at hl 2 rfl) ?_
  refine r_aload_n Z dL_law_1431 rfl (lv_at hl 0 rfl) ?_
  refine r_iload_n Z dL_law_1432 rfl (lv_at hl 3 rfl) ?_
  refine r_iconst (v := 1) Z dL_law_1433 rfl ?_
  refine r_iadd Z dL_law_1434 ?_
  refine r_sld Z hX (hin 1 (by omega)) dL_law_1435 ?_
  refine r_invVi [.int r] Z (c_X9_count (o := 1) (show shp 1 = 9 by decide) f2) cv_X9_count rfl (by decide) (fun _ _ => ⟨_, ce_9 (show shp 1 = 9 by decide)⟩) wm_1095 rfl rfl ⟨Nat.le_of_ble_eq_true rfl, Nat.le_of_ble_eq_true rfl⟩ rfl hl.1 rfl (Nat.le_of_ble_eq_true rfl) dL_law_1436 ?_
  exact r_icmp_eq Z 1494 dL_law_1439 (by decide) (fun _ => k M2 hI2) (fun hq => absurd rfl hq)
theorem lc_40 {ad : Nat → Nat} {X : Cx} {M : Mm} {ls : Array Slot} {b L : Nat} {xs : Nat → Int32} {i : Nat} (Z : Zk ad X cL_law RL 4 (some .boolean) room_1) (hX : Lx b L xs X) (hin : ∀ j : Nat, j < 6 → vp_in (nI i + nI j) L) (hl : lv_has ls 4 [(0, .ref b), (1, .ref (ad 0)), (2, .ref (ad 1)), (3, .int (nI i))]) (hI : Inv M) (k : ∀ M1, Inv M1 → G ad X M1 1494 ls []) : G ad X M 1444 ls [] := by
  refine r_aload_n Z dL_law_1444 rfl (lv_at hl 1 rfl) ?_
  obtain ⟨r, M1, M2, f1, f2, hI2⟩ := al_finding M hI
  refine r_invVi [] Z (c_X8_finding (o := 0) (show shp 0 = 8 by decide) f1) cv_X8_finding rfl (by decide) (fun _ _ => ⟨_, ce_8 (show shp 0 = 8 by decide)⟩) wm_1098 rfl rfl ⟨Nat.le_of_ble_eq_true rfl, Nat.le_of_ble_eq_true rfl⟩ rfl hl.1 rfl (Nat.le_of_ble_eq_true rfl) dL_law_1445 ?_
  refine r_aload_n Z dL_law_1448 rfl (lv_at hl 2 rfl) ?_
  refine r_invVi [.int r] Z (c_X9_finding (o := 1) (show shp 1 = 9 by decide) f2) cv_X9_finding rfl (by decide) (fun _ _ => ⟨_, ce_9 (show shp 1 = 9 by decide)⟩) wm_1101 rfl rfl ⟨Nat.le_of_ble_eq_true rfl, Nat.le_of_ble_eq_true rfl⟩ rfl hl.1 rfl (Nat.le_of_ble_eq_true rfl) dL_law_1449 ?_
  exact r_icmp_eq Z 1494 dL_law_1452 (by decide) (fun _ => k M2 hI2) (fun hq => absurd rfl hq)
theorem lc_41 {ad : Nat → Nat} {X : Cx} {M : Mm} {ls : Array Slot} {b L : Nat} {xs : Nat → Int32} {i : Nat} (Z : Zk ad X cL_law RL 4 (some .boolean) room_1) (hX : Lx b L xs X) (hin : ∀ j : Nat, j < 6 → vp_in (nI i + nI j) L) (hl : lv_has ls 4 [(0, .ref b), (1, .ref (ad 0)), (2, .ref (ad 1)), (3, .int (nI i))]) (hI : Inv M) (k : ∀ M1, Inv M1 → G ad X M1 1494 ls []) : G ad X M 1457 ls [] := by
  refine r_aload_n Z dL_law_1457 rfl (lv_at hl 1 rfl) ?_
  refine r_aload_n Z dL_law_1458 rfl (lv_at hl 0 rfl) ?_
  refine r_iload_n Z dL_law_1459 rfl (lv_at hl 3 rfl) ?_
  refine r_iconst (v := 1) Z dL_law_1460 rfl ?_
  refine r_iadd Z dL_law_1461 ?_
  refine r_sld Z hX (hin 1 (by omega)) dL_law_1462 ?_
  obtain ⟨r, M1, M2, f1, f2, hI2⟩ := al_findings (xs (nI i + 1).toNatClampNeg) M hI
  refine r_invVi [] Z (c_X8_findings (o := 0) (show shp 0 = 8 by decide) f1) cv_X8_findings rfl (by decide) (fun _ _ => ⟨_, ce_8 (show shp 0 = 8 by decide)⟩) wm_1104 rfl rfl ⟨Nat.le_of_ble_eq_true rfl, Nat.le_of_ble_eq_true rfl⟩ rfl hl.1 rfl (Nat.le_of_ble_eq_true rfl) dL_law_1463 ?_
  refine r_aload_n Z dL_law_1466 rfl (lv_at hl 2 rfl) ?_
  refine r_aload_n Z dL_law_1467 rfl (lv_at hl 0 rfl) ?_
  refine r_iload_n Z dL_law_1468 rfl (lv_at hl 3 rfl) ?_
  refine r_iconst (v := 1) Z dL_law_1469 rfl ?_
  refine r_iadd Z dL_law_1470 ?_
  refine r_sld Z hX (hin 1 (by omega)) dL_law_1471 ?_
  refine r_invVi [.int r] Z (c_X9_findings (o := 1) (show shp 1 = 9 by decide) f2) cv_X9_findings rfl (by decide) (fun _ _ => ⟨_, ce_9 (show shp 1 = 9 by decide)⟩) wm_1107 rfl rfl ⟨Nat.le_of_ble_eq_true rfl, Nat.le_of_ble_eq_true rfl⟩ rfl hl.1 rfl (Nat.le_of_ble_eq_true rfl) dL_law_1472 ?_
  exact r_icmp_eq Z 1494 dL_law_1475 (by decide) (fun _ => k M2 hI2) (fun hq => absurd rfl hq)
theorem lc_42 {ad : Nat → Nat} {X : Cx} {M : Mm} {ls : Array Slot} {b L : Nat} {xs : Nat → Int32} {i : Nat} (Z : Zk ad X cL_law RL 4 (some .boolean) room_1) (hX : Lx b L xs X) (hin : ∀ j : Nat, j < 6 → vp_in (nI i + nI j) L) (hl : lv_has ls 4 [(0, .ref b), (1, .ref (ad 0)), (2, .ref (ad 1)), (3, .int (nI i))]) (hI : Inv M) (k : ∀ M1, Inv M1 → G ad X M1 1494 ls []) : G ad X M 1480 ls [] := by
  refine r_aload_n Z dL_law_1480 rfl (lv_at hl 1 rfl) ?_
  obtain ⟨r, M1, M2, f1, f2, hI2⟩ := al_digest M hI
  refine r_invVl [] Z (c_X8_digest (o := 0) (show shp 0 = 8 by decide) f1) cv_X8_digest rfl (by decide) (fun _ _ => ⟨_, ce_8 (show shp 0 = 8 by decide)⟩) wm_1110 rfl rfl ⟨Nat.le_of_ble_eq_true rfl, Nat.le_of_ble_eq_true rfl⟩ rfl hl.1 rfl (Nat.le_of_ble_eq_true rfl) dL_law_1481 ?_
  refine r_aload_n Z dL_law_1484 rfl (lv_at hl 2 rfl) ?_
  refine r_invVl [.long r] Z (c_X9_digest (o := 1) (show shp 1 = 9 by decide) f2) cv_X9_digest rfl (by decide) (fun _ _ => ⟨_, ce_9 (show shp 1 = 9 by decide)⟩) wm_1113 rfl rfl ⟨Nat.le_of_ble_eq_true rfl, Nat.le_of_ble_eq_true rfl⟩ rfl hl.1 rfl (Nat.le_of_ble_eq_true rfl) dL_law_1485 ?_
  refine r_lcmp Z dL_law_1488 ?_
  exact r_if_eq Z 1494 dL_law_1489 (by decide) (fun _ => k M2 hI2) (fun hq => absurd ((lg_cmp_eq r r).mpr rfl) hq)

/-! the cases of the law -/
theorem lc_0 {ad : Nat → Nat} {X : Cx} {M : Mm} {ls : Array Slot} {b L : Nat} {xs : Nat → Int32} {i : Nat} (Z : Zk ad X cL_law RL 4 (some .boolean) room_1) (hX : Lx b L xs X) (hin : ∀ j : Nat, j < 6 → vp_in (nI i + nI j) L) (hl : lv_has ls 4 [(0, .ref b), (1, .ref (ad 0)), (2, .ref (ad 1)), (3, .int (nI i))]) (hI : Inv M) (k : ∀ M1, Inv M1 → G ad X M1 1494 ls []) : G ad X M 220 ls [] := by
  refine r_aload_n Z dL_law_220 rfl (lv_at hl 1 rfl) ?_
  refine r_aload_n Z dL_law_221 rfl (lv_at hl 0 rfl) ?_
  refine r_iload_n Z dL_law_222 rfl (lv_at hl 3 rfl) ?_
  refine r_iconst (v := 1) Z dL_law_223 rfl ?_
  refine r_iadd Z dL_law_224 ?_
  refine r_sld Z hX (hin 1 (by omega)) dL_law_225 ?_
  refine r_aload_n Z dL_law_226 rfl (lv_at hl 0 rfl) ?_
  refine r_iload_n Z dL_law_227 rfl (lv_at hl 3 rfl) ?_
  refine r_iconst (v := 2) Z dL_law_228 rfl ?_
  refine r_iadd Z dL_law_229 ?_
  refine r_sld Z hX (hin 2 (by omega)) dL_law_230 ?_
  obtain ⟨r, M1, M2, f1, f2, hI2⟩ := al_row (xs (nI i + 1).toNatClampNeg) (xs (nI i + 2).toNatClampNeg) M hI
  refine r_invVi [] Z (c_X8_row (o := 0) (show shp 0 = 8 by decide) f1) cv_X8_row rfl (by decide) (fun _ _ => ⟨_, ce_8 (show shp 0 = 8 by decide)⟩) wm_858 rfl rfl ⟨Nat.le_of_ble_eq_true rfl, Nat.le_of_ble_eq_true rfl⟩ rfl hl.1 rfl (Nat.le_of_ble_eq_true rfl) dL_law_231 ?_
  refine r_aload_n Z dL_law_234 rfl (lv_at hl 2 rfl) ?_
  refine r_aload_n Z dL_law_235 rfl (lv_at hl 0 rfl) ?_
  refine r_iload_n Z dL_law_236 rfl (lv_at hl 3 rfl) ?_
  refine r_iconst (v := 1) Z dL_law_237 rfl ?_
  refine r_iadd Z dL_law_238 ?_
  refine r_sld Z hX (hin 1 (by omega)) dL_law_239 ?_
  refine r_aload_n Z dL_law_240 rfl (lv_at hl 0 rfl) ?_
  refine r_iload_n Z dL_law_241 rfl (lv_at hl 3 rfl) ?_
  refine r_iconst (v := 2) Z dL_law_242 rfl ?_
  refine r_iadd Z dL_law_243 ?_
  refine r_sld Z hX (hin 2 (by omega)) dL_law_244 ?_
  refine r_invVi [.int r] Z (c_X9_row (o := 1) (show shp 1 = 9 by decide) f2) cv_X9_row rfl (by decide) (fun _ _ => ⟨_, ce_9 (show shp 1 = 9 by decide)⟩) wm_861 rfl rfl ⟨Nat.le_of_ble_eq_true rfl, Nat.le_of_ble_eq_true rfl⟩ rfl hl.1 rfl (Nat.le_of_ble_eq_true rfl) dL_law_245 ?_
  exact r_icmp_eq Z 1494 dL_law_248 (by decide) (fun _ => k M2 hI2) (fun hq => absurd rfl hq)
theorem lc_1 {ad : Nat → Nat} {X : Cx} {M : Mm} {ls : Array Slot} {b L : Nat} {xs : Nat → Int32} {i : Nat} (Z : Zk ad X cL_law RL 4 (some .boolean) room_1) (hX : Lx b L xs X) (hin : ∀ j : Nat, j < 6 → vp_in (nI i + nI j) L) (hl : lv_has ls 4 [(0, .ref b), (1, .ref (ad 0)), (2, .ref (ad 1)), (3, .int (nI i))]) (hI : Inv M) (k : ∀ M1, Inv M1 → G ad X M1 1494 ls []) : G ad X M 253 ls [] := by
  refine r_aload_n Z dL_law_253 rfl (lv_at hl 1 rfl) ?_
  refine r_aload_n Z dL_law_254 rfl (lv_at hl 0 rfl) ?_
  refine r_iload_n Z dL_law_255 rfl (lv_at hl 3 rfl) ?_
  refine r_iconst (v := 1) Z dL_law_256 rfl ?_
  refine r_iadd Z dL_law_257 ?_
  refine r_sld Z hX (hin 1 (by omega)) dL_law_258 ?_
  refine r_aload_n Z dL_law_259 rfl (lv_at hl 0 rfl) ?_
  refine r_iload_n Z dL_law_260 rfl (lv_at hl 3 rfl) ?_
  refine r_iconst (v := 2) Z dL_law_261 rfl ?_
  refine r_iadd Z dL_law_262 ?_
  refine r_sld Z hX (hin 2 (by omega)) dL_law_263 ?_
  refine r_aload_n Z dL_law_264 rfl (lv_at hl 0 rfl) ?_
  refine r_iload_n Z dL_law_265 rfl (lv_at hl 3 rfl) ?_
  refine r_iconst (v := 3) Z dL_law_266 rfl ?_
  refine r_iadd Z dL_law_267 ?_
  refine r_sld Z hX (hin 3 (by omega)) dL_law_268 ?_
  obtain ⟨r, M1, M2, f1, f2, hI2⟩ := al_lay (xs (nI i + 1).toNatClampNeg) (xs (nI i + 2).toNatClampNeg) (xs (nI i + 3).toNatClampNeg) M hI
  refine r_invVi [] Z (c_X8_lay (o := 0) (show shp 0 = 8 by decide) f1) cv_X8_lay rfl (by decide) (fun _ _ => ⟨_, ce_8 (show shp 0 = 8 by decide)⟩) wm_864 rfl rfl ⟨Nat.le_of_ble_eq_true rfl, Nat.le_of_ble_eq_true rfl⟩ rfl hl.1 rfl (Nat.le_of_ble_eq_true rfl) dL_law_269 ?_
  refine r_aload_n Z dL_law_272 rfl (lv_at hl 2 rfl) ?_
  refine r_aload_n Z dL_law_273 rfl (lv_at hl 0 rfl) ?_
  refine r_iload_n Z dL_law_274 rfl (lv_at hl 3 rfl) ?_
  refine r_iconst (v := 1) Z dL_law_275 rfl ?_
  refine r_iadd Z dL_law_276 ?_
  refine r_sld Z hX (hin 1 (by omega)) dL_law_277 ?_
  refine r_aload_n Z dL_law_278 rfl (lv_at hl 0 rfl) ?_
  refine r_iload_n Z dL_law_279 rfl (lv_at hl 3 rfl) ?_
  refine r_iconst (v := 2) Z dL_law_280 rfl ?_
  refine r_iadd Z dL_law_281 ?_
  refine r_sld Z hX (hin 2 (by omega)) dL_law_282 ?_
  refine r_aload_n Z dL_law_283 rfl (lv_at hl 0 rfl) ?_
  refine r_iload_n Z dL_law_284 rfl (lv_at hl 3 rfl) ?_
  refine r_iconst (v := 3) Z dL_law_285 rfl ?_
  refine r_iadd Z dL_law_286 ?_
  refine r_sld Z hX (hin 3 (by omega)) dL_law_287 ?_
  refine r_invVi [.int r] Z (c_X9_lay (o := 1) (show shp 1 = 9 by decide) f2) cv_X9_lay rfl (by decide) (fun _ _ => ⟨_, ce_9 (show shp 1 = 9 by decide)⟩) wm_867 rfl rfl ⟨Nat.le_of_ble_eq_true rfl, Nat.le_of_ble_eq_true rfl⟩ rfl hl.1 rfl (Nat.le_of_ble_eq_true rfl) dL_law_288 ?_
  exact r_icmp_eq Z 1494 dL_law_291 (by decide) (fun _ => k M2 hI2) (fun hq => absurd rfl hq)
theorem lc_2 {ad : Nat → Nat} {X : Cx} {M : Mm} {ls : Array Slot} {b L : Nat} {xs : Nat → Int32} {i : Nat} (Z : Zk ad X cL_law RL 4 (some .boolean) room_1) (hX : Lx b L xs X) (hin : ∀ j : Nat, j < 6 → vp_in (nI i + nI j) L) (hl : lv_has ls 4 [(0, .ref b), (1, .ref (ad 0)), (2, .ref (ad 1)), (3, .int (nI i))]) (hI : Inv M) (k : ∀ M1, Inv M1 → G ad X M1 1494 ls []) : G ad X M 296 ls [] := by
  refine r_aload_n Z dL_law_296 rfl (lv_at hl 1 rfl) ?_
  refine r_aload_n Z dL_law_297 rfl (lv_at hl 0 rfl) ?_
  refine r_iload_n Z dL_law_298 rfl (lv_at hl 3 rfl) ?_
  refine r_iconst (v := 1) Z dL_law_299 rfl ?_
  refine r_iadd Z dL_law_300 ?_
  refine r_sld Z hX (hin 1 (by omega)) dL_law_301 ?_
  obtain ⟨r, M1, M2, f1, f2, hI2⟩ := al_tear (xs (nI i + 1).toNatClampNeg) M hI
  refine r_invVi [] Z (c_X8_tear (o := 0) (show shp 0 = 8 by decide) f1) cv_X8_tear rfl (by decide) (fun _ _ => ⟨_, ce_8 (show shp 0 = 8 by decide)⟩) wm_870 rfl rfl ⟨Nat.le_of_ble_eq_true rfl, Nat.le_of_ble_eq_true rfl⟩ rfl hl.1 rfl (Nat.le_of_ble_eq_true rfl) dL_law_302 ?_
  refine r_aload_n Z dL_law_305 rfl (lv_at hl 2 rfl) ?_
  refine r_aload_n Z dL_law_306 rfl (lv_at hl 0 rfl) ?_
  refine r_iload_n Z dL_law_307 rfl (lv_at hl 3 rfl) ?_
  refine r_iconst (v := 1) Z dL_law_308 rfl ?_
  refine r_iadd Z dL_law_309 ?_
  refine r_sld Z hX (hin 1 (by omega)) dL_law_310 ?_
  refine r_invVi [.int r] Z (c_X9_tear (o := 1) (show shp 1 = 9 by decide) f2) cv_X9_tear rfl (by decide) (fun _ _ => ⟨_, ce_9 (show shp 1 = 9 by decide)⟩) wm_873 rfl rfl ⟨Nat.le_of_ble_eq_true rfl, Nat.le_of_ble_eq_true rfl⟩ rfl hl.1 rfl (Nat.le_of_ble_eq_true rfl) dL_law_311 ?_
  exact r_icmp_eq Z 1494 dL_law_314 (by decide) (fun _ => k M2 hI2) (fun hq => absurd rfl hq)
theorem lc_3 {ad : Nat → Nat} {X : Cx} {M : Mm} {ls : Array Slot} {b L : Nat} {xs : Nat → Int32} {i : Nat} (Z : Zk ad X cL_law RL 4 (some .boolean) room_1) (hX : Lx b L xs X) (hin : ∀ j : Nat, j < 6 → vp_in (nI i + nI j) L) (hl : lv_has ls 4 [(0, .ref b), (1, .ref (ad 0)), (2, .ref (ad 1)), (3, .int (nI i))]) (hI : Inv M) (k : ∀ M1, Inv M1 → G ad X M1 1494 ls []) : G ad X M 319 ls [] := by
  refine r_aload_n Z dL_law_319 rfl (lv_at hl 1 rfl) ?_
  refine r_aload_n Z dL_law_320 rfl (lv_at hl 0 rfl) ?_
  refine r_iload_n Z dL_law_321 rfl (lv_at hl 3 rfl) ?_
  refine r_iconst (v := 1) Z dL_law_322 rfl ?_
  refine r_iadd Z dL_law_323 ?_
  refine r_sld Z hX (hin 1 (by omega)) dL_law_324 ?_
  refine r_aload_n Z dL_law_325 rfl (lv_at hl 0 rfl) ?_
  refine r_iload_n Z dL_law_326 rfl (lv_at hl 3 rfl) ?_
  refine r_iconst (v := 2) Z dL_law_327 rfl ?_
  refine r_iadd Z dL_law_328 ?_
  refine r_sld Z hX (hin 2 (by omega)) dL_law_329 ?_
  refine r_aload_n Z dL_law_330 rfl (lv_at hl 0 rfl) ?_
  refine r_iload_n Z dL_law_331 rfl (lv_at hl 3 rfl) ?_
  refine r_iconst (v := 3) Z dL_law_332 rfl ?_
  refine r_iadd Z dL_law_333 ?_
  refine r_sld Z hX (hin 3 (by omega)) dL_law_334 ?_
  refine r_aload_n Z dL_law_335 rfl (lv_at hl 0 rfl) ?_
  refine r_iload_n Z dL_law_336 rfl (lv_at hl 3 rfl) ?_
  refine r_iconst (v := 4) Z dL_law_337 rfl ?_
  refine r_iadd Z dL_law_338 ?_
  refine r_sld Z hX (hin 4 (by omega)) dL_law_339 ?_
  refine r_aload_n Z dL_law_340 rfl (lv_at hl 0 rfl) ?_
  refine r_iload_n Z dL_law_341 rfl (lv_at hl 3 rfl) ?_
  refine r_iconst (v := 5) Z dL_law_342 rfl ?_
  refine r_iadd Z dL_law_343 ?_
  refine r_sld Z hX (hin 5 (by omega)) dL_law_344 ?_
  obtain ⟨r, M1, M2, f1, f2, hI2⟩ := al_copy (xs (nI i + 1).toNatClampNeg) (xs (nI i + 2).toNatClampNeg) (xs (nI i + 3).toNatClampNeg) (xs (nI i + 4).toNatClampNeg) (xs (nI i + 5).toNatClampNeg) M hI
  refine r_invVi [] Z (c_X8_copy (o := 0) (show shp 0 = 8 by decide) f1) cv_X8_copy rfl (by decide) (fun _ _ => ⟨_, ce_8 (show shp 0 = 8 by decide)⟩) wm_876 rfl rfl ⟨Nat.le_of_ble_eq_true rfl, Nat.le_of_ble_eq_true rfl⟩ rfl hl.1 rfl (Nat.le_of_ble_eq_true rfl) dL_law_345 ?_
  refine r_aload_n Z dL_law_348 rfl (lv_at hl 2 rfl) ?_
  refine r_aload_n Z dL_law_349 rfl (lv_at hl 0 rfl) ?_
  refine r_iload_n Z dL_law_350 rfl (lv_at hl 3 rfl) ?_
  refine r_iconst (v := 1) Z dL_law_351 rfl ?_
  refine r_iadd Z dL_law_352 ?_
  refine r_sld Z hX (hin 1 (by omega)) dL_law_353 ?_
  refine r_aload_n Z dL_law_354 rfl (lv_at hl 0 rfl) ?_
  refine r_iload_n Z dL_law_355 rfl (lv_at hl 3 rfl) ?_
  refine r_iconst (v := 2) Z dL_law_356 rfl ?_
  refine r_iadd Z dL_law_357 ?_
  refine r_sld Z hX (hin 2 (by omega)) dL_law_358 ?_
  refine r_aload_n Z dL_law_359 rfl (lv_at hl 0 rfl) ?_
  refine r_iload_n Z dL_law_360 rfl (lv_at hl 3 rfl) ?_
  refine r_iconst (v := 3) Z dL_law_361 rfl ?_
  refine r_iadd Z dL_law_362 ?_
  refine r_sld Z hX (hin 3 (by omega)) dL_law_363 ?_
  refine r_aload_n Z dL_law_364 rfl (lv_at hl 0 rfl) ?_
  refine r_iload_n Z dL_law_365 rfl (lv_at hl 3 rfl) ?_
  refine r_iconst (v := 4) Z dL_law_366 rfl ?_
  refine r_iadd Z dL_law_367 ?_
  refine r_sld Z hX (hin 4 (by omega)) dL_law_368 ?_
  refine r_aload_n Z dL_law_369 rfl (lv_at hl 0 rfl) ?_
  refine r_iload_n Z dL_law_370 rfl (lv_at hl 3 rfl) ?_
  refine r_iconst (v := 5) Z dL_law_371 rfl ?_
  refine r_iadd Z dL_law_372 ?_
  refine r_sld Z hX (hin 5 (by omega)) dL_law_373 ?_
  refine r_invVi [.int r] Z (c_X9_copy (o := 1) (show shp 1 = 9 by decide) f2) cv_X9_copy rfl (by decide) (fun _ _ => ⟨_, ce_9 (show shp 1 = 9 by decide)⟩) wm_879 rfl rfl ⟨Nat.le_of_ble_eq_true rfl, Nat.le_of_ble_eq_true rfl⟩ rfl hl.1 rfl (Nat.le_of_ble_eq_true rfl) dL_law_374 ?_
  exact r_icmp_eq Z 1494 dL_law_377 (by decide) (fun _ => k M2 hI2) (fun hq => absurd rfl hq)
theorem lc_4 {ad : Nat → Nat} {X : Cx} {M : Mm} {ls : Array Slot} {b L : Nat} {xs : Nat → Int32} {i : Nat} (Z : Zk ad X cL_law RL 4 (some .boolean) room_1) (hX : Lx b L xs X) (hin : ∀ j : Nat, j < 6 → vp_in (nI i + nI j) L) (hl : lv_has ls 4 [(0, .ref b), (1, .ref (ad 0)), (2, .ref (ad 1)), (3, .int (nI i))]) (hI : Inv M) (k : ∀ M1, Inv M1 → G ad X M1 1494 ls []) : G ad X M 382 ls [] := by
  refine r_aload_n Z dL_law_382 rfl (lv_at hl 1 rfl) ?_
  refine r_aload_n Z dL_law_383 rfl (lv_at hl 0 rfl) ?_
  refine r_iload_n Z dL_law_384 rfl (lv_at hl 3 rfl) ?_
  refine r_iconst (v := 1) Z dL_law_385 rfl ?_
  refine r_iadd Z dL_law_386 ?_
  refine r_sld Z hX (hin 1 (by omega)) dL_law_387 ?_
  obtain ⟨r, M1, M2, f1, f2, hI2⟩ := al_average (xs (nI i + 1).toNatClampNeg) M hI
  refine r_invVi [] Z (c_X8_average (o := 0) (show shp 0 = 8 by decide) f1) cv_X8_average rfl (by decide) (fun _ _ => ⟨_, ce_8 (show shp 0 = 8 by decide)⟩) wm_882 rfl rfl ⟨Nat.le_of_ble_eq_true rfl, Nat.le_of_ble_eq_true rfl⟩ rfl hl.1 rfl (Nat.le_of_ble_eq_true rfl) dL_law_388 ?_
  refine r_aload_n Z dL_law_391 rfl (lv_at hl 2 rfl) ?_
  refine r_aload_n Z dL_law_392 rfl (lv_at hl 0 rfl) ?_
  refine r_iload_n Z dL_law_393 rfl (lv_at hl 3 rfl) ?_
  refine r_iconst (v := 1) Z dL_law_394 rfl ?_
  refine r_iadd Z dL_law_395 ?_
  refine r_sld Z hX (hin 1 (by omega)) dL_law_396 ?_
  refine r_invVi [.int r] Z (c_X9_average (o := 1) (show shp 1 = 9 by decide) f2) cv_X9_average rfl (by decide) (fun _ _ => ⟨_, ce_9 (show shp 1 = 9 by decide)⟩) wm_885 rfl rfl ⟨Nat.le_of_ble_eq_true rfl, Nat.le_of_ble_eq_true rfl⟩ rfl hl.1 rfl (Nat.le_of_ble_eq_true rfl) dL_law_397 ?_
  exact r_icmp_eq Z 1494 dL_law_400 (by decide) (fun _ => k M2 hI2) (fun hq => absurd rfl hq)
theorem lc_5 {ad : Nat → Nat} {X : Cx} {M : Mm} {ls : Array Slot} {b L : Nat} {xs : Nat → Int32} {i : Nat} (Z : Zk ad X cL_law RL 4 (some .boolean) room_1) (hX : Lx b L xs X) (hin : ∀ j : Nat, j < 6 → vp_in (nI i + nI j) L) (hl : lv_has ls 4 [(0, .ref b), (1, .ref (ad 0)), (2, .ref (ad 1)), (3, .int (nI i))]) (hI : Inv M) (k : ∀ M1, Inv M1 → G ad X M1 1494 ls []) : G ad X M 405 ls [] := by
  refine r_aload_n Z dL_law_405 rfl (lv_at hl 1 rfl) ?_
  refine r_aload_n Z dL_law_406 rfl (lv_at hl 0 rfl) ?_
  refine r_iload_n Z dL_law_407 rfl (lv_at hl 3 rfl) ?_
  refine r_iconst (v := 1) Z dL_law_408 rfl ?_
  refine r_iadd Z dL_law_409 ?_
  refine r_sld Z hX (hin 1 (by omega)) dL_law_410 ?_
  refine r_aload_n Z dL_law_411 rfl (lv_at hl 0 rfl) ?_
  refine r_iload_n Z dL_law_412 rfl (lv_at hl 3 rfl) ?_
  refine r_iconst (v := 2) Z dL_law_413 rfl ?_
  refine r_iadd Z dL_law_414 ?_
  refine r_sld Z hX (hin 2 (by omega)) dL_law_415 ?_
  obtain ⟨r, M1, M2, f1, f2, hI2⟩ := al_counter (xs (nI i + 1).toNatClampNeg) (xs (nI i + 2).toNatClampNeg) M hI
  refine r_invVi [] Z (c_X8_counter (o := 0) (show shp 0 = 8 by decide) f1) cv_X8_counter rfl (by decide) (fun _ _ => ⟨_, ce_8 (show shp 0 = 8 by decide)⟩) wm_888 rfl rfl ⟨Nat.le_of_ble_eq_true rfl, Nat.le_of_ble_eq_true rfl⟩ rfl hl.1 rfl (Nat.le_of_ble_eq_true rfl) dL_law_416 ?_
  refine r_aload_n Z dL_law_419 rfl (lv_at hl 2 rfl) ?_
  refine r_aload_n Z dL_law_420 rfl (lv_at hl 0 rfl) ?_
  refine r_iload_n Z dL_law_421 rfl (lv_at hl 3 rfl) ?_
  refine r_iconst (v := 1) Z dL_law_422 rfl ?_
  refine r_iadd Z dL_law_423 ?_
  refine r_sld Z hX (hin 1 (by omega)) dL_law_424 ?_
  refine r_aload_n Z dL_law_425 rfl (lv_at hl 0 rfl) ?_
  refine r_iload_n Z dL_law_426 rfl (lv_at hl 3 rfl) ?_
  refine r_iconst (v := 2) Z dL_law_427 rfl ?_
  refine r_iadd Z dL_law_428 ?_
  refine r_sld Z hX (hin 2 (by omega)) dL_law_429 ?_
  refine r_invVi [.int r] Z (c_X9_counter (o := 1) (show shp 1 = 9 by decide) f2) cv_X9_counter rfl (by decide) (fun _ _ => ⟨_, ce_9 (show shp 1 = 9 by decide)⟩) wm_891 rfl rfl ⟨Nat.le_of_ble_eq_true rfl, Nat.le_of_ble_eq_true rfl⟩ rfl hl.1 rfl (Nat.le_of_ble_eq_true rfl) dL_law_430 ?_
  exact r_icmp_eq Z 1494 dL_law_433 (by decide) (fun _ => k M2 hI2) (fun hq => absurd rfl hq)
theorem lc_6 {ad : Nat → Nat} {X : Cx} {M : Mm} {ls : Array Slot} {b L : Nat} {xs : Nat → Int32} {i : Nat} (Z : Zk ad X cL_law RL 4 (some .boolean) room_1) (hX : Lx b L xs X) (hin : ∀ j : Nat, j < 6 → vp_in (nI i + nI j) L) (hl : lv_has ls 4 [(0, .ref b), (1, .ref (ad 0)), (2, .ref (ad 1)), (3, .int (nI i))]) (hI : Inv M) (k : ∀ M1, Inv M1 → G ad X M1 1494 ls []) : G ad X M 438 ls [] := by
  refine r_aload_n Z dL_law_438 rfl (lv_at hl 1 rfl) ?_
  refine r_aload_n Z dL_law_439 rfl (lv_at hl 0 rfl) ?_
  refine r_iload_n Z dL_law_440 rfl (lv_at hl 3 rfl) ?_
  refine r_iconst (v := 1) Z dL_law_441 rfl ?_
  refine r_iadd Z dL_law_442 ?_
  refine r_sld Z hX (hin 1 (by omega)) dL_law_443 ?_
  obtain ⟨r, M1, M2, f1, f2, hI2⟩ := al_drop (xs (nI i + 1).toNatClampNeg) M hI
  refine r_invVi [] Z (c_X8_drop (o := 0) (show shp 0 = 8 by decide) f1) cv_X8_drop rfl (by decide) (fun _ _ => ⟨_, ce_8 (show shp 0 = 8 by decide)⟩) wm_894 rfl rfl ⟨Nat.le_of_ble_eq_true rfl, Nat.le_of_ble_eq_true rfl⟩ rfl hl.1 rfl (Nat.le_of_ble_eq_true rfl) dL_law_444 ?_
  refine r_aload_n Z dL_law_447 rfl (lv_at hl 2 rfl) ?_
  refine r_aload_n Z dL_law_448 rfl (lv_at hl 0 rfl) ?_
  refine r_iload_n Z dL_law_449 rfl (lv_at hl 3 rfl) ?_
  refine r_iconst (v := 1) Z dL_law_450 rfl ?_
  refine r_iadd Z dL_law_451 ?_
  refine r_sld Z hX (hin 1 (by omega)) dL_law_452 ?_
  refine r_invVi [.int r] Z (c_X9_drop (o := 1) (show shp 1 = 9 by decide) f2) cv_X9_drop rfl (by decide) (fun _ _ => ⟨_, ce_9 (show shp 1 = 9 by decide)⟩) wm_897 rfl rfl ⟨Nat.le_of_ble_eq_true rfl, Nat.le_of_ble_eq_true rfl⟩ rfl hl.1 rfl (Nat.le_of_ble_eq_true rfl) dL_law_453 ?_
  exact r_icmp_eq Z 1494 dL_law_456 (by decide) (fun _ => k M2 hI2) (fun hq => absurd rfl hq)
theorem lc_7 {ad : Nat → Nat} {X : Cx} {M : Mm} {ls : Array Slot} {b L : Nat} {xs : Nat → Int32} {i : Nat} (Z : Zk ad X cL_law RL 4 (some .boolean) room_1) (hX : Lx b L xs X) (hin : ∀ j : Nat, j < 6 → vp_in (nI i + nI j) L) (hl : lv_has ls 4 [(0, .ref b), (1, .ref (ad 0)), (2, .ref (ad 1)), (3, .int (nI i))]) (hI : Inv M) (k : ∀ M1, Inv M1 → G ad X M1 1494 ls []) : G ad X M 461 ls [] := by
  refine r_aload_n Z dL_law_461 rfl (lv_at hl 1 rfl) ?_
  refine r_aload_n Z dL_law_462 rfl (lv_at hl 0 rfl) ?_
  refine r_iload_n Z dL_law_463 rfl (lv_at hl 3 rfl) ?_
  refine r_iconst (v := 1) Z dL_law_464 rfl ?_
  refine r_iadd Z dL_law_465 ?_
  refine r_sld Z hX (hin 1 (by omega)) dL_law_466 ?_
  refine r_aload_n Z dL_law_467 rfl (lv_at hl 0 rfl) ?_
  refine r_iload_n Z dL_law_468 rfl (lv_at hl 3 rfl) ?_
  refine r_iconst (v := 2) Z dL_law_469 rfl ?_
  refine r_iadd Z dL_law_470 ?_
  refine r_sld Z hX (hin 2 (by omega)) dL_law_471 ?_
  obtain ⟨r, M1, M2, f1, f2, hI2⟩ := al_rate (xs (nI i + 1).toNatClampNeg) (xs (nI i + 2).toNatClampNeg) M hI
  refine r_invVi [] Z (c_X8_rate (o := 0) (show shp 0 = 8 by decide) f1) cv_X8_rate rfl (by decide) (fun _ _ => ⟨_, ce_8 (show shp 0 = 8 by decide)⟩) wm_900 rfl rfl ⟨Nat.le_of_ble_eq_true rfl, Nat.le_of_ble_eq_true rfl⟩ rfl hl.1 rfl (Nat.le_of_ble_eq_true rfl) dL_law_472 ?_
  refine r_aload_n Z dL_law_475 rfl (lv_at hl 2 rfl) ?_
  refine r_aload_n Z dL_law_476 rfl (lv_at hl 0 rfl) ?_
  refine r_iload_n Z dL_law_477 rfl (lv_at hl 3 rfl) ?_
  refine r_iconst (v := 1) Z dL_law_478 rfl ?_
  refine r_iadd Z dL_law_479 ?_
  refine r_sld Z hX (hin 1 (by omega)) dL_law_480 ?_
  refine r_aload_n Z dL_law_481 rfl (lv_at hl 0 rfl) ?_
  refine r_iload_n Z dL_law_482 rfl (lv_at hl 3 rfl) ?_
  refine r_iconst (v := 2) Z dL_law_483 rfl ?_
  refine r_iadd Z dL_law_484 ?_
  refine r_sld Z hX (hin 2 (by omega)) dL_law_485 ?_
  refine r_invVi [.int r] Z (c_X9_rate (o := 1) (show shp 1 = 9 by decide) f2) cv_X9_rate rfl (by decide) (fun _ _ => ⟨_, ce_9 (show shp 1 = 9 by decide)⟩) wm_903 rfl rfl ⟨Nat.le_of_ble_eq_true rfl, Nat.le_of_ble_eq_true rfl⟩ rfl hl.1 rfl (Nat.le_of_ble_eq_true rfl) dL_law_486 ?_
  exact r_icmp_eq Z 1494 dL_law_489 (by decide) (fun _ => k M2 hI2) (fun hq => absurd rfl hq)
theorem lc_8 {ad : Nat → Nat} {X : Cx} {M : Mm} {ls : Array Slot} {b L : Nat} {xs : Nat → Int32} {i : Nat} (Z : Zk ad X cL_law RL 4 (some .boolean) room_1) (hX : Lx b L xs X) (hin : ∀ j : Nat, j < 6 → vp_in (nI i + nI j) L) (hl : lv_has ls 4 [(0, .ref b), (1, .ref (ad 0)), (2, .ref (ad 1)), (3, .int (nI i))]) (hI : Inv M) (k : ∀ M1, Inv M1 → G ad X M1 1494 ls []) : G ad X M 494 ls [] := by
  refine r_aload_n Z dL_law_494 rfl (lv_at hl 1 rfl) ?_
  refine r_aload_n Z dL_law_495 rfl (lv_at hl 0 rfl) ?_
  refine r_iload_n Z dL_law_496 rfl (lv_at hl 3 rfl) ?_
  refine r_iconst (v := 1) Z dL_law_497 rfl ?_
  refine r_iadd Z dL_law_498 ?_
  refine r_sld Z hX (hin 1 (by omega)) dL_law_499 ?_
  refine r_aload_n Z dL_law_500 rfl (lv_at hl 0 rfl) ?_
  refine r_iload_n Z dL_law_501 rfl (lv_at hl 3 rfl) ?_
  refine r_iconst (v := 2) Z dL_law_502 rfl ?_
  refine r_iadd Z dL_law_503 ?_
  refine r_sld Z hX (hin 2 (by omega)) dL_law_504 ?_
  obtain ⟨r, M1, M2, f1, f2, hI2⟩ := al_hands (xs (nI i + 1).toNatClampNeg) (xs (nI i + 2).toNatClampNeg) M hI
  refine r_invVi [] Z (c_X8_hands (o := 0) (show shp 0 = 8 by decide) f1) cv_X8_hands rfl (by decide) (fun _ _ => ⟨_, ce_8 (show shp 0 = 8 by decide)⟩) wm_906 rfl rfl ⟨Nat.le_of_ble_eq_true rfl, Nat.le_of_ble_eq_true rfl⟩ rfl hl.1 rfl (Nat.le_of_ble_eq_true rfl) dL_law_505 ?_
  refine r_aload_n Z dL_law_508 rfl (lv_at hl 2 rfl) ?_
  refine r_aload_n Z dL_law_509 rfl (lv_at hl 0 rfl) ?_
  refine r_iload_n Z dL_law_510 rfl (lv_at hl 3 rfl) ?_
  refine r_iconst (v := 1) Z dL_law_511 rfl ?_
  refine r_iadd Z dL_law_512 ?_
  refine r_sld Z hX (hin 1 (by omega)) dL_law_513 ?_
  refine r_aload_n Z dL_law_514 rfl (lv_at hl 0 rfl) ?_
  refine r_iload_n Z dL_law_515 rfl (lv_at hl 3 rfl) ?_
  refine r_iconst (v := 2) Z dL_law_516 rfl ?_
  refine r_iadd Z dL_law_517 ?_
  refine r_sld Z hX (hin 2 (by omega)) dL_law_518 ?_
  refine r_invVi [.int r] Z (c_X9_hands (o := 1) (show shp 1 = 9 by decide) f2) cv_X9_hands rfl (by decide) (fun _ _ => ⟨_, ce_9 (show shp 1 = 9 by decide)⟩) wm_909 rfl rfl ⟨Nat.le_of_ble_eq_true rfl, Nat.le_of_ble_eq_true rfl⟩ rfl hl.1 rfl (Nat.le_of_ble_eq_true rfl) dL_law_519 ?_
  exact r_icmp_eq Z 1494 dL_law_522 (by decide) (fun _ => k M2 hI2) (fun hq => absurd rfl hq)
theorem lc_9 {ad : Nat → Nat} {X : Cx} {M : Mm} {ls : Array Slot} {b L : Nat} {xs : Nat → Int32} {i : Nat} (Z : Zk ad X cL_law RL 4 (some .boolean) room_1) (hX : Lx b L xs X) (hin : ∀ j : Nat, j < 6 → vp_in (nI i + nI j) L) (hl : lv_has ls 4 [(0, .ref b), (1, .ref (ad 0)), (2, .ref (ad 1)), (3, .int (nI i))]) (hI : Inv M) (k : ∀ M1, Inv M1 → G ad X M1 1494 ls []) : G ad X M 527 ls [] := by
  refine r_aload_n Z dL_law_527 rfl (lv_at hl 1 rfl) ?_
  refine r_aload_n Z dL_law_528 rfl (lv_at hl 0 rfl) ?_
  refine r_iload_n Z dL_law_529 rfl (lv_at hl 3 rfl) ?_
  refine r_iconst (v := 1) Z dL_law_530 rfl ?_
  refine r_iadd Z dL_law_531 ?_
  refine r_sld Z hX (hin 1 (by omega)) dL_law_532 ?_
  refine r_aload_n Z dL_law_533 rfl (lv_at hl 0 rfl) ?_
  refine r_iload_n Z dL_law_534 rfl (lv_at hl 3 rfl) ?_
  refine r_iconst (v := 2) Z dL_law_535 rfl ?_
  refine r_iadd Z dL_law_536 ?_
  refine r_sld Z hX (hin 2 (by omega)) dL_law_537 ?_
  obtain ⟨r, M1, M2, f1, f2, hI2⟩ := al_room (xs (nI i + 1).toNatClampNeg) (xs (nI i + 2).toNatClampNeg) M hI
  refine r_invVi [] Z (c_X8_room (o := 0) (show shp 0 = 8 by decide) f1) cv_X8_room rfl (by decide) (fun _ _ => ⟨_, ce_8 (show shp 0 = 8 by decide)⟩) wm_912 rfl rfl ⟨Nat.le_of_ble_eq_true rfl, Nat.le_of_ble_eq_true rfl⟩ rfl hl.1 rfl (Nat.le_of_ble_eq_true rfl) dL_law_538 ?_
  refine r_aload_n Z dL_law_541 rfl (lv_at hl 2 rfl) ?_
  refine r_aload_n Z dL_law_542 rfl (lv_at hl 0 rfl) ?_
  refine r_iload_n Z dL_law_543 rfl (lv_at hl 3 rfl) ?_
  refine r_iconst (v := 1) Z dL_law_544 rfl ?_
  refine r_iadd Z dL_law_545 ?_
  refine r_sld Z hX (hin 1 (by omega)) dL_law_546 ?_
  refine r_aload_n Z dL_law_547 rfl (lv_at hl 0 rfl) ?_
  refine r_iload_n Z dL_law_548 rfl (lv_at hl 3 rfl) ?_
  refine r_iconst (v := 2) Z dL_law_549 rfl ?_
  refine r_iadd Z dL_law_550 ?_
  refine r_sld Z hX (hin 2 (by omega)) dL_law_551 ?_
  refine r_invVi [.int r] Z (c_X9_room (o := 1) (show shp 1 = 9 by decide) f2) cv_X9_room rfl (by decide) (fun _ _ => ⟨_, ce_9 (show shp 1 = 9 by decide)⟩) wm_915 rfl rfl ⟨Nat.le_of_ble_eq_true rfl, Nat.le_of_ble_eq_true rfl⟩ rfl hl.1 rfl (Nat.le_of_ble_eq_true rfl) dL_law_552 ?_
  exact r_icmp_eq Z 1494 dL_law_555 (by decide) (fun _ => k M2 hI2) (fun hq => absurd rfl hq)
theorem lc_10 {ad : Nat → Nat} {X : Cx} {M : Mm} {ls : Array Slot} {b L : Nat} {xs : Nat → Int32} {i : Nat} (Z : Zk ad X cL_law RL 4 (some .boolean) room_1) (hX : Lx b L xs X) (hin : ∀ j : Nat, j < 6 → vp_in (nI i + nI j) L) (hl : lv_has ls 4 [(0, .ref b), (1, .ref (ad 0)), (2, .ref (ad 1)), (3, .int (nI i))]) (hI : Inv M) (k : ∀ M1, Inv M1 → G ad X M1 1494 ls []) : G ad X M 560 ls [] := by
  refine r_aload_n Z dL_law_560 rfl (lv_at hl 1 rfl) ?_
  refine r_aload_n Z dL_law_561 rfl (lv_at hl 0 rfl) ?_
  refine r_iload_n Z dL_law_562 rfl (lv_at hl 3 rfl) ?_
  refine r_iconst (v := 1) Z dL_law_563 rfl ?_
  refine r_iadd Z dL_law_564 ?_
  refine r_sld Z hX (hin 1 (by omega)) dL_law_565 ?_
  refine r_aload_n Z dL_law_566 rfl (lv_at hl 0 rfl) ?_
  refine r_iload_n Z dL_law_567 rfl (lv_at hl 3 rfl) ?_
  refine r_iconst (v := 2) Z dL_law_568 rfl ?_
  refine r_iadd Z dL_law_569 ?_
  refine r_sld Z hX (hin 2 (by omega)) dL_law_570 ?_
  refine r_aload_n Z dL_law_571 rfl (lv_at hl 0 rfl) ?_
  refine r_iload_n Z dL_law_572 rfl (lv_at hl 3 rfl) ?_
  refine r_iconst (v := 3) Z dL_law_573 rfl ?_
  refine r_iadd Z dL_law_574 ?_
  refine r_sld Z hX (hin 3 (by omega)) dL_law_575 ?_
  obtain ⟨r, M1, M2, f1, f2, hI2⟩ := al_way (xs (nI i + 1).toNatClampNeg) (xs (nI i + 2).toNatClampNeg) (xs (nI i + 3).toNatClampNeg) M hI
  refine r_invVi [] Z (c_X8_way (o := 0) (show shp 0 = 8 by decide) f1) cv_X8_way rfl (by decide) (fun _ _ => ⟨_, ce_8 (show shp 0 = 8 by decide)⟩) wm_918 rfl rfl ⟨Nat.le_of_ble_eq_true rfl, Nat.le_of_ble_eq_true rfl⟩ rfl hl.1 rfl (Nat.le_of_ble_eq_true rfl) dL_law_576 ?_
  refine r_aload_n Z dL_law_579 rfl (lv_at hl 2 rfl) ?_
  refine r_aload_n Z dL_law_580 rfl (lv_at hl 0 rfl) ?_
  refine r_iload_n Z dL_law_581 rfl (lv_at hl 3 rfl) ?_
  refine r_iconst (v := 1) Z dL_law_582 rfl ?_
  refine r_iadd Z dL_law_583 ?_
  refine r_sld Z hX (hin 1 (by omega)) dL_law_584 ?_
  refine r_aload_n Z dL_law_585 rfl (lv_at hl 0 rfl) ?_
  refine r_iload_n Z dL_law_586 rfl (lv_at hl 3 rfl) ?_
  refine r_iconst (v := 2) Z dL_law_587 rfl ?_
  refine r_iadd Z dL_law_588 ?_
  refine r_sld Z hX (hin 2 (by omega)) dL_law_589 ?_
  refine r_aload_n Z dL_law_590 rfl (lv_at hl 0 rfl) ?_
  refine r_iload_n Z dL_law_591 rfl (lv_at hl 3 rfl) ?_
  refine r_iconst (v := 3) Z dL_law_592 rfl ?_
  refine r_iadd Z dL_law_593 ?_
  refine r_sld Z hX (hin 3 (by omega)) dL_law_594 ?_
  refine r_invVi [.int r] Z (c_X9_way (o := 1) (show shp 1 = 9 by decide) f2) cv_X9_way rfl (by decide) (fun _ _ => ⟨_, ce_9 (show shp 1 = 9 by decide)⟩) wm_921 rfl rfl ⟨Nat.le_of_ble_eq_true rfl, Nat.le_of_ble_eq_true rfl⟩ rfl hl.1 rfl (Nat.le_of_ble_eq_true rfl) dL_law_595 ?_
  exact r_icmp_eq Z 1494 dL_law_598 (by decide) (fun _ => k M2 hI2) (fun hq => absurd rfl hq)

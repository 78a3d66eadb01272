/-! the law's loop over the script -/
theorem q_tabOut {ad : Nat → Nat} {X : Cx} {cc : ByteArray} {own : String} {nL : Nat} {ret : Option FieldType} {rm : Room} {M : Mm} {pc : Nat} {ls : Array Slot} {rest : List Value} (Z : Zk ad X cc own nL ret rm) {dflt lo hi : Int} {offs : Array Int} {len : Nat} {x : Int32} (tgt : Nat) (hdg : decode cc pc = .ok (.tableswitch dflt lo hi offs, len)) (h : x.toInt < lo ∨ hi < x.toInt) (ht : (pc : Int) + dflt = (tgt : Int)) (k : G ad X M tgt ls rest) : G ad X M pc ls (.int x :: rest) := by
  obtain ⟨p, l, e, R, s, m, args, below, meth, c, dC, dI, cy, A, cells, slots, Q⟩ := X
  obtain ⟨hx, hb, hml, hown, hts, hK, hJ, hr, hlk, hR, hA, hcc, hss⟩ := Z
  exact fun H locs hP hS => lv_tableOut hx hb hdg h ht (k H locs hP hS)
theorem q_tabIn {ad : Nat → Nat} {X : Cx} {cc : ByteArray} {own : String} {nL : Nat} {ret : Option FieldType} {rm : Room} {M : Mm} {pc : Nat} {ls : Array Slot} {rest : List Value} (Z : Zk ad X cc own nL ret rm) {dflt lo hi : Int} {offs : Array Int} {len : Nat} {x : Int32} {off : Int} (tgt : Nat) (hdg : decode cc pc = .ok (.tableswitch dflt lo hi offs, len)) (h1 : ¬ x.toInt < lo) (h2 : ¬ hi < x.toInt) (ho : offs[(x.toInt - lo).toNat]? = some off) (ht : (pc : Int) + off = (tgt : Int)) (k : G ad X M tgt ls rest) : G ad X M pc ls (.int x :: rest) := by
  obtain ⟨p, l, e, R, s, m, args, below, meth, c, dC, dI, cy, A, cells, slots, Q⟩ := X
  obtain ⟨hx, hb, hml, hown, hts, hK, hJ, hr, hlk, hR, hA, hcc, hss⟩ := Z
  exact fun H locs hP hS => lv_tableIn hx hb hdg h1 h2 ho ht (k H locs hP hS)
theorem ll_case {ad : Nat → Nat} {X : Cx} {M : Mm} {ls : Array Slot} {b L : Nat} {xs : Nat → Int32} {i : Nat} (Z : Zk ad X cL_law RL 4 (some .boolean) room_1) (hX : Lx b L xs X) (hin : ∀ j : Nat, j < 6 → vp_in (nI i + nI j) L) (hl : lv_has ls 4 [(0, .ref b), (1, .ref (ad 0)), (2, .ref (ad 1)), (3, .int (nI i))]) (hI : Inv M) (k : ∀ M1, Inv M1 → G ad X M1 1494 ls []) {x : Int32} : ∀ n : Nat, n < 43 → x.toInt = (n : Int) → G ad X M 33 ls [.int x]
  | 0, _, h => q_tabIn (off := 187) Z 220 dL_law_33 (by rw [h]; decide) (by rw [h]; decide) (by rw [h]; rfl) (by decide) (lc_0 Z hX hin hl hI k)
  | 1, _, h => q_tabIn (off := 220) Z 253 dL_law_33 (by rw [h]; decide) (by rw [h]; decide) (by rw [h]; rfl) (by decide) (lc_1 Z hX hin hl hI k)
  | 2, _, h => q_tabIn (off := 263) Z 296 dL_law_33 (by rw [h]; decide) (by rw [h]; decide) (by rw [h]; rfl) (by decide) (lc_2 Z hX hin hl hI k)
  | 3, _, h => q_tabIn (off := 286) Z 319 dL_law_33 (by rw [h]; decide) (by rw [h]; decide) (by rw [h]; rfl) (by decide) (lc_3 Z hX hin hl hI k)
  | 4, _, h => q_tabIn (off := 349) Z 382 dL_law_33 (by rw [h]; decide) (by rw [h]; decide) (by rw [h]; rfl) (by decide) (lc_4 Z hX hin hl hI k)
  | 5, _, h => q_tabIn (off := 372) Z 405 dL_law_33 (by rw [h]; decide) (by rw [h]; decide) (by rw [h]; rfl) (by decide) (lc_5 Z hX hin hl hI k)
  | 6, _, h => q_tabIn (off := 405) Z 438 dL_law_33 (by rw [h]; decide) (by rw [h]; decide) (by rw [h]; rfl) (by decide) (lc_6 Z hX hin hl hI k)
  | 7, _, h => q_tabIn (off := 428) Z 461 dL_law_33 (by rw [h]; decide) (by rw [h]; decide) (by rw [h]; rfl) (by decide) (lc_7 Z hX hin hl hI k)
  | 8, _, h => q_tabIn (off := 461) Z 494 dL_law_33 (by rw [h]; decide) (by rw [h]; decide) (by rw [h]; rfl) (by decide) (lc_8 Z hX hin hl hI k)
  | 9, _, h => q_tabIn (off := 494) Z 527 dL_law_33 (by rw [h]; decide) (by rw [h]; decide) (by rw [h]; rfl) (by decide) (lc_9 Z hX hin hl hI k)
  | 10, _, h => q_tabIn (off := 527) Z 560 dL_law_33 (by rw [h]; decide) (by rw [h]; decide) (by rw [h]; rfl) (by decide) (lc_10 Z hX hin hl hI k)
  | 11, _, h => q_tabIn (off := 570) Z 603 dL_law_33 (by rw [h]; decide) (by rw [h]; decide) (by rw [h]; rfl) (by decide) (lc_11 Z hX hin hl hI k)
  | 12, _, h => q_tabIn (off := 603) Z 636 dL_law_33 (by rw [h]; decide) (by rw [h]; decide) (by rw [h]; rfl) (by decide) (lc_12 Z hX hin hl hI k)
  | 13, _, h => q_tabIn (off := 636) Z 669 dL_law_33 (by rw [h]; decide) (by rw [h]; decide) (by rw [h]; rfl) (by decide) (lc_13 Z hX hin hl hI k)
  | 14, _, h => q_tabIn (off := 669) Z 702 dL_law_33 (by rw [h]; decide) (by rw [h]; decide) (by rw [h]; rfl) (by decide) (lc_14 Z hX hin hl hI k)
  | 15, _, h => q_tabIn (off := 682) Z 715 dL_law_33 (by rw [h]; decide) (by rw [h]; decide) (by rw [h]; rfl) (by decide) (lc_15 Z hX hin hl hI k)
  | 16, _, h => q_tabIn (off := 695) Z 728 dL_law_33 (by rw [h]; decide) (by rw [h]; decide) (by rw [h]; rfl) (by decide) (lc_16 Z hX hin hl hI k)
  | 17, _, h => q_tabIn (off := 718) Z 751 dL_law_33 (by rw [h]; decide) (by rw [h]; decide) (by rw [h]; rfl) (by decide) (lc_17 Z hX hin hl hI k)
  | 18, _, h => q_tabIn (off := 741) Z 774 dL_law_33 (by rw [h]; decide) (by rw [h]; decide) (by rw [h]; rfl) (by decide) (lc_18 Z hX hin hl hI k)
  | 19, _, h => q_tabIn (off := 790) Z 823 dL_law_33 (by rw [h]; decide) (by rw [h]; decide) (by rw [h]; rfl) (by decide) (lc_19 Z hX hin hl hI k)
  | 20, _, h => q_tabIn (off := 803) Z 836 dL_law_33 (by rw [h]; decide) (by rw [h]; decide) (by rw [h]; rfl) (by decide) (lc_20 Z hX hin hl hI k)
  | 21, _, h => q_tabIn (off := 826) Z 859 dL_law_33 (by rw [h]; decide) (by rw [h]; decide) (by rw [h]; rfl) (by decide) (lc_21 Z hX hin hl hI k)
  | 22, _, h => q_tabIn (off := 849) Z 882 dL_law_33 (by rw [h]; decide) (by rw [h]; decide) (by rw [h]; rfl) (by decide) (lc_22 Z hX hin hl hI k)
  | 23, _, h => q_tabIn (off := 882) Z 915 dL_law_33 (by rw [h]; decide) (by rw [h]; decide) (by rw [h]; rfl) (by decide) (lc_23 Z hX hin hl hI k)
  | 24, _, h => q_tabIn (off := 915) Z 948 dL_law_33 (by rw [h]; decide) (by rw [h]; decide) (by rw [h]; rfl) (by decide) (lc_24 Z hX hin hl hI k)
  | 25, _, h => q_tabIn (off := 948) Z 981 dL_law_33 (by rw [h]; decide) (by rw [h]; decide) (by rw [h]; rfl) (by decide) (lc_25 Z hX hin hl hI k)
  | 26, _, h => q_tabIn (off := 961) Z 994 dL_law_33 (by rw [h]; decide) (by rw [h]; decide) (by rw [h]; rfl) (by decide) (lc_26 Z hX hin hl hI k)
  | 27, _, h => q_tabIn (off := 994) Z 1027 dL_law_33 (by rw [h]; decide) (by rw [h]; decide) (by rw [h]; rfl) (by decide) (lc_27 Z hX hin hl hI k)
  | 28, _, h => q_tabIn (off := 1017) Z 1050 dL_law_33 (by rw [h]; decide) (by rw [h]; decide) (by rw [h]; rfl) (by decide) (lc_28 Z hX hin hl hI k)
  | 29, _, h => q_tabIn (off := 1040) Z 1073 dL_law_33 (by rw [h]; decide) (by rw [h]; decide) (by rw [h]; rfl) (by decide) (lc_29 Z hX hin hl hI k)
  | 30, _, h => q_tabIn (off := 1119) Z 1152 dL_law_33 (by rw [h]; decide) (by rw [h]; decide) (by rw [h]; rfl) (by decide) (lc_30 Z hX hin hl hI k)
  | 31, _, h => q_tabIn (off := 1162) Z 1195 dL_law_33 (by rw [h]; decide) (by rw [h]; decide) (by rw [h]; rfl) (by decide) (lc_31 Z hX hin hl hI k)
  | 32, _, h => q_tabIn (off := 1195) Z 1228 dL_law_33 (by rw [h]; decide) (by rw [h]; decide) (by rw [h]; rfl) (by decide) (lc_32 Z hX hin hl hI k)
  | 33, _, h => q_tabIn (off := 1218) Z 1251 dL_law_33 (by rw [h]; decide) (by rw [h]; decide) (by rw [h]; rfl) (by decide) (lc_33 Z hX hin hl hI k)
  | 34, _, h => q_tabIn (off := 1251) Z 1284 dL_law_33 (by rw [h]; decide) (by rw [h]; decide) (by rw [h]; rfl) (by decide) (lc_34 Z hX hin hl hI k)
  | 35, _, h => q_tabIn (off := 1304) Z 1337 dL_law_33 (by rw [h]; decide) (by rw [h]; decide) (by rw [h]; rfl) (by decide) (lc_35 Z hX hin hl hI k)
  | 36, _, h => q_tabIn (off := 1347) Z 1380 dL_law_33 (by rw [h]; decide) (by rw [h]; decide) (by rw [h]; rfl) (by decide) (lc_36 Z hX hin hl hI k)
  | 37, _, h => q_tabIn (off := 1360) Z 1393 dL_law_33 (by rw [h]; decide) (by rw [h]; decide) (by rw [h]; rfl) (by decide) (lc_37 Z hX hin hl hI k)
  | 38, _, h => q_tabIn (off := 1374) Z 1407 dL_law_33 (by rw [h]; decide) (by rw [h]; decide) (by rw [h]; rfl) (by decide) (lc_38 Z hX hin hl hI k)
  | 39, _, h => q_tabIn (off := 1388) Z 1421 dL_law_33 (by rw [h]; decide) (by rw [h]; decide) (by rw [h]; rfl) (by decide) (lc_39 Z hX hin hl hI k)
  | 40, _, h => q_tabIn (off := 1411) Z 1444 dL_law_33 (by rw [h]; decide) (by rw [h]; decide) (by rw [h]; rfl) (by decide) (lc_40 Z hX hin hl hI k)
  | 41, _, h => q_tabIn (off := 1424) Z 1457 dL_law_33 (by rw [h]; decide) (by rw [h]; decide) (by rw [h]; rfl) (by decide) (lc_41 Z hX hin hl hI k)
  | 42, _, h => q_tabIn (off := 1447) Z 1480 dL_law_33 (by rw [h]; decide) (by rw [h]; decide) (by rw [h]; rfl) (by decide) (lc_42 Z hX hin hl hI k)
  | n + 43, h, _ => absurd h (by omega)
theorem ll_loop {ad : Nat → Nat} {X : Cx} {b L : Nat} {xs : Nat → Int32} (Z : Zk ad X cL_law RL 4 (some .boolean) room_1) (hX : Lx b L xs X) (hL : L < 2 ^ 31) (kend : ∀ (M : Mm) (ls : Array Slot), ls.size = 4 → lv_wf ls → Inv M → G ad X M 1500 ls []) : ∀ (n i : Nat) (M : Mm) (ls : Array Slot), L - i < n → i ≤ L → lv_has ls 4 [(0, .ref b), (1, .ref (ad 0)), (2, .ref (ad 1)), (3, .int (nI i))] → Inv M → G ad X M 18 ls [] := by
  intro n
  induction n with
  | zero => intro i M ls h; omega
  | succ n ih =>
    intro i M ls hn hi hl hI
    have hc : (nI L - 6).toInt = (L : Int) - 6 := by
      have h6 : (6 : Int32).toInt = 6 := by decide
      rw [Int32.toInt_sub, t_nI hL, h6, Int.bmod_eq_of_le (by omega) (by omega)]
    refine r_iload_n Z dL_law_18 rfl (lv_at hl 3 rfl) ?_
    refine r_aload_n Z dL_law_19 rfl (lv_at hl 0 rfl) ?_
    refine r_slen Z hX dL_law_20 ?_
    refine r_bipush (v := 6) Z dL_law_21 rfl ?_
    refine r_isub Z dL_law_23 ?_
    refine r_icmp_gt Z 1500 dL_law_24 (by decide) (fun _ => kend M ls hl.1 hl.2.1 hI) (fun hq => ?_)
    have hle : i + 6 ≤ L := by
      rw [Int32.lt_iff_toInt_lt, hc, t_nI (by omega)] at hq
      omega
    have hin : ∀ j : Nat, j < 6 → vp_in (nI i + nI j) L := by
      intro j hj
      rw [show nI i + nI j = nI (i + j) from (Int32.ofNat_add i j).symm]
      exact vp_in_nI (by omega) hL
    have hi0 : vp_in (nI i) L := vp_in_nI (by omega) hL
    have hk : ∀ M1, Inv M1 → G ad X M1 1494 ls [] := by
      intro M1 hI1
      refine r_iinc (j := 3) Z (nI (i + 6)) [(3, .int (nI (i + 6))), (0, .ref b), (1, .ref (ad 0)), (2, .ref (ad 1))] dL_law_1494 hl rfl (Int32.ofNat_add i 6).symm (by decide) rfl (fun ls2 hl2 => ?_)
      refine r_goto Z 18 dL_law_1497 (by decide) ?_
      exact ih (i + 6) M1 ls2 (by omega) hle (lv_sub hl2 [1, 2, 3, 0] rfl) hI1
    refine r_aload_n Z dL_law_27 rfl (lv_at hl 0 rfl) ?_
    refine r_iload_n Z dL_law_28 rfl (lv_at hl 3 rfl) ?_
    refine r_sld Z hX hi0 dL_law_29 ?_
    refine r_bipush (v := 63) Z dL_law_30 rfl ?_
    refine r_iand Z dL_law_32 ?_
    by_cases hx : (xs (nI i).toNatClampNeg &&& 63).toInt < 0 ∨ 42 < (xs (nI i).toNatClampNeg &&& 63).toInt
    · exact q_tabOut Z 1494 dL_law_33 hx (by decide) (hk M hI)
    · exact ll_case Z hX hin hl hI hk (xs (nI i).toNatClampNeg &&& 63).toInt.toNat (by omega) (by omega)

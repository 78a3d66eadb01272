/-! the law from its loop's head to its end -/
theorem law_run {p : Program} {l : Launch} {e : Env} {s : State} {m : MethodId} {below : List Frame} {meth : Method} {c : Code} {dC : Nat → ClassId} {dI : Nat → Nat → Nat} {cy : Nat → ClassId} {ad : Nat → Nat} {b L cells slots : Nat} {xs : Nat → Int32} (hL : L ≤ 3072) (C0 : lw_At p s m meth c b L xs) (hwn : ∀ w ∈ wn_all, w.before #[Value.ref b] s = true) (hK : va_K (dC, dI) vwCl (wn_tys cy) s) (hJ : wn_J ad) (had : ∀ k, k < 101 → s.heap.size ≤ ad k) (hc : cells ≤ 600000) (hs : slots ≤ 7302250) {M : Mm} (hI : Inv M) {H : Heap} {locs : List Loc} (hP : va_P (dC, dI) vwCl (wn_W cy ad M) H) (hS : va_S (fun q : Nat => s.heap.size ≤ q) s.heap H locs) {ls : Array Slot} (hl : lv_has ls 4 [(0, .ref b), (1, .ref (ad 0)), (2, .ref (ad 1)), (3, .int (nI 0))]) : W p l e room_1 s m #[Value.ref b] below meth c H locs cells slots (lw_Z below #[Value.ref b] s) (F0 m 18 ls []) := by
  obtain ⟨hx, hb, hr, hml, hown, hts, hX, hbl, hlocks, hgv⟩ := C0
  have Z : Zk ad (p, l, e, room_1, s, m, #[Value.ref b], below, meth, c, dC, dI, cy, (fun q : Nat => s.heap.size ≤ q), cells, slots, lw_Z below #[Value.ref b] s) cL_law RL 4 (some .boolean) room_1 := ⟨hx, hb, hml, hown, hwn, hK, hJ, hr, hlocks, rfl, had, hc, hs⟩
  have hX1 : Lx b L xs (p, l, e, room_1, s, m, #[Value.ref b], below, meth, c, dC, dI, cy, (fun q : Nat => s.heap.size ≤ q), cells, slots, lw_Z below #[Value.ref b] s) := ⟨hX, hbl, Nat.not_le.mpr hbl⟩
  refine ll_loop Z hX1 (by omega) (fun M1 ls1 h1 h2 hI1 => ?_) (L + 1) 0 M ls (by omega) (by omega) hl hI H locs hP hS
  refine r_iconst (v := 1) Z dL_law_1500 rfl ?_
  intro H1 locs1 hP1 hS1
  refine va_forget (fun q hq => hS1.2.2 q hq) ?_
  refine W.widen (k := 600000) (n := 7302250) hc hs ?_
  exact lw_ret hx hb hr hlocks dL_law_1501

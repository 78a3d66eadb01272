/-! the cells that the constructors leave are the world of the walks, with the memory M00 -/
theorem P_nil {D : va_G} {cl : List vw_C} {H : Heap} : va_P D cl [] H := fun k q h => by simp at h
theorem P_cons {D : va_G} {cl : List vw_C} {H : Heap} {q : Nat × va_E} {ws : va_W} (h : va_at D cl q H) (t : va_P D cl ws H) : va_P D cl (q :: ws) H := by
  intro k x hk
  cases k with
  | zero => cases hk; exact h
  | succ k => exact t k x (by rw [List.getElem?_cons_succ] at hk; exact hk)
theorem arrV_same {c : ClassId} {n : Nat} {f g : Nat → Value} (h : ∀ i, i < n → f i = g i) : arrV c n f = arrV c n g := by
  unfold arrV
  congr 1
  apply Array.ext
  · simp
  · intro i h1 h2
    simp only [Array.getElem_ofFn]
    exact h i (by simpa using h1)
theorem at_i {D : va_G} {cl : List vw_C} {H : Heap} {a : Nat} {c : ClassId} {n : Nat} {f g : Nat → Int32} (h : va_at D cl (a, .inl (c, n, .inl f)) H) (hg : ∀ i, i < n → f i = g i) : va_at D cl (a, .inl (c, n, .inl g)) H := by
  have e : arrV c n (fun j => .int (f j)) = arrV c n (fun j => .int (g j)) := arrV_same (fun i hi => by rw [hg i hi])
  exact Eq.trans (show H[a]? = some (arrV c n (fun j => .int (f j))) from h) (congrArg some e)
theorem at_l {D : va_G} {cl : List vw_C} {H : Heap} {a : Nat} {c : ClassId} {n : Nat} {f g : Nat → Int64} (h : va_at D cl (a, .inl (c, n, .inr (.inl f))) H) (hg : ∀ i, i < n → f i = g i) : va_at D cl (a, .inl (c, n, .inr (.inl g))) H := by
  have e : arrV c n (fun j => .long (f j)) = arrV c n (fun j => .long (g j)) := arrV_same (fun i hi => by rw [hg i hi])
  exact Eq.trans (show H[a]? = some (arrV c n (fun j => .long (f j))) from h) (congrArg some e)
theorem at_q {D : va_G} {cl : List vw_C} {H : Heap} {a : Nat} {c : ClassId} {n : Nat} {f g : Nat → Option Nat} (h : va_at D cl (a, .inl (c, n, .inr (.inr (.inr (.inr f))))) H) (hg : ∀ i, i < n → f i = g i) : va_at D cl (a, .inl (c, n, .inr (.inr (.inr (.inr g))))) H := by
  have e : arrV c n (fun j => va_rf (f j)) = arrV c n (fun j => va_rf (g j)) := arrV_same (fun i hi => by rw [hg i hi])
  exact Eq.trans (show H[a]? = some (arrV c n (fun j => va_rf (f j))) from h) (congrArg some e)
theorem ad_at {Ps : va_W} {k : Nat} (hk : k < Ps.length) : ∃ e, Ps[k]? = some ((Ps.map Prod.fst).getD k 0, e) := ⟨Ps[k].2, by
  rw [List.getD_eq_getElem?_getD, List.getElem?_map, List.getElem?_eq_getElem hk]
  rfl⟩
theorem ad_J {A : Nat → Prop} {Ps : va_W} (hn : Ps.length = 101) (hD : va_D A Ps) : wn_J (fun k => (Ps.map Prod.fst).getD k 0) ∧ ∀ k, k < 101 → A ((Ps.map Prod.fst).getD k 0) := by
  refine ⟨fun i j hi hj h => ?_, fun k hk => ?_⟩
  · obtain ⟨e1, h1⟩ := ad_at (Ps := Ps) (k := i) (by omega)
    obtain ⟨e2, h2⟩ := ad_at (Ps := Ps) (k := j) (by omega)
    exact hD.1 i j _ _ h1 h2 h
  · obtain ⟨e1, h1⟩ := ad_at (Ps := Ps) (k := k) (by omega)
    exact hD.2 k _ h1
/-! the first world, by the numbers of the cells -/
set_option maxHeartbeats 8000000 in
set_option maxRecDepth 100000 in
theorem world_at {D : va_G} {cy : Nat → ClassId} {ad : Nat → Nat} {H : Heap} {g2 g22 g33 g34 g40 g41 g42 g78 : Nat → Option Nat} {f85 : Nat → Int32} (hP : va_P D vwCl [(ad 0, .inr (8, [.ref (ad 2), .ref (ad 4), .ref (ad 5), .ref (ad 32), .ref (ad 6), .ref (ad 7), .ref (ad 3), .int 0, .int 0])), (ad 1, .inr (9, [.int 0, .ref (ad 84), .int 0, .long 0, .long 1, .ref (ad 85), .ref (ad 86), .ref (ad 87), .ref (ad 88), .ref (ad 89), .ref (ad 90), .ref (ad 91), .ref (ad 92), .ref (ad 93), .ref (ad 94), .ref (ad 95), .ref (ad 96), .ref (ad 97), .long 0, .long 0, .ref (ad 98), .ref (ad 99), .int 0, .int 0, .ref (ad 100), .long 0])), (ad 2, .inl (cy 4, 6, .inr (.inr (.inr (.inr (g2)))))), (ad 3, .inl (cy 0, 6, .inl (fun _ => 0))), (ad 4, .inr (4, [.ref (ad 22), .ref (ad 31), .ref (ad 39), .ref (ad 8), .ref (ad 9)])), (ad 5, .inr (5, [.ref (ad 73), .ref (ad 74), .ref (ad 75), .ref (ad 76), .ref (ad 77), .ref (ad 78), .ref (ad 83)])), (ad 6, .inr (3, [.int 0, .int 0, .int 0])), (ad 7, .inr (2, [.long 0, .long 1])), (ad 8, .inr (2, [.long 0, .long 1])), (ad 9, .inr (2, [.long 0, .long 1])), (ad 10, .inr (6, [.ref (ad 16), .int (-1)])), (ad 11, .inr (6, [.ref (ad 17), .int (-1)])), (ad 12, .inr (6, [.ref (ad 18), .int (-1)])), (ad 13, .inr (6, [.ref (ad 19), .int (-1)])), (ad 14, .inr (6, [.ref (ad 20), .int (-1)])), (ad 15, .inr (6, [.ref (ad 21), .int (-1)])), (ad 16, .inl (cy 0, 40, .inl (fun _ => 0))), (ad 17, .inl (cy 0, 40, .inl (fun _ => 0))), (ad 18, .inl (cy 0, 40, .inl (fun _ => 0))), (ad 19, .inl (cy 0, 40, .inl (fun _ => 0))), (ad 20, .inl (cy 0, 40, .inl (fun _ => 0))), (ad 21, .inl (cy 0, 40, .inl (fun _ => 0))), (ad 22, .inl (cy 3, 4, .inr (.inr (.inr (.inr (g22)))))), (ad 23, .inr (1, [.ref (ad 27), .int (-1), .int 1, .int 1, .int 1, .int 0])), (ad 24, .inr (1, [.ref (ad 28), .int (-1), .int 1, .int 1, .int 1, .int 0])), (ad 25, .inr (1, [.ref (ad 29), .int (-1), .int 1, .int 1, .int 1, .int 0])), (ad 26, .inr (1, [.ref (ad 30), .int (-1), .int 1, .int 1, .int 1, .int 0])), (ad 27, .inl (cy 0, 4, .inl (fun _ => 0))), (ad 28, .inl (cy 0, 4, .inl (fun _ => 0))), (ad 29, .inl (cy 0, 4, .inl (fun _ => 0))), (ad 30, .inl (cy 0, 4, .inl (fun _ => 0))), (ad 31, .inr (0, [.ref (ad 33), .ref (ad 35), .ref (ad 37), .int 0])), (ad 32, .inr (0, [.ref (ad 34), .ref (ad 36), .ref (ad 38), .int 0])), (ad 33, .inl (cy 5, 6, .inr (.inr (.inr (.inr (g33)))))), (ad 34, .inl (cy 5, 6, .inr (.inr (.inr (.inr (g34)))))), (ad 35, .inl (cy 0, 6, .inl (fun _ => 0))), (ad 36, .inl (cy 0, 6, .inl (fun _ => 0))), (ad 37, .inr (7, [.ref (ad 40), .int 0])), (ad 38, .inr (7, [.ref (ad 41), .int 0])), (ad 39, .inr (7, [.ref (ad 42), .int 0])), (ad 40, .inl (cy 6, 6, .inr (.inr (.inr (.inr (g40)))))), (ad 41, .inl (cy 6, 6, .inr (.inr (.inr (.inr (g41)))))), (ad 42, .inl (cy 6, 6, .inr (.inr (.inr (.inr (g42)))))), (ad 43, .inl (cy 1, 6, .inr (.inl (fun _ => 0)))), (ad 44, .inl (cy 1, 6, .inr (.inl (fun _ => 0)))), (ad 45, .inl (cy 1, 6, .inr (.inl (fun _ => 0)))), (ad 46, .inl (cy 1, 6, .inr (.inl (fun _ => 0)))), (ad 47, .inl (cy 1, 6, .inr (.inl (fun _ => 0)))), (ad 48, .inl (cy 1, 6, .inr (.inl (fun _ => 0)))), (ad 49, .inl (cy 1, 6, .inr (.inl (fun _ => 0)))), (ad 50, .inl (cy 1, 6, .inr (.inl (fun _ => 0)))), (ad 51, .inl (cy 1, 6, .inr (.inl (fun _ => 0)))), (ad 52, .inl (cy 1, 6, .inr (.inl (fun _ => 0)))), (ad 53, .inl (cy 1, 6, .inr (.inl (fun _ => 0)))), (ad 54, .inl (cy 1, 6, .inr (.inl (fun _ => 0)))), (ad 55, .inl (cy 1, 6, .inr (.inl (fun _ => 0)))), (ad 56, .inl (cy 1, 6, .inr (.inl (fun _ => 0)))), (ad 57, .inl (cy 1, 6, .inr (.inl (fun _ => 0)))), (ad 58, .inl (cy 1, 6, .inr (.inl (fun _ => 0)))), (ad 59, .inl (cy 1, 6, .inr (.inl (fun _ => 0)))), (ad 60, .inl (cy 1, 6, .inr (.inl (fun _ => 0)))), (ad 61, .inl (cy 0, 6, .inl (fun _ => 0))), (ad 62, .inl (cy 0, 6, .inl (fun _ => 0))), (ad 63, .inl (cy 0, 6, .inl (fun _ => 0))), (ad 64, .inl (cy 0, 6, .inl (fun _ => 0))), (ad 65, .inl (cy 0, 6, .inl (fun _ => 0))), (ad 66, .inl (cy 0, 6, .inl (fun _ => 0))), (ad 67, .inl (cy 0, 6, .inl (fun _ => 0))), (ad 68, .inl (cy 0, 6, .inl (fun _ => 0))), (ad 69, .inl (cy 0, 6, .inl (fun _ => 0))), (ad 70, .inl (cy 0, 6, .inl (fun _ => 0))), (ad 71, .inl (cy 0, 6, .inl (fun _ => 0))), (ad 72, .inl (cy 0, 6, .inl (fun _ => 0))), (ad 73, .inl (cy 1, 4, .inr (.inl (fun _ => 0)))), (ad 74, .inl (cy 0, 4, .inl (fun _ => 0))), (ad 75, .inl (cy 0, 4, .inl (fun _ => 0))), (ad 76, .inl (cy 0, 4, .inl (fun _ => 0))), (ad 77, .inl (cy 1, 4, .inr (.inl (fun _ => 0)))), (ad 78, .inl (cy 5, 4, .inr (.inr (.inr (.inr (g78)))))), (ad 79, .inl (cy 0, 4, .inl (fun _ => 0))), (ad 80, .inl (cy 0, 4, .inl (fun _ => 0))), (ad 81, .inl (cy 0, 4, .inl (fun _ => 0))), (ad 82, .inl (cy 0, 4, .inl (fun _ => 0))), (ad 83, .inl (cy 0, 4, .inl (fun _ => 0))), (ad 84, .inl (cy 0, 6, .inl (fun _ => 0))), (ad 85, .inl (cy 0, 6, .inl f85)), (ad 86, .inl (cy 0, 240, .inl (fun _ => 0))), (ad 87, .inl (cy 0, 40, .inl (fun _ => 0))), (ad 88, .inl (cy 2, 4, .inl (fun _ => 0))), (ad 89, .inl (cy 0, 4, .inl (fun _ => 0))), (ad 90, .inl (cy 0, 4, .inl (fun _ => 0))), (ad 91, .inl (cy 0, 4, .inl (fun _ => 0))), (ad 92, .inl (cy 0, 4, .inl (fun _ => 0))), (ad 93, .inl (cy 0, 4, .inl (fun _ => 0))), (ad 94, .inl (cy 0, 16, .inl (fun _ => 0))), (ad 95, .inl (cy 1, 36, .inr (.inl (fun _ => 0)))), (ad 96, .inl (cy 0, 6, .inl (fun _ => 0))), (ad 97, .inl (cy 1, 36, .inr (.inl (fun _ => 0)))), (ad 98, .inl (cy 1, 4, .inr (.inl (fun _ => 0)))), (ad 99, .inl (cy 0, 4, .inl (fun _ => 0))), (ad 100, .inl (cy 0, 40, .inl (fun _ => 0)))] H) (h2 : ∀ i, i < 6 → g2 i = some (ad (elm 2 i))) (h22 : ∀ i, i < 4 → g22 i = some (ad (elm 22 i))) (h33 : ∀ i, i < 6 → g33 i = some (ad (elm 33 i))) (h34 : ∀ i, i < 6 → g34 i = some (ad (elm 34 i))) (h40 : ∀ i, i < 6 → g40 i = some (ad (elm 40 i))) (h41 : ∀ i, i < 6 → g41 i = some (ad (elm 41 i))) (h42 : ∀ i, i < 6 → g42 i = some (ad (elm 42 i))) (h78 : ∀ i, i < 4 → g78 i = some (ad (elm 78 i))) (h85 : ∀ i, i < 6 → f85 i = -9) : va_P D vwCl (wn_W cy ad M00) H := by
  show va_P D vwCl [(ad 0, cel cy ad M00 0), (ad 1, cel cy ad M00 1), (ad 2, cel cy ad M00 2), (ad 3, cel cy ad M00 3), (ad 4, cel cy ad M00 4), (ad 5, cel cy ad M00 5), (ad 6, cel cy ad M00 6), (ad 7, cel cy ad M00 7), (ad 8, cel cy ad M00 8), (ad 9, cel cy ad M00 9), (ad 10, cel cy ad M00 10), (ad 11, cel cy ad M00 11), (ad 12, cel cy ad M00 12), (ad 13, cel cy ad M00 13), (ad 14, cel cy ad M00 14), (ad 15, cel cy ad M00 15), (ad 16, cel cy ad M00 16), (ad 17, cel cy ad M00 17), (ad 18, cel cy ad M00 18), (ad 19, cel cy ad M00 19), (ad 20, cel cy ad M00 20), (ad 21, cel cy ad M00 21), (ad 22, cel cy ad M00 22), (ad 23, cel cy ad M00 23), (ad 24, cel cy ad M00 24), (ad 25, cel cy ad M00 25), (ad 26, cel cy ad M00 26), (ad 27, cel cy ad M00 27), (ad 28, cel cy ad M00 28), (ad 29, cel cy ad M00 29), (ad 30, cel cy ad M00 30), (ad 31, cel cy ad M00 31), (ad 32, cel cy ad M00 32), (ad 33, cel cy ad M00 33), (ad 34, cel cy ad M00 34), (ad 35, cel cy ad M00 35), (ad 36, cel cy ad M00 36), (ad 37, cel cy ad M00 37), (ad 38, cel cy ad M00 38), (ad 39, cel cy ad M00 39), (ad 40, cel cy ad M00 40), (ad 41, cel cy ad M00 41), (ad 42, cel cy ad M00 42), (ad 43, cel cy ad M00 43), (ad 44, cel cy ad M00 44), (ad 45, cel cy ad M00 45), (ad 46, cel cy ad M00 46), (ad 47, cel cy ad M00 47), (ad 48, cel cy ad M00 48), (ad 49, cel cy ad M00 49), (ad 50, cel cy ad M00 50), (ad 51, cel cy ad M00 51), (ad 52, cel cy ad M00 52), (ad 53, cel cy ad M00 53), (ad 54, cel cy ad M00 54), (ad 55, cel cy ad M00 55), (ad 56, cel cy ad M00 56), (ad 57, cel cy ad M00 57), (ad 58, cel cy ad M00 58), (ad 59, cel cy ad M00 59), (ad 60, cel cy ad M00 60), (ad 61, cel cy ad M00 61), (ad 62, cel cy ad M00 62), (ad 63, cel cy ad M00 63), (ad 64, cel cy ad M00 64), (ad 65, cel cy ad M00 65), (ad 66, cel cy ad M00 66), (ad 67, cel cy ad M00 67), (ad 68, cel cy ad M00 68), (ad 69, cel cy ad M00 69), (ad 70, cel cy ad M00 70), (ad 71, cel cy ad M00 71), (ad 72, cel cy ad M00 72), (ad 73, cel cy ad M00 73), (ad 74, cel cy ad M00 74), (ad 75, cel cy ad M00 75), (ad 76, cel cy ad M00 76), (ad 77, cel cy ad M00 77), (ad 78, cel cy ad M00 78), (ad 79, cel cy ad M00 79), (ad 80, cel cy ad M00 80), (ad 81, cel cy ad M00 81), (ad 82, cel cy ad M00 82), (ad 83, cel cy ad M00 83), (ad 84, cel cy ad M00 84), (ad 85, cel cy ad M00 85), (ad 86, cel cy ad M00 86), (ad 87, cel cy ad M00 87), (ad 88, cel cy ad M00 88), (ad 89, cel cy ad M00 89), (ad 90, cel cy ad M00 90), (ad 91, cel cy ad M00 91), (ad 92, cel cy ad M00 92), (ad 93, cel cy ad M00 93), (ad 94, cel cy ad M00 94), (ad 95, cel cy ad M00 95), (ad 96, cel cy ad M00 96), (ad 97, cel cy ad M00 97), (ad 98, cel cy ad M00 98), (ad 99, cel cy ad M00 99), (ad 100, cel cy ad M00 100)] H
  refine P_cons (hP 0 _ rfl) ?_
  refine P_cons (hP 1 _ rfl) ?_
  refine P_cons (at_q (hP 2 _ rfl) h2) ?_
  refine P_cons (at_i (hP 3 _ rfl) (fun _ _ => rfl)) ?_
  refine P_cons (hP 4 _ rfl) ?_
  refine P_cons (hP 5 _ rfl) ?_
  refine P_cons (hP 6 _ rfl) ?_
  refine P_cons (hP 7 _ rfl) ?_
  refine P_cons (hP 8 _ rfl) ?_
  refine P_cons (hP 9 _ rfl) ?_
  refine P_cons (hP 10 _ rfl) ?_
  refine P_cons (hP 11 _ rfl) ?_
  refine P_cons (hP 12 _ rfl) ?_
  refine P_cons (hP 13 _ rfl) ?_
  refine P_cons (hP 14 _ rfl) ?_
  refine P_cons (hP 15 _ rfl) ?_
  refine P_cons (at_i (hP 16 _ rfl) (fun _ _ => rfl)) ?_
  refine P_cons (at_i (hP 17 _ rfl) (fun _ _ => rfl)) ?_
  refine P_cons (at_i (hP 18 _ rfl) (fun _ _ => rfl)) ?_
  refine P_cons (at_i (hP 19 _ rfl) (fun _ _ => rfl)) ?_
  refine P_cons (at_i (hP 20 _ rfl) (fun _ _ => rfl)) ?_
  refine P_cons (at_i (hP 21 _ rfl) (fun _ _ => rfl)) ?_
  refine P_cons (at_q (hP 22 _ rfl) h22) ?_
  refine P_cons (hP 23 _ rfl) ?_
  refine P_cons (hP 24 _ rfl) ?_
  refine P_cons (hP 25 _ rfl) ?_
  refine P_cons (hP 26 _ rfl) ?_
  refine P_cons (at_i (hP 27 _ rfl) (fun _ _ => rfl)) ?_
  refine P_cons (at_i (hP 28 _ rfl) (fun _ _ => rfl)) ?_
  refine P_cons (at_i (hP 29 _ rfl) (fun _ _ => rfl)) ?_
  refine P_cons (at_i (hP 30 _ rfl) (fun _ _ => rfl)) ?_
  refine P_cons (hP 31 _ rfl) ?_
  refine P_cons (hP 32 _ rfl) ?_
  refine P_cons (at_q (hP 33 _ rfl) h33) ?_
  refine P_cons (at_q (hP 34 _ rfl) h34) ?_
  refine P_cons (at_i (hP 35 _ rfl) (fun _ _ => rfl)) ?_
  refine P_cons (at_i (hP 36 _ rfl) (fun _ _ => rfl)) ?_
  refine P_cons (hP 37 _ rfl) ?_
  refine P_cons (hP 38 _ rfl) ?_
  refine P_cons (hP 39 _ rfl) ?_
  refine P_cons (at_q (hP 40 _ rfl) h40) ?_
  refine P_cons (at_q (hP 41 _ rfl) h41) ?_
  refine P_cons (at_q (hP 42 _ rfl) h42) ?_
  refine P_cons (at_l (hP 43 _ rfl) (fun _ _ => rfl)) ?_
  refine P_cons (at_l (hP 44 _ rfl) (fun _ _ => rfl)) ?_
  refine P_cons (at_l (hP 45 _ rfl) (fun _ _ => rfl)) ?_
  refine P_cons (at_l (hP 46 _ rfl) (fun _ _ => rfl)) ?_
  refine P_cons (at_l (hP 47 _ rfl) (fun _ _ => rfl)) ?_
  refine P_cons (at_l (hP 48 _ rfl) (fun _ _ => rfl)) ?_
  refine P_cons (at_l (hP 49 _ rfl) (fun _ _ => rfl)) ?_
  refine P_cons (at_l (hP 50 _ rfl) (fun _ _ => rfl)) ?_
  refine P_cons (at_l (hP 51 _ rfl) (fun _ _ => rfl)) ?_
  refine P_cons (at_l (hP 52 _ rfl) (fun _ _ => rfl)) ?_
  refine P_cons (at_l (hP 53 _ rfl) (fun _ _ => rfl)) ?_
  refine P_cons (at_l (hP 54 _ rfl) (fun _ _ => rfl)) ?_
  refine P_cons (at_l (hP 55 _ rfl) (fun _ _ => rfl)) ?_
  refine P_cons (at_l (hP 56 _ rfl) (fun _ _ => rfl)) ?_
  refine P_cons (at_l (hP 57 _ rfl) (fun _ _ => rfl)) ?_
  refine P_cons (at_l (hP 58 _ rfl) (fun _ _ => rfl)) ?_
  refine P_cons (at_l (hP 59 _ rfl) (fun _ _ => rfl)) ?_
  refine P_cons (at_l (hP 60 _ rfl) (fun _ _ => rfl)) ?_
  refine P_cons (at_i (hP 61 _ rfl) (fun _ _ => rfl)) ?_
  refine P_cons (at_i (hP 62 _ rfl) (fun _ _ => rfl)) ?_
  refine P_cons (at_i (hP 63 _ rfl) (fun _ _ => rfl)) ?_
  refine P_cons (at_i (hP 64 _ rfl) (fun _ _ => rfl)) ?_
  refine P_cons (at_i (hP 65 _ rfl) (fun _ _ => rfl)) ?_
  refine P_cons (at_i (hP 66 _ rfl) (fun _ _ => rfl)) ?_
  refine P_cons (at_i (hP 67 _ rfl) (fun _ _ => rfl)) ?_
  refine P_cons (at_i (hP 68 _ rfl) (fun _ _ => rfl)) ?_
  refine P_cons (at_i (hP 69 _ rfl) (fun _ _ => rfl)) ?_
  refine P_cons (at_i (hP 70 _ rfl) (fun _ _ => rfl)) ?_
  refine P_cons (at_i (hP 71 _ rfl) (fun _ _ => rfl)) ?_
  refine P_cons (at_i (hP 72 _ rfl) (fun _ _ => rfl)) ?_
  refine P_cons (at_l (hP 73 _ rfl) (fun _ _ => rfl)) ?_
  refine P_cons (at_i (hP 74 _ rfl) (fun _ _ => rfl)) ?_
  refine P_cons (at_i (hP 75 _ rfl) (fun _ _ => rfl)) ?_
  refine P_cons (at_i (hP 76 _ rfl) (fun _ _ => rfl)) ?_
  refine P_cons (at_l (hP 77 _ rfl) (fun _ _ => rfl)) ?_
  refine P_cons (at_q (hP 78 _ rfl) h78) ?_
  refine P_cons (at_i (hP 79 _ rfl) (fun _ _ => rfl)) ?_
  refine P_cons (at_i (hP 80 _ rfl) (fun _ _ => rfl)) ?_
  refine P_cons (at_i (hP 81 _ rfl) (fun _ _ => rfl)) ?_
  refine P_cons (at_i (hP 82 _ rfl) (fun _ _ => rfl)) ?_
  refine P_cons (at_i (hP 83 _ rfl) (fun _ _ => rfl)) ?_
  refine P_cons (at_i (hP 84 _ rfl) (fun _ _ => rfl)) ?_
  refine P_cons (at_i (hP 85 _ rfl) h85) ?_
  refine P_cons (at_i (hP 86 _ rfl) (fun _ _ => rfl)) ?_
  refine P_cons (at_i (hP 87 _ rfl) (fun _ _ => rfl)) ?_
  refine P_cons (at_i (hP 88 _ rfl) (fun _ _ => rfl)) ?_
  refine P_cons (at_i (hP 89 _ rfl) (fun _ _ => rfl)) ?_
  refine P_cons (at_i (hP 90 _ rfl) (fun _ _ => rfl)) ?_
  refine P_cons (at_i (hP 91 _ rfl) (fun _ _ => rfl)) ?_
  refine P_cons (at_i (hP 92 _ rfl) (fun _ _ => rfl)) ?_
  refine P_cons (at_i (hP 93 _ rfl) (fun _ _ => rfl)) ?_
  refine P_cons (at_i (hP 94 _ rfl) (fun _ _ => rfl)) ?_
  refine P_cons (at_l (hP 95 _ rfl) (fun _ _ => rfl)) ?_
  refine P_cons (at_i (hP 96 _ rfl) (fun _ _ => rfl)) ?_
  refine P_cons (at_l (hP 97 _ rfl) (fun _ _ => rfl)) ?_
  refine P_cons (at_l (hP 98 _ rfl) (fun _ _ => rfl)) ?_
  refine P_cons (at_i (hP 99 _ rfl) (fun _ _ => rfl)) ?_
  refine P_cons (at_i (hP 100 _ rfl) (fun _ _ => rfl)) ?_
  exact P_nil

abbrev Cx : Type := Program × Launch × Env × Room × State × MethodId × Array Value × List Frame × Method × Code × (Nat → ClassId) × (Nat → Nat → Nat) × (Nat → ClassId) × (Nat → Prop) × Nat × Nat × (State → Prop)
abbrev wn_tys (cy : Nat → ClassId) : List (ClassId × FieldType) := [(cy 0, .int), (cy 1, .long), (cy 2, .boolean), (cy 3, .object "WaitingNets$Counter"), (cy 4, .object "WaitingNets$Row"), (cy 5, .array .int), (cy 6, .array .long)]
def wn_A (ad : Nat → Nat) : Nat → Prop := fun q => ∃ k, k < 101 ∧ q = ad k
def wn_J (ad : Nat → Nat) : Prop := ∀ i j, i < 101 → j < 101 → ad i = ad j → i = j
theorem wn_D {cy : Nat → ClassId} {ad : Nat → Nat} {M : Mm} {A : Nat → Prop} (h : wn_J ad) (hA : ∀ k, k < 101 → A (ad k)) : va_D A (wn_W cy ad M) := by
  have hg : ∀ (i : Nat) (q : Nat × va_E), (wn_W cy ad M)[i]? = some q → i < 101 ∧ q = (ad i, cel cy ad M i) := by
    intro i q hq
    by_cases hi : i < 101
    · rw [wn_at hi] at hq
      cases hq
      exact ⟨hi, rfl⟩
    · unfold wn_W at hq
      rw [List.getElem?_map, List.getElem?_eq_none (by simp; omega)] at hq
      cases hq
  refine ⟨fun i j x y hi hj hxy => ?_, fun k q hk => ?_⟩
  · obtain ⟨h1, rfl⟩ := hg i x hi
    obtain ⟨h2, rfl⟩ := hg j y hj
    exact h i j h1 h2 hxy
  · obtain ⟨h1, rfl⟩ := hg k q hk
    exact hA k h1
/-- from every heap that holds the memory M, the frame comes to the method's end -/
def G (ad : Nat → Nat) (X : Cx) (M : Mm) (pc : Nat) (ls : Array Slot) (st : List Value) : Prop := match X with
  | (p, l, e, R, s, m, args, below, meth, c, dC, dI, cy, A, cells, slots, Q) => ∀ (H : Heap) (locs : List Loc), va_P (dC, dI) vwCl (wn_W cy ad M) H → va_S A s.heap H locs → W p l e R s m args below meth c H locs cells slots Q (F0 m pc ls st)
/-- what stays as it is while a method runs -/
def Zk (ad : Nat → Nat) (X : Cx) (cc : ByteArray) (own : String) (nL : Nat) (ret : Option FieldType) (rm : Room) : Prop := match X with
  | (p, l, e, R, s, m, args, below, meth, c, dC, dI, cy, A, cells, slots, Q) => p.tables.exec = Jvm.exec ∧ c.code = cc ∧ c.maxLocals = nL ∧ s.vm.findClass own = some m.cls ∧ (∀ w ∈ wn_all, w.before args s = true) ∧ va_K (dC, dI) vwCl (wn_tys cy) s ∧ wn_J ad ∧ meth.sig.returnType = ret ∧ meth.locks = false ∧ R = rm ∧ (∀ k, k < 101 → A (ad k)) ∧ cells ≤ R.cells ∧ slots ≤ R.slots

section WNR
variable {ad : Nat → Nat} {X : Cx} {cc : ByteArray} {own : String} {nL : Nat} {ret : Option FieldType} {rm : Room} {M : Mm} {pc : Nat} {ls : Array Slot} {rest : List Value}
theorem r_iconst (Z : Zk ad X cc own nL ret rm) {n : Int} {v : Int32} (hdg : decode cc pc = .ok (.iconst n, 1)) (hv : Int32.ofInt n = v) (k : G ad X M (pc + 1) ls (.int v :: rest)) : G ad X M pc ls (rest) := by
  obtain ⟨p, l, e, R, s, m, args, below, meth, c, dC, dI, cy, A, cells, slots, Q⟩ := X
  obtain ⟨hx, hb, hml, hown, hts, hK, hJ, hr, hlk, hR, hA, hcc, hss⟩ := Z
  exact fun H locs hP hS => lv_iconst hx hb hdg hv (k H locs hP hS)
theorem r_bipush (Z : Zk ad X cc own nL ret rm) {n : Int} {v : Int32} (hdg : decode cc pc = .ok (.bipush n, 2)) (hv : (Int8.ofInt n).toInt32 = v) (k : G ad X M (pc + 2) ls (.int v :: rest)) : G ad X M pc ls (rest) := by
  obtain ⟨p, l, e, R, s, m, args, below, meth, c, dC, dI, cy, A, cells, slots, Q⟩ := X
  obtain ⟨hx, hb, hml, hown, hts, hK, hJ, hr, hlk, hR, hA, hcc, hss⟩ := Z
  exact fun H locs hP hS => lv_bipush hx hb hdg hv (k H locs hP hS)
theorem r_sipush (Z : Zk ad X cc own nL ret rm) {n : Int} {v : Int32} (hdg : decode cc pc = .ok (.sipush n, 3)) (hv : (Int16.ofInt n).toInt32 = v) (k : G ad X M (pc + 3) ls (.int v :: rest)) : G ad X M pc ls (rest) := by
  obtain ⟨p, l, e, R, s, m, args, below, meth, c, dC, dI, cy, A, cells, slots, Q⟩ := X
  obtain ⟨hx, hb, hml, hown, hts, hK, hJ, hr, hlk, hR, hA, hcc, hss⟩ := Z
  exact fun H locs hP hS => lv_sipush hx hb hdg hv (k H locs hP hS)
theorem r_lconst (Z : Zk ad X cc own nL ret rm) {n : Fin 2} {v : Int64} (hdg : decode cc pc = .ok (.lconst n, 1)) (hv : Int64.ofNat (n : Nat) = v) (k : G ad X M (pc + 1) ls (.long v :: rest)) : G ad X M pc ls (rest) := by
  obtain ⟨p, l, e, R, s, m, args, below, meth, c, dC, dI, cy, A, cells, slots, Q⟩ := X
  obtain ⟨hx, hb, hml, hown, hts, hK, hJ, hr, hlk, hR, hA, hcc, hss⟩ := Z
  exact fun H locs hP hS => lv_lconst hx hb hdg hv (k H locs hP hS)
theorem r_ldc (Z : Zk ad X cc own nL ret rm) {index : Nat} {v : Int32} (hw : Cond.constant own index v ∈ wn_all) (hdg : decode cc pc = .ok (.ldc index, 2)) (k : G ad X M (pc + 2) ls (.int v :: rest)) : G ad X M pc ls (rest) := by
  obtain ⟨p, l, e, R, s, m, args, below, meth, c, dC, dI, cy, A, cells, slots, Q⟩ := X
  obtain ⟨hx, hb, hml, hown, hts, hK, hJ, hr, hlk, hR, hA, hcc, hss⟩ := Z
  exact fun H locs hP hS => lv_ldc hx hb hown (hts _ hw) hdg (k H locs hP hS)
theorem r_ldcw (Z : Zk ad X cc own nL ret rm) {index : Nat} {v : Int32} (hw : Cond.constant own index v ∈ wn_all) (hdg : decode cc pc = .ok (.ldc_w index, 3)) (k : G ad X M (pc + 3) ls (.int v :: rest)) : G ad X M pc ls (rest) := by
  obtain ⟨p, l, e, R, s, m, args, below, meth, c, dC, dI, cy, A, cells, slots, Q⟩ := X
  obtain ⟨hx, hb, hml, hown, hts, hK, hJ, hr, hlk, hR, hA, hcc, hss⟩ := Z
  exact fun H locs hP hS => lv_ldcw hx hb hown (hts _ hw) hdg (k H locs hP hS)
theorem r_ldc2 (Z : Zk ad X cc own nL ret rm) {index : Nat} {v : Int64} (hw : Cond.constantLong own index v ∈ wn_all) (hdg : decode cc pc = .ok (.ldc2_w index, 3)) (k : G ad X M (pc + 3) ls (.long v :: rest)) : G ad X M pc ls (rest) := by
  obtain ⟨p, l, e, R, s, m, args, below, meth, c, dC, dI, cy, A, cells, slots, Q⟩ := X
  obtain ⟨hx, hb, hml, hown, hts, hK, hJ, hr, hlk, hR, hA, hcc, hss⟩ := Z
  exact fun H locs hP hS => lv_ldc2 hx hb hown (hts _ hw) hdg (k H locs hP hS)
theorem r_iload_n (Z : Zk ad X cc own nL ret rm) {q : Fin 4} {i : Nat} {x : Int32} (hdg : decode cc pc = .ok (.iload_n q, 1)) (hi : (q : Nat) = i) (hl : ls[i]? = some (.val (.int x))) (k : G ad X M (pc + 1) ls (.int x :: rest)) : G ad X M pc ls (rest) := by
  obtain ⟨p, l, e, R, s, m, args, below, meth, c, dC, dI, cy, A, cells, slots, Q⟩ := X
  obtain ⟨hx, hb, hml, hown, hts, hK, hJ, hr, hlk, hR, hA, hcc, hss⟩ := Z
  exact fun H locs hP hS => lv_iload_n hx hb hdg hi hl (k H locs hP hS)
theorem r_iload (Z : Zk ad X cc own nL ret rm) {i : Nat} {x : Int32} (hdg : decode cc pc = .ok (.iload i, 2)) (hl : ls[i]? = some (.val (.int x))) (k : G ad X M (pc + 2) ls (.int x :: rest)) : G ad X M pc ls (rest) := by
  obtain ⟨p, l, e, R, s, m, args, below, meth, c, dC, dI, cy, A, cells, slots, Q⟩ := X
  obtain ⟨hx, hb, hml, hown, hts, hK, hJ, hr, hlk, hR, hA, hcc, hss⟩ := Z
  exact fun H locs hP hS => lv_iload hx hb hdg hl (k H locs hP hS)
theorem r_istore_n (Z : Zk ad X cc own nL ret rm) {q : Fin 4} {i : Nat} {x : Int32} {lv : List (Nat × Value)} (lv2 : List (Nat × Value)) (hdg : decode cc pc = .ok (.istore_n q, 1)) (hi : (q : Nat) = i) (h : lv_has ls nL lv) (hn : i < nL) (hl : (i, Value.int x) :: lv.filter (fun q => !(q.1 == i) && !(q.1 + 1 == i && q.2.category == 2)) = lv2) (k : ∀ ls2 : Array Slot, lv_has ls2 nL lv2 → G ad X M (pc + 1) ls2 rest) : G ad X M pc ls (.int x :: rest) := by
  obtain ⟨p, l, e, R, s, m, args, below, meth, c, dC, dI, cy, A, cells, slots, Q⟩ := X
  obtain ⟨hx, hb, hml, hown, hts, hK, hJ, hr, hlk, hR, hA, hcc, hss⟩ := Z
  exact fun H locs hP hS => lv_istore_n hx hb hdg hi h hn hl (fun ls2 h2 => k ls2 h2 H locs hP hS)
theorem r_istore (Z : Zk ad X cc own nL ret rm) {i : Nat} {x : Int32} {lv : List (Nat × Value)} (lv2 : List (Nat × Value)) (hdg : decode cc pc = .ok (.istore i, 2))  (h : lv_has ls nL lv) (hn : i < nL) (hl : (i, Value.int x) :: lv.filter (fun q => !(q.1 == i) && !(q.1 + 1 == i && q.2.category == 2)) = lv2) (k : ∀ ls2 : Array Slot, lv_has ls2 nL lv2 → G ad X M (pc + 2) ls2 rest) : G ad X M pc ls (.int x :: rest) := by
  obtain ⟨p, l, e, R, s, m, args, below, meth, c, dC, dI, cy, A, cells, slots, Q⟩ := X
  obtain ⟨hx, hb, hml, hown, hts, hK, hJ, hr, hlk, hR, hA, hcc, hss⟩ := Z
  exact fun H locs hP hS => lv_istore hx hb hdg h hn hl (fun ls2 h2 => k ls2 h2 H locs hP hS)
theorem r_lload_n (Z : Zk ad X cc own nL ret rm) {q : Fin 4} {i : Nat} {x : Int64} (hdg : decode cc pc = .ok (.lload_n q, 1)) (hi : (q : Nat) = i) (hl : ls[i]? = some (.val (.long x))) (k : G ad X M (pc + 1) ls (.long x :: rest)) : G ad X M pc ls (rest) := by
  obtain ⟨p, l, e, R, s, m, args, below, meth, c, dC, dI, cy, A, cells, slots, Q⟩ := X
  obtain ⟨hx, hb, hml, hown, hts, hK, hJ, hr, hlk, hR, hA, hcc, hss⟩ := Z
  exact fun H locs hP hS => lv_lload_n hx hb hdg hi hl (k H locs hP hS)
theorem r_lload (Z : Zk ad X cc own nL ret rm) {i : Nat} {x : Int64} (hdg : decode cc pc = .ok (.lload i, 2)) (hl : ls[i]? = some (.val (.long x))) (k : G ad X M (pc + 2) ls (.long x :: rest)) : G ad X M pc ls (rest) := by
  obtain ⟨p, l, e, R, s, m, args, below, meth, c, dC, dI, cy, A, cells, slots, Q⟩ := X
  obtain ⟨hx, hb, hml, hown, hts, hK, hJ, hr, hlk, hR, hA, hcc, hss⟩ := Z
  exact fun H locs hP hS => lv_lload hx hb hdg hl (k H locs hP hS)
theorem r_lstore_n (Z : Zk ad X cc own nL ret rm) {q : Fin 4} {i : Nat} {x : Int64} {lv : List (Nat × Value)} (lv2 : List (Nat × Value)) (hdg : decode cc pc = .ok (.lstore_n q, 1)) (hi : (q : Nat) = i) (h : lv_has ls nL lv) (hn : i + 1 < nL) (hl : (i, Value.long x) :: lv.filter (fun q => !(q.1 == i) && (!(q.1 == i + 1) && !(q.1 + 1 == i && q.2.category == 2))) = lv2) (k : ∀ ls2 : Array Slot, lv_has ls2 nL lv2 → G ad X M (pc + 1) ls2 rest) : G ad X M pc ls (.long x :: rest) := by
  obtain ⟨p, l, e, R, s, m, args, below, meth, c, dC, dI, cy, A, cells, slots, Q⟩ := X
  obtain ⟨hx, hb, hml, hown, hts, hK, hJ, hr, hlk, hR, hA, hcc, hss⟩ := Z
  exact fun H locs hP hS => lv_lstore_n hx hb hdg hi h hn hl (fun ls2 h2 => k ls2 h2 H locs hP hS)
theorem r_lstore (Z : Zk ad X cc own nL ret rm) {i : Nat} {x : Int64} {lv : List (Nat × Value)} (lv2 : List (Nat × Value)) (hdg : decode cc pc = .ok (.lstore i, 2))  (h : lv_has ls nL lv) (hn : i + 1 < nL) (hl : (i, Value.long x) :: lv.filter (fun q => !(q.1 == i) && (!(q.1 == i + 1) && !(q.1 + 1 == i && q.2.category == 2))) = lv2) (k : ∀ ls2 : Array Slot, lv_has ls2 nL lv2 → G ad X M (pc + 2) ls2 rest) : G ad X M pc ls (.long x :: rest) := by
  obtain ⟨p, l, e, R, s, m, args, below, meth, c, dC, dI, cy, A, cells, slots, Q⟩ := X
  obtain ⟨hx, hb, hml, hown, hts, hK, hJ, hr, hlk, hR, hA, hcc, hss⟩ := Z
  exact fun H locs hP hS => lv_lstore hx hb hdg h hn hl (fun ls2 h2 => k ls2 h2 H locs hP hS)
theorem r_aload_n (Z : Zk ad X cc own nL ret rm) {q : Fin 4} {i : Nat} {x : Nat} (hdg : decode cc pc = .ok (.aload_n q, 1)) (hi : (q : Nat) = i) (hl : ls[i]? = some (.val (.ref x))) (k : G ad X M (pc + 1) ls (.ref x :: rest)) : G ad X M pc ls (rest) := by
  obtain ⟨p, l, e, R, s, m, args, below, meth, c, dC, dI, cy, A, cells, slots, Q⟩ := X
  obtain ⟨hx, hb, hml, hown, hts, hK, hJ, hr, hlk, hR, hA, hcc, hss⟩ := Z
  exact fun H locs hP hS => lv_aload_n hx hb hdg hi hl (k H locs hP hS)
theorem r_aload (Z : Zk ad X cc own nL ret rm) {i : Nat} {x : Nat} (hdg : decode cc pc = .ok (.aload i, 2)) (hl : ls[i]? = some (.val (.ref x))) (k : G ad X M (pc + 2) ls (.ref x :: rest)) : G ad X M pc ls (rest) := by
  obtain ⟨p, l, e, R, s, m, args, below, meth, c, dC, dI, cy, A, cells, slots, Q⟩ := X
  obtain ⟨hx, hb, hml, hown, hts, hK, hJ, hr, hlk, hR, hA, hcc, hss⟩ := Z
  exact fun H locs hP hS => lv_aload hx hb hdg hl (k H locs hP hS)
theorem r_astore_n (Z : Zk ad X cc own nL ret rm) {q : Fin 4} {i : Nat} {x : Nat} {lv : List (Nat × Value)} (lv2 : List (Nat × Value)) (hdg : decode cc pc = .ok (.astore_n q, 1)) (hi : (q : Nat) = i) (h : lv_has ls nL lv) (hn : i < nL) (hl : (i, Value.ref x) :: lv.filter (fun q => !(q.1 == i) && !(q.1 + 1 == i && q.2.category == 2)) = lv2) (k : ∀ ls2 : Array Slot, lv_has ls2 nL lv2 → G ad X M (pc + 1) ls2 rest) : G ad X M pc ls (.ref x :: rest) := by
  obtain ⟨p, l, e, R, s, m, args, below, meth, c, dC, dI, cy, A, cells, slots, Q⟩ := X
  obtain ⟨hx, hb, hml, hown, hts, hK, hJ, hr, hlk, hR, hA, hcc, hss⟩ := Z
  exact fun H locs hP hS => lv_astore_n hx hb hdg hi h hn hl (fun ls2 h2 => k ls2 h2 H locs hP hS)
theorem r_astore (Z : Zk ad X cc own nL ret rm) {i : Nat} {x : Nat} {lv : List (Nat × Value)} (lv2 : List (Nat × Value)) (hdg : decode cc pc = .ok (.astore i, 2))  (h : lv_has ls nL lv) (hn : i < nL) (hl : (i, Value.ref x) :: lv.filter (fun q => !(q.1 == i) && !(q.1 + 1 == i && q.2.category == 2)) = lv2) (k : ∀ ls2 : Array Slot, lv_has ls2 nL lv2 → G ad X M (pc + 2) ls2 rest) : G ad X M pc ls (.ref x :: rest) := by
  obtain ⟨p, l, e, R, s, m, args, below, meth, c, dC, dI, cy, A, cells, slots, Q⟩ := X
  obtain ⟨hx, hb, hml, hown, hts, hK, hJ, hr, hlk, hR, hA, hcc, hss⟩ := Z
  exact fun H locs hP hS => lv_astore hx hb hdg h hn hl (fun ls2 h2 => k ls2 h2 H locs hP hS)
theorem r_iinc (Z : Zk ad X cc own nL ret rm) {i j : Nat} {n : Int} {x : Int32} {lv : List (Nat × Value)} (v : Int32) (lv2 : List (Nat × Value)) (hdg : decode cc pc = .ok (.iinc i n, 3)) (h : lv_has ls nL lv) (hk : lv[j]? = some (i, .int x)) (hv : x + Int32.ofInt n = v) (hn : i < nL) (hl : (i, Value.int v) :: lv.filter (fun q => !(q.1 == i) && !(q.1 + 1 == i && q.2.category == 2)) = lv2) (k : ∀ ls2 : Array Slot, lv_has ls2 nL lv2 → G ad X M (pc + 3) ls2 rest) : G ad X M pc ls rest := by
  obtain ⟨p, l, e, R, s, m, args, below, meth, c, dC, dI, cy, A, cells, slots, Q⟩ := X
  obtain ⟨hx, hb, hml, hown, hts, hK, hJ, hr, hlk, hR, hA, hcc, hss⟩ := Z
  exact fun H locs hP hS => lv_iinc hx hb hdg h hk hv hn hl (fun ls2 h2 => k ls2 h2 H locs hP hS)
theorem r_iadd (Z : Zk ad X cc own nL ret rm) {x y : Int32} (hdg : decode cc pc = .ok (.iadd, 1)) (k : G ad X M (pc + 1) ls (.int (x + y) :: rest)) : G ad X M pc ls (.int y :: .int x :: rest) := by
  obtain ⟨p, l, e, R, s, m, args, below, meth, c, dC, dI, cy, A, cells, slots, Q⟩ := X
  obtain ⟨hx, hb, hml, hown, hts, hK, hJ, hr, hlk, hR, hA, hcc, hss⟩ := Z
  exact fun H locs hP hS => lv_iadd hx hb hdg (k H locs hP hS)
theorem r_isub (Z : Zk ad X cc own nL ret rm) {x y : Int32} (hdg : decode cc pc = .ok (.isub, 1)) (k : G ad X M (pc + 1) ls (.int (x - y) :: rest)) : G ad X M pc ls (.int y :: .int x :: rest) := by
  obtain ⟨p, l, e, R, s, m, args, below, meth, c, dC, dI, cy, A, cells, slots, Q⟩ := X
  obtain ⟨hx, hb, hml, hown, hts, hK, hJ, hr, hlk, hR, hA, hcc, hss⟩ := Z
  exact fun H locs hP hS => lv_isub hx hb hdg (k H locs hP hS)
theorem r_imul (Z : Zk ad X cc own nL ret rm) {x y : Int32} (hdg : decode cc pc = .ok (.imul, 1)) (k : G ad X M (pc + 1) ls (.int (x * y) :: rest)) : G ad X M pc ls (.int y :: .int x :: rest) := by
  obtain ⟨p, l, e, R, s, m, args, below, meth, c, dC, dI, cy, A, cells, slots, Q⟩ := X
  obtain ⟨hx, hb, hml, hown, hts, hK, hJ, hr, hlk, hR, hA, hcc, hss⟩ := Z
  exact fun H locs hP hS => lv_imul hx hb hdg (k H locs hP hS)
theorem r_iand (Z : Zk ad X cc own nL ret rm) {x y : Int32} (hdg : decode cc pc = .ok (.iand, 1)) (k : G ad X M (pc + 1) ls (.int (x &&& y) :: rest)) : G ad X M pc ls (.int y :: .int x :: rest) := by
  obtain ⟨p, l, e, R, s, m, args, below, meth, c, dC, dI, cy, A, cells, slots, Q⟩ := X
  obtain ⟨hx, hb, hml, hown, hts, hK, hJ, hr, hlk, hR, hA, hcc, hss⟩ := Z
  exact fun H locs hP hS => lv_iand hx hb hdg (k H locs hP hS)
theorem r_ior (Z : Zk ad X cc own nL ret rm) {x y : Int32} (hdg : decode cc pc = .ok (.ior, 1)) (k : G ad X M (pc + 1) ls (.int (x ||| y) :: rest)) : G ad X M pc ls (.int y :: .int x :: rest) := by
  obtain ⟨p, l, e, R, s, m, args, below, meth, c, dC, dI, cy, A, cells, slots, Q⟩ := X
  obtain ⟨hx, hb, hml, hown, hts, hK, hJ, hr, hlk, hR, hA, hcc, hss⟩ := Z
  exact fun H locs hP hS => lv_ior hx hb hdg (k H locs hP hS)
theorem r_ixor (Z : Zk ad X cc own nL ret rm) {x y : Int32} (hdg : decode cc pc = .ok (.ixor, 1)) (k : G ad X M (pc + 1) ls (.int (x ^^^ y) :: rest)) : G ad X M pc ls (.int y :: .int x :: rest) := by
  obtain ⟨p, l, e, R, s, m, args, below, meth, c, dC, dI, cy, A, cells, slots, Q⟩ := X
  obtain ⟨hx, hb, hml, hown, hts, hK, hJ, hr, hlk, hR, hA, hcc, hss⟩ := Z
  exact fun H locs hP hS => lv_ixor hx hb hdg (k H locs hP hS)
theorem r_ishl (Z : Zk ad X cc own nL ret rm) {x y : Int32} (hdg : decode cc pc = .ok (.ishl, 1)) (k : G ad X M (pc + 1) ls (.int (x <<< (y &&& 31)) :: rest)) : G ad X M pc ls (.int y :: .int x :: rest) := by
  obtain ⟨p, l, e, R, s, m, args, below, meth, c, dC, dI, cy, A, cells, slots, Q⟩ := X
  obtain ⟨hx, hb, hml, hown, hts, hK, hJ, hr, hlk, hR, hA, hcc, hss⟩ := Z
  exact fun H locs hP hS => lv_ishl hx hb hdg (k H locs hP hS)
theorem r_ishr (Z : Zk ad X cc own nL ret rm) {x y : Int32} (hdg : decode cc pc = .ok (.ishr, 1)) (k : G ad X M (pc + 1) ls (.int (x >>> (y &&& 31)) :: rest)) : G ad X M pc ls (.int y :: .int x :: rest) := by
  obtain ⟨p, l, e, R, s, m, args, below, meth, c, dC, dI, cy, A, cells, slots, Q⟩ := X
  obtain ⟨hx, hb, hml, hown, hts, hK, hJ, hr, hlk, hR, hA, hcc, hss⟩ := Z
  exact fun H locs hP hS => lv_ishr hx hb hdg (k H locs hP hS)
theorem r_iushr (Z : Zk ad X cc own nL ret rm) {x y : Int32} (hdg : decode cc pc = .ok (.iushr, 1)) (k : G ad X M (pc + 1) ls (.int ((x.toUInt32 >>> (y.toUInt32 &&& Int32.toUInt32 31)).toInt32) :: rest)) : G ad X M pc ls (.int y :: .int x :: rest) := by
  obtain ⟨p, l, e, R, s, m, args, below, meth, c, dC, dI, cy, A, cells, slots, Q⟩ := X
  obtain ⟨hx, hb, hml, hown, hts, hK, hJ, hr, hlk, hR, hA, hcc, hss⟩ := Z
  exact fun H locs hP hS => lv_iushr hx hb hdg rfl (k H locs hP hS)
theorem r_idiv (Z : Zk ad X cc own nL ret rm) {x y : Int32} (hdg : decode cc pc = .ok (.idiv, 1)) (hne : ¬ y = 0) (k : G ad X M (pc + 1) ls (.int (x / y) :: rest)) : G ad X M pc ls (.int y :: .int x :: rest) := by
  obtain ⟨p, l, e, R, s, m, args, below, meth, c, dC, dI, cy, A, cells, slots, Q⟩ := X
  obtain ⟨hx, hb, hml, hown, hts, hK, hJ, hr, hlk, hR, hA, hcc, hss⟩ := Z
  exact fun H locs hP hS => lv_idiv hx hb hdg hne (k H locs hP hS)
theorem r_irem (Z : Zk ad X cc own nL ret rm) {x y : Int32} (hdg : decode cc pc = .ok (.irem, 1)) (hne : ¬ y = 0) (k : G ad X M (pc + 1) ls (.int (x - x / y * y) :: rest)) : G ad X M pc ls (.int y :: .int x :: rest) := by
  obtain ⟨p, l, e, R, s, m, args, below, meth, c, dC, dI, cy, A, cells, slots, Q⟩ := X
  obtain ⟨hx, hb, hml, hown, hts, hK, hJ, hr, hlk, hR, hA, hcc, hss⟩ := Z
  exact fun H locs hP hS => lv_irem hx hb hdg hne (k H locs hP hS)
theorem r_ineg (Z : Zk ad X cc own nL ret rm) {x : Int32} (hdg : decode cc pc = .ok (.ineg, 1)) (k : G ad X M (pc + 1) ls (.int (-x) :: rest)) : G ad X M pc ls (.int x :: rest) := by
  obtain ⟨p, l, e, R, s, m, args, below, meth, c, dC, dI, cy, A, cells, slots, Q⟩ := X
  obtain ⟨hx, hb, hml, hown, hts, hK, hJ, hr, hlk, hR, hA, hcc, hss⟩ := Z
  exact fun H locs hP hS => lv_ineg hx hb hdg (k H locs hP hS)
theorem r_lneg (Z : Zk ad X cc own nL ret rm) {x : Int64} (hdg : decode cc pc = .ok (.lneg, 1)) (k : G ad X M (pc + 1) ls (.long (-x) :: rest)) : G ad X M pc ls (.long x :: rest) := by
  obtain ⟨p, l, e, R, s, m, args, below, meth, c, dC, dI, cy, A, cells, slots, Q⟩ := X
  obtain ⟨hx, hb, hml, hown, hts, hK, hJ, hr, hlk, hR, hA, hcc, hss⟩ := Z
  exact fun H locs hP hS => lv_lneg hx hb hdg (k H locs hP hS)
theorem r_ladd (Z : Zk ad X cc own nL ret rm) {x y : Int64} (hdg : decode cc pc = .ok (.ladd, 1)) (k : G ad X M (pc + 1) ls (.long (x + y) :: rest)) : G ad X M pc ls (.long y :: .long x :: rest) := by
  obtain ⟨p, l, e, R, s, m, args, below, meth, c, dC, dI, cy, A, cells, slots, Q⟩ := X
  obtain ⟨hx, hb, hml, hown, hts, hK, hJ, hr, hlk, hR, hA, hcc, hss⟩ := Z
  exact fun H locs hP hS => lv_ladd hx hb hdg (k H locs hP hS)
theorem r_lsub (Z : Zk ad X cc own nL ret rm) {x y : Int64} (hdg : decode cc pc = .ok (.lsub, 1)) (k : G ad X M (pc + 1) ls (.long (x - y) :: rest)) : G ad X M pc ls (.long y :: .long x :: rest) := by
  obtain ⟨p, l, e, R, s, m, args, below, meth, c, dC, dI, cy, A, cells, slots, Q⟩ := X
  obtain ⟨hx, hb, hml, hown, hts, hK, hJ, hr, hlk, hR, hA, hcc, hss⟩ := Z
  exact fun H locs hP hS => lv_lsub hx hb hdg (k H locs hP hS)
theorem r_lmul (Z : Zk ad X cc own nL ret rm) {x y : Int64} (hdg : decode cc pc = .ok (.lmul, 1)) (k : G ad X M (pc + 1) ls (.long (x * y) :: rest)) : G ad X M pc ls (.long y :: .long x :: rest) := by
  obtain ⟨p, l, e, R, s, m, args, below, meth, c, dC, dI, cy, A, cells, slots, Q⟩ := X
  obtain ⟨hx, hb, hml, hown, hts, hK, hJ, hr, hlk, hR, hA, hcc, hss⟩ := Z
  exact fun H locs hP hS => lv_lmul hx hb hdg (k H locs hP hS)
theorem r_ldiv (Z : Zk ad X cc own nL ret rm) {x y : Int64} (hdg : decode cc pc = .ok (.ldiv, 1)) (hne : ¬ y = 0) (k : G ad X M (pc + 1) ls (.long (x / y) :: rest)) : G ad X M pc ls (.long y :: .long x :: rest) := by
  obtain ⟨p, l, e, R, s, m, args, below, meth, c, dC, dI, cy, A, cells, slots, Q⟩ := X
  obtain ⟨hx, hb, hml, hown, hts, hK, hJ, hr, hlk, hR, hA, hcc, hss⟩ := Z
  exact fun H locs hP hS => lv_ldiv hx hb hdg hne (k H locs hP hS)
theorem r_lrem (Z : Zk ad X cc own nL ret rm) {x y : Int64} (hdg : decode cc pc = .ok (.lrem, 1)) (hne : ¬ y = 0) (k : G ad X M (pc + 1) ls (.long (x - x / y * y) :: rest)) : G ad X M pc ls (.long y :: .long x :: rest) := by
  obtain ⟨p, l, e, R, s, m, args, below, meth, c, dC, dI, cy, A, cells, slots, Q⟩ := X
  obtain ⟨hx, hb, hml, hown, hts, hK, hJ, hr, hlk, hR, hA, hcc, hss⟩ := Z
  exact fun H locs hP hS => lv_lrem hx hb hdg hne (k H locs hP hS)
theorem r_i2l (Z : Zk ad X cc own nL ret rm) {x : Int32} (hdg : decode cc pc = .ok (.i2l, 1)) (k : G ad X M (pc + 1) ls (.long x.toInt64 :: rest)) : G ad X M pc ls (.int x :: rest) := by
  obtain ⟨p, l, e, R, s, m, args, below, meth, c, dC, dI, cy, A, cells, slots, Q⟩ := X
  obtain ⟨hx, hb, hml, hown, hts, hK, hJ, hr, hlk, hR, hA, hcc, hss⟩ := Z
  exact fun H locs hP hS => lv_i2l hx hb hdg rfl (k H locs hP hS)
theorem r_l2i (Z : Zk ad X cc own nL ret rm) {x : Int64} (hdg : decode cc pc = .ok (.l2i, 1)) (k : G ad X M (pc + 1) ls (.int x.toInt32 :: rest)) : G ad X M pc ls (.long x :: rest) := by
  obtain ⟨p, l, e, R, s, m, args, below, meth, c, dC, dI, cy, A, cells, slots, Q⟩ := X
  obtain ⟨hx, hb, hml, hown, hts, hK, hJ, hr, hlk, hR, hA, hcc, hss⟩ := Z
  exact fun H locs hP hS => lv_l2i hx hb hdg rfl (k H locs hP hS)
theorem r_lcmp (Z : Zk ad X cc own nL ret rm) {x y : Int64} (hdg : decode cc pc = .ok (.lcmp, 1)) (k : G ad X M (pc + 1) ls (.int (lg_cmp x y) :: rest)) : G ad X M pc ls (.long y :: .long x :: rest) := by
  obtain ⟨p, l, e, R, s, m, args, below, meth, c, dC, dI, cy, A, cells, slots, Q⟩ := X
  obtain ⟨hx, hb, hml, hown, hts, hK, hJ, hr, hlk, hR, hA, hcc, hss⟩ := Z
  exact fun H locs hP hS => W.lcmp hx hb hdg (k H locs hP hS)
theorem r_dup (Z : Zk ad X cc own nL ret rm) {va : Value} (hdg : decode cc pc = .ok (.dup, 1)) (hva : va.category = 1) (k : G ad X M (pc + 1) ls (va :: va :: rest)) : G ad X M pc ls (va :: rest) := by
  obtain ⟨p, l, e, R, s, m, args, below, meth, c, dC, dI, cy, A, cells, slots, Q⟩ := X
  obtain ⟨hx, hb, hml, hown, hts, hK, hJ, hr, hlk, hR, hA, hcc, hss⟩ := Z
  exact fun H locs hP hS => lv_dup hx hb hdg hva (k H locs hP hS)
theorem r_dup2 (Z : Zk ad X cc own nL ret rm) {va vb : Value} (hdg : decode cc pc = .ok (.dup2, 1)) (hva : va.category = 1) (hvb : vb.category = 1) (k : G ad X M (pc + 1) ls (va :: vb :: va :: vb :: rest)) : G ad X M pc ls (va :: vb :: rest) := by
  obtain ⟨p, l, e, R, s, m, args, below, meth, c, dC, dI, cy, A, cells, slots, Q⟩ := X
  obtain ⟨hx, hb, hml, hown, hts, hK, hJ, hr, hlk, hR, hA, hcc, hss⟩ := Z
  exact fun H locs hP hS => lv_dup2_11 hx hb hdg hva hvb (k H locs hP hS)
theorem r_dup2l (Z : Zk ad X cc own nL ret rm) {va : Value} (hdg : decode cc pc = .ok (.dup2, 1)) (hva : va.category = 2) (k : G ad X M (pc + 1) ls (va :: va :: rest)) : G ad X M pc ls (va :: rest) := by
  obtain ⟨p, l, e, R, s, m, args, below, meth, c, dC, dI, cy, A, cells, slots, Q⟩ := X
  obtain ⟨hx, hb, hml, hown, hts, hK, hJ, hr, hlk, hR, hA, hcc, hss⟩ := Z
  exact fun H locs hP hS => lv_dup2_2 hx hb hdg hva (k H locs hP hS)
theorem r_pop (Z : Zk ad X cc own nL ret rm) {va : Value} (hdg : decode cc pc = .ok (.pop, 1)) (hva : va.category = 1) (k : G ad X M (pc + 1) ls (rest)) : G ad X M pc ls (va :: rest) := by
  obtain ⟨p, l, e, R, s, m, args, below, meth, c, dC, dI, cy, A, cells, slots, Q⟩ := X
  obtain ⟨hx, hb, hml, hown, hts, hK, hJ, hr, hlk, hR, hA, hcc, hss⟩ := Z
  exact fun H locs hP hS => lv_pop hx hb hdg hva (k H locs hP hS)
theorem r_goto (Z : Zk ad X cc own nL ret rm) {off : Int} (tgt : Nat) (hdg : decode cc pc = .ok (.goto off, 3)) (ht : (pc : Int) + off = (tgt : Int)) (k : G ad X M tgt ls rest) : G ad X M pc ls rest := by
  obtain ⟨p, l, e, R, s, m, args, below, meth, c, dC, dI, cy, A, cells, slots, Q⟩ := X
  obtain ⟨hx, hb, hml, hown, hts, hK, hJ, hr, hlk, hR, hA, hcc, hss⟩ := Z
  exact fun H locs hP hS => lv_goto hx hb hdg ht (k H locs hP hS)
theorem r_if_eq (Z : Zk ad X cc own nL ret rm) {x : Int32} {off : Int} (tgt : Nat) (hdg : decode cc pc = .ok (.ifCond .eq off, 3)) (ht : (pc : Int) + off = (tgt : Int)) (kt : x = 0 → G ad X M tgt ls rest) (kf : ¬ (x = 0) → G ad X M (pc + 3) ls rest) : G ad X M pc ls (.int x :: rest) := by
  obtain ⟨p, l, e, R, s, m, args, below, meth, c, dC, dI, cy, A, cells, slots, Q⟩ := X
  obtain ⟨hx, hb, hml, hown, hts, hK, hJ, hr, hlk, hR, hA, hcc, hss⟩ := Z
  exact fun H locs hP hS => lv_if_eq hx hb hdg ht (fun h => kt h H locs hP hS) (fun h => kf h H locs hP hS)
theorem r_icmp_eq (Z : Zk ad X cc own nL ret rm) {x y : Int32} {off : Int} (tgt : Nat) (hdg : decode cc pc = .ok (.if_icmp .eq off, 3)) (ht : (pc : Int) + off = (tgt : Int)) (kt : x = y → G ad X M tgt ls rest) (kf : ¬ (x = y) → G ad X M (pc + 3) ls rest) : G ad X M pc ls (.int y :: .int x :: rest) := by
  obtain ⟨p, l, e, R, s, m, args, below, meth, c, dC, dI, cy, A, cells, slots, Q⟩ := X
  obtain ⟨hx, hb, hml, hown, hts, hK, hJ, hr, hlk, hR, hA, hcc, hss⟩ := Z
  exact fun H locs hP hS => lv_icmp_eq hx hb hdg ht (fun h => kt h H locs hP hS) (fun h => kf h H locs hP hS)
theorem r_if_ne (Z : Zk ad X cc own nL ret rm) {x : Int32} {off : Int} (tgt : Nat) (hdg : decode cc pc = .ok (.ifCond .ne off, 3)) (ht : (pc : Int) + off = (tgt : Int)) (kt : ¬ x = 0 → G ad X M tgt ls rest) (kf : x = 0 → G ad X M (pc + 3) ls rest) : G ad X M pc ls (.int x :: rest) := by
  obtain ⟨p, l, e, R, s, m, args, below, meth, c, dC, dI, cy, A, cells, slots, Q⟩ := X
  obtain ⟨hx, hb, hml, hown, hts, hK, hJ, hr, hlk, hR, hA, hcc, hss⟩ := Z
  exact fun H locs hP hS => lv_if_ne hx hb hdg ht (fun h => kt h H locs hP hS) (fun h => kf h H locs hP hS)
theorem r_icmp_ne (Z : Zk ad X cc own nL ret rm) {x y : Int32} {off : Int} (tgt : Nat) (hdg : decode cc pc = .ok (.if_icmp .ne off, 3)) (ht : (pc : Int) + off = (tgt : Int)) (kt : ¬ x = y → G ad X M tgt ls rest) (kf : x = y → G ad X M (pc + 3) ls rest) : G ad X M pc ls (.int y :: .int x :: rest) := by
  obtain ⟨p, l, e, R, s, m, args, below, meth, c, dC, dI, cy, A, cells, slots, Q⟩ := X
  obtain ⟨hx, hb, hml, hown, hts, hK, hJ, hr, hlk, hR, hA, hcc, hss⟩ := Z
  exact fun H locs hP hS => lv_icmp_ne hx hb hdg ht (fun h => kt h H locs hP hS) (fun h => kf h H locs hP hS)
theorem r_if_lt (Z : Zk ad X cc own nL ret rm) {x : Int32} {off : Int} (tgt : Nat) (hdg : decode cc pc = .ok (.ifCond .lt off, 3)) (ht : (pc : Int) + off = (tgt : Int)) (kt : x < 0 → G ad X M tgt ls rest) (kf : ¬ (x < 0) → G ad X M (pc + 3) ls rest) : G ad X M pc ls (.int x :: rest) := by
  obtain ⟨p, l, e, R, s, m, args, below, meth, c, dC, dI, cy, A, cells, slots, Q⟩ := X
  obtain ⟨hx, hb, hml, hown, hts, hK, hJ, hr, hlk, hR, hA, hcc, hss⟩ := Z
  exact fun H locs hP hS => lv_if_lt hx hb hdg ht (fun h => kt h H locs hP hS) (fun h => kf h H locs hP hS)
theorem r_icmp_lt (Z : Zk ad X cc own nL ret rm) {x y : Int32} {off : Int} (tgt : Nat) (hdg : decode cc pc = .ok (.if_icmp .lt off, 3)) (ht : (pc : Int) + off = (tgt : Int)) (kt : x < y → G ad X M tgt ls rest) (kf : ¬ (x < y) → G ad X M (pc + 3) ls rest) : G ad X M pc ls (.int y :: .int x :: rest) := by
  obtain ⟨p, l, e, R, s, m, args, below, meth, c, dC, dI, cy, A, cells, slots, Q⟩ := X
  obtain ⟨hx, hb, hml, hown, hts, hK, hJ, hr, hlk, hR, hA, hcc, hss⟩ := Z
  exact fun H locs hP hS => lv_icmp_lt hx hb hdg ht (fun h => kt h H locs hP hS) (fun h => kf h H locs hP hS)
theorem r_if_ge (Z : Zk ad X cc own nL ret rm) {x : Int32} {off : Int} (tgt : Nat) (hdg : decode cc pc = .ok (.ifCond .ge off, 3)) (ht : (pc : Int) + off = (tgt : Int)) (kt : 0 ≤ x → G ad X M tgt ls rest) (kf : ¬ (0 ≤ x) → G ad X M (pc + 3) ls rest) : G ad X M pc ls (.int x :: rest) := by
  obtain ⟨p, l, e, R, s, m, args, below, meth, c, dC, dI, cy, A, cells, slots, Q⟩ := X
  obtain ⟨hx, hb, hml, hown, hts, hK, hJ, hr, hlk, hR, hA, hcc, hss⟩ := Z
  exact fun H locs hP hS => lv_if_ge hx hb hdg ht (fun h => kt h H locs hP hS) (fun h => kf h H locs hP hS)
theorem r_icmp_ge (Z : Zk ad X cc own nL ret rm) {x y : Int32} {off : Int} (tgt : Nat) (hdg : decode cc pc = .ok (.if_icmp .ge off, 3)) (ht : (pc : Int) + off = (tgt : Int)) (kt : y ≤ x → G ad X M tgt ls rest) (kf : ¬ (y ≤ x) → G ad X M (pc + 3) ls rest) : G ad X M pc ls (.int y :: .int x :: rest) := by
  obtain ⟨p, l, e, R, s, m, args, below, meth, c, dC, dI, cy, A, cells, slots, Q⟩ := X
  obtain ⟨hx, hb, hml, hown, hts, hK, hJ, hr, hlk, hR, hA, hcc, hss⟩ := Z
  exact fun H locs hP hS => lv_icmp_ge hx hb hdg ht (fun h => kt h H locs hP hS) (fun h => kf h H locs hP hS)
theorem r_if_gt (Z : Zk ad X cc own nL ret rm) {x : Int32} {off : Int} (tgt : Nat) (hdg : decode cc pc = .ok (.ifCond .gt off, 3)) (ht : (pc : Int) + off = (tgt : Int)) (kt : 0 < x → G ad X M tgt ls rest) (kf : ¬ (0 < x) → G ad X M (pc + 3) ls rest) : G ad X M pc ls (.int x :: rest) := by
  obtain ⟨p, l, e, R, s, m, args, below, meth, c, dC, dI, cy, A, cells, slots, Q⟩ := X
  obtain ⟨hx, hb, hml, hown, hts, hK, hJ, hr, hlk, hR, hA, hcc, hss⟩ := Z
  exact fun H locs hP hS => lv_if_gt hx hb hdg ht (fun h => kt h H locs hP hS) (fun h => kf h H locs hP hS)
theorem r_icmp_gt (Z : Zk ad X cc own nL ret rm) {x y : Int32} {off : Int} (tgt : Nat) (hdg : decode cc pc = .ok (.if_icmp .gt off, 3)) (ht : (pc : Int) + off = (tgt : Int)) (kt : y < x → G ad X M tgt ls rest) (kf : ¬ (y < x) → G ad X M (pc + 3) ls rest) : G ad X M pc ls (.int y :: .int x :: rest) := by
  obtain ⟨p, l, e, R, s, m, args, below, meth, c, dC, dI, cy, A, cells, slots, Q⟩ := X
  obtain ⟨hx, hb, hml, hown, hts, hK, hJ, hr, hlk, hR, hA, hcc, hss⟩ := Z
  exact fun H locs hP hS => lv_icmp_gt hx hb hdg ht (fun h => kt h H locs hP hS) (fun h => kf h H locs hP hS)
theorem r_if_le (Z : Zk ad X cc own nL ret rm) {x : Int32} {off : Int} (tgt : Nat) (hdg : decode cc pc = .ok (.ifCond .le off, 3)) (ht : (pc : Int) + off = (tgt : Int)) (kt : x ≤ 0 → G ad X M tgt ls rest) (kf : ¬ (x ≤ 0) → G ad X M (pc + 3) ls rest) : G ad X M pc ls (.int x :: rest) := by
  obtain ⟨p, l, e, R, s, m, args, below, meth, c, dC, dI, cy, A, cells, slots, Q⟩ := X
  obtain ⟨hx, hb, hml, hown, hts, hK, hJ, hr, hlk, hR, hA, hcc, hss⟩ := Z
  exact fun H locs hP hS => lv_if_le hx hb hdg ht (fun h => kt h H locs hP hS) (fun h => kf h H locs hP hS)
theorem r_icmp_le (Z : Zk ad X cc own nL ret rm) {x y : Int32} {off : Int} (tgt : Nat) (hdg : decode cc pc = .ok (.if_icmp .le off, 3)) (ht : (pc : Int) + off = (tgt : Int)) (kt : x ≤ y → G ad X M tgt ls rest) (kf : ¬ (x ≤ y) → G ad X M (pc + 3) ls rest) : G ad X M pc ls (.int y :: .int x :: rest) := by
  obtain ⟨p, l, e, R, s, m, args, below, meth, c, dC, dI, cy, A, cells, slots, Q⟩ := X
  obtain ⟨hx, hb, hml, hown, hts, hK, hJ, hr, hlk, hR, hA, hcc, hss⟩ := Z
  exact fun H locs hP hS => lv_icmp_le hx hb hdg ht (fun h => kt h H locs hP hS) (fun h => kf h H locs hP hS)
theorem r_tabOut (Z : Zk ad X cc own nL ret rm) {dflt lo hi : Int} {offs : Array Int} {len : Nat} {x : Int32} (tgt : Nat) (hdg : decode cc pc = .ok (.tableswitch dflt lo hi offs, len)) (h : x.toInt < lo ∨ hi < x.toInt) (ht : (pc : Int) + dflt = (tgt : Int)) (k : G ad X M tgt ls rest) : G ad X M pc ls (.int x :: rest) := by
  obtain ⟨p, l, e, R, s, m, args, below, meth, c, dC, dI, cy, A, cells, slots, Q⟩ := X
  obtain ⟨hx, hb, hml, hown, hts, hK, hJ, hr, hlk, hR, hA, hcc, hss⟩ := Z
  exact fun H locs hP hS => lv_tableOut hx hb hdg h ht (k H locs hP hS)
theorem r_tabIn (Z : Zk ad X cc own nL ret rm) {dflt lo hi : Int} {offs : Array Int} {len : Nat} {x : Int32} {off : Int} (tgt : Nat) (hdg : decode cc pc = .ok (.tableswitch dflt lo hi offs, len)) (h1 : ¬ x.toInt < lo) (h2 : ¬ hi < x.toInt) (ho : offs[(x.toInt - lo).toNat]? = some off) (ht : (pc : Int) + off = (tgt : Int)) (k : G ad X M tgt ls rest) : G ad X M pc ls (.int x :: rest) := by
  obtain ⟨p, l, e, R, s, m, args, below, meth, c, dC, dI, cy, A, cells, slots, Q⟩ := X
  obtain ⟨hx, hb, hml, hown, hts, hK, hJ, hr, hlk, hR, hA, hcc, hss⟩ := Z
  exact fun H locs hP hS => lv_tableIn hx hb hdg h1 h2 ho ht (k H locs hP hS)
theorem g_0_0 (Z : Zk ad X cc own nL ret rm) {a index : Nat} (ha : shp a = 0) (hw : Cond.fieldLink own index "WaitingNets$Chain" (TX0 0).2.1 (TX0 0).2.2.1 ∈ wn_all) (hdg : decode cc pc = .ok (.getfield index, 3)) (k : G ad X M (pc + 3) ls (.ref (ad (fld a 0)) :: rest)) : G ad X M pc ls (.ref (ad a) :: rest) := by
  obtain ⟨p, l, e, R, s, m, args, below, meth, c, dC, dI, cy, A, cells, slots, Q⟩ := X
  obtain ⟨hx, hb, hml, hown, hts, hK, hJ, hr, hlk, hR, hA, hcc, hss⟩ := Z
  exact fun H locs hP hS => va_get (D := (dC, dI)) (ci := 0) (C := RX0) (T := TX0) (N := 4) hx hb hts wn_lay0 hown hK hP a ((wn_at (shp_lt ha (by decide))).trans (by rw [ce_0 ha])) rfl 0 (by decide) (hts _ hw) (fun _ h9 => h9) rfl hdg (k H locs hP hS)
theorem g_0_1 (Z : Zk ad X cc own nL ret rm) {a index : Nat} (ha : shp a = 0) (hw : Cond.fieldLink own index "WaitingNets$Chain" (TX0 1).2.1 (TX0 1).2.2.1 ∈ wn_all) (hdg : decode cc pc = .ok (.getfield index, 3)) (k : G ad X M (pc + 3) ls (.ref (ad (fld a 1)) :: rest)) : G ad X M pc ls (.ref (ad a) :: rest) := by
  obtain ⟨p, l, e, R, s, m, args, below, meth, c, dC, dI, cy, A, cells, slots, Q⟩ := X
  obtain ⟨hx, hb, hml, hown, hts, hK, hJ, hr, hlk, hR, hA, hcc, hss⟩ := Z
  exact fun H locs hP hS => va_get (D := (dC, dI)) (ci := 0) (C := RX0) (T := TX0) (N := 4) hx hb hts wn_lay0 hown hK hP a ((wn_at (shp_lt ha (by decide))).trans (by rw [ce_0 ha])) rfl 1 (by decide) (hts _ hw) (fun _ h9 => h9) rfl hdg (k H locs hP hS)
theorem g_0_2 (Z : Zk ad X cc own nL ret rm) {a index : Nat} (ha : shp a = 0) (hw : Cond.fieldLink own index "WaitingNets$Chain" (TX0 2).2.1 (TX0 2).2.2.1 ∈ wn_all) (hdg : decode cc pc = .ok (.getfield index, 3)) (k : G ad X M (pc + 3) ls (.ref (ad (fld a 2)) :: rest)) : G ad X M pc ls (.ref (ad a) :: rest) := by
  obtain ⟨p, l, e, R, s, m, args, below, meth, c, dC, dI, cy, A, cells, slots, Q⟩ := X
  obtain ⟨hx, hb, hml, hown, hts, hK, hJ, hr, hlk, hR, hA, hcc, hss⟩ := Z
  exact fun H locs hP hS => va_get (D := (dC, dI)) (ci := 0) (C := RX0) (T := TX0) (N := 4) hx hb hts wn_lay0 hown hK hP a ((wn_at (shp_lt ha (by decide))).trans (by rw [ce_0 ha])) rfl 2 (by decide) (hts _ hw) (fun _ h9 => h9) rfl hdg (k H locs hP hS)
theorem g_0_3 (Z : Zk ad X cc own nL ret rm) {a index : Nat} (ha : shp a = 0) (hw : Cond.fieldLink own index "WaitingNets$Chain" (TX0 3).2.1 (TX0 3).2.2.1 ∈ wn_all) (hdg : decode cc pc = .ok (.getfield index, 3)) (k : G ad X M (pc + 3) ls (.int (mI M a 3) :: rest)) : G ad X M pc ls (.ref (ad a) :: rest) := by
  obtain ⟨p, l, e, R, s, m, args, below, meth, c, dC, dI, cy, A, cells, slots, Q⟩ := X
  obtain ⟨hx, hb, hml, hown, hts, hK, hJ, hr, hlk, hR, hA, hcc, hss⟩ := Z
  exact fun H locs hP hS => va_get (D := (dC, dI)) (ci := 0) (C := RX0) (T := TX0) (N := 4) hx hb hts wn_lay0 hown hK hP a ((wn_at (shp_lt ha (by decide))).trans (by rw [ce_0 ha])) rfl 3 (by decide) (hts _ hw) (fun _ h9 => h9) rfl hdg (k H locs hP hS)
theorem p_0_3 (Z : Zk ad X cc own nL ret rm) {a index : Nat} {v : Int32} (ha : shp a = 0) (hw : Cond.fieldLink own index "WaitingNets$Chain" (TX0 3).2.1 (TX0 3).2.2.1 ∈ wn_all) (hdg : decode cc pc = .ok (.putfield index, 3)) (k : G ad X (sI M a 3 v) (pc + 3) ls rest) : G ad X M pc ls (.int v :: .ref (ad a) :: rest) := by
  obtain ⟨p, l, e, R, s, m, args, below, meth, c, dC, dI, cy, A, cells, slots, Q⟩ := X
  obtain ⟨hx, hb, hml, hown, hts, hK, hJ, hr, hlk, hR, hA, hcc, hss⟩ := Z
  exact fun H locs hP hS => va_put (D := (dC, dI)) (ci := 0) (v := .int v) (ty := .int) (C := RX0) (T := TX0) (N := 4) hx hb hts wn_lay0 tyX0 tyX0_ok nmX0 hown hK hP (wn_D hJ hA) hS a ((wn_at (shp_lt ha (by decide))).trans (by rw [ce_0 ha])) rfl 3 (by decide) (hts _ hw) (fun _ h9 => h9) rfl (by decide +kernel) rfl rfl (Nat.le_of_ble_eq_true rfl) hdg (fun H1 locs1 hP1 hD1 hS1 => k H1 locs1 (by
    rw [wn_set (M1 := sI M a 3 v) (by rw [ce_0 ha]; simp [mI, mJ, sI]) (fun j hj => ⟨by funext q; simp [sI, hj], by funext q; simp [sI, hj]⟩)] at hP1
    exact hP1) hS1)
theorem g_1_0 (Z : Zk ad X cc own nL ret rm) {a index : Nat} (ha : shp a = 1) (hw : Cond.fieldLink own index "WaitingNets$Counter" (TX1 0).2.1 (TX1 0).2.2.1 ∈ wn_all) (hdg : decode cc pc = .ok (.getfield index, 3)) (k : G ad X M (pc + 3) ls (.ref (ad (fld a 0)) :: rest)) : G ad X M pc ls (.ref (ad a) :: rest) := by
  obtain ⟨p, l, e, R, s, m, args, below, meth, c, dC, dI, cy, A, cells, slots, Q⟩ := X
  obtain ⟨hx, hb, hml, hown, hts, hK, hJ, hr, hlk, hR, hA, hcc, hss⟩ := Z
  exact fun H locs hP hS => va_get (D := (dC, dI)) (ci := 1) (C := RX1) (T := TX1) (N := 6) hx hb hts wn_lay1 hown hK hP a ((wn_at (shp_lt ha (by decide))).trans (by rw [ce_1 ha])) rfl 0 (by decide) (hts _ hw) (fun _ h9 => h9) rfl hdg (k H locs hP hS)
theorem g_1_1 (Z : Zk ad X cc own nL ret rm) {a index : Nat} (ha : shp a = 1) (hw : Cond.fieldLink own index "WaitingNets$Counter" (TX1 1).2.1 (TX1 1).2.2.1 ∈ wn_all) (hdg : decode cc pc = .ok (.getfield index, 3)) (k : G ad X M (pc + 3) ls (.int (mI M a 1) :: rest)) : G ad X M pc ls (.ref (ad a) :: rest) := by
  obtain ⟨p, l, e, R, s, m, args, below, meth, c, dC, dI, cy, A, cells, slots, Q⟩ := X
  obtain ⟨hx, hb, hml, hown, hts, hK, hJ, hr, hlk, hR, hA, hcc, hss⟩ := Z
  exact fun H locs hP hS => va_get (D := (dC, dI)) (ci := 1) (C := RX1) (T := TX1) (N := 6) hx hb hts wn_lay1 hown hK hP a ((wn_at (shp_lt ha (by decide))).trans (by rw [ce_1 ha])) rfl 1 (by decide) (hts _ hw) (fun _ h9 => h9) rfl hdg (k H locs hP hS)
theorem p_1_1 (Z : Zk ad X cc own nL ret rm) {a index : Nat} {v : Int32} (ha : shp a = 1) (hw : Cond.fieldLink own index "WaitingNets$Counter" (TX1 1).2.1 (TX1 1).2.2.1 ∈ wn_all) (hdg : decode cc pc = .ok (.putfield index, 3)) (k : G ad X (sI M a 1 v) (pc + 3) ls rest) : G ad X M pc ls (.int v :: .ref (ad a) :: rest) := by
  obtain ⟨p, l, e, R, s, m, args, below, meth, c, dC, dI, cy, A, cells, slots, Q⟩ := X
  obtain ⟨hx, hb, hml, hown, hts, hK, hJ, hr, hlk, hR, hA, hcc, hss⟩ := Z
  exact fun H locs hP hS => va_put (D := (dC, dI)) (ci := 1) (v := .int v) (ty := .int) (C := RX1) (T := TX1) (N := 6) hx hb hts wn_lay1 tyX1 tyX1_ok nmX1 hown hK hP (wn_D hJ hA) hS a ((wn_at (shp_lt ha (by decide))).trans (by rw [ce_1 ha])) rfl 1 (by decide) (hts _ hw) (fun _ h9 => h9) rfl (by decide +kernel) rfl rfl (Nat.le_of_ble_eq_true rfl) hdg (fun H1 locs1 hP1 hD1 hS1 => k H1 locs1 (by
    rw [wn_set (M1 := sI M a 1 v) (by rw [ce_1 ha]; simp [mI, mJ, sI]) (fun j hj => ⟨by funext q; simp [sI, hj], by funext q; simp [sI, hj]⟩)] at hP1
    exact hP1) hS1)
theorem g_1_2 (Z : Zk ad X cc own nL ret rm) {a index : Nat} (ha : shp a = 1) (hw : Cond.fieldLink own index "WaitingNets$Counter" (TX1 2).2.1 (TX1 2).2.2.1 ∈ wn_all) (hdg : decode cc pc = .ok (.getfield index, 3)) (k : G ad X M (pc + 3) ls (.int (mI M a 2) :: rest)) : G ad X M pc ls (.ref (ad a) :: rest) := by
  obtain ⟨p, l, e, R, s, m, args, below, meth, c, dC, dI, cy, A, cells, slots, Q⟩ := X
  obtain ⟨hx, hb, hml, hown, hts, hK, hJ, hr, hlk, hR, hA, hcc, hss⟩ := Z
  exact fun H locs hP hS => va_get (D := (dC, dI)) (ci := 1) (C := RX1) (T := TX1) (N := 6) hx hb hts wn_lay1 hown hK hP a ((wn_at (shp_lt ha (by decide))).trans (by rw [ce_1 ha])) rfl 2 (by decide) (hts _ hw) (fun _ h9 => h9) rfl hdg (k H locs hP hS)
theorem p_1_2 (Z : Zk ad X cc own nL ret rm) {a index : Nat} {v : Int32} (ha : shp a = 1) (hw : Cond.fieldLink own index "WaitingNets$Counter" (TX1 2).2.1 (TX1 2).2.2.1 ∈ wn_all) (hdg : decode cc pc = .ok (.putfield index, 3)) (k : G ad X (sI M a 2 v) (pc + 3) ls rest) : G ad X M pc ls (.int v :: .ref (ad a) :: rest) := by
  obtain ⟨p, l, e, R, s, m, args, below, meth, c, dC, dI, cy, A, cells, slots, Q⟩ := X
  obtain ⟨hx, hb, hml, hown, hts, hK, hJ, hr, hlk, hR, hA, hcc, hss⟩ := Z
  exact fun H locs hP hS => va_put (D := (dC, dI)) (ci := 1) (v := .int v) (ty := .int) (C := RX1) (T := TX1) (N := 6) hx hb hts wn_lay1 tyX1 tyX1_ok nmX1 hown hK hP (wn_D hJ hA) hS a ((wn_at (shp_lt ha (by decide))).trans (by rw [ce_1 ha])) rfl 2 (by decide) (hts _ hw) (fun _ h9 => h9) rfl (by decide +kernel) rfl rfl (Nat.le_of_ble_eq_true rfl) hdg (fun H1 locs1 hP1 hD1 hS1 => k H1 locs1 (by
    rw [wn_set (M1 := sI M a 2 v) (by rw [ce_1 ha]; simp [mI, mJ, sI]) (fun j hj => ⟨by funext q; simp [sI, hj], by funext q; simp [sI, hj]⟩)] at hP1
    exact hP1) hS1)
theorem g_1_3 (Z : Zk ad X cc own nL ret rm) {a index : Nat} (ha : shp a = 1) (hw : Cond.fieldLink own index "WaitingNets$Counter" (TX1 3).2.1 (TX1 3).2.2.1 ∈ wn_all) (hdg : decode cc pc = .ok (.getfield index, 3)) (k : G ad X M (pc + 3) ls (.int (mI M a 3) :: rest)) : G ad X M pc ls (.ref (ad a) :: rest) := by
  obtain ⟨p, l, e, R, s, m, args, below, meth, c, dC, dI, cy, A, cells, slots, Q⟩ := X
  obtain ⟨hx, hb, hml, hown, hts, hK, hJ, hr, hlk, hR, hA, hcc, hss⟩ := Z
  exact fun H locs hP hS => va_get (D := (dC, dI)) (ci := 1) (C := RX1) (T := TX1) (N := 6) hx hb hts wn_lay1 hown hK hP a ((wn_at (shp_lt ha (by decide))).trans (by rw [ce_1 ha])) rfl 3 (by decide) (hts _ hw) (fun _ h9 => h9) rfl hdg (k H locs hP hS)
theorem p_1_3 (Z : Zk ad X cc own nL ret rm) {a index : Nat} {v : Int32} (ha : shp a = 1) (hw : Cond.fieldLink own index "WaitingNets$Counter" (TX1 3).2.1 (TX1 3).2.2.1 ∈ wn_all) (hdg : decode cc pc = .ok (.putfield index, 3)) (k : G ad X (sI M a 3 v) (pc + 3) ls rest) : G ad X M pc ls (.int v :: .ref (ad a) :: rest) := by
  obtain ⟨p, l, e, R, s, m, args, below, meth, c, dC, dI, cy, A, cells, slots, Q⟩ := X
  obtain ⟨hx, hb, hml, hown, hts, hK, hJ, hr, hlk, hR, hA, hcc, hss⟩ := Z
  exact fun H locs hP hS => va_put (D := (dC, dI)) (ci := 1) (v := .int v) (ty := .int) (C := RX1) (T := TX1) (N := 6) hx hb hts wn_lay1 tyX1 tyX1_ok nmX1 hown hK hP (wn_D hJ hA) hS a ((wn_at (shp_lt ha (by decide))).trans (by rw [ce_1 ha])) rfl 3 (by decide) (hts _ hw) (fun _ h9 => h9) rfl (by decide +kernel) rfl rfl (Nat.le_of_ble_eq_true rfl) hdg (fun H1 locs1 hP1 hD1 hS1 => k H1 locs1 (by
    rw [wn_set (M1 := sI M a 3 v) (by rw [ce_1 ha]; simp [mI, mJ, sI]) (fun j hj => ⟨by funext q; simp [sI, hj], by funext q; simp [sI, hj]⟩)] at hP1
    exact hP1) hS1)
theorem g_1_4 (Z : Zk ad X cc own nL ret rm) {a index : Nat} (ha : shp a = 1) (hw : Cond.fieldLink own index "WaitingNets$Counter" (TX1 4).2.1 (TX1 4).2.2.1 ∈ wn_all) (hdg : decode cc pc = .ok (.getfield index, 3)) (k : G ad X M (pc + 3) ls (.int (mI M a 4) :: rest)) : G ad X M pc ls (.ref (ad a) :: rest) := by
  obtain ⟨p, l, e, R, s, m, args, below, meth, c, dC, dI, cy, A, cells, slots, Q⟩ := X
  obtain ⟨hx, hb, hml, hown, hts, hK, hJ, hr, hlk, hR, hA, hcc, hss⟩ := Z
  exact fun H locs hP hS => va_get (D := (dC, dI)) (ci := 1) (C := RX1) (T := TX1) (N := 6) hx hb hts wn_lay1 hown hK hP a ((wn_at (shp_lt ha (by decide))).trans (by rw [ce_1 ha])) rfl 4 (by decide) (hts _ hw) (fun _ h9 => h9) rfl hdg (k H locs hP hS)
theorem p_1_4 (Z : Zk ad X cc own nL ret rm) {a index : Nat} {v : Int32} (ha : shp a = 1) (hw : Cond.fieldLink own index "WaitingNets$Counter" (TX1 4).2.1 (TX1 4).2.2.1 ∈ wn_all) (hdg : decode cc pc = .ok (.putfield index, 3)) (k : G ad X (sI M a 4 v) (pc + 3) ls rest) : G ad X M pc ls (.int v :: .ref (ad a) :: rest) := by
  obtain ⟨p, l, e, R, s, m, args, below, meth, c, dC, dI, cy, A, cells, slots, Q⟩ := X
  obtain ⟨hx, hb, hml, hown, hts, hK, hJ, hr, hlk, hR, hA, hcc, hss⟩ := Z
  exact fun H locs hP hS => va_put (D := (dC, dI)) (ci := 1) (v := .int v) (ty := .int) (C := RX1) (T := TX1) (N := 6) hx hb hts wn_lay1 tyX1 tyX1_ok nmX1 hown hK hP (wn_D hJ hA) hS a ((wn_at (shp_lt ha (by decide))).trans (by rw [ce_1 ha])) rfl 4 (by decide) (hts _ hw) (fun _ h9 => h9) rfl (by decide +kernel) rfl rfl (Nat.le_of_ble_eq_true rfl) hdg (fun H1 locs1 hP1 hD1 hS1 => k H1 locs1 (by
    rw [wn_set (M1 := sI M a 4 v) (by rw [ce_1 ha]; simp [mI, mJ, sI]) (fun j hj => ⟨by funext q; simp [sI, hj], by funext q; simp [sI, hj]⟩)] at hP1
    exact hP1) hS1)
theorem g_1_5 (Z : Zk ad X cc own nL ret rm) {a index : Nat} (ha : shp a = 1) (hw : Cond.fieldLink own index "WaitingNets$Counter" (TX1 5).2.1 (TX1 5).2.2.1 ∈ wn_all) (hdg : decode cc pc = .ok (.getfield index, 3)) (k : G ad X M (pc + 3) ls (.int (mI M a 5) :: rest)) : G ad X M pc ls (.ref (ad a) :: rest) := by
  obtain ⟨p, l, e, R, s, m, args, below, meth, c, dC, dI, cy, A, cells, slots, Q⟩ := X
  obtain ⟨hx, hb, hml, hown, hts, hK, hJ, hr, hlk, hR, hA, hcc, hss⟩ := Z
  exact fun H locs hP hS => va_get (D := (dC, dI)) (ci := 1) (C := RX1) (T := TX1) (N := 6) hx hb hts wn_lay1 hown hK hP a ((wn_at (shp_lt ha (by decide))).trans (by rw [ce_1 ha])) rfl 5 (by decide) (hts _ hw) (fun _ h9 => h9) rfl hdg (k H locs hP hS)
theorem p_1_5 (Z : Zk ad X cc own nL ret rm) {a index : Nat} {v : Int32} (ha : shp a = 1) (hw : Cond.fieldLink own index "WaitingNets$Counter" (TX1 5).2.1 (TX1 5).2.2.1 ∈ wn_all) (hdg : decode cc pc = .ok (.putfield index, 3)) (k : G ad X (sI M a 5 v) (pc + 3) ls rest) : G ad X M pc ls (.int v :: .ref (ad a) :: rest) := by
  obtain ⟨p, l, e, R, s, m, args, below, meth, c, dC, dI, cy, A, cells, slots, Q⟩ := X
  obtain ⟨hx, hb, hml, hown, hts, hK, hJ, hr, hlk, hR, hA, hcc, hss⟩ := Z
  exact fun H locs hP hS => va_put (D := (dC, dI)) (ci := 1) (v := .int v) (ty := .int) (C := RX1) (T := TX1) (N := 6) hx hb hts wn_lay1 tyX1 tyX1_ok nmX1 hown hK hP (wn_D hJ hA) hS a ((wn_at (shp_lt ha (by decide))).trans (by rw [ce_1 ha])) rfl 5 (by decide) (hts _ hw) (fun _ h9 => h9) rfl (by decide +kernel) rfl rfl (Nat.le_of_ble_eq_true rfl) hdg (fun H1 locs1 hP1 hD1 hS1 => k H1 locs1 (by
    rw [wn_set (M1 := sI M a 5 v) (by rw [ce_1 ha]; simp [mI, mJ, sI]) (fun j hj => ⟨by funext q; simp [sI, hj], by funext q; simp [sI, hj]⟩)] at hP1
    exact hP1) hS1)
theorem g_2_0 (Z : Zk ad X cc own nL ret rm) {a index : Nat} (ha : shp a = 2) (hw : Cond.fieldLink own index "WaitingNets$Fraction" (TX2 0).2.1 (TX2 0).2.2.1 ∈ wn_all) (hdg : decode cc pc = .ok (.getfield index, 3)) (k : G ad X M (pc + 3) ls (.long (mJ M a 0) :: rest)) : G ad X M pc ls (.ref (ad a) :: rest) := by
  obtain ⟨p, l, e, R, s, m, args, below, meth, c, dC, dI, cy, A, cells, slots, Q⟩ := X
  obtain ⟨hx, hb, hml, hown, hts, hK, hJ, hr, hlk, hR, hA, hcc, hss⟩ := Z
  exact fun H locs hP hS => va_get (D := (dC, dI)) (ci := 2) (C := RX2) (T := TX2) (N := 2) hx hb hts wn_lay2 hown hK hP a ((wn_at (shp_lt ha (by decide))).trans (by rw [ce_2 ha])) rfl 0 (by decide) (hts _ hw) (fun _ h9 => h9) rfl hdg (k H locs hP hS)
theorem p_2_0 (Z : Zk ad X cc own nL ret rm) {a index : Nat} {v : Int64} (ha : shp a = 2) (hw : Cond.fieldLink own index "WaitingNets$Fraction" (TX2 0).2.1 (TX2 0).2.2.1 ∈ wn_all) (hdg : decode cc pc = .ok (.putfield index, 3)) (k : G ad X (sJ M a 0 v) (pc + 3) ls rest) : G ad X M pc ls (.long v :: .ref (ad a) :: rest) := by
  obtain ⟨p, l, e, R, s, m, args, below, meth, c, dC, dI, cy, A, cells, slots, Q⟩ := X
  obtain ⟨hx, hb, hml, hown, hts, hK, hJ, hr, hlk, hR, hA, hcc, hss⟩ := Z
  exact fun H locs hP hS => va_put (D := (dC, dI)) (ci := 2) (v := .long v) (ty := .long) (C := RX2) (T := TX2) (N := 2) hx hb hts wn_lay2 tyX2 tyX2_ok nmX2 hown hK hP (wn_D hJ hA) hS a ((wn_at (shp_lt ha (by decide))).trans (by rw [ce_2 ha])) rfl 0 (by decide) (hts _ hw) (fun _ h9 => h9) rfl (by decide +kernel) rfl rfl (Nat.le_of_ble_eq_true rfl) hdg (fun H1 locs1 hP1 hD1 hS1 => k H1 locs1 (by
    rw [wn_set (M1 := sJ M a 0 v) (by rw [ce_2 ha]; simp [mI, mJ, sJ]) (fun j hj => ⟨by funext q; simp [sJ, hj], by funext q; simp [sJ, hj]⟩)] at hP1
    exact hP1) hS1)
theorem g_2_1 (Z : Zk ad X cc own nL ret rm) {a index : Nat} (ha : shp a = 2) (hw : Cond.fieldLink own index "WaitingNets$Fraction" (TX2 1).2.1 (TX2 1).2.2.1 ∈ wn_all) (hdg : decode cc pc = .ok (.getfield index, 3)) (k : G ad X M (pc + 3) ls (.long (mJ M a 1) :: rest)) : G ad X M pc ls (.ref (ad a) :: rest) := by
  obtain ⟨p, l, e, R, s, m, args, below, meth, c, dC, dI, cy, A, cells, slots, Q⟩ := X
  obtain ⟨hx, hb, hml, hown, hts, hK, hJ, hr, hlk, hR, hA, hcc, hss⟩ := Z
  exact fun H locs hP hS => va_get (D := (dC, dI)) (ci := 2) (C := RX2) (T := TX2) (N := 2) hx hb hts wn_lay2 hown hK hP a ((wn_at (shp_lt ha (by decide))).trans (by rw [ce_2 ha])) rfl 1 (by decide) (hts _ hw) (fun _ h9 => h9) rfl hdg (k H locs hP hS)
theorem p_2_1 (Z : Zk ad X cc own nL ret rm) {a index : Nat} {v : Int64} (ha : shp a = 2) (hw : Cond.fieldLink own index "WaitingNets$Fraction" (TX2 1).2.1 (TX2 1).2.2.1 ∈ wn_all) (hdg : decode cc pc = .ok (.putfield index, 3)) (k : G ad X (sJ M a 1 v) (pc + 3) ls rest) : G ad X M pc ls (.long v :: .ref (ad a) :: rest) := by
  obtain ⟨p, l, e, R, s, m, args, below, meth, c, dC, dI, cy, A, cells, slots, Q⟩ := X
  obtain ⟨hx, hb, hml, hown, hts, hK, hJ, hr, hlk, hR, hA, hcc, hss⟩ := Z
  exact fun H locs hP hS => va_put (D := (dC, dI)) (ci := 2) (v := .long v) (ty := .long) (C := RX2) (T := TX2) (N := 2) hx hb hts wn_lay2 tyX2 tyX2_ok nmX2 hown hK hP (wn_D hJ hA) hS a ((wn_at (shp_lt ha (by decide))).trans (by rw [ce_2 ha])) rfl 1 (by decide) (hts _ hw) (fun _ h9 => h9) rfl (by decide +kernel) rfl rfl (Nat.le_of_ble_eq_true rfl) hdg (fun H1 locs1 hP1 hD1 hS1 => k H1 locs1 (by
    rw [wn_set (M1 := sJ M a 1 v) (by rw [ce_2 ha]; simp [mI, mJ, sJ]) (fun j hj => ⟨by funext q; simp [sJ, hj], by funext q; simp [sJ, hj]⟩)] at hP1
    exact hP1) hS1)
theorem g_3_0 (Z : Zk ad X cc own nL ret rm) {a index : Nat} (ha : shp a = 3) (hw : Cond.fieldLink own index "WaitingNets$Line" (TX3 0).2.1 (TX3 0).2.2.1 ∈ wn_all) (hdg : decode cc pc = .ok (.getfield index, 3)) (k : G ad X M (pc + 3) ls (.int (mI M a 0) :: rest)) : G ad X M pc ls (.ref (ad a) :: rest) := by
  obtain ⟨p, l, e, R, s, m, args, below, meth, c, dC, dI, cy, A, cells, slots, Q⟩ := X
  obtain ⟨hx, hb, hml, hown, hts, hK, hJ, hr, hlk, hR, hA, hcc, hss⟩ := Z
  exact fun H locs hP hS => va_get (D := (dC, dI)) (ci := 3) (C := RX3) (T := TX3) (N := 3) hx hb hts wn_lay3 hown hK hP a ((wn_at (shp_lt ha (by decide))).trans (by rw [ce_3 ha])) rfl 0 (by decide) (hts _ hw) (fun _ h9 => h9) rfl hdg (k H locs hP hS)
theorem p_3_0 (Z : Zk ad X cc own nL ret rm) {a index : Nat} {v : Int32} (ha : shp a = 3) (hw : Cond.fieldLink own index "WaitingNets$Line" (TX3 0).2.1 (TX3 0).2.2.1 ∈ wn_all) (hdg : decode cc pc = .ok (.putfield index, 3)) (k : G ad X (sI M a 0 v) (pc + 3) ls rest) : G ad X M pc ls (.int v :: .ref (ad a) :: rest) := by
  obtain ⟨p, l, e, R, s, m, args, below, meth, c, dC, dI, cy, A, cells, slots, Q⟩ := X
  obtain ⟨hx, hb, hml, hown, hts, hK, hJ, hr, hlk, hR, hA, hcc, hss⟩ := Z
  exact fun H locs hP hS => va_put (D := (dC, dI)) (ci := 3) (v := .int v) (ty := .int) (C := RX3) (T := TX3) (N := 3) hx hb hts wn_lay3 tyX3 tyX3_ok nmX3 hown hK hP (wn_D hJ hA) hS a ((wn_at (shp_lt ha (by decide))).trans (by rw [ce_3 ha])) rfl 0 (by decide) (hts _ hw) (fun _ h9 => h9) rfl (by decide +kernel) rfl rfl (Nat.le_of_ble_eq_true rfl) hdg (fun H1 locs1 hP1 hD1 hS1 => k H1 locs1 (by
    rw [wn_set (M1 := sI M a 0 v) (by rw [ce_3 ha]; simp [mI, mJ, sI]) (fun j hj => ⟨by funext q; simp [sI, hj], by funext q; simp [sI, hj]⟩)] at hP1
    exact hP1) hS1)
theorem g_3_1 (Z : Zk ad X cc own nL ret rm) {a index : Nat} (ha : shp a = 3) (hw : Cond.fieldLink own index "WaitingNets$Line" (TX3 1).2.1 (TX3 1).2.2.1 ∈ wn_all) (hdg : decode cc pc = .ok (.getfield index, 3)) (k : G ad X M (pc + 3) ls (.int (mI M a 1) :: rest)) : G ad X M pc ls (.ref (ad a) :: rest) := by
  obtain ⟨p, l, e, R, s, m, args, below, meth, c, dC, dI, cy, A, cells, slots, Q⟩ := X
  obtain ⟨hx, hb, hml, hown, hts, hK, hJ, hr, hlk, hR, hA, hcc, hss⟩ := Z
  exact fun H locs hP hS => va_get (D := (dC, dI)) (ci := 3) (C := RX3) (T := TX3) (N := 3) hx hb hts wn_lay3 hown hK hP a ((wn_at (shp_lt ha (by decide))).trans (by rw [ce_3 ha])) rfl 1 (by decide) (hts _ hw) (fun _ h9 => h9) rfl hdg (k H locs hP hS)
theorem p_3_1 (Z : Zk ad X cc own nL ret rm) {a index : Nat} {v : Int32} (ha : shp a = 3) (hw : Cond.fieldLink own index "WaitingNets$Line" (TX3 1).2.1 (TX3 1).2.2.1 ∈ wn_all) (hdg : decode cc pc = .ok (.putfield index, 3)) (k : G ad X (sI M a 1 v) (pc + 3) ls rest) : G ad X M pc ls (.int v :: .ref (ad a) :: rest) := by
  obtain ⟨p, l, e, R, s, m, args, below, meth, c, dC, dI, cy, A, cells, slots, Q⟩ := X
  obtain ⟨hx, hb, hml, hown, hts, hK, hJ, hr, hlk, hR, hA, hcc, hss⟩ := Z
  exact fun H locs hP hS => va_put (D := (dC, dI)) (ci := 3) (v := .int v) (ty := .int) (C := RX3) (T := TX3) (N := 3) hx hb hts wn_lay3 tyX3 tyX3_ok nmX3 hown hK hP (wn_D hJ hA) hS a ((wn_at (shp_lt ha (by decide))).trans (by rw [ce_3 ha])) rfl 1 (by decide) (hts _ hw) (fun _ h9 => h9) rfl (by decide +kernel) rfl rfl (Nat.le_of_ble_eq_true rfl) hdg (fun H1 locs1 hP1 hD1 hS1 => k H1 locs1 (by
    rw [wn_set (M1 := sI M a 1 v) (by rw [ce_3 ha]; simp [mI, mJ, sI]) (fun j hj => ⟨by funext q; simp [sI, hj], by funext q; simp [sI, hj]⟩)] at hP1
    exact hP1) hS1)
theorem g_3_2 (Z : Zk ad X cc own nL ret rm) {a index : Nat} (ha : shp a = 3) (hw : Cond.fieldLink own index "WaitingNets$Line" (TX3 2).2.1 (TX3 2).2.2.1 ∈ wn_all) (hdg : decode cc pc = .ok (.getfield index, 3)) (k : G ad X M (pc + 3) ls (.int (mI M a 2) :: rest)) : G ad X M pc ls (.ref (ad a) :: rest) := by
  obtain ⟨p, l, e, R, s, m, args, below, meth, c, dC, dI, cy, A, cells, slots, Q⟩ := X
  obtain ⟨hx, hb, hml, hown, hts, hK, hJ, hr, hlk, hR, hA, hcc, hss⟩ := Z
  exact fun H locs hP hS => va_get (D := (dC, dI)) (ci := 3) (C := RX3) (T := TX3) (N := 3) hx hb hts wn_lay3 hown hK hP a ((wn_at (shp_lt ha (by decide))).trans (by rw [ce_3 ha])) rfl 2 (by decide) (hts _ hw) (fun _ h9 => h9) rfl hdg (k H locs hP hS)
theorem p_3_2 (Z : Zk ad X cc own nL ret rm) {a index : Nat} {v : Int32} (hz : v = 0 ∨ v = 1) (ha : shp a = 3) (hw : Cond.fieldLink own index "WaitingNets$Line" (TX3 2).2.1 (TX3 2).2.2.1 ∈ wn_all) (hdg : decode cc pc = .ok (.putfield index, 3)) (k : G ad X (sI M a 2 v) (pc + 3) ls rest) : G ad X M pc ls (.int v :: .ref (ad a) :: rest) := by
  obtain ⟨p, l, e, R, s, m, args, below, meth, c, dC, dI, cy, A, cells, slots, Q⟩ := X
  obtain ⟨hx, hb, hml, hown, hts, hK, hJ, hr, hlk, hR, hA, hcc, hss⟩ := Z
  exact fun H locs hP hS => va_put (D := (dC, dI)) (ci := 3) (v := .int v) (ty := .boolean) (C := RX3) (T := TX3) (N := 3) hx hb hts wn_lay3 tyX3 tyX3_ok nmX3 hown hK hP (wn_D hJ hA) hS a ((wn_at (shp_lt ha (by decide))).trans (by rw [ce_3 ha])) rfl 2 (by decide) (hts _ hw) (fun _ h9 => h9) rfl (by decide +kernel) (by rcases hz with rfl | rfl <;> rfl) (by rcases hz with rfl | rfl <;> rfl) (Nat.le_of_ble_eq_true rfl) hdg (fun H1 locs1 hP1 hD1 hS1 => k H1 locs1 (by
    rw [wn_set (M1 := sI M a 2 v) (by rw [ce_3 ha]; simp [mI, mJ, sI]) (fun j hj => ⟨by funext q; simp [sI, hj], by funext q; simp [sI, hj]⟩)] at hP1
    exact hP1) hS1)
theorem g_4_0 (Z : Zk ad X cc own nL ret rm) {a index : Nat} (ha : shp a = 4) (hw : Cond.fieldLink own index "WaitingNets$Net" (TX4 0).2.1 (TX4 0).2.2.1 ∈ wn_all) (hdg : decode cc pc = .ok (.getfield index, 3)) (k : G ad X M (pc + 3) ls (.ref (ad (fld a 0)) :: rest)) : G ad X M pc ls (.ref (ad a) :: rest) := by
  obtain ⟨p, l, e, R, s, m, args, below, meth, c, dC, dI, cy, A, cells, slots, Q⟩ := X
  obtain ⟨hx, hb, hml, hown, hts, hK, hJ, hr, hlk, hR, hA, hcc, hss⟩ := Z
  exact fun H locs hP hS => va_get (D := (dC, dI)) (ci := 4) (C := RX4) (T := TX4) (N := 5) hx hb hts wn_lay4 hown hK hP a ((wn_at (shp_lt ha (by decide))).trans (by rw [ce_4 ha])) rfl 0 (by decide) (hts _ hw) (fun _ h9 => h9) rfl hdg (k H locs hP hS)
theorem g_4_1 (Z : Zk ad X cc own nL ret rm) {a index : Nat} (ha : shp a = 4) (hw : Cond.fieldLink own index "WaitingNets$Net" (TX4 1).2.1 (TX4 1).2.2.1 ∈ wn_all) (hdg : decode cc pc = .ok (.getfield index, 3)) (k : G ad X M (pc + 3) ls (.ref (ad (fld a 1)) :: rest)) : G ad X M pc ls (.ref (ad a) :: rest) := by
  obtain ⟨p, l, e, R, s, m, args, below, meth, c, dC, dI, cy, A, cells, slots, Q⟩ := X
  obtain ⟨hx, hb, hml, hown, hts, hK, hJ, hr, hlk, hR, hA, hcc, hss⟩ := Z
  exact fun H locs hP hS => va_get (D := (dC, dI)) (ci := 4) (C := RX4) (T := TX4) (N := 5) hx hb hts wn_lay4 hown hK hP a ((wn_at (shp_lt ha (by decide))).trans (by rw [ce_4 ha])) rfl 1 (by decide) (hts _ hw) (fun _ h9 => h9) rfl hdg (k H locs hP hS)
theorem g_4_2 (Z : Zk ad X cc own nL ret rm) {a index : Nat} (ha : shp a = 4) (hw : Cond.fieldLink own index "WaitingNets$Net" (TX4 2).2.1 (TX4 2).2.2.1 ∈ wn_all) (hdg : decode cc pc = .ok (.getfield index, 3)) (k : G ad X M (pc + 3) ls (.ref (ad (fld a 2)) :: rest)) : G ad X M pc ls (.ref (ad a) :: rest) := by
  obtain ⟨p, l, e, R, s, m, args, below, meth, c, dC, dI, cy, A, cells, slots, Q⟩ := X
  obtain ⟨hx, hb, hml, hown, hts, hK, hJ, hr, hlk, hR, hA, hcc, hss⟩ := Z
  exact fun H locs hP hS => va_get (D := (dC, dI)) (ci := 4) (C := RX4) (T := TX4) (N := 5) hx hb hts wn_lay4 hown hK hP a ((wn_at (shp_lt ha (by decide))).trans (by rw [ce_4 ha])) rfl 2 (by decide) (hts _ hw) (fun _ h9 => h9) rfl hdg (k H locs hP hS)
theorem g_4_3 (Z : Zk ad X cc own nL ret rm) {a index : Nat} (ha : shp a = 4) (hw : Cond.fieldLink own index "WaitingNets$Net" (TX4 3).2.1 (TX4 3).2.2.1 ∈ wn_all) (hdg : decode cc pc = .ok (.getfield index, 3)) (k : G ad X M (pc + 3) ls (.ref (ad (fld a 3)) :: rest)) : G ad X M pc ls (.ref (ad a) :: rest) := by
  obtain ⟨p, l, e, R, s, m, args, below, meth, c, dC, dI, cy, A, cells, slots, Q⟩ := X
  obtain ⟨hx, hb, hml, hown, hts, hK, hJ, hr, hlk, hR, hA, hcc, hss⟩ := Z
  exact fun H locs hP hS => va_get (D := (dC, dI)) (ci := 4) (C := RX4) (T := TX4) (N := 5) hx hb hts wn_lay4 hown hK hP a ((wn_at (shp_lt ha (by decide))).trans (by rw [ce_4 ha])) rfl 3 (by decide) (hts _ hw) (fun _ h9 => h9) rfl hdg (k H locs hP hS)
theorem g_4_4 (Z : Zk ad X cc own nL ret rm) {a index : Nat} (ha : shp a = 4) (hw : Cond.fieldLink own index "WaitingNets$Net" (TX4 4).2.1 (TX4 4).2.2.1 ∈ wn_all) (hdg : decode cc pc = .ok (.getfield index, 3)) (k : G ad X M (pc + 3) ls (.ref (ad (fld a 4)) :: rest)) : G ad X M pc ls (.ref (ad a) :: rest) := by
  obtain ⟨p, l, e, R, s, m, args, below, meth, c, dC, dI, cy, A, cells, slots, Q⟩ := X
  obtain ⟨hx, hb, hml, hown, hts, hK, hJ, hr, hlk, hR, hA, hcc, hss⟩ := Z
  exact fun H locs hP hS => va_get (D := (dC, dI)) (ci := 4) (C := RX4) (T := TX4) (N := 5) hx hb hts wn_lay4 hown hK hP a ((wn_at (shp_lt ha (by decide))).trans (by rw [ce_4 ha])) rfl 4 (by decide) (hts _ hw) (fun _ h9 => h9) rfl hdg (k H locs hP hS)
theorem g_5_0 (Z : Zk ad X cc own nL ret rm) {a index : Nat} (ha : shp a = 5) (hw : Cond.fieldLink own index "WaitingNets$Rounds" (TX5 0).2.1 (TX5 0).2.2.1 ∈ wn_all) (hdg : decode cc pc = .ok (.getfield index, 3)) (k : G ad X M (pc + 3) ls (.ref (ad (fld a 0)) :: rest)) : G ad X M pc ls (.ref (ad a) :: rest) := by
  obtain ⟨p, l, e, R, s, m, args, below, meth, c, dC, dI, cy, A, cells, slots, Q⟩ := X
  obtain ⟨hx, hb, hml, hown, hts, hK, hJ, hr, hlk, hR, hA, hcc, hss⟩ := Z
  exact fun H locs hP hS => va_get (D := (dC, dI)) (ci := 5) (C := RX5) (T := TX5) (N := 7) hx hb hts wn_lay5 hown hK hP a ((wn_at (shp_lt ha (by decide))).trans (by rw [ce_5 ha])) rfl 0 (by decide) (hts _ hw) (fun _ h9 => h9) rfl hdg (k H locs hP hS)
theorem g_5_1 (Z : Zk ad X cc own nL ret rm) {a index : Nat} (ha : shp a = 5) (hw : Cond.fieldLink own index "WaitingNets$Rounds" (TX5 1).2.1 (TX5 1).2.2.1 ∈ wn_all) (hdg : decode cc pc = .ok (.getfield index, 3)) (k : G ad X M (pc + 3) ls (.ref (ad (fld a 1)) :: rest)) : G ad X M pc ls (.ref (ad a) :: rest) := by
  obtain ⟨p, l, e, R, s, m, args, below, meth, c, dC, dI, cy, A, cells, slots, Q⟩ := X
  obtain ⟨hx, hb, hml, hown, hts, hK, hJ, hr, hlk, hR, hA, hcc, hss⟩ := Z
  exact fun H locs hP hS => va_get (D := (dC, dI)) (ci := 5) (C := RX5) (T := TX5) (N := 7) hx hb hts wn_lay5 hown hK hP a ((wn_at (shp_lt ha (by decide))).trans (by rw [ce_5 ha])) rfl 1 (by decide) (hts _ hw) (fun _ h9 => h9) rfl hdg (k H locs hP hS)
theorem g_5_2 (Z : Zk ad X cc own nL ret rm) {a index : Nat} (ha : shp a = 5) (hw : Cond.fieldLink own index "WaitingNets$Rounds" (TX5 2).2.1 (TX5 2).2.2.1 ∈ wn_all) (hdg : decode cc pc = .ok (.getfield index, 3)) (k : G ad X M (pc + 3) ls (.ref (ad (fld a 2)) :: rest)) : G ad X M pc ls (.ref (ad a) :: rest) := by
  obtain ⟨p, l, e, R, s, m, args, below, meth, c, dC, dI, cy, A, cells, slots, Q⟩ := X
  obtain ⟨hx, hb, hml, hown, hts, hK, hJ, hr, hlk, hR, hA, hcc, hss⟩ := Z
  exact fun H locs hP hS => va_get (D := (dC, dI)) (ci := 5) (C := RX5) (T := TX5) (N := 7) hx hb hts wn_lay5 hown hK hP a ((wn_at (shp_lt ha (by decide))).trans (by rw [ce_5 ha])) rfl 2 (by decide) (hts _ hw) (fun _ h9 => h9) rfl hdg (k H locs hP hS)
theorem g_5_3 (Z : Zk ad X cc own nL ret rm) {a index : Nat} (ha : shp a = 5) (hw : Cond.fieldLink own index "WaitingNets$Rounds" (TX5 3).2.1 (TX5 3).2.2.1 ∈ wn_all) (hdg : decode cc pc = .ok (.getfield index, 3)) (k : G ad X M (pc + 3) ls (.ref (ad (fld a 3)) :: rest)) : G ad X M pc ls (.ref (ad a) :: rest) := by
  obtain ⟨p, l, e, R, s, m, args, below, meth, c, dC, dI, cy, A, cells, slots, Q⟩ := X
  obtain ⟨hx, hb, hml, hown, hts, hK, hJ, hr, hlk, hR, hA, hcc, hss⟩ := Z
  exact fun H locs hP hS => va_get (D := (dC, dI)) (ci := 5) (C := RX5) (T := TX5) (N := 7) hx hb hts wn_lay5 hown hK hP a ((wn_at (shp_lt ha (by decide))).trans (by rw [ce_5 ha])) rfl 3 (by decide) (hts _ hw) (fun _ h9 => h9) rfl hdg (k H locs hP hS)
theorem g_5_4 (Z : Zk ad X cc own nL ret rm) {a index : Nat} (ha : shp a = 5) (hw : Cond.fieldLink own index "WaitingNets$Rounds" (TX5 4).2.1 (TX5 4).2.2.1 ∈ wn_all) (hdg : decode cc pc = .ok (.getfield index, 3)) (k : G ad X M (pc + 3) ls (.ref (ad (fld a 4)) :: rest)) : G ad X M pc ls (.ref (ad a) :: rest) := by
  obtain ⟨p, l, e, R, s, m, args, below, meth, c, dC, dI, cy, A, cells, slots, Q⟩ := X
  obtain ⟨hx, hb, hml, hown, hts, hK, hJ, hr, hlk, hR, hA, hcc, hss⟩ := Z
  exact fun H locs hP hS => va_get (D := (dC, dI)) (ci := 5) (C := RX5) (T := TX5) (N := 7) hx hb hts wn_lay5 hown hK hP a ((wn_at (shp_lt ha (by decide))).trans (by rw [ce_5 ha])) rfl 4 (by decide) (hts _ hw) (fun _ h9 => h9) rfl hdg (k H locs hP hS)
theorem g_5_5 (Z : Zk ad X cc own nL ret rm) {a index : Nat} (ha : shp a = 5) (hw : Cond.fieldLink own index "WaitingNets$Rounds" (TX5 5).2.1 (TX5 5).2.2.1 ∈ wn_all) (hdg : decode cc pc = .ok (.getfield index, 3)) (k : G ad X M (pc + 3) ls (.ref (ad (fld a 5)) :: rest)) : G ad X M pc ls (.ref (ad a) :: rest) := by
  obtain ⟨p, l, e, R, s, m, args, below, meth, c, dC, dI, cy, A, cells, slots, Q⟩ := X
  obtain ⟨hx, hb, hml, hown, hts, hK, hJ, hr, hlk, hR, hA, hcc, hss⟩ := Z
  exact fun H locs hP hS => va_get (D := (dC, dI)) (ci := 5) (C := RX5) (T := TX5) (N := 7) hx hb hts wn_lay5 hown hK hP a ((wn_at (shp_lt ha (by decide))).trans (by rw [ce_5 ha])) rfl 5 (by decide) (hts _ hw) (fun _ h9 => h9) rfl hdg (k H locs hP hS)
theorem g_5_6 (Z : Zk ad X cc own nL ret rm) {a index : Nat} (ha : shp a = 5) (hw : Cond.fieldLink own index "WaitingNets$Rounds" (TX5 6).2.1 (TX5 6).2.2.1 ∈ wn_all) (hdg : decode cc pc = .ok (.getfield index, 3)) (k : G ad X M (pc + 3) ls (.ref (ad (fld a 6)) :: rest)) : G ad X M pc ls (.ref (ad a) :: rest) := by
  obtain ⟨p, l, e, R, s, m, args, below, meth, c, dC, dI, cy, A, cells, slots, Q⟩ := X
  obtain ⟨hx, hb, hml, hown, hts, hK, hJ, hr, hlk, hR, hA, hcc, hss⟩ := Z
  exact fun H locs hP hS => va_get (D := (dC, dI)) (ci := 5) (C := RX5) (T := TX5) (N := 7) hx hb hts wn_lay5 hown hK hP a ((wn_at (shp_lt ha (by decide))).trans (by rw [ce_5 ha])) rfl 6 (by decide) (hts _ hw) (fun _ h9 => h9) rfl hdg (k H locs hP hS)
theorem g_6_0 (Z : Zk ad X cc own nL ret rm) {a index : Nat} (ha : shp a = 6) (hw : Cond.fieldLink own index "WaitingNets$Row" (TX6 0).2.1 (TX6 0).2.2.1 ∈ wn_all) (hdg : decode cc pc = .ok (.getfield index, 3)) (k : G ad X M (pc + 3) ls (.ref (ad (fld a 0)) :: rest)) : G ad X M pc ls (.ref (ad a) :: rest) := by
  obtain ⟨p, l, e, R, s, m, args, below, meth, c, dC, dI, cy, A, cells, slots, Q⟩ := X
  obtain ⟨hx, hb, hml, hown, hts, hK, hJ, hr, hlk, hR, hA, hcc, hss⟩ := Z
  exact fun H locs hP hS => va_get (D := (dC, dI)) (ci := 6) (C := RX6) (T := TX6) (N := 2) hx hb hts wn_lay6 hown hK hP a ((wn_at (shp_lt ha (by decide))).trans (by rw [ce_6 ha])) rfl 0 (by decide) (hts _ hw) (fun _ h9 => h9) rfl hdg (k H locs hP hS)
theorem g_6_1 (Z : Zk ad X cc own nL ret rm) {a index : Nat} (ha : shp a = 6) (hw : Cond.fieldLink own index "WaitingNets$Row" (TX6 1).2.1 (TX6 1).2.2.1 ∈ wn_all) (hdg : decode cc pc = .ok (.getfield index, 3)) (k : G ad X M (pc + 3) ls (.int (mI M a 1) :: rest)) : G ad X M pc ls (.ref (ad a) :: rest) := by
  obtain ⟨p, l, e, R, s, m, args, below, meth, c, dC, dI, cy, A, cells, slots, Q⟩ := X
  obtain ⟨hx, hb, hml, hown, hts, hK, hJ, hr, hlk, hR, hA, hcc, hss⟩ := Z
  exact fun H locs hP hS => va_get (D := (dC, dI)) (ci := 6) (C := RX6) (T := TX6) (N := 2) hx hb hts wn_lay6 hown hK hP a ((wn_at (shp_lt ha (by decide))).trans (by rw [ce_6 ha])) rfl 1 (by decide) (hts _ hw) (fun _ h9 => h9) rfl hdg (k H locs hP hS)
theorem p_6_1 (Z : Zk ad X cc own nL ret rm) {a index : Nat} {v : Int32} (ha : shp a = 6) (hw : Cond.fieldLink own index "WaitingNets$Row" (TX6 1).2.1 (TX6 1).2.2.1 ∈ wn_all) (hdg : decode cc pc = .ok (.putfield index, 3)) (k : G ad X (sI M a 1 v) (pc + 3) ls rest) : G ad X M pc ls (.int v :: .ref (ad a) :: rest) := by
  obtain ⟨p, l, e, R, s, m, args, below, meth, c, dC, dI, cy, A, cells, slots, Q⟩ := X
  obtain ⟨hx, hb, hml, hown, hts, hK, hJ, hr, hlk, hR, hA, hcc, hss⟩ := Z
  exact fun H locs hP hS => va_put (D := (dC, dI)) (ci := 6) (v := .int v) (ty := .int) (C := RX6) (T := TX6) (N := 2) hx hb hts wn_lay6 tyX6 tyX6_ok nmX6 hown hK hP (wn_D hJ hA) hS a ((wn_at (shp_lt ha (by decide))).trans (by rw [ce_6 ha])) rfl 1 (by decide) (hts _ hw) (fun _ h9 => h9) rfl (by decide +kernel) rfl rfl (Nat.le_of_ble_eq_true rfl) hdg (fun H1 locs1 hP1 hD1 hS1 => k H1 locs1 (by
    rw [wn_set (M1 := sI M a 1 v) (by rw [ce_6 ha]; simp [mI, mJ, sI]) (fun j hj => ⟨by funext q; simp [sI, hj], by funext q; simp [sI, hj]⟩)] at hP1
    exact hP1) hS1)
theorem g_7_0 (Z : Zk ad X cc own nL ret rm) {a index : Nat} (ha : shp a = 7) (hw : Cond.fieldLink own index "WaitingNets$Square" (TX7 0).2.1 (TX7 0).2.2.1 ∈ wn_all) (hdg : decode cc pc = .ok (.getfield index, 3)) (k : G ad X M (pc + 3) ls (.ref (ad (fld a 0)) :: rest)) : G ad X M pc ls (.ref (ad a) :: rest) := by
  obtain ⟨p, l, e, R, s, m, args, below, meth, c, dC, dI, cy, A, cells, slots, Q⟩ := X
  obtain ⟨hx, hb, hml, hown, hts, hK, hJ, hr, hlk, hR, hA, hcc, hss⟩ := Z
  exact fun H locs hP hS => va_get (D := (dC, dI)) (ci := 7) (C := RX7) (T := TX7) (N := 2) hx hb hts wn_lay7 hown hK hP a ((wn_at (shp_lt ha (by decide))).trans (by rw [ce_7 ha])) rfl 0 (by decide) (hts _ hw) (fun _ h9 => h9) rfl hdg (k H locs hP hS)
theorem g_7_1 (Z : Zk ad X cc own nL ret rm) {a index : Nat} (ha : shp a = 7) (hw : Cond.fieldLink own index "WaitingNets$Square" (TX7 1).2.1 (TX7 1).2.2.1 ∈ wn_all) (hdg : decode cc pc = .ok (.getfield index, 3)) (k : G ad X M (pc + 3) ls (.int (mI M a 1) :: rest)) : G ad X M pc ls (.ref (ad a) :: rest) := by
  obtain ⟨p, l, e, R, s, m, args, below, meth, c, dC, dI, cy, A, cells, slots, Q⟩ := X
  obtain ⟨hx, hb, hml, hown, hts, hK, hJ, hr, hlk, hR, hA, hcc, hss⟩ := Z
  exact fun H locs hP hS => va_get (D := (dC, dI)) (ci := 7) (C := RX7) (T := TX7) (N := 2) hx hb hts wn_lay7 hown hK hP a ((wn_at (shp_lt ha (by decide))).trans (by rw [ce_7 ha])) rfl 1 (by decide) (hts _ hw) (fun _ h9 => h9) rfl hdg (k H locs hP hS)
theorem p_7_1 (Z : Zk ad X cc own nL ret rm) {a index : Nat} {v : Int32} (ha : shp a = 7) (hw : Cond.fieldLink own index "WaitingNets$Square" (TX7 1).2.1 (TX7 1).2.2.1 ∈ wn_all) (hdg : decode cc pc = .ok (.putfield index, 3)) (k : G ad X (sI M a 1 v) (pc + 3) ls rest) : G ad X M pc ls (.int v :: .ref (ad a) :: rest) := by
  obtain ⟨p, l, e, R, s, m, args, below, meth, c, dC, dI, cy, A, cells, slots, Q⟩ := X
  obtain ⟨hx, hb, hml, hown, hts, hK, hJ, hr, hlk, hR, hA, hcc, hss⟩ := Z
  exact fun H locs hP hS => va_put (D := (dC, dI)) (ci := 7) (v := .int v) (ty := .int) (C := RX7) (T := TX7) (N := 2) hx hb hts wn_lay7 tyX7 tyX7_ok nmX7 hown hK hP (wn_D hJ hA) hS a ((wn_at (shp_lt ha (by decide))).trans (by rw [ce_7 ha])) rfl 1 (by decide) (hts _ hw) (fun _ h9 => h9) rfl (by decide +kernel) rfl rfl (Nat.le_of_ble_eq_true rfl) hdg (fun H1 locs1 hP1 hD1 hS1 => k H1 locs1 (by
    rw [wn_set (M1 := sI M a 1 v) (by rw [ce_7 ha]; simp [mI, mJ, sI]) (fun j hj => ⟨by funext q; simp [sI, hj], by funext q; simp [sI, hj]⟩)] at hP1
    exact hP1) hS1)
theorem g_8_0 (Z : Zk ad X cc own nL ret rm) {a index : Nat} (ha : shp a = 8) (hw : Cond.fieldLink own index "WaitingNets" (TX8 0).2.1 (TX8 0).2.2.1 ∈ wn_all) (hdg : decode cc pc = .ok (.getfield index, 3)) (k : G ad X M (pc + 3) ls (.ref (ad (fld a 0)) :: rest)) : G ad X M pc ls (.ref (ad a) :: rest) := by
  obtain ⟨p, l, e, R, s, m, args, below, meth, c, dC, dI, cy, A, cells, slots, Q⟩ := X
  obtain ⟨hx, hb, hml, hown, hts, hK, hJ, hr, hlk, hR, hA, hcc, hss⟩ := Z
  exact fun H locs hP hS => va_get (D := (dC, dI)) (ci := 8) (C := RX8) (T := TX8) (N := 9) hx hb hts wn_lay8 hown hK hP a ((wn_at (shp_lt ha (by decide))).trans (by rw [ce_8 ha])) rfl 0 (by decide) (hts _ hw) (fun _ h9 => h9) rfl hdg (k H locs hP hS)
theorem g_8_1 (Z : Zk ad X cc own nL ret rm) {a index : Nat} (ha : shp a = 8) (hw : Cond.fieldLink own index "WaitingNets" (TX8 1).2.1 (TX8 1).2.2.1 ∈ wn_all) (hdg : decode cc pc = .ok (.getfield index, 3)) (k : G ad X M (pc + 3) ls (.ref (ad (fld a 1)) :: rest)) : G ad X M pc ls (.ref (ad a) :: rest) := by
  obtain ⟨p, l, e, R, s, m, args, below, meth, c, dC, dI, cy, A, cells, slots, Q⟩ := X
  obtain ⟨hx, hb, hml, hown, hts, hK, hJ, hr, hlk, hR, hA, hcc, hss⟩ := Z
  exact fun H locs hP hS => va_get (D := (dC, dI)) (ci := 8) (C := RX8) (T := TX8) (N := 9) hx hb hts wn_lay8 hown hK hP a ((wn_at (shp_lt ha (by decide))).trans (by rw [ce_8 ha])) rfl 1 (by decide) (hts _ hw) (fun _ h9 => h9) rfl hdg (k H locs hP hS)
theorem g_8_2 (Z : Zk ad X cc own nL ret rm) {a index : Nat} (ha : shp a = 8) (hw : Cond.fieldLink own index "WaitingNets" (TX8 2).2.1 (TX8 2).2.2.1 ∈ wn_all) (hdg : decode cc pc = .ok (.getfield index, 3)) (k : G ad X M (pc + 3) ls (.ref (ad (fld a 2)) :: rest)) : G ad X M pc ls (.ref (ad a) :: rest) := by
  obtain ⟨p, l, e, R, s, m, args, below, meth, c, dC, dI, cy, A, cells, slots, Q⟩ := X
  obtain ⟨hx, hb, hml, hown, hts, hK, hJ, hr, hlk, hR, hA, hcc, hss⟩ := Z
  exact fun H locs hP hS => va_get (D := (dC, dI)) (ci := 8) (C := RX8) (T := TX8) (N := 9) hx hb hts wn_lay8 hown hK hP a ((wn_at (shp_lt ha (by decide))).trans (by rw [ce_8 ha])) rfl 2 (by decide) (hts _ hw) (fun _ h9 => h9) rfl hdg (k H locs hP hS)
theorem g_8_3 (Z : Zk ad X cc own nL ret rm) {a index : Nat} (ha : shp a = 8) (hw : Cond.fieldLink own index "WaitingNets" (TX8 3).2.1 (TX8 3).2.2.1 ∈ wn_all) (hdg : decode cc pc = .ok (.getfield index, 3)) (k : G ad X M (pc + 3) ls (.ref (ad (fld a 3)) :: rest)) : G ad X M pc ls (.ref (ad a) :: rest) := by
  obtain ⟨p, l, e, R, s, m, args, below, meth, c, dC, dI, cy, A, cells, slots, Q⟩ := X
  obtain ⟨hx, hb, hml, hown, hts, hK, hJ, hr, hlk, hR, hA, hcc, hss⟩ := Z
  exact fun H locs hP hS => va_get (D := (dC, dI)) (ci := 8) (C := RX8) (T := TX8) (N := 9) hx hb hts wn_lay8 hown hK hP a ((wn_at (shp_lt ha (by decide))).trans (by rw [ce_8 ha])) rfl 3 (by decide) (hts _ hw) (fun _ h9 => h9) rfl hdg (k H locs hP hS)
theorem g_8_4 (Z : Zk ad X cc own nL ret rm) {a index : Nat} (ha : shp a = 8) (hw : Cond.fieldLink own index "WaitingNets" (TX8 4).2.1 (TX8 4).2.2.1 ∈ wn_all) (hdg : decode cc pc = .ok (.getfield index, 3)) (k : G ad X M (pc + 3) ls (.ref (ad (fld a 4)) :: rest)) : G ad X M pc ls (.ref (ad a) :: rest) := by
  obtain ⟨p, l, e, R, s, m, args, below, meth, c, dC, dI, cy, A, cells, slots, Q⟩ := X
  obtain ⟨hx, hb, hml, hown, hts, hK, hJ, hr, hlk, hR, hA, hcc, hss⟩ := Z
  exact fun H locs hP hS => va_get (D := (dC, dI)) (ci := 8) (C := RX8) (T := TX8) (N := 9) hx hb hts wn_lay8 hown hK hP a ((wn_at (shp_lt ha (by decide))).trans (by rw [ce_8 ha])) rfl 4 (by decide) (hts _ hw) (fun _ h9 => h9) rfl hdg (k H locs hP hS)
theorem g_8_5 (Z : Zk ad X cc own nL ret rm) {a index : Nat} (ha : shp a = 8) (hw : Cond.fieldLink own index "WaitingNets" (TX8 5).2.1 (TX8 5).2.2.1 ∈ wn_all) (hdg : decode cc pc = .ok (.getfield index, 3)) (k : G ad X M (pc + 3) ls (.ref (ad (fld a 5)) :: rest)) : G ad X M pc ls (.ref (ad a) :: rest) := by
  obtain ⟨p, l, e, R, s, m, args, below, meth, c, dC, dI, cy, A, cells, slots, Q⟩ := X
  obtain ⟨hx, hb, hml, hown, hts, hK, hJ, hr, hlk, hR, hA, hcc, hss⟩ := Z
  exact fun H locs hP hS => va_get (D := (dC, dI)) (ci := 8) (C := RX8) (T := TX8) (N := 9) hx hb hts wn_lay8 hown hK hP a ((wn_at (shp_lt ha (by decide))).trans (by rw [ce_8 ha])) rfl 5 (by decide) (hts _ hw) (fun _ h9 => h9) rfl hdg (k H locs hP hS)
theorem g_8_6 (Z : Zk ad X cc own nL ret rm) {a index : Nat} (ha : shp a = 8) (hw : Cond.fieldLink own index "WaitingNets" (TX8 6).2.1 (TX8 6).2.2.1 ∈ wn_all) (hdg : decode cc pc = .ok (.getfield index, 3)) (k : G ad X M (pc + 3) ls (.ref (ad (fld a 6)) :: rest)) : G ad X M pc ls (.ref (ad a) :: rest) := by
  obtain ⟨p, l, e, R, s, m, args, below, meth, c, dC, dI, cy, A, cells, slots, Q⟩ := X
  obtain ⟨hx, hb, hml, hown, hts, hK, hJ, hr, hlk, hR, hA, hcc, hss⟩ := Z
  exact fun H locs hP hS => va_get (D := (dC, dI)) (ci := 8) (C := RX8) (T := TX8) (N := 9) hx hb hts wn_lay8 hown hK hP a ((wn_at (shp_lt ha (by decide))).trans (by rw [ce_8 ha])) rfl 6 (by decide) (hts _ hw) (fun _ h9 => h9) rfl hdg (k H locs hP hS)
theorem g_8_7 (Z : Zk ad X cc own nL ret rm) {a index : Nat} (ha : shp a = 8) (hw : Cond.fieldLink own index "WaitingNets" (TX8 7).2.1 (TX8 7).2.2.1 ∈ wn_all) (hdg : decode cc pc = .ok (.getfield index, 3)) (k : G ad X M (pc + 3) ls (.int (mI M a 7) :: rest)) : G ad X M pc ls (.ref (ad a) :: rest) := by
  obtain ⟨p, l, e, R, s, m, args, below, meth, c, dC, dI, cy, A, cells, slots, Q⟩ := X
  obtain ⟨hx, hb, hml, hown, hts, hK, hJ, hr, hlk, hR, hA, hcc, hss⟩ := Z
  exact fun H locs hP hS => va_get (D := (dC, dI)) (ci := 8) (C := RX8) (T := TX8) (N := 9) hx hb hts wn_lay8 hown hK hP a ((wn_at (shp_lt ha (by decide))).trans (by rw [ce_8 ha])) rfl 7 (by decide) (hts _ hw) (fun _ h9 => h9) rfl hdg (k H locs hP hS)
theorem p_8_7 (Z : Zk ad X cc own nL ret rm) {a index : Nat} {v : Int32} (ha : shp a = 8) (hw : Cond.fieldLink own index "WaitingNets" (TX8 7).2.1 (TX8 7).2.2.1 ∈ wn_all) (hdg : decode cc pc = .ok (.putfield index, 3)) (k : G ad X (sI M a 7 v) (pc + 3) ls rest) : G ad X M pc ls (.int v :: .ref (ad a) :: rest) := by
  obtain ⟨p, l, e, R, s, m, args, below, meth, c, dC, dI, cy, A, cells, slots, Q⟩ := X
  obtain ⟨hx, hb, hml, hown, hts, hK, hJ, hr, hlk, hR, hA, hcc, hss⟩ := Z
  exact fun H locs hP hS => va_put (D := (dC, dI)) (ci := 8) (v := .int v) (ty := .int) (C := RX8) (T := TX8) (N := 9) hx hb hts wn_lay8 tyX8 tyX8_ok nmX8 hown hK hP (wn_D hJ hA) hS a ((wn_at (shp_lt ha (by decide))).trans (by rw [ce_8 ha])) rfl 7 (by decide) (hts _ hw) (fun _ h9 => h9) rfl (by decide +kernel) rfl rfl (Nat.le_of_ble_eq_true rfl) hdg (fun H1 locs1 hP1 hD1 hS1 => k H1 locs1 (by
    rw [wn_set (M1 := sI M a 7 v) (by rw [ce_8 ha]; simp [mI, mJ, sI]) (fun j hj => ⟨by funext q; simp [sI, hj], by funext q; simp [sI, hj]⟩)] at hP1
    exact hP1) hS1)
theorem g_8_8 (Z : Zk ad X cc own nL ret rm) {a index : Nat} (ha : shp a = 8) (hw : Cond.fieldLink own index "WaitingNets" (TX8 8).2.1 (TX8 8).2.2.1 ∈ wn_all) (hdg : decode cc pc = .ok (.getfield index, 3)) (k : G ad X M (pc + 3) ls (.int (mI M a 8) :: rest)) : G ad X M pc ls (.ref (ad a) :: rest) := by
  obtain ⟨p, l, e, R, s, m, args, below, meth, c, dC, dI, cy, A, cells, slots, Q⟩ := X
  obtain ⟨hx, hb, hml, hown, hts, hK, hJ, hr, hlk, hR, hA, hcc, hss⟩ := Z
  exact fun H locs hP hS => va_get (D := (dC, dI)) (ci := 8) (C := RX8) (T := TX8) (N := 9) hx hb hts wn_lay8 hown hK hP a ((wn_at (shp_lt ha (by decide))).trans (by rw [ce_8 ha])) rfl 8 (by decide) (hts _ hw) (fun _ h9 => h9) rfl hdg (k H locs hP hS)
theorem p_8_8 (Z : Zk ad X cc own nL ret rm) {a index : Nat} {v : Int32} (ha : shp a = 8) (hw : Cond.fieldLink own index "WaitingNets" (TX8 8).2.1 (TX8 8).2.2.1 ∈ wn_all) (hdg : decode cc pc = .ok (.putfield index, 3)) (k : G ad X (sI M a 8 v) (pc + 3) ls rest) : G ad X M pc ls (.int v :: .ref (ad a) :: rest) := by
  obtain ⟨p, l, e, R, s, m, args, below, meth, c, dC, dI, cy, A, cells, slots, Q⟩ := X
  obtain ⟨hx, hb, hml, hown, hts, hK, hJ, hr, hlk, hR, hA, hcc, hss⟩ := Z
  exact fun H locs hP hS => va_put (D := (dC, dI)) (ci := 8) (v := .int v) (ty := .int) (C := RX8) (T := TX8) (N := 9) hx hb hts wn_lay8 tyX8 tyX8_ok nmX8 hown hK hP (wn_D hJ hA) hS a ((wn_at (shp_lt ha (by decide))).trans (by rw [ce_8 ha])) rfl 8 (by decide) (hts _ hw) (fun _ h9 => h9) rfl (by decide +kernel) rfl rfl (Nat.le_of_ble_eq_true rfl) hdg (fun H1 locs1 hP1 hD1 hS1 => k H1 locs1 (by
    rw [wn_set (M1 := sI M a 8 v) (by rw [ce_8 ha]; simp [mI, mJ, sI]) (fun j hj => ⟨by funext q; simp [sI, hj], by funext q; simp [sI, hj]⟩)] at hP1
    exact hP1) hS1)
theorem g_9_0 (Z : Zk ad X cc own nL ret rm) {a index : Nat} (ha : shp a = 9) (hw : Cond.fieldLink own index "WaitingNetsModel" (TX9 0).2.1 (TX9 0).2.2.1 ∈ wn_all) (hdg : decode cc pc = .ok (.getfield index, 3)) (k : G ad X M (pc + 3) ls (.int (mI M a 0) :: rest)) : G ad X M pc ls (.ref (ad a) :: rest) := by
  obtain ⟨p, l, e, R, s, m, args, below, meth, c, dC, dI, cy, A, cells, slots, Q⟩ := X
  obtain ⟨hx, hb, hml, hown, hts, hK, hJ, hr, hlk, hR, hA, hcc, hss⟩ := Z
  exact fun H locs hP hS => va_get (D := (dC, dI)) (ci := 9) (C := RX9) (T := TX9) (N := 26) hx hb hts wn_lay9 hown hK hP a ((wn_at (shp_lt ha (by decide))).trans (by rw [ce_9 ha])) rfl 0 (by decide) (hts _ hw) (fun _ h9 => h9) rfl hdg (k H locs hP hS)
theorem p_9_0 (Z : Zk ad X cc own nL ret rm) {a index : Nat} {v : Int32} (ha : shp a = 9) (hw : Cond.fieldLink own index "WaitingNetsModel" (TX9 0).2.1 (TX9 0).2.2.1 ∈ wn_all) (hdg : decode cc pc = .ok (.putfield index, 3)) (k : G ad X (sI M a 0 v) (pc + 3) ls rest) : G ad X M pc ls (.int v :: .ref (ad a) :: rest) := by
  obtain ⟨p, l, e, R, s, m, args, below, meth, c, dC, dI, cy, A, cells, slots, Q⟩ := X
  obtain ⟨hx, hb, hml, hown, hts, hK, hJ, hr, hlk, hR, hA, hcc, hss⟩ := Z
  exact fun H locs hP hS => va_put (D := (dC, dI)) (ci := 9) (v := .int v) (ty := .int) (C := RX9) (T := TX9) (N := 26) hx hb hts wn_lay9 tyX9 tyX9_ok nmX9 hown hK hP (wn_D hJ hA) hS a ((wn_at (shp_lt ha (by decide))).trans (by rw [ce_9 ha])) rfl 0 (by decide) (hts _ hw) (fun _ h9 => h9) rfl (by decide +kernel) rfl rfl (Nat.le_of_ble_eq_true rfl) hdg (fun H1 locs1 hP1 hD1 hS1 => k H1 locs1 (by
    rw [wn_set (M1 := sI M a 0 v) (by rw [ce_9 ha]; simp [mI, mJ, sI]) (fun j hj => ⟨by funext q; simp [sI, hj], by funext q; simp [sI, hj]⟩)] at hP1
    exact hP1) hS1)
theorem g_9_1 (Z : Zk ad X cc own nL ret rm) {a index : Nat} (ha : shp a = 9) (hw : Cond.fieldLink own index "WaitingNetsModel" (TX9 1).2.1 (TX9 1).2.2.1 ∈ wn_all) (hdg : decode cc pc = .ok (.getfield index, 3)) (k : G ad X M (pc + 3) ls (.ref (ad (fld a 1)) :: rest)) : G ad X M pc ls (.ref (ad a) :: rest) := by
  obtain ⟨p, l, e, R, s, m, args, below, meth, c, dC, dI, cy, A, cells, slots, Q⟩ := X
  obtain ⟨hx, hb, hml, hown, hts, hK, hJ, hr, hlk, hR, hA, hcc, hss⟩ := Z
  exact fun H locs hP hS => va_get (D := (dC, dI)) (ci := 9) (C := RX9) (T := TX9) (N := 26) hx hb hts wn_lay9 hown hK hP a ((wn_at (shp_lt ha (by decide))).trans (by rw [ce_9 ha])) rfl 1 (by decide) (hts _ hw) (fun _ h9 => h9) rfl hdg (k H locs hP hS)
theorem g_9_2 (Z : Zk ad X cc own nL ret rm) {a index : Nat} (ha : shp a = 9) (hw : Cond.fieldLink own index "WaitingNetsModel" (TX9 2).2.1 (TX9 2).2.2.1 ∈ wn_all) (hdg : decode cc pc = .ok (.getfield index, 3)) (k : G ad X M (pc + 3) ls (.int (mI M a 2) :: rest)) : G ad X M pc ls (.ref (ad a) :: rest) := by
  obtain ⟨p, l, e, R, s, m, args, below, meth, c, dC, dI, cy, A, cells, slots, Q⟩ := X
  obtain ⟨hx, hb, hml, hown, hts, hK, hJ, hr, hlk, hR, hA, hcc, hss⟩ := Z
  exact fun H locs hP hS => va_get (D := (dC, dI)) (ci := 9) (C := RX9) (T := TX9) (N := 26) hx hb hts wn_lay9 hown hK hP a ((wn_at (shp_lt ha (by decide))).trans (by rw [ce_9 ha])) rfl 2 (by decide) (hts _ hw) (fun _ h9 => h9) rfl hdg (k H locs hP hS)
theorem p_9_2 (Z : Zk ad X cc own nL ret rm) {a index : Nat} {v : Int32} (ha : shp a = 9) (hw : Cond.fieldLink own index "WaitingNetsModel" (TX9 2).2.1 (TX9 2).2.2.1 ∈ wn_all) (hdg : decode cc pc = .ok (.putfield index, 3)) (k : G ad X (sI M a 2 v) (pc + 3) ls rest) : G ad X M pc ls (.int v :: .ref (ad a) :: rest) := by
  obtain ⟨p, l, e, R, s, m, args, below, meth, c, dC, dI, cy, A, cells, slots, Q⟩ := X
  obtain ⟨hx, hb, hml, hown, hts, hK, hJ, hr, hlk, hR, hA, hcc, hss⟩ := Z
  exact fun H locs hP hS => va_put (D := (dC, dI)) (ci := 9) (v := .int v) (ty := .int) (C := RX9) (T := TX9) (N := 26) hx hb hts wn_lay9 tyX9 tyX9_ok nmX9 hown hK hP (wn_D hJ hA) hS a ((wn_at (shp_lt ha (by decide))).trans (by rw [ce_9 ha])) rfl 2 (by decide) (hts _ hw) (fun _ h9 => h9) rfl (by decide +kernel) rfl rfl (Nat.le_of_ble_eq_true rfl) hdg (fun H1 locs1 hP1 hD1 hS1 => k H1 locs1 (by
    rw [wn_set (M1 := sI M a 2 v) (by rw [ce_9 ha]; simp [mI, mJ, sI]) (fun j hj => ⟨by funext q; simp [sI, hj], by funext q; simp [sI, hj]⟩)] at hP1
    exact hP1) hS1)
theorem g_9_3 (Z : Zk ad X cc own nL ret rm) {a index : Nat} (ha : shp a = 9) (hw : Cond.fieldLink own index "WaitingNetsModel" (TX9 3).2.1 (TX9 3).2.2.1 ∈ wn_all) (hdg : decode cc pc = .ok (.getfield index, 3)) (k : G ad X M (pc + 3) ls (.long (mJ M a 3) :: rest)) : G ad X M pc ls (.ref (ad a) :: rest) := by
  obtain ⟨p, l, e, R, s, m, args, below, meth, c, dC, dI, cy, A, cells, slots, Q⟩ := X
  obtain ⟨hx, hb, hml, hown, hts, hK, hJ, hr, hlk, hR, hA, hcc, hss⟩ := Z
  exact fun H locs hP hS => va_get (D := (dC, dI)) (ci := 9) (C := RX9) (T := TX9) (N := 26) hx hb hts wn_lay9 hown hK hP a ((wn_at (shp_lt ha (by decide))).trans (by rw [ce_9 ha])) rfl 3 (by decide) (hts _ hw) (fun _ h9 => h9) rfl hdg (k H locs hP hS)
theorem p_9_3 (Z : Zk ad X cc own nL ret rm) {a index : Nat} {v : Int64} (ha : shp a = 9) (hw : Cond.fieldLink own index "WaitingNetsModel" (TX9 3).2.1 (TX9 3).2.2.1 ∈ wn_all) (hdg : decode cc pc = .ok (.putfield index, 3)) (k : G ad X (sJ M a 3 v) (pc + 3) ls rest) : G ad X M pc ls (.long v :: .ref (ad a) :: rest) := by
  obtain ⟨p, l, e, R, s, m, args, below, meth, c, dC, dI, cy, A, cells, slots, Q⟩ := X
  obtain ⟨hx, hb, hml, hown, hts, hK, hJ, hr, hlk, hR, hA, hcc, hss⟩ := Z
  exact fun H locs hP hS => va_put (D := (dC, dI)) (ci := 9) (v := .long v) (ty := .long) (C := RX9) (T := TX9) (N := 26) hx hb hts wn_lay9 tyX9 tyX9_ok nmX9 hown hK hP (wn_D hJ hA) hS a ((wn_at (shp_lt ha (by decide))).trans (by rw [ce_9 ha])) rfl 3 (by decide) (hts _ hw) (fun _ h9 => h9) rfl (by decide +kernel) rfl rfl (Nat.le_of_ble_eq_true rfl) hdg (fun H1 locs1 hP1 hD1 hS1 => k H1 locs1 (by
    rw [wn_set (M1 := sJ M a 3 v) (by rw [ce_9 ha]; simp [mI, mJ, sJ]) (fun j hj => ⟨by funext q; simp [sJ, hj], by funext q; simp [sJ, hj]⟩)] at hP1
    exact hP1) hS1)
theorem g_9_4 (Z : Zk ad X cc own nL ret rm) {a index : Nat} (ha : shp a = 9) (hw : Cond.fieldLink own index "WaitingNetsModel" (TX9 4).2.1 (TX9 4).2.2.1 ∈ wn_all) (hdg : decode cc pc = .ok (.getfield index, 3)) (k : G ad X M (pc + 3) ls (.long (mJ M a 4) :: rest)) : G ad X M pc ls (.ref (ad a) :: rest) := by
  obtain ⟨p, l, e, R, s, m, args, below, meth, c, dC, dI, cy, A, cells, slots, Q⟩ := X
  obtain ⟨hx, hb, hml, hown, hts, hK, hJ, hr, hlk, hR, hA, hcc, hss⟩ := Z
  exact fun H locs hP hS => va_get (D := (dC, dI)) (ci := 9) (C := RX9) (T := TX9) (N := 26) hx hb hts wn_lay9 hown hK hP a ((wn_at (shp_lt ha (by decide))).trans (by rw [ce_9 ha])) rfl 4 (by decide) (hts _ hw) (fun _ h9 => h9) rfl hdg (k H locs hP hS)
theorem p_9_4 (Z : Zk ad X cc own nL ret rm) {a index : Nat} {v : Int64} (ha : shp a = 9) (hw : Cond.fieldLink own index "WaitingNetsModel" (TX9 4).2.1 (TX9 4).2.2.1 ∈ wn_all) (hdg : decode cc pc = .ok (.putfield index, 3)) (k : G ad X (sJ M a 4 v) (pc + 3) ls rest) : G ad X M pc ls (.long v :: .ref (ad a) :: rest) := by
  obtain ⟨p, l, e, R, s, m, args, below, meth, c, dC, dI, cy, A, cells, slots, Q⟩ := X
  obtain ⟨hx, hb, hml, hown, hts, hK, hJ, hr, hlk, hR, hA, hcc, hss⟩ := Z
  exact fun H locs hP hS => va_put (D := (dC, dI)) (ci := 9) (v := .long v) (ty := .long) (C := RX9) (T := TX9) (N := 26) hx hb hts wn_lay9 tyX9 tyX9_ok nmX9 hown hK hP (wn_D hJ hA) hS a ((wn_at (shp_lt ha (by decide))).trans (by rw [ce_9 ha])) rfl 4 (by decide) (hts _ hw) (fun _ h9 => h9) rfl (by decide +kernel) rfl rfl (Nat.le_of_ble_eq_true rfl) hdg (fun H1 locs1 hP1 hD1 hS1 => k H1 locs1 (by
    rw [wn_set (M1 := sJ M a 4 v) (by rw [ce_9 ha]; simp [mI, mJ, sJ]) (fun j hj => ⟨by funext q; simp [sJ, hj], by funext q; simp [sJ, hj]⟩)] at hP1
    exact hP1) hS1)
theorem g_9_5 (Z : Zk ad X cc own nL ret rm) {a index : Nat} (ha : shp a = 9) (hw : Cond.fieldLink own index "WaitingNetsModel" (TX9 5).2.1 (TX9 5).2.2.1 ∈ wn_all) (hdg : decode cc pc = .ok (.getfield index, 3)) (k : G ad X M (pc + 3) ls (.ref (ad (fld a 5)) :: rest)) : G ad X M pc ls (.ref (ad a) :: rest) := by
  obtain ⟨p, l, e, R, s, m, args, below, meth, c, dC, dI, cy, A, cells, slots, Q⟩ := X
  obtain ⟨hx, hb, hml, hown, hts, hK, hJ, hr, hlk, hR, hA, hcc, hss⟩ := Z
  exact fun H locs hP hS => va_get (D := (dC, dI)) (ci := 9) (C := RX9) (T := TX9) (N := 26) hx hb hts wn_lay9 hown hK hP a ((wn_at (shp_lt ha (by decide))).trans (by rw [ce_9 ha])) rfl 5 (by decide) (hts _ hw) (fun _ h9 => h9) rfl hdg (k H locs hP hS)
theorem g_9_6 (Z : Zk ad X cc own nL ret rm) {a index : Nat} (ha : shp a = 9) (hw : Cond.fieldLink own index "WaitingNetsModel" (TX9 6).2.1 (TX9 6).2.2.1 ∈ wn_all) (hdg : decode cc pc = .ok (.getfield index, 3)) (k : G ad X M (pc + 3) ls (.ref (ad (fld a 6)) :: rest)) : G ad X M pc ls (.ref (ad a) :: rest) := by
  obtain ⟨p, l, e, R, s, m, args, below, meth, c, dC, dI, cy, A, cells, slots, Q⟩ := X
  obtain ⟨hx, hb, hml, hown, hts, hK, hJ, hr, hlk, hR, hA, hcc, hss⟩ := Z
  exact fun H locs hP hS => va_get (D := (dC, dI)) (ci := 9) (C := RX9) (T := TX9) (N := 26) hx hb hts wn_lay9 hown hK hP a ((wn_at (shp_lt ha (by decide))).trans (by rw [ce_9 ha])) rfl 6 (by decide) (hts _ hw) (fun _ h9 => h9) rfl hdg (k H locs hP hS)
theorem g_9_7 (Z : Zk ad X cc own nL ret rm) {a index : Nat} (ha : shp a = 9) (hw : Cond.fieldLink own index "WaitingNetsModel" (TX9 7).2.1 (TX9 7).2.2.1 ∈ wn_all) (hdg : decode cc pc = .ok (.getfield index, 3)) (k : G ad X M (pc + 3) ls (.ref (ad (fld a 7)) :: rest)) : G ad X M pc ls (.ref (ad a) :: rest) := by
  obtain ⟨p, l, e, R, s, m, args, below, meth, c, dC, dI, cy, A, cells, slots, Q⟩ := X
  obtain ⟨hx, hb, hml, hown, hts, hK, hJ, hr, hlk, hR, hA, hcc, hss⟩ := Z
  exact fun H locs hP hS => va_get (D := (dC, dI)) (ci := 9) (C := RX9) (T := TX9) (N := 26) hx hb hts wn_lay9 hown hK hP a ((wn_at (shp_lt ha (by decide))).trans (by rw [ce_9 ha])) rfl 7 (by decide) (hts _ hw) (fun _ h9 => h9) rfl hdg (k H locs hP hS)
theorem g_9_8 (Z : Zk ad X cc own nL ret rm) {a index : Nat} (ha : shp a = 9) (hw : Cond.fieldLink own index "WaitingNetsModel" (TX9 8).2.1 (TX9 8).2.2.1 ∈ wn_all) (hdg : decode cc pc = .ok (.getfield index, 3)) (k : G ad X M (pc + 3) ls (.ref (ad (fld a 8)) :: rest)) : G ad X M pc ls (.ref (ad a) :: rest) := by
  obtain ⟨p, l, e, R, s, m, args, below, meth, c, dC, dI, cy, A, cells, slots, Q⟩ := X
  obtain ⟨hx, hb, hml, hown, hts, hK, hJ, hr, hlk, hR, hA, hcc, hss⟩ := Z
  exact fun H locs hP hS => va_get (D := (dC, dI)) (ci := 9) (C := RX9) (T := TX9) (N := 26) hx hb hts wn_lay9 hown hK hP a ((wn_at (shp_lt ha (by decide))).trans (by rw [ce_9 ha])) rfl 8 (by decide) (hts _ hw) (fun _ h9 => h9) rfl hdg (k H locs hP hS)
theorem g_9_9 (Z : Zk ad X cc own nL ret rm) {a index : Nat} (ha : shp a = 9) (hw : Cond.fieldLink own index "WaitingNetsModel" (TX9 9).2.1 (TX9 9).2.2.1 ∈ wn_all) (hdg : decode cc pc = .ok (.getfield index, 3)) (k : G ad X M (pc + 3) ls (.ref (ad (fld a 9)) :: rest)) : G ad X M pc ls (.ref (ad a) :: rest) := by
  obtain ⟨p, l, e, R, s, m, args, below, meth, c, dC, dI, cy, A, cells, slots, Q⟩ := X
  obtain ⟨hx, hb, hml, hown, hts, hK, hJ, hr, hlk, hR, hA, hcc, hss⟩ := Z
  exact fun H locs hP hS => va_get (D := (dC, dI)) (ci := 9) (C := RX9) (T := TX9) (N := 26) hx hb hts wn_lay9 hown hK hP a ((wn_at (shp_lt ha (by decide))).trans (by rw [ce_9 ha])) rfl 9 (by decide) (hts _ hw) (fun _ h9 => h9) rfl hdg (k H locs hP hS)
theorem g_9_10 (Z : Zk ad X cc own nL ret rm) {a index : Nat} (ha : shp a = 9) (hw : Cond.fieldLink own index "WaitingNetsModel" (TX9 10).2.1 (TX9 10).2.2.1 ∈ wn_all) (hdg : decode cc pc = .ok (.getfield index, 3)) (k : G ad X M (pc + 3) ls (.ref (ad (fld a 10)) :: rest)) : G ad X M pc ls (.ref (ad a) :: rest) := by
  obtain ⟨p, l, e, R, s, m, args, below, meth, c, dC, dI, cy, A, cells, slots, Q⟩ := X
  obtain ⟨hx, hb, hml, hown, hts, hK, hJ, hr, hlk, hR, hA, hcc, hss⟩ := Z
  exact fun H locs hP hS => va_get (D := (dC, dI)) (ci := 9) (C := RX9) (T := TX9) (N := 26) hx hb hts wn_lay9 hown hK hP a ((wn_at (shp_lt ha (by decide))).trans (by rw [ce_9 ha])) rfl 10 (by decide) (hts _ hw) (fun _ h9 => h9) rfl hdg (k H locs hP hS)
theorem g_9_11 (Z : Zk ad X cc own nL ret rm) {a index : Nat} (ha : shp a = 9) (hw : Cond.fieldLink own index "WaitingNetsModel" (TX9 11).2.1 (TX9 11).2.2.1 ∈ wn_all) (hdg : decode cc pc = .ok (.getfield index, 3)) (k : G ad X M (pc + 3) ls (.ref (ad (fld a 11)) :: rest)) : G ad X M pc ls (.ref (ad a) :: rest) := by
  obtain ⟨p, l, e, R, s, m, args, below, meth, c, dC, dI, cy, A, cells, slots, Q⟩ := X
  obtain ⟨hx, hb, hml, hown, hts, hK, hJ, hr, hlk, hR, hA, hcc, hss⟩ := Z
  exact fun H locs hP hS => va_get (D := (dC, dI)) (ci := 9) (C := RX9) (T := TX9) (N := 26) hx hb hts wn_lay9 hown hK hP a ((wn_at (shp_lt ha (by decide))).trans (by rw [ce_9 ha])) rfl 11 (by decide) (hts _ hw) (fun _ h9 => h9) rfl hdg (k H locs hP hS)
theorem g_9_12 (Z : Zk ad X cc own nL ret rm) {a index : Nat} (ha : shp a = 9) (hw : Cond.fieldLink own index "WaitingNetsModel" (TX9 12).2.1 (TX9 12).2.2.1 ∈ wn_all) (hdg : decode cc pc = .ok (.getfield index, 3)) (k : G ad X M (pc + 3) ls (.ref (ad (fld a 12)) :: rest)) : G ad X M pc ls (.ref (ad a) :: rest) := by
  obtain ⟨p, l, e, R, s, m, args, below, meth, c, dC, dI, cy, A, cells, slots, Q⟩ := X
  obtain ⟨hx, hb, hml, hown, hts, hK, hJ, hr, hlk, hR, hA, hcc, hss⟩ := Z
  exact fun H locs hP hS => va_get (D := (dC, dI)) (ci := 9) (C := RX9) (T := TX9) (N := 26) hx hb hts wn_lay9 hown hK hP a ((wn_at (shp_lt ha (by decide))).trans (by rw [ce_9 ha])) rfl 12 (by decide) (hts _ hw) (fun _ h9 => h9) rfl hdg (k H locs hP hS)
theorem g_9_13 (Z : Zk ad X cc own nL ret rm) {a index : Nat} (ha : shp a = 9) (hw : Cond.fieldLink own index "WaitingNetsModel" (TX9 13).2.1 (TX9 13).2.2.1 ∈ wn_all) (hdg : decode cc pc = .ok (.getfield index, 3)) (k : G ad X M (pc + 3) ls (.ref (ad (fld a 13)) :: rest)) : G ad X M pc ls (.ref (ad a) :: rest) := by
  obtain ⟨p, l, e, R, s, m, args, below, meth, c, dC, dI, cy, A, cells, slots, Q⟩ := X
  obtain ⟨hx, hb, hml, hown, hts, hK, hJ, hr, hlk, hR, hA, hcc, hss⟩ := Z
  exact fun H locs hP hS => va_get (D := (dC, dI)) (ci := 9) (C := RX9) (T := TX9) (N := 26) hx hb hts wn_lay9 hown hK hP a ((wn_at (shp_lt ha (by decide))).trans (by rw [ce_9 ha])) rfl 13 (by decide) (hts _ hw) (fun _ h9 => h9) rfl hdg (k H locs hP hS)
theorem g_9_14 (Z : Zk ad X cc own nL ret rm) {a index : Nat} (ha : shp a = 9) (hw : Cond.fieldLink own index "WaitingNetsModel" (TX9 14).2.1 (TX9 14).2.2.1 ∈ wn_all) (hdg : decode cc pc = .ok (.getfield index, 3)) (k : G ad X M (pc + 3) ls (.ref (ad (fld a 14)) :: rest)) : G ad X M pc ls (.ref (ad a) :: rest) := by
  obtain ⟨p, l, e, R, s, m, args, below, meth, c, dC, dI, cy, A, cells, slots, Q⟩ := X
  obtain ⟨hx, hb, hml, hown, hts, hK, hJ, hr, hlk, hR, hA, hcc, hss⟩ := Z
  exact fun H locs hP hS => va_get (D := (dC, dI)) (ci := 9) (C := RX9) (T := TX9) (N := 26) hx hb hts wn_lay9 hown hK hP a ((wn_at (shp_lt ha (by decide))).trans (by rw [ce_9 ha])) rfl 14 (by decide) (hts _ hw) (fun _ h9 => h9) rfl hdg (k H locs hP hS)
theorem g_9_15 (Z : Zk ad X cc own nL ret rm) {a index : Nat} (ha : shp a = 9) (hw : Cond.fieldLink own index "WaitingNetsModel" (TX9 15).2.1 (TX9 15).2.2.1 ∈ wn_all) (hdg : decode cc pc = .ok (.getfield index, 3)) (k : G ad X M (pc + 3) ls (.ref (ad (fld a 15)) :: rest)) : G ad X M pc ls (.ref (ad a) :: rest) := by
  obtain ⟨p, l, e, R, s, m, args, below, meth, c, dC, dI, cy, A, cells, slots, Q⟩ := X
  obtain ⟨hx, hb, hml, hown, hts, hK, hJ, hr, hlk, hR, hA, hcc, hss⟩ := Z
  exact fun H locs hP hS => va_get (D := (dC, dI)) (ci := 9) (C := RX9) (T := TX9) (N := 26) hx hb hts wn_lay9 hown hK hP a ((wn_at (shp_lt ha (by decide))).trans (by rw [ce_9 ha])) rfl 15 (by decide) (hts _ hw) (fun _ h9 => h9) rfl hdg (k H locs hP hS)
theorem g_9_16 (Z : Zk ad X cc own nL ret rm) {a index : Nat} (ha : shp a = 9) (hw : Cond.fieldLink own index "WaitingNetsModel" (TX9 16).2.1 (TX9 16).2.2.1 ∈ wn_all) (hdg : decode cc pc = .ok (.getfield index, 3)) (k : G ad X M (pc + 3) ls (.ref (ad (fld a 16)) :: rest)) : G ad X M pc ls (.ref (ad a) :: rest) := by
  obtain ⟨p, l, e, R, s, m, args, below, meth, c, dC, dI, cy, A, cells, slots, Q⟩ := X
  obtain ⟨hx, hb, hml, hown, hts, hK, hJ, hr, hlk, hR, hA, hcc, hss⟩ := Z
  exact fun H locs hP hS => va_get (D := (dC, dI)) (ci := 9) (C := RX9) (T := TX9) (N := 26) hx hb hts wn_lay9 hown hK hP a ((wn_at (shp_lt ha (by decide))).trans (by rw [ce_9 ha])) rfl 16 (by decide) (hts _ hw) (fun _ h9 => h9) rfl hdg (k H locs hP hS)
theorem g_9_17 (Z : Zk ad X cc own nL ret rm) {a index : Nat} (ha : shp a = 9) (hw : Cond.fieldLink own index "WaitingNetsModel" (TX9 17).2.1 (TX9 17).2.2.1 ∈ wn_all) (hdg : decode cc pc = .ok (.getfield index, 3)) (k : G ad X M (pc + 3) ls (.ref (ad (fld a 17)) :: rest)) : G ad X M pc ls (.ref (ad a) :: rest) := by
  obtain ⟨p, l, e, R, s, m, args, below, meth, c, dC, dI, cy, A, cells, slots, Q⟩ := X
  obtain ⟨hx, hb, hml, hown, hts, hK, hJ, hr, hlk, hR, hA, hcc, hss⟩ := Z
  exact fun H locs hP hS => va_get (D := (dC, dI)) (ci := 9) (C := RX9) (T := TX9) (N := 26) hx hb hts wn_lay9 hown hK hP a ((wn_at (shp_lt ha (by decide))).trans (by rw [ce_9 ha])) rfl 17 (by decide) (hts _ hw) (fun _ h9 => h9) rfl hdg (k H locs hP hS)
theorem g_9_18 (Z : Zk ad X cc own nL ret rm) {a index : Nat} (ha : shp a = 9) (hw : Cond.fieldLink own index "WaitingNetsModel" (TX9 18).2.1 (TX9 18).2.2.1 ∈ wn_all) (hdg : decode cc pc = .ok (.getfield index, 3)) (k : G ad X M (pc + 3) ls (.long (mJ M a 18) :: rest)) : G ad X M pc ls (.ref (ad a) :: rest) := by
  obtain ⟨p, l, e, R, s, m, args, below, meth, c, dC, dI, cy, A, cells, slots, Q⟩ := X
  obtain ⟨hx, hb, hml, hown, hts, hK, hJ, hr, hlk, hR, hA, hcc, hss⟩ := Z
  exact fun H locs hP hS => va_get (D := (dC, dI)) (ci := 9) (C := RX9) (T := TX9) (N := 26) hx hb hts wn_lay9 hown hK hP a ((wn_at (shp_lt ha (by decide))).trans (by rw [ce_9 ha])) rfl 18 (by decide) (hts _ hw) (fun _ h9 => h9) rfl hdg (k H locs hP hS)
theorem p_9_18 (Z : Zk ad X cc own nL ret rm) {a index : Nat} {v : Int64} (ha : shp a = 9) (hw : Cond.fieldLink own index "WaitingNetsModel" (TX9 18).2.1 (TX9 18).2.2.1 ∈ wn_all) (hdg : decode cc pc = .ok (.putfield index, 3)) (k : G ad X (sJ M a 18 v) (pc + 3) ls rest) : G ad X M pc ls (.long v :: .ref (ad a) :: rest) := by
  obtain ⟨p, l, e, R, s, m, args, below, meth, c, dC, dI, cy, A, cells, slots, Q⟩ := X
  obtain ⟨hx, hb, hml, hown, hts, hK, hJ, hr, hlk, hR, hA, hcc, hss⟩ := Z
  exact fun H locs hP hS => va_put (D := (dC, dI)) (ci := 9) (v := .long v) (ty := .long) (C := RX9) (T := TX9) (N := 26) hx hb hts wn_lay9 tyX9 tyX9_ok nmX9 hown hK hP (wn_D hJ hA) hS a ((wn_at (shp_lt ha (by decide))).trans (by rw [ce_9 ha])) rfl 18 (by decide) (hts _ hw) (fun _ h9 => h9) rfl (by decide +kernel) rfl rfl (Nat.le_of_ble_eq_true rfl) hdg (fun H1 locs1 hP1 hD1 hS1 => k H1 locs1 (by
    rw [wn_set (M1 := sJ M a 18 v) (by rw [ce_9 ha]; simp [mI, mJ, sJ]) (fun j hj => ⟨by funext q; simp [sJ, hj], by funext q; simp [sJ, hj]⟩)] at hP1
    exact hP1) hS1)
theorem g_9_19 (Z : Zk ad X cc own nL ret rm) {a index : Nat} (ha : shp a = 9) (hw : Cond.fieldLink own index "WaitingNetsModel" (TX9 19).2.1 (TX9 19).2.2.1 ∈ wn_all) (hdg : decode cc pc = .ok (.getfield index, 3)) (k : G ad X M (pc + 3) ls (.long (mJ M a 19) :: rest)) : G ad X M pc ls (.ref (ad a) :: rest) := by
  obtain ⟨p, l, e, R, s, m, args, below, meth, c, dC, dI, cy, A, cells, slots, Q⟩ := X
  obtain ⟨hx, hb, hml, hown, hts, hK, hJ, hr, hlk, hR, hA, hcc, hss⟩ := Z
  exact fun H locs hP hS => va_get (D := (dC, dI)) (ci := 9) (C := RX9) (T := TX9) (N := 26) hx hb hts wn_lay9 hown hK hP a ((wn_at (shp_lt ha (by decide))).trans (by rw [ce_9 ha])) rfl 19 (by decide) (hts _ hw) (fun _ h9 => h9) rfl hdg (k H locs hP hS)
theorem p_9_19 (Z : Zk ad X cc own nL ret rm) {a index : Nat} {v : Int64} (ha : shp a = 9) (hw : Cond.fieldLink own index "WaitingNetsModel" (TX9 19).2.1 (TX9 19).2.2.1 ∈ wn_all) (hdg : decode cc pc = .ok (.putfield index, 3)) (k : G ad X (sJ M a 19 v) (pc + 3) ls rest) : G ad X M pc ls (.long v :: .ref (ad a) :: rest) := by
  obtain ⟨p, l, e, R, s, m, args, below, meth, c, dC, dI, cy, A, cells, slots, Q⟩ := X
  obtain ⟨hx, hb, hml, hown, hts, hK, hJ, hr, hlk, hR, hA, hcc, hss⟩ := Z
  exact fun H locs hP hS => va_put (D := (dC, dI)) (ci := 9) (v := .long v) (ty := .long) (C := RX9) (T := TX9) (N := 26) hx hb hts wn_lay9 tyX9 tyX9_ok nmX9 hown hK hP (wn_D hJ hA) hS a ((wn_at (shp_lt ha (by decide))).trans (by rw [ce_9 ha])) rfl 19 (by decide) (hts _ hw) (fun _ h9 => h9) rfl (by decide +kernel) rfl rfl (Nat.le_of_ble_eq_true rfl) hdg (fun H1 locs1 hP1 hD1 hS1 => k H1 locs1 (by
    rw [wn_set (M1 := sJ M a 19 v) (by rw [ce_9 ha]; simp [mI, mJ, sJ]) (fun j hj => ⟨by funext q; simp [sJ, hj], by funext q; simp [sJ, hj]⟩)] at hP1
    exact hP1) hS1)
theorem g_9_20 (Z : Zk ad X cc own nL ret rm) {a index : Nat} (ha : shp a = 9) (hw : Cond.fieldLink own index "WaitingNetsModel" (TX9 20).2.1 (TX9 20).2.2.1 ∈ wn_all) (hdg : decode cc pc = .ok (.getfield index, 3)) (k : G ad X M (pc + 3) ls (.ref (ad (fld a 20)) :: rest)) : G ad X M pc ls (.ref (ad a) :: rest) := by
  obtain ⟨p, l, e, R, s, m, args, below, meth, c, dC, dI, cy, A, cells, slots, Q⟩ := X
  obtain ⟨hx, hb, hml, hown, hts, hK, hJ, hr, hlk, hR, hA, hcc, hss⟩ := Z
  exact fun H locs hP hS => va_get (D := (dC, dI)) (ci := 9) (C := RX9) (T := TX9) (N := 26) hx hb hts wn_lay9 hown hK hP a ((wn_at (shp_lt ha (by decide))).trans (by rw [ce_9 ha])) rfl 20 (by decide) (hts _ hw) (fun _ h9 => h9) rfl hdg (k H locs hP hS)
theorem g_9_21 (Z : Zk ad X cc own nL ret rm) {a index : Nat} (ha : shp a = 9) (hw : Cond.fieldLink own index "WaitingNetsModel" (TX9 21).2.1 (TX9 21).2.2.1 ∈ wn_all) (hdg : decode cc pc = .ok (.getfield index, 3)) (k : G ad X M (pc + 3) ls (.ref (ad (fld a 21)) :: rest)) : G ad X M pc ls (.ref (ad a) :: rest) := by
  obtain ⟨p, l, e, R, s, m, args, below, meth, c, dC, dI, cy, A, cells, slots, Q⟩ := X
  obtain ⟨hx, hb, hml, hown, hts, hK, hJ, hr, hlk, hR, hA, hcc, hss⟩ := Z
  exact fun H locs hP hS => va_get (D := (dC, dI)) (ci := 9) (C := RX9) (T := TX9) (N := 26) hx hb hts wn_lay9 hown hK hP a ((wn_at (shp_lt ha (by decide))).trans (by rw [ce_9 ha])) rfl 21 (by decide) (hts _ hw) (fun _ h9 => h9) rfl hdg (k H locs hP hS)
theorem g_9_22 (Z : Zk ad X cc own nL ret rm) {a index : Nat} (ha : shp a = 9) (hw : Cond.fieldLink own index "WaitingNetsModel" (TX9 22).2.1 (TX9 22).2.2.1 ∈ wn_all) (hdg : decode cc pc = .ok (.getfield index, 3)) (k : G ad X M (pc + 3) ls (.int (mI M a 22) :: rest)) : G ad X M pc ls (.ref (ad a) :: rest) := by
  obtain ⟨p, l, e, R, s, m, args, below, meth, c, dC, dI, cy, A, cells, slots, Q⟩ := X
  obtain ⟨hx, hb, hml, hown, hts, hK, hJ, hr, hlk, hR, hA, hcc, hss⟩ := Z
  exact fun H locs hP hS => va_get (D := (dC, dI)) (ci := 9) (C := RX9) (T := TX9) (N := 26) hx hb hts wn_lay9 hown hK hP a ((wn_at (shp_lt ha (by decide))).trans (by rw [ce_9 ha])) rfl 22 (by decide) (hts _ hw) (fun _ h9 => h9) rfl hdg (k H locs hP hS)
theorem p_9_22 (Z : Zk ad X cc own nL ret rm) {a index : Nat} {v : Int32} (ha : shp a = 9) (hw : Cond.fieldLink own index "WaitingNetsModel" (TX9 22).2.1 (TX9 22).2.2.1 ∈ wn_all) (hdg : decode cc pc = .ok (.putfield index, 3)) (k : G ad X (sI M a 22 v) (pc + 3) ls rest) : G ad X M pc ls (.int v :: .ref (ad a) :: rest) := by
  obtain ⟨p, l, e, R, s, m, args, below, meth, c, dC, dI, cy, A, cells, slots, Q⟩ := X
  obtain ⟨hx, hb, hml, hown, hts, hK, hJ, hr, hlk, hR, hA, hcc, hss⟩ := Z
  exact fun H locs hP hS => va_put (D := (dC, dI)) (ci := 9) (v := .int v) (ty := .int) (C := RX9) (T := TX9) (N := 26) hx hb hts wn_lay9 tyX9 tyX9_ok nmX9 hown hK hP (wn_D hJ hA) hS a ((wn_at (shp_lt ha (by decide))).trans (by rw [ce_9 ha])) rfl 22 (by decide) (hts _ hw) (fun _ h9 => h9) rfl (by decide +kernel) rfl rfl (Nat.le_of_ble_eq_true rfl) hdg (fun H1 locs1 hP1 hD1 hS1 => k H1 locs1 (by
    rw [wn_set (M1 := sI M a 22 v) (by rw [ce_9 ha]; simp [mI, mJ, sI]) (fun j hj => ⟨by funext q; simp [sI, hj], by funext q; simp [sI, hj]⟩)] at hP1
    exact hP1) hS1)
theorem g_9_23 (Z : Zk ad X cc own nL ret rm) {a index : Nat} (ha : shp a = 9) (hw : Cond.fieldLink own index "WaitingNetsModel" (TX9 23).2.1 (TX9 23).2.2.1 ∈ wn_all) (hdg : decode cc pc = .ok (.getfield index, 3)) (k : G ad X M (pc + 3) ls (.int (mI M a 23) :: rest)) : G ad X M pc ls (.ref (ad a) :: rest) := by
  obtain ⟨p, l, e, R, s, m, args, below, meth, c, dC, dI, cy, A, cells, slots, Q⟩ := X
  obtain ⟨hx, hb, hml, hown, hts, hK, hJ, hr, hlk, hR, hA, hcc, hss⟩ := Z
  exact fun H locs hP hS => va_get (D := (dC, dI)) (ci := 9) (C := RX9) (T := TX9) (N := 26) hx hb hts wn_lay9 hown hK hP a ((wn_at (shp_lt ha (by decide))).trans (by rw [ce_9 ha])) rfl 23 (by decide) (hts _ hw) (fun _ h9 => h9) rfl hdg (k H locs hP hS)
theorem p_9_23 (Z : Zk ad X cc own nL ret rm) {a index : Nat} {v : Int32} (ha : shp a = 9) (hw : Cond.fieldLink own index "WaitingNetsModel" (TX9 23).2.1 (TX9 23).2.2.1 ∈ wn_all) (hdg : decode cc pc = .ok (.putfield index, 3)) (k : G ad X (sI M a 23 v) (pc + 3) ls rest) : G ad X M pc ls (.int v :: .ref (ad a) :: rest) := by
  obtain ⟨p, l, e, R, s, m, args, below, meth, c, dC, dI, cy, A, cells, slots, Q⟩ := X
  obtain ⟨hx, hb, hml, hown, hts, hK, hJ, hr, hlk, hR, hA, hcc, hss⟩ := Z
  exact fun H locs hP hS => va_put (D := (dC, dI)) (ci := 9) (v := .int v) (ty := .int) (C := RX9) (T := TX9) (N := 26) hx hb hts wn_lay9 tyX9 tyX9_ok nmX9 hown hK hP (wn_D hJ hA) hS a ((wn_at (shp_lt ha (by decide))).trans (by rw [ce_9 ha])) rfl 23 (by decide) (hts _ hw) (fun _ h9 => h9) rfl (by decide +kernel) rfl rfl (Nat.le_of_ble_eq_true rfl) hdg (fun H1 locs1 hP1 hD1 hS1 => k H1 locs1 (by
    rw [wn_set (M1 := sI M a 23 v) (by rw [ce_9 ha]; simp [mI, mJ, sI]) (fun j hj => ⟨by funext q; simp [sI, hj], by funext q; simp [sI, hj]⟩)] at hP1
    exact hP1) hS1)
theorem g_9_24 (Z : Zk ad X cc own nL ret rm) {a index : Nat} (ha : shp a = 9) (hw : Cond.fieldLink own index "WaitingNetsModel" (TX9 24).2.1 (TX9 24).2.2.1 ∈ wn_all) (hdg : decode cc pc = .ok (.getfield index, 3)) (k : G ad X M (pc + 3) ls (.ref (ad (fld a 24)) :: rest)) : G ad X M pc ls (.ref (ad a) :: rest) := by
  obtain ⟨p, l, e, R, s, m, args, below, meth, c, dC, dI, cy, A, cells, slots, Q⟩ := X
  obtain ⟨hx, hb, hml, hown, hts, hK, hJ, hr, hlk, hR, hA, hcc, hss⟩ := Z
  exact fun H locs hP hS => va_get (D := (dC, dI)) (ci := 9) (C := RX9) (T := TX9) (N := 26) hx hb hts wn_lay9 hown hK hP a ((wn_at (shp_lt ha (by decide))).trans (by rw [ce_9 ha])) rfl 24 (by decide) (hts _ hw) (fun _ h9 => h9) rfl hdg (k H locs hP hS)
theorem g_9_25 (Z : Zk ad X cc own nL ret rm) {a index : Nat} (ha : shp a = 9) (hw : Cond.fieldLink own index "WaitingNetsModel" (TX9 25).2.1 (TX9 25).2.2.1 ∈ wn_all) (hdg : decode cc pc = .ok (.getfield index, 3)) (k : G ad X M (pc + 3) ls (.long (mJ M a 25) :: rest)) : G ad X M pc ls (.ref (ad a) :: rest) := by
  obtain ⟨p, l, e, R, s, m, args, below, meth, c, dC, dI, cy, A, cells, slots, Q⟩ := X
  obtain ⟨hx, hb, hml, hown, hts, hK, hJ, hr, hlk, hR, hA, hcc, hss⟩ := Z
  exact fun H locs hP hS => va_get (D := (dC, dI)) (ci := 9) (C := RX9) (T := TX9) (N := 26) hx hb hts wn_lay9 hown hK hP a ((wn_at (shp_lt ha (by decide))).trans (by rw [ce_9 ha])) rfl 25 (by decide) (hts _ hw) (fun _ h9 => h9) rfl hdg (k H locs hP hS)
theorem p_9_25 (Z : Zk ad X cc own nL ret rm) {a index : Nat} {v : Int64} (ha : shp a = 9) (hw : Cond.fieldLink own index "WaitingNetsModel" (TX9 25).2.1 (TX9 25).2.2.1 ∈ wn_all) (hdg : decode cc pc = .ok (.putfield index, 3)) (k : G ad X (sJ M a 25 v) (pc + 3) ls rest) : G ad X M pc ls (.long v :: .ref (ad a) :: rest) := by
  obtain ⟨p, l, e, R, s, m, args, below, meth, c, dC, dI, cy, A, cells, slots, Q⟩ := X
  obtain ⟨hx, hb, hml, hown, hts, hK, hJ, hr, hlk, hR, hA, hcc, hss⟩ := Z
  exact fun H locs hP hS => va_put (D := (dC, dI)) (ci := 9) (v := .long v) (ty := .long) (C := RX9) (T := TX9) (N := 26) hx hb hts wn_lay9 tyX9 tyX9_ok nmX9 hown hK hP (wn_D hJ hA) hS a ((wn_at (shp_lt ha (by decide))).trans (by rw [ce_9 ha])) rfl 25 (by decide) (hts _ hw) (fun _ h9 => h9) rfl (by decide +kernel) rfl rfl (Nat.le_of_ble_eq_true rfl) hdg (fun H1 locs1 hP1 hD1 hS1 => k H1 locs1 (by
    rw [wn_set (M1 := sJ M a 25 v) (by rw [ce_9 ha]; simp [mI, mJ, sJ]) (fun j hj => ⟨by funext q; simp [sJ, hj], by funext q; simp [sJ, hj]⟩)] at hP1
    exact hP1) hS1)
theorem r_iaload (Z : Zk ad X cc own nL ret rm) {a n : Nat} {i : Int32} (ha : a < 101) (hc : ∀ (cy : Nat → ClassId) (M : Mm), cel cy ad M a = .inl (cy 0, n, .inl (mI M a))) (hin : vp_in i n) (hdg : decode cc pc = .ok (.iaload, 1)) (k : G ad X M (pc + 1) ls (.int (mI M a i.toNatClampNeg) :: rest)) : G ad X M pc ls (.int i :: .ref (ad a) :: rest) := by
  obtain ⟨p, l, e, R, s, m, args, below, meth, c, dC, dI, cy, A, cells, slots, Q⟩ := X
  obtain ⟨hx, hb, hml, hown, hts, hK, hJ, hr, hlk, hR, hA, hcc, hss⟩ := Z
  exact fun H locs hP hS => va_iald hx hb hK hP a 0 ((wn_at ha).trans (by rw [hc])) rfl hin hdg (k H locs hP hS)
theorem r_iastore (Z : Zk ad X cc own nL ret rm) {a n : Nat} {i : Int32} {x : Int32} (ha : a < 101) (hc : ∀ (cy : Nat → ClassId) (M : Mm), cel cy ad M a = .inl (cy 0, n, .inl (mI M a))) (hin : vp_in i n) (hdg : decode cc pc = .ok (.iastore, 1)) (k : G ad X (sI M a i.toNatClampNeg x) (pc + 1) ls rest) : G ad X M pc ls (.int x :: .int i :: .ref (ad a) :: rest) := by
  obtain ⟨p, l, e, R, s, m, args, below, meth, c, dC, dI, cy, A, cells, slots, Q⟩ := X
  obtain ⟨hx, hb, hml, hown, hts, hK, hJ, hr, hlk, hR, hA, hcc, hss⟩ := Z
  exact fun H locs hP hS => va_iast hx hb hK hP (wn_D hJ hA) hS a 0 ((wn_at ha).trans (by rw [hc])) rfl hin hdg (fun H1 locs1 hP1 hD1 hS1 => k H1 locs1 (by
    rw [wn_set (M1 := sI M a i.toNatClampNeg x) (by
      rw [hc]
      have e : mI (sI M a i.toNatClampNeg x) a = upd (mI M a) i.toNatClampNeg x := by
        funext q
        simp [mI, sI, upd]
      rw [e]) (fun j hj => ⟨by funext q; simp [sI, hj], by funext q; simp [sI, hj]⟩)] at hP1
    exact hP1) hS1)
theorem r_laload (Z : Zk ad X cc own nL ret rm) {a n : Nat} {i : Int32} (ha : a < 101) (hc : ∀ (cy : Nat → ClassId) (M : Mm), cel cy ad M a = .inl (cy 1, n, .inr (.inl (mJ M a)))) (hin : vp_in i n) (hdg : decode cc pc = .ok (.laload, 1)) (k : G ad X M (pc + 1) ls (.long (mJ M a i.toNatClampNeg) :: rest)) : G ad X M pc ls (.int i :: .ref (ad a) :: rest) := by
  obtain ⟨p, l, e, R, s, m, args, below, meth, c, dC, dI, cy, A, cells, slots, Q⟩ := X
  obtain ⟨hx, hb, hml, hown, hts, hK, hJ, hr, hlk, hR, hA, hcc, hss⟩ := Z
  exact fun H locs hP hS => va_lald hx hb hK hP a 1 ((wn_at ha).trans (by rw [hc])) rfl hin hdg (k H locs hP hS)
theorem r_lastore (Z : Zk ad X cc own nL ret rm) {a n : Nat} {i : Int32} {x : Int64} (ha : a < 101) (hc : ∀ (cy : Nat → ClassId) (M : Mm), cel cy ad M a = .inl (cy 1, n, .inr (.inl (mJ M a)))) (hin : vp_in i n) (hdg : decode cc pc = .ok (.lastore, 1)) (k : G ad X (sJ M a i.toNatClampNeg x) (pc + 1) ls rest) : G ad X M pc ls (.long x :: .int i :: .ref (ad a) :: rest) := by
  obtain ⟨p, l, e, R, s, m, args, below, meth, c, dC, dI, cy, A, cells, slots, Q⟩ := X
  obtain ⟨hx, hb, hml, hown, hts, hK, hJ, hr, hlk, hR, hA, hcc, hss⟩ := Z
  exact fun H locs hP hS => va_last hx hb hK hP (wn_D hJ hA) hS a 1 ((wn_at ha).trans (by rw [hc])) rfl hin hdg (fun H1 locs1 hP1 hD1 hS1 => k H1 locs1 (by
    rw [wn_set (M1 := sJ M a i.toNatClampNeg x) (by
      rw [hc]
      have e : mJ (sJ M a i.toNatClampNeg x) a = vp_updL (mJ M a) i.toNatClampNeg x := by
        funext q
        simp [mJ, sJ, vp_updL]
      rw [e]) (fun j hj => ⟨by funext q; simp [sJ, hj], by funext q; simp [sJ, hj]⟩)] at hP1
    exact hP1) hS1)
theorem r_zaload (Z : Zk ad X cc own nL ret rm) {a n : Nat} {i : Int32} (ha : a < 101) (hc : ∀ (cy : Nat → ClassId) (M : Mm), cel cy ad M a = .inl (cy 2, n, .inl (mI M a))) (hin : vp_in i n) (hdg : decode cc pc = .ok (.baload, 1)) (k : G ad X M (pc + 1) ls (.int (mI M a i.toNatClampNeg) :: rest)) : G ad X M pc ls (.int i :: .ref (ad a) :: rest) := by
  obtain ⟨p, l, e, R, s, m, args, below, meth, c, dC, dI, cy, A, cells, slots, Q⟩ := X
  obtain ⟨hx, hb, hml, hown, hts, hK, hJ, hr, hlk, hR, hA, hcc, hss⟩ := Z
  exact fun H locs hP hS => va_zald hx hb hK hP a 2 ((wn_at ha).trans (by rw [hc])) rfl hin hdg (k H locs hP hS)
theorem r_zastore (Z : Zk ad X cc own nL ret rm) {a n : Nat} {i : Int32} {x : Int32} (hz : x = 0 ∨ x = 1) (ha : a < 101) (hc : ∀ (cy : Nat → ClassId) (M : Mm), cel cy ad M a = .inl (cy 2, n, .inl (mI M a))) (hin : vp_in i n) (hdg : decode cc pc = .ok (.bastore, 1)) (k : G ad X (sI M a i.toNatClampNeg x) (pc + 1) ls rest) : G ad X M pc ls (.int x :: .int i :: .ref (ad a) :: rest) := by
  obtain ⟨p, l, e, R, s, m, args, below, meth, c, dC, dI, cy, A, cells, slots, Q⟩ := X
  obtain ⟨hx, hb, hml, hown, hts, hK, hJ, hr, hlk, hR, hA, hcc, hss⟩ := Z
  exact fun H locs hP hS => va_zast hx hb hK hP (wn_D hJ hA) hS a 2 ((wn_at ha).trans (by rw [hc])) rfl hin hdg (fun H1 locs1 hP1 hD1 hS1 => k H1 locs1 (by
    rw [show vp_nar .boolean x = x by rcases hz with rfl | rfl <;> rfl] at hP1
    rw [wn_set (M1 := sI M a i.toNatClampNeg x) (by
      rw [hc]
      have e : mI (sI M a i.toNatClampNeg x) a = upd (mI M a) i.toNatClampNeg x := by
        funext q
        simp [mI, sI, upd]
      rw [e]) (fun j hj => ⟨by funext q; simp [sI, hj], by funext q; simp [sI, hj]⟩)] at hP1
    exact hP1) hS1)
theorem r_aald13 (Z : Zk ad X cc own nL ret rm) {a : Nat} {i : Int32} (ha : shp a = 13) (hin : vp_in i 4) (hdg : decode cc pc = .ok (.aaload, 1)) (k : G ad X M (pc + 1) ls (.ref (ad (elm a i.toNatClampNeg)) :: rest)) : G ad X M pc ls (.int i :: .ref (ad a) :: rest) := by
  obtain ⟨p, l, e, R, s, m, args, below, meth, c, dC, dI, cy, A, cells, slots, Q⟩ := X
  obtain ⟨hx, hb, hml, hown, hts, hK, hJ, hr, hlk, hR, hA, hcc, hss⟩ := Z
  intro H locs hP hS
  have he : (wn_W cy ad M)[a]? = some (ad a, .inl (cy 3, 4, .inr (.inr (.inr (.inr (fun i => some (ad (elm a i)))))))) := (wn_at (shp_lt ha (by decide))).trans (by rw [ce_13 ha])
  have hlt : i.toNatClampNeg < 4 := Nat.not_le.mp fun q => hin (Or.inr q)
  exact W.aald (v := .ref (ad (elm a i.toNatClampNeg))) (ty := .object "WaitingNets$Counter") hx hb (hP a _ he) ((hK.2 3 _ rfl).1 4 (fun j => va_rf (some (ad (elm a j))))) rfl (fun q => by cases q) (by show ¬ (i < 0 ∨ (arrV _ _ _).slots.size ≤ _); rw [arrV_size]; exact hin) (by show (arrV _ _ _).slots[_]? = _; rw [arrV_read _ _ hlt]; rfl) rfl rfl hdg (k H locs hP hS)
theorem r_aald14 (Z : Zk ad X cc own nL ret rm) {a : Nat} {i : Int32} (ha : shp a = 14) (hin : vp_in i 6) (hdg : decode cc pc = .ok (.aaload, 1)) (k : G ad X M (pc + 1) ls (.ref (ad (elm a i.toNatClampNeg)) :: rest)) : G ad X M pc ls (.int i :: .ref (ad a) :: rest) := by
  obtain ⟨p, l, e, R, s, m, args, below, meth, c, dC, dI, cy, A, cells, slots, Q⟩ := X
  obtain ⟨hx, hb, hml, hown, hts, hK, hJ, hr, hlk, hR, hA, hcc, hss⟩ := Z
  intro H locs hP hS
  have he : (wn_W cy ad M)[a]? = some (ad a, .inl (cy 4, 6, .inr (.inr (.inr (.inr (fun i => some (ad (elm a i)))))))) := (wn_at (shp_lt ha (by decide))).trans (by rw [ce_14 ha])
  have hlt : i.toNatClampNeg < 6 := Nat.not_le.mp fun q => hin (Or.inr q)
  exact W.aald (v := .ref (ad (elm a i.toNatClampNeg))) (ty := .object "WaitingNets$Row") hx hb (hP a _ he) ((hK.2 4 _ rfl).1 6 (fun j => va_rf (some (ad (elm a j))))) rfl (fun q => by cases q) (by show ¬ (i < 0 ∨ (arrV _ _ _).slots.size ≤ _); rw [arrV_size]; exact hin) (by show (arrV _ _ _).slots[_]? = _; rw [arrV_read _ _ hlt]; rfl) rfl rfl hdg (k H locs hP hS)
theorem r_aald15 (Z : Zk ad X cc own nL ret rm) {a : Nat} {i : Int32} (ha : shp a = 15) (hin : vp_in i 6) (hdg : decode cc pc = .ok (.aaload, 1)) (k : G ad X M (pc + 1) ls (.ref (ad (elm a i.toNatClampNeg)) :: rest)) : G ad X M pc ls (.int i :: .ref (ad a) :: rest) := by
  obtain ⟨p, l, e, R, s, m, args, below, meth, c, dC, dI, cy, A, cells, slots, Q⟩ := X
  obtain ⟨hx, hb, hml, hown, hts, hK, hJ, hr, hlk, hR, hA, hcc, hss⟩ := Z
  intro H locs hP hS
  have he : (wn_W cy ad M)[a]? = some (ad a, .inl (cy 5, 6, .inr (.inr (.inr (.inr (fun i => some (ad (elm a i)))))))) := (wn_at (shp_lt ha (by decide))).trans (by rw [ce_15 ha])
  have hlt : i.toNatClampNeg < 6 := Nat.not_le.mp fun q => hin (Or.inr q)
  exact W.aald (v := .ref (ad (elm a i.toNatClampNeg))) (ty := .array .int) hx hb (hP a _ he) ((hK.2 5 _ rfl).1 6 (fun j => va_rf (some (ad (elm a j))))) rfl (fun q => by cases q) (by show ¬ (i < 0 ∨ (arrV _ _ _).slots.size ≤ _); rw [arrV_size]; exact hin) (by show (arrV _ _ _).slots[_]? = _; rw [arrV_read _ _ hlt]; rfl) rfl rfl hdg (k H locs hP hS)
theorem r_aald16 (Z : Zk ad X cc own nL ret rm) {a : Nat} {i : Int32} (ha : shp a = 16) (hin : vp_in i 6) (hdg : decode cc pc = .ok (.aaload, 1)) (k : G ad X M (pc + 1) ls (.ref (ad (elm a i.toNatClampNeg)) :: rest)) : G ad X M pc ls (.int i :: .ref (ad a) :: rest) := by
  obtain ⟨p, l, e, R, s, m, args, below, meth, c, dC, dI, cy, A, cells, slots, Q⟩ := X
  obtain ⟨hx, hb, hml, hown, hts, hK, hJ, hr, hlk, hR, hA, hcc, hss⟩ := Z
  intro H locs hP hS
  have he : (wn_W cy ad M)[a]? = some (ad a, .inl (cy 6, 6, .inr (.inr (.inr (.inr (fun i => some (ad (elm a i)))))))) := (wn_at (shp_lt ha (by decide))).trans (by rw [ce_16 ha])
  have hlt : i.toNatClampNeg < 6 := Nat.not_le.mp fun q => hin (Or.inr q)
  exact W.aald (v := .ref (ad (elm a i.toNatClampNeg))) (ty := .array .long) hx hb (hP a _ he) ((hK.2 6 _ rfl).1 6 (fun j => va_rf (some (ad (elm a j))))) rfl (fun q => by cases q) (by show ¬ (i < 0 ∨ (arrV _ _ _).slots.size ≤ _); rw [arrV_size]; exact hin) (by show (arrV _ _ _).slots[_]? = _; rw [arrV_read _ _ hlt]; rfl) rfl rfl hdg (k H locs hP hS)
theorem r_aald17 (Z : Zk ad X cc own nL ret rm) {a : Nat} {i : Int32} (ha : shp a = 17) (hin : vp_in i 4) (hdg : decode cc pc = .ok (.aaload, 1)) (k : G ad X M (pc + 1) ls (.ref (ad (elm a i.toNatClampNeg)) :: rest)) : G ad X M pc ls (.int i :: .ref (ad a) :: rest) := by
  obtain ⟨p, l, e, R, s, m, args, below, meth, c, dC, dI, cy, A, cells, slots, Q⟩ := X
  obtain ⟨hx, hb, hml, hown, hts, hK, hJ, hr, hlk, hR, hA, hcc, hss⟩ := Z
  intro H locs hP hS
  have he : (wn_W cy ad M)[a]? = some (ad a, .inl (cy 5, 4, .inr (.inr (.inr (.inr (fun i => some (ad (elm a i)))))))) := (wn_at (shp_lt ha (by decide))).trans (by rw [ce_17 ha])
  have hlt : i.toNatClampNeg < 4 := Nat.not_le.mp fun q => hin (Or.inr q)
  exact W.aald (v := .ref (ad (elm a i.toNatClampNeg))) (ty := .array .int) hx hb (hP a _ he) ((hK.2 5 _ rfl).1 4 (fun j => va_rf (some (ad (elm a j))))) rfl (fun q => by cases q) (by show ¬ (i < 0 ∨ (arrV _ _ _).slots.size ≤ _); rw [arrV_size]; exact hin) (by show (arrV _ _ _).slots[_]? = _; rw [arrV_read _ _ hlt]; rfl) rfl rfl hdg (k H locs hP hS)
theorem r_alen (Z : Zk ad X cc own nL ret rm) {a n : Nat} (v : Int32) (ha : a < 101) (hc : ∀ (cy : Nat → ClassId) (M : Mm), cel cy ad M a = .inl (cy 0, n, .inl (mI M a))) (hv : Int32.ofNat n = v) (hdg : decode cc pc = .ok (.arraylength, 1)) (k : G ad X M (pc + 1) ls (.int v :: rest)) : G ad X M pc ls (.ref (ad a) :: rest) := by
  obtain ⟨p, l, e, R, s, m, args, below, meth, c, dC, dI, cy, A, cells, slots, Q⟩ := X
  obtain ⟨hx, hb, hml, hown, hts, hK, hJ, hr, hlk, hR, hA, hcc, hss⟩ := Z
  exact fun H locs hP hS => va_alen hx hb hK hP a 0 ((wn_at ha).trans (by rw [hc])) rfl hv hdg (k H locs hP hS)
end WNR

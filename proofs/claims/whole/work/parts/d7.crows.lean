/-! the judgement of the constructors: the cells are a list that grows -/
abbrev Cy : Type := Program × Launch × Env × Room × State × MethodId × Array Value × List Frame × Method × Code × (Nat → ClassId) × (Nat → Nat → Nat) × (Nat → Prop) × (State → Prop)
/-- from every heap that holds the cells ws, the frame comes to the method's end -/
def Gc (X : Cy) (ws : va_W) (cells slots pc : Nat) (ls : Array Slot) (st : List Value) : Prop := match X with
  | (p, l, e, R, s, m, args, below, meth, c, dC, dI, A, Q) => ∀ (H : Heap) (locs : List Loc), va_P (dC, dI) vwCl ws H → va_D A ws → va_S A s.heap H locs → W p l e R s m args below meth c H locs cells slots Q (F0 m pc ls st)
/-- the constructors that a nest mate calls -/
def wn_nest : List (String × Nat × MethodName) := [(RX4, 19, yX0_init), (RX0, 22, yX7_init), (RX4, 26, yX7_init), (RX4, 33, yX2_init), (RX4, 41, yX1_init), (RX8, 24, yX5_init), (RX8, 31, yX0_init), (RX8, 38, yX3_init), (RX8, 45, yX2_init), (RX8, 61, yX6_init)]
def wn_X (U : State) : Prop := (∀ q ∈ wn_nest, va_Nw (.methodLinkNest q.1 q.2.1 q.2.2 "WaitingNets") U) ∧ va_AO "WaitingNets$Counter" U ∧ va_AO "WaitingNets$Row" U ∧ va_AOA .int U ∧ va_AOA .long U
theorem va_AOA.moved {ty : FieldType} {u U : State} (hvm : u.vm.Alike U.vm) (h : va_AOA ty u) : va_AOA ty U := (Cond.arrayOver_setVmC (args := #[]) hvm (.array ty)).trans h
/-- the class of the rows of rows: its number, and what lies there -/
theorem va_AOA.spec {ty : FieldType} {U : State} (h : va_AOA ty U) : ∃ (m y : ClassId) (k : Class), U.vm.classes[y]? = some k ∧ k.kind = .array m (.array ty) ∧ U.vm.findClass ("[" ++ (FieldType.array ty).toString) = some y := by
  have h1 : (Cond.arrayOver (.array ty)).before #[] U = true := h
  simp only [Cond.before, Cond.holds, Cond.value, beq_iff_eq, Option.bind_eq_some_iff, Option.map_eq_some_iff] at h1
  obtain ⟨_, _, y, _, k, hk, hb⟩ := h1
  split at hb
  · rename_i m t hkind
    simp only [Bool.and_eq_true, decide_eq_true_eq] at hb
    exact ⟨m, y, k, hk, hb.1 ▸ hkind, hb.2⟩
  · cases hb
theorem wn_X.warm {s U : State} (hW : s.WarmedH U.vm) (h : wn_X s) : wn_X U := ⟨fun q hq => va_Nw.warmM hW (h.1 q hq), h.2.1.moved hW.alike, h.2.2.1.moved hW.alike, h.2.2.2.1.moved hW.alike, h.2.2.2.2.moved hW.alike⟩
theorem wn_X.same {u U : State} (hv : u.vm = U.vm) (h : wn_X u) : wn_X U := ⟨fun q hq => va_Nw.same rfl hv (h.1 q hq), h.2.1.moved (by rw [hv]; exact Vm.Alike.refl _), h.2.2.1.moved (by rw [hv]; exact Vm.Alike.refl _), h.2.2.2.1.moved (by rw [hv]; exact Vm.Alike.refl _), h.2.2.2.2.moved (by rw [hv]; exact Vm.Alike.refl _)⟩
/-- what stays as it is while a constructor runs -/
def Zc (cy : Nat → ClassId) (X : Cy) (cc : ByteArray) (own : String) (nL : Nat) (ret : Option FieldType) (rm : Room) : Prop := match X with
  | (p, l, e, R, s, m, args, below, meth, c, dC, dI, A, Q) => p.tables.exec = Jvm.exec ∧ c.code = cc ∧ c.maxLocals = nL ∧ s.vm.findClass own = some m.cls ∧ (∀ w ∈ wn_all, w.before args s = true) ∧ va_K (dC, dI) vwCl (wn_tys cy) s ∧ wn_X s ∧ meth.sig.returnType = ret ∧ meth.locks = false ∧ R = rm ∧ (∀ q, s.heap.size ≤ q → A q)
def Nc (X : Cy) : Prop := match X with
  | (_, _, _, _, _, _, _, _, meth, _, _, _, _, _) => meth.name = "<init>"
theorem D1 {A : Nat → Prop} {a : Nat} {e : va_E} (h : A a) : va_D A [(a, e)] := by
  refine ⟨fun i j p q hi hj _ => ?_, fun k q hk => ?_⟩
  · have h1 : i < 1 := (List.getElem?_eq_some_iff.mp hi).1
    have h2 : j < 1 := (List.getElem?_eq_some_iff.mp hj).1
    omega
  · have h1 : k < 1 := (List.getElem?_eq_some_iff.mp hk).1
    rw [show k = 0 by omega] at hk
    cases hk
    exact h
/-- behind a call on the first cell: what came back, and the rest as it was -/
theorem va_joinC {A0 : Nat → Prop} {D : va_G} {cl : List vw_C} {b : Nat} {e : va_E} {tl w1 : va_W} {H H1 : Heap} (hP : va_P D cl ((b, e) :: tl) H) (hD : va_D A0 ((b, e) :: tl)) (hk : ∀ q : Nat, q < H.size → ¬ va_A [(b, e)] H.size q → H1[q]? = H[q]?) (hF : ∀ q, va_A [(b, e)] H.size q → A0 q) (hP1 : va_P D cl w1 H1) (hD1 : va_D (va_A [(b, e)] H.size) w1) : va_P D cl (w1 ++ tl) H1 ∧ va_D A0 (w1 ++ tl) := by
  have hx : ∀ (k : Nat) (q : Nat × va_E), tl[k]? = some q → q.1 < H.size ∧ ¬ va_A [(b, e)] H.size q.1 := by
    intro k q hq
    have h1 : ((b, e) :: tl)[k + 1]? = some q := by rw [List.getElem?_cons_succ]; exact hq
    have hl := (hP (k + 1) q h1).lt
    refine ⟨hl, fun h => ?_⟩
    rcases h with ⟨k2, e2, h⟩ | h
    · have hk2 : k2 < 1 := (List.getElem?_eq_some_iff.mp h).1
      rw [show k2 = 0 by omega] at h
      have hb : (b, e) = (q.1, e2) := Option.some.inj h
      have hz := hD.1 0 (k + 1) (b, e) q rfl h1 (show b = q.1 from (Prod.mk.inj hb).1)
      omega
    · omega
  have ht : va_D A0 tl := ⟨fun i j p q hi hj h => by
    have hz := hD.1 (i + 1) (j + 1) p q (by rw [List.getElem?_cons_succ]; exact hi) (by rw [List.getElem?_cons_succ]; exact hj) h
    omega, fun k q hk => hD.2 (k + 1) q (by rw [List.getElem?_cons_succ]; exact hk)⟩
  refine ⟨va_P.app hP1 (fun k q hq => ?_), va_D.app (hD1.weaken (fun k q _ h => hF q.1 h)) ht (fun i j x y hx1 hy hxy => ?_)⟩
  · exact (hP (k + 1) q (by rw [List.getElem?_cons_succ]; exact hq)).kept (hk q.1 (hx k q hq).1 (hx k q hq).2)
  · exact (hx j y hy).2 (by rw [← hxy]; exact hD1.2 i x hx1)
/-- the contract of a constructor: the object's cell becomes the cells Wf -/
def KC {S : Type} (y : MethodName) (cc : ByteArray) (n : Nat) (rm : Room) (ci : Nat) (fs : List Value) (Wf : (Nat → ClassId) → Nat → S → va_W) : Prop := ∀ (l : Launch) (dC : Nat → ClassId) (dI : Nat → Nat → Nat) (cy : Nat → ClassId) (h0 sz : Nat), Met l y (wn_ws y cc n none) rm (va_Pc [.ref h0] (fun U => U.heap.size = sz ∧ va_P (dC, dI) vwCl [(h0, .inr (ci, fs))] U.heap ∧ va_K (dC, dI) vwCl (wn_tys cy) U ∧ wn_X U)) (va_Qv (fun _ : S => True) (fun u t => va_P (dC, dI) vwCl (Wf cy h0 u) t.heap ∧ va_D (va_A [(h0, .inr (ci, fs))] sz) (Wf cy h0 u)) (va_A [(h0, .inr (ci, fs))] sz)) rm.cells rm.slots (va_A [(h0, .inr (ci, fs))] sz)
def QC {S : Type} (cy : Nat → ClassId) (X : Cy) (h0 : Nat) (rm : Room) (ci : Nat) (fs : List Value) (Wf : (Nat → ClassId) → Nat → S → va_W) : Prop := match X with
  | (_, _, _, _, s, _, args, below, _, _, dC, dI, A, Q) => A = va_A [(h0, .inr (ci, fs))] s.heap.size ∧ Q = MQ below (va_Qv (fun _ : S => True) (fun u t => va_P (dC, dI) vwCl (Wf cy h0 u) t.heap ∧ va_D (va_A [(h0, .inr (ci, fs))] s.heap.size) (Wf cy h0 u)) (va_A [(h0, .inr (ci, fs))] s.heap.size)) args s rm.cells rm.slots (va_A [(h0, .inr (ci, fs))] s.heap.size)
theorem wn_enterC {S : Type} {y : MethodName} {cc : ByteArray} {n : Nat} {rm : Room} {ci : Nat} {fs : List Value} {Wf : (Nat → ClassId) → Nat → S → va_W} {own : String} (hpl : plainName y.cls = true) (hown : y.cls = own) (hnm : y.name = "<init>") (hn : 1 ≤ n) (body : ∀ (cy : Nat → ClassId) (X : Cy) (h0 : Nat) (ls : Array Slot), Zc cy X cc own n none rm → Nc X → QC cy X h0 rm ci fs Wf → lv_has ls n [(0, .ref h0)] → Gc X [(h0, .inr (ci, fs))] 0 0 0 ls []) : KC y cc n rm ci fs Wf := by
  intro l dC dI cy h0 sz
  refine Met.ofW (cc := cc) (maxL := n) (ret := none) hpl rfl ?_
  intro p e s m args below meth c s₁ B hml hv
  obtain ⟨rfl, hsz, hP, hK, hX⟩ := hv
  subst hsz
  have hts := atoms_spec (ws := wn_ws y cc n none) B.pre
  have hown2 : s.vm.findClass y.cls = some m.cls := findClass_of_methodNamed B.named
  rw [hown] at hown2
  have hin : meth.name = "<init>" := ((name_of_methodNamed B.named B.method).1).trans hnm
  have hl := lv_entry [Value.ref h0] (n := n) hn
  rw [lg_entry_eq]
  exact body cy (p, l, e, (headSpec (wn_ws y cc n none) rm).room, s, m, [Value.ref h0].toArray, below, meth, c, dC, dI, va_A [(h0, .inr (ci, fs))] s.heap.size, _) h0 _ ⟨B.exec, B.bytes, hml, hown2, fun w hw => hts w (List.mem_cons_of_mem _ hw), hK, hX, B.returns, B.notSynchronized, rfl, fun q h => Or.inr h⟩ hin ⟨rfl, rfl⟩ hl s.heap [] hP (D1 (Or.inl ⟨0, _, rfl⟩)) va_S.rf
section CRW
variable {cy : Nat → ClassId} {X : Cy} {cc : ByteArray} {own : String} {nL : Nat} {ret : Option FieldType} {rm : Room} {ws : va_W} {cells slots pc : Nat} {ls : Array Slot} {rest : List Value}
theorem rc_iconst (Z : Zc cy X cc own nL ret rm) {n : Int} {v : Int32} (hdg : decode cc pc = .ok (.iconst n, 1)) (hv : Int32.ofInt n = v) (k : Gc X ws cells slots (pc + 1) ls (.int v :: rest)) : Gc X ws cells slots pc ls (rest) := by
  obtain ⟨p, l, e, R, s, m, args, below, meth, c, dC, dI, A, Q⟩ := X
  obtain ⟨hx, hb, hml, hown, hts, hK, hX, hr, hlk, hR, hA⟩ := Z
  exact fun H locs hP hD hS => lv_iconst hx hb hdg hv (k H locs hP hD hS)
theorem rc_bipush (Z : Zc cy X cc own nL ret rm) {n : Int} {v : Int32} (hdg : decode cc pc = .ok (.bipush n, 2)) (hv : (Int8.ofInt n).toInt32 = v) (k : Gc X ws cells slots (pc + 2) ls (.int v :: rest)) : Gc X ws cells slots pc ls (rest) := by
  obtain ⟨p, l, e, R, s, m, args, below, meth, c, dC, dI, A, Q⟩ := X
  obtain ⟨hx, hb, hml, hown, hts, hK, hX, hr, hlk, hR, hA⟩ := Z
  exact fun H locs hP hD hS => lv_bipush hx hb hdg hv (k H locs hP hD hS)
theorem rc_sipush (Z : Zc cy X cc own nL ret rm) {n : Int} {v : Int32} (hdg : decode cc pc = .ok (.sipush n, 3)) (hv : (Int16.ofInt n).toInt32 = v) (k : Gc X ws cells slots (pc + 3) ls (.int v :: rest)) : Gc X ws cells slots pc ls (rest) := by
  obtain ⟨p, l, e, R, s, m, args, below, meth, c, dC, dI, A, Q⟩ := X
  obtain ⟨hx, hb, hml, hown, hts, hK, hX, hr, hlk, hR, hA⟩ := Z
  exact fun H locs hP hD hS => lv_sipush hx hb hdg hv (k H locs hP hD hS)
theorem rc_lconst (Z : Zc cy X cc own nL ret rm) {n : Fin 2} {v : Int64} (hdg : decode cc pc = .ok (.lconst n, 1)) (hv : Int64.ofNat (n : Nat) = v) (k : Gc X ws cells slots (pc + 1) ls (.long v :: rest)) : Gc X ws cells slots pc ls (rest) := by
  obtain ⟨p, l, e, R, s, m, args, below, meth, c, dC, dI, A, Q⟩ := X
  obtain ⟨hx, hb, hml, hown, hts, hK, hX, hr, hlk, hR, hA⟩ := Z
  exact fun H locs hP hD hS => lv_lconst hx hb hdg hv (k H locs hP hD hS)
theorem rc_iload_n (Z : Zc cy X cc own nL ret rm) {q : Fin 4} {i : Nat} {x : Int32} (hdg : decode cc pc = .ok (.iload_n q, 1)) (hi : (q : Nat) = i) (hl : ls[i]? = some (.val (.int x))) (k : Gc X ws cells slots (pc + 1) ls (.int x :: rest)) : Gc X ws cells slots pc ls (rest) := by
  obtain ⟨p, l, e, R, s, m, args, below, meth, c, dC, dI, A, Q⟩ := X
  obtain ⟨hx, hb, hml, hown, hts, hK, hX, hr, hlk, hR, hA⟩ := Z
  exact fun H locs hP hD hS => lv_iload_n hx hb hdg hi hl (k H locs hP hD hS)
theorem rc_aload_n (Z : Zc cy X cc own nL ret rm) {q : Fin 4} {i : Nat} {x : Nat} (hdg : decode cc pc = .ok (.aload_n q, 1)) (hi : (q : Nat) = i) (hl : ls[i]? = some (.val (.ref x))) (k : Gc X ws cells slots (pc + 1) ls (.ref x :: rest)) : Gc X ws cells slots pc ls (rest) := by
  obtain ⟨p, l, e, R, s, m, args, below, meth, c, dC, dI, A, Q⟩ := X
  obtain ⟨hx, hb, hml, hown, hts, hK, hX, hr, hlk, hR, hA⟩ := Z
  exact fun H locs hP hD hS => lv_aload_n hx hb hdg hi hl (k H locs hP hD hS)
theorem rc_istore_n (Z : Zc cy X cc own nL ret rm) {q : Fin 4} {i : Nat} {x : Int32} {lv : List (Nat × Value)} (lv2 : List (Nat × Value)) (hdg : decode cc pc = .ok (.istore_n q, 1)) (hi : (q : Nat) = i) (h : lv_has ls nL lv) (hn : i < nL) (hl : (i, Value.int x) :: lv.filter (fun q => !(q.1 == i) && !(q.1 + 1 == i && q.2.category == 2)) = lv2) (k : ∀ ls2 : Array Slot, lv_has ls2 nL lv2 → Gc X ws cells slots (pc + 1) ls2 rest) : Gc X ws cells slots pc ls (.int x :: rest) := by
  obtain ⟨p, l, e, R, s, m, args, below, meth, c, dC, dI, A, Q⟩ := X
  obtain ⟨hx, hb, hml, hown, hts, hK, hX, hr, hlk, hR, hA⟩ := Z
  exact fun H locs hP hD hS => lv_istore_n hx hb hdg hi h hn hl (fun ls2 h2 => k ls2 h2 H locs hP hD hS)
theorem rc_astore_n (Z : Zc cy X cc own nL ret rm) {q : Fin 4} {i : Nat} {x : Nat} {lv : List (Nat × Value)} (lv2 : List (Nat × Value)) (hdg : decode cc pc = .ok (.astore_n q, 1)) (hi : (q : Nat) = i) (h : lv_has ls nL lv) (hn : i < nL) (hl : (i, Value.ref x) :: lv.filter (fun q => !(q.1 == i) && !(q.1 + 1 == i && q.2.category == 2)) = lv2) (k : ∀ ls2 : Array Slot, lv_has ls2 nL lv2 → Gc X ws cells slots (pc + 1) ls2 rest) : Gc X ws cells slots pc ls (.ref x :: rest) := by
  obtain ⟨p, l, e, R, s, m, args, below, meth, c, dC, dI, A, Q⟩ := X
  obtain ⟨hx, hb, hml, hown, hts, hK, hX, hr, hlk, hR, hA⟩ := Z
  exact fun H locs hP hD hS => lv_astore_n hx hb hdg hi h hn hl (fun ls2 h2 => k ls2 h2 H locs hP hD hS)
theorem rc_iinc (Z : Zc cy X cc own nL ret rm) {i j : Nat} {n : Int} {x : Int32} {lv : List (Nat × Value)} (v : Int32) (lv2 : List (Nat × Value)) (hdg : decode cc pc = .ok (.iinc i n, 3)) (h : lv_has ls nL lv) (hk : lv[j]? = some (i, .int x)) (hv : x + Int32.ofInt n = v) (hn : i < nL) (hl : (i, Value.int v) :: lv.filter (fun q => !(q.1 == i) && !(q.1 + 1 == i && q.2.category == 2)) = lv2) (k : ∀ ls2 : Array Slot, lv_has ls2 nL lv2 → Gc X ws cells slots (pc + 3) ls2 rest) : Gc X ws cells slots pc ls rest := by
  obtain ⟨p, l, e, R, s, m, args, below, meth, c, dC, dI, A, Q⟩ := X
  obtain ⟨hx, hb, hml, hown, hts, hK, hX, hr, hlk, hR, hA⟩ := Z
  exact fun H locs hP hD hS => lv_iinc hx hb hdg h hk hv hn hl (fun ls2 h2 => k ls2 h2 H locs hP hD hS)
theorem rc_dup (Z : Zc cy X cc own nL ret rm) {va : Value} (hdg : decode cc pc = .ok (.dup, 1)) (hva : va.category = 1) (k : Gc X ws cells slots (pc + 1) ls (va :: va :: rest)) : Gc X ws cells slots pc ls (va :: rest) := by
  obtain ⟨p, l, e, R, s, m, args, below, meth, c, dC, dI, A, Q⟩ := X
  obtain ⟨hx, hb, hml, hown, hts, hK, hX, hr, hlk, hR, hA⟩ := Z
  exact fun H locs hP hD hS => lv_dup hx hb hdg hva (k H locs hP hD hS)
theorem rc_goto (Z : Zc cy X cc own nL ret rm) {off : Int} (tgt : Nat) (hdg : decode cc pc = .ok (.goto off, 3)) (ht : (pc : Int) + off = (tgt : Int)) (k : Gc X ws cells slots tgt ls rest) : Gc X ws cells slots pc ls rest := by
  obtain ⟨p, l, e, R, s, m, args, below, meth, c, dC, dI, A, Q⟩ := X
  obtain ⟨hx, hb, hml, hown, hts, hK, hX, hr, hlk, hR, hA⟩ := Z
  exact fun H locs hP hD hS => lv_goto hx hb hdg ht (k H locs hP hD hS)
theorem rc_icmp_ge (Z : Zc cy X cc own nL ret rm) {x y : Int32} {off : Int} (tgt : Nat) (hdg : decode cc pc = .ok (.if_icmp .ge off, 3)) (ht : (pc : Int) + off = (tgt : Int)) (kt : y ≤ x → Gc X ws cells slots tgt ls rest) (kf : ¬ (y ≤ x) → Gc X ws cells slots (pc + 3) ls rest) : Gc X ws cells slots pc ls (.int y :: .int x :: rest) := by
  obtain ⟨p, l, e, R, s, m, args, below, meth, c, dC, dI, A, Q⟩ := X
  obtain ⟨hx, hb, hml, hown, hts, hK, hX, hr, hlk, hR, hA⟩ := Z
  exact fun H locs hP hD hS => lv_icmp_ge hx hb hdg ht (fun h => kt h H locs hP hD hS) (fun h => kf h H locs hP hD hS)
theorem rc_objInit (Z : Zc cy X cc own nL ret rm) {idx a : Nat} (hl : Cond.methodLink own idx objectInit ∈ wn_all) (hf : 1 ≤ rm.frames) (hlo : (rest.map fun v => v.category).sum + 12 ≤ rm.locals) (hsz : ls.size = nL) (hdg : decode cc pc = .ok (.invokespecial idx, 3)) (k : Gc X ws cells slots (pc + 3) ls rest) : Gc X ws cells slots pc ls (.ref a :: rest) := by
  obtain ⟨p, l, e, R, s, m, args, below, meth, c, dC, dI, A, Q⟩ := X
  obtain ⟨hx, hb, hml, hown, hts, hK, hX, hr, hlk, hR, hA⟩ := Z
  intro H locs hP hD hS
  refine W.objInit hx hb hown (hts _ hl) (hts _ wm_2) (hts _ wm_3) rfl (hsz.trans hml.symm) rfl hdg (by rw [hR]; exact hf) (by rw [hR]; show 2 * 0 + _ + 12 ≤ _; omega) ?_
  exact k H locs hP hD hS
theorem rc_swap {b c : va_W} {st : List Value} (k : Gc X (c ++ b) cells slots pc ls st) : Gc X (b ++ c) cells slots pc ls st := by
  obtain ⟨p, l, e, R, s, m, args, below, meth, cd, dC, dI, A, Q⟩ := X
  exact fun H locs hP hD hS => k H locs (va_P.swap (a := []) hP) (va_D.swap (a := []) hD) hS
theorem rc_as {ws2 : va_W} {st : List Value} (h : ws = ws2) (k : Gc X ws2 cells slots pc ls st) : Gc X ws cells slots pc ls st := by
  subst h
  exact k
theorem rc_new (Z : Zc cy X cc own nL ret rm) {C : String} {T : u_T} {N ci index : Nat} {fs : List Value} {ty : Nat → FieldType} (hin : ∀ w ∈ u_ws C T N, w ∈ wn_all) (hty : ∀ k, k < N → parseFieldDescriptor (T k).2.2.1 = some (ty k)) (hcl : Cond.classLink own index C ∈ wn_all) (hinst : Cond.instantiable C N ∈ wn_all) (hini : Cond.initialized C ∈ wn_all) (hc : vwCl[ci]? = some (C, T, N)) (hfs : ∀ j, j < N → defaultValue (ty j) = vp_V fs j) (hce : cells + 1 ≤ rm.cells) (hsl : slots + N ≤ rm.slots) (hdg : decode cc pc = .ok (.new index, 3)) (k : ∀ q : Nat, Gc X ((q, .inr (ci, fs)) :: ws) (cells + 1) (slots + N) (pc + 3) ls (.ref q :: rest)) : Gc X ws cells slots pc ls rest := by
  obtain ⟨p, l, e, R, s, m, args, below, meth, c, dC, dI, A, Q⟩ := X
  obtain ⟨hx, hb, hml, hown, hts, hK, hX, hr, hlk, hR, hA⟩ := Z
  intro H locs hP hD hS
  refine va_new (ci := ci) (fs := fs) (C := C) (T := T) (N := N) hx hb hts hin ty hty hown (hts _ hcl) (hts _ hinst) (hts _ hini) hK hP hD hS hA hc hfs (by rw [hR]; exact hce) (by rw [hR]; exact hsl) hdg (fun q H1 hP hD hS => ?_)
  exact k q H1 locs (va_P.swap (a := []) hP) (va_D.swap (a := []) hD) hS
theorem rc_newa (Z : Zc cy X cc own nL ret rm) {atype : ArrayType} {ty : FieldType} {t0 : Nat} (harr : Cond.arrayClass ty ∈ wn_all) (hty : newarray.typeOf atype = ty) (hno : ∀ C, ty ≠ .object C) (ht : (wn_tys cy)[t0]? = some (cy t0, ty)) {n : Int32} {N : Nat} {a0 : vp_A} (ha : ∀ cA : ClassId, vp_cell cA a0 = arrV cA N (fun _ => defaultValue ty)) (hn : ¬ n < 0) (hN : n.toNatClampNeg = N) (hby : N * componentBytes ty ≤ 536870912) (hce : cells + 1 ≤ rm.cells) (hsl : slots + N ≤ rm.slots) (hdg : decode cc pc = .ok (.newarray atype, 2)) (k : ∀ q : Nat, Gc X ((q, .inl (cy t0, a0)) :: ws) (cells + 1) (slots + N) (pc + 2) ls (.ref q :: rest)) : Gc X ws cells slots pc ls (.int n :: rest) := by
  obtain ⟨p, l, e, R, s, m, args, below, meth, c, dC, dI, A, Q⟩ := X
  obtain ⟨hx, hb, hml, hown, hts, hK, hX, hr, hlk, hR, hA⟩ := Z
  intro H locs hP hD hS
  refine va_newa (a0 := a0) hx hb (by rw [hty]; exact hts _ harr) hty hK hP hD hS hA ha hn hN hby (by rw [hR]; exact hce) (by rw [hR]; exact hsl) hdg (fun q cA H1 hK1 hP hD hS => ?_)
  have h1 := (hK1.2 7 (cA, ty) rfl).2
  have h2 := (hK.2 t0 (cy t0, ty) ht).2
  have hcA : cA = cy t0 := by
    cases ty with
    | object C => exact absurd rfl (hno C)
    | _ => exact Option.some.inj (Eq.trans (Eq.symm h1) h2)
  subst hcA
  exact k q H1 locs (va_P.swap (a := []) hP) (va_D.swap (a := []) hD) hS
theorem rc_newq (Z : Zc cy X cc own nL ret rm) {C : String} {t0 index : Nat} (hcl : Cond.classLink own index C ∈ wn_all) (hover : ∀ U : State, wn_X U → va_AO C U) (ht : (wn_tys cy)[t0]? = some (cy t0, .object C)) {n : Int32} {N : Nat} (hn : ¬ n < 0) (hN : n.toNatClampNeg = N) (hby : N * 4 ≤ 536870912) (hce : cells + 1 ≤ rm.cells) (hsl : slots + N ≤ rm.slots) (hdg : decode cc pc = .ok (.anewarray index, 3)) (k : ∀ q : Nat, Gc X ((q, .inl (cy t0, N, .inr (.inr (.inr (.inr (fun _ => none)))))) :: ws) (cells + 1) (slots + N) (pc + 3) ls (.ref q :: rest)) : Gc X ws cells slots pc ls (.int n :: rest) := by
  obtain ⟨p, l, e, R, s, m, args, below, meth, c, dC, dI, A, Q⟩ := X
  obtain ⟨hx, hb, hml, hown, hts, hK, hX, hr, hlk, hR, hA⟩ := Z
  intro H locs hP hD hS
  refine va_newq hx hb hown (hts _ hcl) (hover s hX) hK hP hD hS hA hn hN hby (by rw [hR]; exact hce) (by rw [hR]; exact hsl) hdg (fun q cA H1 hK1 hP hD hS => ?_)
  obtain ⟨_, _, _, _, _, h1⟩ := (hK1.2 7 (cA, .object C) rfl).2
  obtain ⟨_, _, _, _, _, h2⟩ := (hK.2 t0 (cy t0, .object C) ht).2
  have hcA : cA = cy t0 := Option.some.inj (Eq.trans (Eq.symm h1) h2)
  subst hcA
  exact k q H1 locs (va_P.swap (a := []) hP) (va_D.swap (a := []) hD) hS
theorem rc_mna (Z : Zc cy X cc own nL ret rm) {ty : FieldType} {t0 t1 index : Nat} (hcl : Cond.classLink own index ("[" ++ (FieldType.array ty).toString) ∈ wn_all) (harr : Cond.arrayClass ty ∈ wn_all) (hover : ∀ U : State, wn_X U → va_AOA ty U) (hno : ∀ C, ty ≠ .object C) (ht0 : (wn_tys cy)[t0]? = some (cy t0, ty)) (ht1 : (wn_tys cy)[t1]? = some (cy t1, .array ty)) {n k : Int32} {N K : Nat} {z : vp_A} (hn : ¬ n < 0) (hk : ¬ k < 0) (hN : n.toNatClampNeg = N) (hM : k.toNatClampNeg = K) (hb1 : N * 4 ≤ 536870912) (hb2 : K * componentBytes ty ≤ 536870912) (hb3 : K ≤ 536870912) (hdf : fits ty (defaultValue ty) = true) (hdd : (defaultValue ty).isDefault = true) (hz : ∀ c : ClassId, Jvm.Free.Multi.innerC c K (defaultValue ty) = vp_cell c z) (hce : cells + (1 + N) ≤ rm.cells) (hsl : slots + (N + N * K) ≤ rm.slots) (hdg : decode cc pc = .ok (.multianewarray index 2, 4)) (kk : ∀ (q : Nat) (r : Nat → Nat), Gc X (ws ++ ((q, .inl (cy t1, N, .inr (.inr (.inr (.inr (fun i => if i < N then some (r i) else none)))))) :: ((List.range N).map r).map (fun a => (a, .inl (cy t0, z))))) (cells + 1 + N) (slots + N + N * K) (pc + 4) ls (.ref q :: rest)) : Gc X ws cells slots pc ls (.int k :: .int n :: rest) := by
  obtain ⟨p, l, e, R, s, m, args, below, meth, c, dC, dI, A, Q⟩ := X
  obtain ⟨hx, hb, hml, hown, hts, hK, hX, hr, hlk, hR, hA⟩ := Z
  intro H locs hP hD hS
  have h2 := (hK.2 t0 (cy t0, ty) ht0).2
  have hcy : s.vm.findClass (FieldType.array ty).toString = some (cy t0) := by
    cases ty with
    | object C => exact absurd rfl (hno C)
    | _ => exact h2
  refine va_mna (X := ws) (L := []) (f := fun _ => .inr (0, [])) (cy := cy t0) (z := z) hx hb hown (hts _ hcl) (hover s hX) (hts _ harr) hcy hK (by rw [show va_pl [] (fun _ => (.inr (0, []) : va_E)) = [] from rfl, List.append_nil]; exact hP) (by rw [show va_pl [] (fun _ => (.inr (0, []) : va_E)) = [] from rfl, List.append_nil]; exact hD) hS hA hn hk hN hM hb1 hb2 hb3 hdf hdd (by rw [hR]; exact hce) (by rw [hR]; exact hsl) hz hdg (fun q r cA H1 _ _ hK1 hP hD hS => ?_)
  have h1 : s.vm.findClass ("[" ++ (FieldType.array ty).toString) = some cA := (hK1.2 7 (cA, .array ty) rfl).2
  have h3 : s.vm.findClass ("[" ++ (FieldType.array ty).toString) = some (cy t1) := (hK.2 t1 (cy t1, .array ty) ht1).2
  have hcA : cA = cy t1 := Option.some.inj (Eq.trans (Eq.symm h1) h3)
  subst hcA
  rw [← vr_rows (fun a _ h => absurd h List.not_mem_nil), List.append_assoc] at hP hD
  exact kk q r H1 locs hP hD hS
theorem rc_get (Z : Zc cy X cc own nL ret rm) {C ref : String} {T : u_T} {N ci index a : Nat} (hin : ∀ w ∈ u_ws C T N, w ∈ wn_all) (q0 : Nat) {fs : List Value} (he : ws[q0]? = some (a, .inr (ci, fs))) (hc : vwCl[ci]? = some (C, T, N)) (k : Nat) (hk : k < N) (hlink : Cond.fieldLink own index ref (T k).2.1 (T k).2.2.1 ∈ wn_all) (hsame : ref = (T k).1) {v : Value} (hv : fs[k]? = some v) (hdg : decode cc pc = .ok (.getfield index, 3)) (kk : Gc X ws cells slots (pc + 3) ls (v :: rest)) : Gc X ws cells slots pc ls (.ref a :: rest) := by
  obtain ⟨p, l, e, R, s, m, args, below, meth, c, dC, dI, A, Q⟩ := X
  obtain ⟨hx, hb, hml, hown, hts, hK, hX, hr, hlk, hR, hA⟩ := Z
  subst hsame
  intro H locs hP hD hS
  exact va_get (D := (dC, dI)) (ci := ci) (v := v) (C := C) (T := T) (N := N) hx hb hts hin hown hK hP q0 he hc k hk (hts _ hlink) (fun _ h9 => h9) hv hdg (kk H locs hP hD hS)
theorem rc_put (Z : Zc cy X cc own nL ret rm) {C ref : String} {T : u_T} {N ci index a : Nat} {ty : Nat → FieldType} (hin : ∀ w ∈ u_ws C T N, w ∈ wn_all) (hty : ∀ k, k < N → parseFieldDescriptor (T k).2.2.1 = some (ty k)) (hnm : ∀ a, a < N → ∀ b, b < N → a ≠ b → (T a).2.1 ≠ (T b).2.1) (q0 : Nat) {fs : List Value} (he : ws[q0]? = some (a, .inr (ci, fs))) (hc : vwCl[ci]? = some (C, T, N)) (k : Nat) (hk : k < N) (hlink : Cond.fieldLink own index ref (T k).2.1 (T k).2.2.1 ∈ wn_all) (hsame : ref = (T k).1) (hfin : (T k).2.2.2 = false) {v : Value} (hn : narrow (ty k) v = v) (hfit : fits (ty k) v = true) (hl : k < fs.length) (hdg : decode cc pc = .ok (.putfield index, 3)) {ws2 : va_W} (hw : ws.set q0 (a, .inr (ci, fs.set k v)) = ws2) (kk : Gc X ws2 cells slots (pc + 3) ls rest) : Gc X ws cells slots pc ls (v :: .ref a :: rest) := by
  obtain ⟨p, l, e, R, s, m, args, below, meth, c, dC, dI, A, Q⟩ := X
  obtain ⟨hx, hb, hml, hown, hts, hK, hX, hr, hlk, hR, hA⟩ := Z
  subst hsame
  subst hw
  intro H locs hP hD hS
  exact va_put (D := (dC, dI)) (ci := ci) (v := v) (ty := ty k) (C := C) (T := T) (N := N) hx hb hts hin ty hty hnm hown hK hP hD hS q0 he hc k hk (hts _ hlink) (fun _ h9 => h9) hfin (hty k hk) hn hfit hl hdg (fun H1 locs1 hP1 hD1 hS1 => kk H1 locs1 hP1 hD1 hS1)
theorem rc_putF (Z : Zc cy X cc own nL ret rm) (hNc : Nc X) {C ref : String} {T : u_T} {N ci index a : Nat} {ty : Nat → FieldType} (hin : ∀ w ∈ u_ws C T N, w ∈ wn_all) (hty : ∀ k, k < N → parseFieldDescriptor (T k).2.2.1 = some (ty k)) (hnm : ∀ a, a < N → ∀ b, b < N → a ≠ b → (T a).2.1 ≠ (T b).2.1) (q0 : Nat) {fs : List Value} (he : ws[q0]? = some (a, .inr (ci, fs))) (hc : vwCl[ci]? = some (C, T, N)) (k : Nat) (hk : k < N) (hlink : Cond.fieldLink own index ref (T k).2.1 (T k).2.2.1 ∈ wn_all) (hsame : ref = (T k).1) (hfin : (T k).2.2.2 = true) (hdecl : (T k).1 = own) {v : Value} (hn : narrow (ty k) v = v) (hfit : fits (ty k) v = true) (hl : k < fs.length) (hdg : decode cc pc = .ok (.putfield index, 3)) {ws2 : va_W} (hw : ws.set q0 (a, .inr (ci, fs.set k v)) = ws2) (kk : Gc X ws2 cells slots (pc + 3) ls rest) : Gc X ws cells slots pc ls (v :: .ref a :: rest) := by
  obtain ⟨p, l, e, R, s, m, args, below, meth, c, dC, dI, A, Q⟩ := X
  obtain ⟨hx, hb, hml, hown, hts, hK, hX, hr, hlk, hR, hA⟩ := Z
  subst hsame
  subst hw
  intro H locs hP hD hS
  exact va_putF (D := (dC, dI)) (ci := ci) (v := v) (ty := ty k) (C := C) (T := T) (N := N) hx hb hts hin ty hty hnm hown hK hP hD hS q0 he hc k hk (hts _ hlink) (fun _ h9 => h9) hfin hNc hdecl (hty k hk) hn hfit hl hdg (fun H1 locs1 hP1 hD1 hS1 => kk H1 locs1 hP1 hD1 hS1)
theorem rc_iast (Z : Zc cy X cc own nL ret rm) (q0 : Nat) {a n : Nat} {f : Nat → Int32} (he : ws[q0]? = some (a, .inl (cy 0, n, .inl f))) {i x : Int32} (hin : vp_in i n) (hdg : decode cc pc = .ok (.iastore, 1)) {ws2 : va_W} (hw : ws.set q0 (a, .inl (cy 0, n, .inl (upd f i.toNatClampNeg x))) = ws2) (kk : Gc X ws2 cells slots (pc + 1) ls rest) : Gc X ws cells slots pc ls (.int x :: .int i :: .ref a :: rest) := by
  obtain ⟨p, l, e, R, s, m, args, below, meth, c, dC, dI, A, Q⟩ := X
  obtain ⟨hx, hb, hml, hown, hts, hK, hX, hr, hlk, hR, hA⟩ := Z
  subst hw
  intro H locs hP hD hS
  exact va_iast hx hb hK hP hD hS q0 0 he rfl hin hdg (fun H1 locs1 hP1 hD1 hS1 => kk H1 locs1 hP1 hD1 hS1)
theorem rc_aast (Z : Zc cy X cc own nL ret rm) (q0 t0 qk : Nat) {a n v ci : Nat} {f : Nat → Option Nat} {r : vw_C} {vs : List Value} (he : ws[q0]? = some (a, .inl (cy t0, n, .inr (.inr (.inr (.inr f)))))) (ht : (wn_tys cy)[t0]? = some (cy t0, .object r.1)) (hv : ws[qk]? = some (v, .inr (ci, vs))) (hc : vwCl[ci]? = some r) {i : Int32} (hin : vp_in i n) (hdg : decode cc pc = .ok (.aastore, 1)) {ws2 : va_W} (hw : ws.set q0 (a, .inl (cy t0, n, .inr (.inr (.inr (.inr (va_up f i.toNatClampNeg (some v))))))) = ws2) (kk : Gc X ws2 cells slots (pc + 1) ls rest) : Gc X ws cells slots pc ls (.ref v :: .int i :: .ref a :: rest) := by
  obtain ⟨p, l, e, R, s, m, args, below, meth, c, dC, dI, A, Q⟩ := X
  obtain ⟨hx, hb, hml, hown, hts, hK, hX, hr, hlk, hR, hA⟩ := Z
  subst hw
  intro H locs hP hD hS
  exact va_astq hx hb hK hP hD hS q0 t0 qk ci he ht hv hc hin hdg (fun H1 locs1 hP1 hD1 hS1 => kk H1 locs1 hP1 hD1 hS1)
theorem rc_ret {S : Type} {h0 ci : Nat} {fs : List Value} {Wf : (Nat → ClassId) → Nat → S → va_W} (Z : Zc cy X cc own nL none rm) (hQ : QC cy X h0 rm ci fs Wf) (u : S) (hw : ws = Wf cy h0 u) (hc : cells ≤ rm.cells) (hs : slots ≤ rm.slots) (hdg : decode cc pc = .ok (.return_, 1)) : Gc X ws cells slots pc ls [] := by
  obtain ⟨p, l, e, R, s, m, args, below, meth, c, dC, dI, A, Q⟩ := X
  obtain ⟨hx, hb, hml, hown, hts, hK, hX, hr, hlk, hR, hA⟩ := Z
  unfold QC at hQ
  dsimp only at hQ
  obtain ⟨rfl, rfl⟩ := hQ
  subst hw
  intro H locs hP hD hS
  refine W.widen (k := rm.cells) (n := rm.slots) hc hs ?_
  exact W.vret hx hb hr (fun t ht hW => ⟨⟨u, rfl, trivial, by rw [ht]; exact hP, hD⟩, hS.F ht⟩) hS.2.2 hdg
/-- what the words say of a constructor -/
def wn_cI (y : MethodName) (bytes : ByteArray) (mL : Nat) : Prop := Cond.code y bytes mL none ∈ wn_all ∧ Cond.initialized y.cls ∈ wn_all ∧ Cond.instanceMethod y ∈ wn_all ∧ y.name = "<init>" ∧ (y.cls ≠ "java/lang/invoke/MethodHandle" ∧ y.cls ≠ "java/lang/invoke/VarHandle" ∧ (parseMethodDescriptor y.desc).map (fun d => d.parameters.length) = some 0)
theorem wn_fbC {as : List Value} {sz : Nat} {D : va_G} {cy : Nat → ClassId} {w : va_W} : FrameBlind (va_Pc as (fun U => U.heap.size = sz ∧ va_P D vwCl w U.heap ∧ va_K D vwCl (wn_tys cy) U ∧ wn_X U)) := fun a U g mk q => by
  obtain ⟨q0, q1, qP, qK, qX⟩ := q
  exact ⟨q0, q1, qP, va_K.moved (u := U) (U := U.calling g mk a) (Vm.Alike.refl U.vm) qK, wn_X.same rfl qX⟩
theorem rc_call {S : Type} {y : MethodName} {bytes : ByteArray} {mL index b ci : Nat} {rm2 : Room} {fs : List Value} {Wf : (Nat → ClassId) → Nat → S → va_W} {tl : va_W} (Z : Zc cy X cc own nL ret rm) (hKc : KC y bytes mL rm2 ci fs Wf) (hC : wn_cI y bytes mL) (hl : Cond.methodLink own index y ∈ wn_all) (hRm : rm2.frames + 1 ≤ rm.frames ∧ 8 + (mL + 11) + rm2.locals ≤ rm.locals) (hcs : cells + rm2.cells ≤ rm.cells ∧ slots + rm2.slots ≤ rm.slots) (hsz : ls.size = nL) (hrm : (rest.map fun v => v.category).sum ≤ 8) (hdg : decode cc pc = .ok (.invokespecial index, 3)) (k : ∀ u : S, Gc X (Wf cy b u ++ tl) (cells + rm2.cells) (slots + rm2.slots) (pc + 3) ls rest) : Gc X ((b, .inr (ci, fs)) :: tl) cells slots pc ls (.ref b :: rest) := by
  obtain ⟨p, l, e, R, s, m, args, below, meth, c, dC, dI, A, Q⟩ := X
  obtain ⟨hx, hb, hml, hown, hts, hK, hX, hr, hlk, hR, hA⟩ := Z
  intro H locs hP hD hS
  have hPc : va_P (dC, dI) vwCl [(b, .inr (ci, fs))] H := hP.sub [0] rfl
  have hFc := va_free (wc := [(b, .inr (ci, fs))]) hD hS hA [0] rfl
  refine va_callv (va_runI (As := []) (rest := rest) ⟨hx, hb, hml, hown, hts⟩ (hKc l dC dI cy b H.size) ⟨callB_of 0 hts (wn_gi hC.1) rfl rfl rfl (hts _ hC.2.1) (hts _ hl) hC.2.2.2.2 (by rw [hR]; exact hRm), hC.2.2.2.1, hts _ hC.2.2.1⟩ ⟨wn_fbC, fun U hU hW => ⟨rfl, by rw [hU], by rw [hU]; exact hPc, va_K.moved hW.alike hK, hX.warm hW⟩⟩ rfl rfl (hsz.trans rfl) rfl (lv_room hrm) hdg (by rw [hR]; exact hcs)) hS (fun q _ h => hFc q h) hFc (fun u t H1 locs1 ht hvm hw hB hz1 hk1 hS1 => ?_)
  obtain ⟨hP1, hD1⟩ := hB
  rw [ht] at hP1
  obtain ⟨hP2, hD2⟩ := va_joinC hP hD hk1 hFc hP1 hD1
  exact k u H1 locs1 hP2 hD2 hS1
theorem rc_callN {S : Type} {y : MethodName} {bytes : ByteArray} {mL index b ci : Nat} {rm2 : Room} {fs : List Value} {Wf : (Nat → ClassId) → Nat → S → va_W} {tl : va_W} (Z : Zc cy X cc own nL ret rm) (hKc : KC y bytes mL rm2 ci fs Wf) (hC : wn_cI y bytes mL) (hl : (own, index, y) ∈ wn_nest) (hRm : rm2.frames + 1 ≤ rm.frames ∧ 8 + (mL + 11) + rm2.locals ≤ rm.locals) (hcs : cells + rm2.cells ≤ rm.cells ∧ slots + rm2.slots ≤ rm.slots) (hsz : ls.size = nL) (hrm : (rest.map fun v => v.category).sum ≤ 8) (hdg : decode cc pc = .ok (.invokespecial index, 3)) (k : ∀ u : S, Gc X (Wf cy b u ++ tl) (cells + rm2.cells) (slots + rm2.slots) (pc + 3) ls rest) : Gc X ((b, .inr (ci, fs)) :: tl) cells slots pc ls (.ref b :: rest) := by
  obtain ⟨p, l, e, R, s, m, args, below, meth, c, dC, dI, A, Q⟩ := X
  obtain ⟨hx, hb, hml, hown, hts, hK, hX, hr, hlk, hR, hA⟩ := Z
  intro H locs hP hD hS
  have hPc : va_P (dC, dI) vwCl [(b, .inr (ci, fs))] H := hP.sub [0] rfl
  have hFc := va_free (wc := [(b, .inr (ci, fs))]) hD hS hA [0] rfl
  refine va_callv (va_runIN (host := "WaitingNets") (As := []) (rest := rest) ⟨hx, hb, hml, hown, hts⟩ (hKc l dC dI cy b H.size) ⟨va_cnB 0 hts (wn_gi hC.1) rfl rfl rfl (hX.1 _ hl) (hts _ hC.2.1) hC.2.2.2.2 (by rw [hR]; exact hRm), hC.2.2.2.1, hts _ hC.2.2.1⟩ ⟨wn_fbC, fun U hU hW => ⟨rfl, by rw [hU], by rw [hU]; exact hPc, va_K.moved hW.alike hK, hX.warm hW⟩⟩ rfl rfl (hsz.trans rfl) rfl (lv_room hrm) hdg (by rw [hR]; exact hcs)) hS (fun q _ h => hFc q h) hFc (fun u t H1 locs1 ht hvm hw hB hz1 hk1 hS1 => ?_)
  obtain ⟨hP1, hD1⟩ := hB
  rw [ht] at hP1
  obtain ⟨hP2, hD2⟩ := va_joinC hP hD hk1 hFc hP1 hD1
  exact k u H1 locs1 hP2 hD2 hS1
end CRW

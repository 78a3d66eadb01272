def wn_B (dC : Nat → ClassId) (dI : Nat → Nat → Nat) (cy : Nat → ClassId) (ad : Nat → Nat) (M : Mm) (U : State) : Prop := va_P (dC, dI) vwCl (wn_W cy ad M) U.heap ∧ va_K (dC, dI) vwCl (wn_tys cy) U ∧ wn_J ad
def wn_ws (y : MethodName) (cc : ByteArray) (n : Nat) (ret : Option FieldType) : List Cond := Cond.code y cc n ret :: wn_all
theorem wn_gi {y : MethodName} {cc : ByteArray} {n : Nat} {ret : Option FieldType} (h : Cond.code y cc n ret ∈ wn_all) : GoodIn wn_all (wn_ws y cc n ret) := by
  intro w hw
  have hm : w ∈ wn_all := by
    rcases List.mem_cons.mp hw with rfl | hw
    · exact h
    · exact hw
  exact ⟨hm, good_of_word (wn_good w hm)⟩
theorem wn_fb {as : List Value} {dC : Nat → ClassId} {dI : Nat → Nat → Nat} {cy : Nat → ClassId} {ad : Nat → Nat} {M : Mm} : FrameBlind (va_Pc as (wn_B dC dI cy ad M)) := fun a U g mk q => by
  obtain ⟨q0, qP, qK, qJ⟩ := q
  exact ⟨q0, qP, va_K.moved (u := U) (U := U.calling g mk a) (Vm.Alike.refl U.vm) qK, qJ⟩
/-- a callee: what the words say of it -/
def wn_cV (y : MethodName) (cc : ByteArray) (mL : Nat) (rt : Option FieldType) (C : String) (n : Nat) : Prop := Cond.code y cc mL rt ∈ wn_all ∧ Cond.instanceMethod y ∈ wn_all ∧ Cond.selects C y y ∈ wn_all ∧ Cond.initialized y.cls ∈ wn_all ∧ (y.cls ≠ "java/lang/invoke/MethodHandle" ∧ y.cls ≠ "java/lang/invoke/VarHandle" ∧ (parseMethodDescriptor y.desc).map (fun d => d.parameters.length) = some n)
def wn_cS (y : MethodName) (cc : ByteArray) (mL : Nat) (rt : Option FieldType) (n : Nat) : Prop := Cond.code y cc mL rt ∈ wn_all ∧ Cond.static y ∈ wn_all ∧ Cond.initialized y.cls ∈ wn_all ∧ (y.cls ≠ "java/lang/invoke/MethodHandle" ∧ y.cls ≠ "java/lang/invoke/VarHandle" ∧ (parseMethodDescriptor y.desc).map (fun d => d.parameters.length) = some n)
abbrev rmz (f n : Nat) : Room := { frames := f, cells := 0, slots := 0, locals := n }

/-- the contract of a method: it answers r and leaves the memory M1 -/
def KI (ad : Nat → Nat) (y : MethodName) (cc : ByteArray) (n : Nat) (ret : Option FieldType) (rm : Room) (as : List Value) (M : Mm) (r : Int32) (M1 : Mm) : Prop := ∀ (l : Launch) (dC : Nat → ClassId) (dI : Nat → Nat → Nat) (cy : Nat → ClassId), Met l y (wn_ws y cc n ret) rm (va_Pc as (wn_B dC dI cy ad M)) (va_Qi (fun (r2 : Int32) (M2 : Mm) => r2 = r ∧ M2 = M1) (fun M2 t => wn_B dC dI cy ad M2 t) (wn_A ad)) 0 0 (wn_A ad)
def QI (ad : Nat → Nat) (X : Cx) (r : Int32) (M1 : Mm) : Prop := match X with
  | (_, _, _, _, s, _, args, below, _, _, dC, dI, cy, A, cells, slots, Q) => Q = MQ below (va_Qi (fun (r2 : Int32) (M2 : Mm) => r2 = r ∧ M2 = M1) (fun M2 t => wn_B dC dI cy ad M2 t) (wn_A ad)) args s 0 0 (wn_A ad) ∧ A = wn_A ad ∧ cells = 0 ∧ slots = 0
theorem wn_enterI {ad : Nat → Nat} {y : MethodName} {cc : ByteArray} {n : Nat} {ret : Option FieldType} {rm : Room} {vs : List Value} {M M1 : Mm} {r : Int32} {own : String} (hpl : plainName y.cls = true) (hown : y.cls = own) (hlen : (lg_sl vs).length ≤ n) (body : ∀ (X : Cx) (ls : Array Slot), Zk ad X cc own n ret rm → QI ad X r M1 → lv_has ls n (lv_args 0 vs) → G ad X M 0 ls []) : KI ad y cc n ret rm vs M r M1 := by
  intro l dC dI cy
  refine Met.ofW (cc := cc) (maxL := n) (ret := ret) hpl rfl ?_
  intro p e s m args below meth c s₁ B hml hv
  obtain ⟨rfl, hP, hK, hJ⟩ := hv
  have hts := atoms_spec (ws := wn_ws y cc n ret) B.pre
  have hown2 : s.vm.findClass y.cls = some m.cls := findClass_of_methodNamed B.named
  rw [hown] at hown2
  have hl := lv_entry vs (n := n) hlen
  rw [lg_entry_eq]
  exact body (p, l, e, (headSpec (wn_ws y cc n ret) rm).room, s, m, vs.toArray, below, meth, c, dC, dI, cy, wn_A ad, 0, 0, _) _ ⟨B.exec, B.bytes, hml, hown2, fun w hw => hts w (List.mem_cons_of_mem _ hw), hK, hJ, B.returns, B.notSynchronized, rfl, fun k hk => ⟨k, hk, rfl⟩, Nat.zero_le _, Nat.zero_le _⟩ ⟨rfl, rfl, rfl, rfl⟩ hl s.heap [] hP va_S.rf
theorem r_invVi {ad : Nat → Nat} {X : Cx} {cc : ByteArray} {own : String} {nL : Nat} {ret : Option FieldType} {rm : Room} {M : Mm} {pc : Nat} {ls : Array Slot} (rest : List Value) {y : MethodName} {bytes : ByteArray} {mL n ci NN b index : Nat} {TT : u_T} {C : String} {rt : Option FieldType} {rm2 : Room} {As : List Value} {st : List Value} {M1 : Mm} {r : Int32} (Z : Zk ad X cc own nL ret rm) (hKc : KI ad y bytes mL rt rm2 (.ref (ad b) :: As) M r M1) (hC : wn_cV y bytes mL rt C n) (hci : vwCl[ci]? = some (C, TT, NN)) (hb9 : b < 101) (hce : ∀ (cy : Nat → ClassId) (M : Mm), ∃ fs, cel cy ad M b = .inr (ci, fs)) (hl : Cond.methodLink own index y ∈ wn_all) (hrc : rm2.cells = 0) (hrs : rm2.slots = 0) (hRm : rm2.frames + 1 ≤ rm.frames ∧ 8 + (mL + 11) + rm2.locals ≤ rm.locals) (hn : As.length = n) (hsz : ls.size = nL) (hst : st = As.reverse ++ .ref (ad b) :: rest) (hrm : (rest.map fun v => v.category).sum ≤ 8) (hdg : decode cc pc = .ok (.invokevirtual index, 3)) (k : G ad X M1 (pc + 3) ls (.int r :: rest)) : G ad X M pc ls st := by
  obtain ⟨p, l, e, R, s, m, args, below, meth, c, dC, dI, cy, A, cells, slots, Q⟩ := X
  obtain ⟨hx, hb, hml, hown, hts, hK, hJ, hr, hlk, hR, hA, hcc, hss⟩ := Z
  intro H locs hP hS
  obtain ⟨fs, hfs⟩ := hce cy M
  refine va_calli (va_runV (As := As) (rest := rest) (C := C) ⟨hx, hb, hml, hown, hts⟩ (hKc l dC dI cy) ⟨callB_of n hts (wn_gi hC.1) rfl hrc hrs (hts _ hC.2.2.2.1) (hts _ hl) hC.2.2.2.2 (by rw [hR]; exact hRm), hts _ hC.2.1, hts _ hC.2.2.1⟩ ⟨wn_fb, va_recv hK hP hci ((wn_at hb9).trans (by rw [hfs])), fun U hU hW => ⟨rfl, by rw [hU]; exact hP, va_K.moved hW.alike hK, hJ⟩⟩ rfl hn (hsz.trans rfl) hst (lv_room hrm) hdg ⟨hcc, hss⟩) hS (fun q _ h => by obtain ⟨k9, h9, rfl⟩ := h; exact hA k9 h9) (fun q h => by obtain ⟨k9, h9, rfl⟩ := h; exact hA k9 h9) (fun r2 u t H1 locs1 ht hvm hw hB hz1 hk1 hS1 => ?_)
  obtain ⟨rfl, rfl⟩ := hw
  obtain ⟨hP1, hK1, -⟩ := hB
  rw [ht] at hP1
  exact k H1 locs1 hP1 hS1
theorem r_invSi {ad : Nat → Nat} {X : Cx} {cc : ByteArray} {own : String} {nL : Nat} {ret : Option FieldType} {rm : Room} {M : Mm} {pc : Nat} {ls : Array Slot} (rest : List Value) {y : MethodName} {bytes : ByteArray} {mL n index : Nat} {rt : Option FieldType} {rm2 : Room} {As : List Value} {st : List Value} {M1 : Mm} {r : Int32} (Z : Zk ad X cc own nL ret rm) (hKc : KI ad y bytes mL rt rm2 As M r M1) (hC : wn_cS y bytes mL rt n) (hl : Cond.methodLink own index y ∈ wn_all) (hrc : rm2.cells = 0) (hrs : rm2.slots = 0) (hRm : rm2.frames + 1 ≤ rm.frames ∧ 8 + (mL + 11) + rm2.locals ≤ rm.locals) (hn : As.length = n) (hsz : ls.size = nL) (hst : st = As.reverse ++ rest) (hrm : (rest.map fun v => v.category).sum ≤ 8) (hdg : decode cc pc = .ok (.invokestatic index, 3)) (k : G ad X M1 (pc + 3) ls (.int r :: rest)) : G ad X M pc ls st := by
  obtain ⟨p, l, e, R, s, m, args, below, meth, c, dC, dI, cy, A, cells, slots, Q⟩ := X
  obtain ⟨hx, hb, hml, hown, hts, hK, hJ, hr, hlk, hR, hA, hcc, hss⟩ := Z
  intro H locs hP hS
  refine va_calli (va_runS (As := As) (rest := rest) ⟨hx, hb, hml, hown, hts⟩ (hKc l dC dI cy) ⟨callB_of n hts (wn_gi hC.1) rfl hrc hrs (hts _ hC.2.2.1) (hts _ hl) hC.2.2.2 (by rw [hR]; exact hRm), hts _ hC.2.1⟩ ⟨wn_fb, fun U hU hW => ⟨rfl, by rw [hU]; exact hP, va_K.moved hW.alike hK, hJ⟩⟩ rfl hn (hsz.trans rfl) hst (lv_room hrm) hdg ⟨hcc, hss⟩) hS (fun q _ h => by obtain ⟨k9, h9, rfl⟩ := h; exact hA k9 h9) (fun q h => by obtain ⟨k9, h9, rfl⟩ := h; exact hA k9 h9) (fun r2 u t H1 locs1 ht hvm hw hB hz1 hk1 hS1 => ?_)
  obtain ⟨rfl, rfl⟩ := hw
  obtain ⟨hP1, hK1, -⟩ := hB
  rw [ht] at hP1
  exact k H1 locs1 hP1 hS1
/-- the contract of a method: it answers r and leaves the memory M1 -/
def KL (ad : Nat → Nat) (y : MethodName) (cc : ByteArray) (n : Nat) (ret : Option FieldType) (rm : Room) (as : List Value) (M : Mm) (r : Int64) (M1 : Mm) : Prop := ∀ (l : Launch) (dC : Nat → ClassId) (dI : Nat → Nat → Nat) (cy : Nat → ClassId), Met l y (wn_ws y cc n ret) rm (va_Pc as (wn_B dC dI cy ad M)) (va_Ql (fun (r2 : Int64) (M2 : Mm) => r2 = r ∧ M2 = M1) (fun M2 t => wn_B dC dI cy ad M2 t) (wn_A ad)) 0 0 (wn_A ad)
def QL (ad : Nat → Nat) (X : Cx) (r : Int64) (M1 : Mm) : Prop := match X with
  | (_, _, _, _, s, _, args, below, _, _, dC, dI, cy, A, cells, slots, Q) => Q = MQ below (va_Ql (fun (r2 : Int64) (M2 : Mm) => r2 = r ∧ M2 = M1) (fun M2 t => wn_B dC dI cy ad M2 t) (wn_A ad)) args s 0 0 (wn_A ad) ∧ A = wn_A ad ∧ cells = 0 ∧ slots = 0
theorem wn_enterL {ad : Nat → Nat} {y : MethodName} {cc : ByteArray} {n : Nat} {ret : Option FieldType} {rm : Room} {vs : List Value} {M M1 : Mm} {r : Int64} {own : String} (hpl : plainName y.cls = true) (hown : y.cls = own) (hlen : (lg_sl vs).length ≤ n) (body : ∀ (X : Cx) (ls : Array Slot), Zk ad X cc own n ret rm → QL ad X r M1 → lv_has ls n (lv_args 0 vs) → G ad X M 0 ls []) : KL ad y cc n ret rm vs M r M1 := by
  intro l dC dI cy
  refine Met.ofW (cc := cc) (maxL := n) (ret := ret) hpl rfl ?_
  intro p e s m args below meth c s₁ B hml hv
  obtain ⟨rfl, hP, hK, hJ⟩ := hv
  have hts := atoms_spec (ws := wn_ws y cc n ret) B.pre
  have hown2 : s.vm.findClass y.cls = some m.cls := findClass_of_methodNamed B.named
  rw [hown] at hown2
  have hl := lv_entry vs (n := n) hlen
  rw [lg_entry_eq]
  exact body (p, l, e, (headSpec (wn_ws y cc n ret) rm).room, s, m, vs.toArray, below, meth, c, dC, dI, cy, wn_A ad, 0, 0, _) _ ⟨B.exec, B.bytes, hml, hown2, fun w hw => hts w (List.mem_cons_of_mem _ hw), hK, hJ, B.returns, B.notSynchronized, rfl, fun k hk => ⟨k, hk, rfl⟩, Nat.zero_le _, Nat.zero_le _⟩ ⟨rfl, rfl, rfl, rfl⟩ hl s.heap [] hP va_S.rf
theorem r_invVl {ad : Nat → Nat} {X : Cx} {cc : ByteArray} {own : String} {nL : Nat} {ret : Option FieldType} {rm : Room} {M : Mm} {pc : Nat} {ls : Array Slot} (rest : List Value) {y : MethodName} {bytes : ByteArray} {mL n ci NN b index : Nat} {TT : u_T} {C : String} {rt : Option FieldType} {rm2 : Room} {As : List Value} {st : List Value} {M1 : Mm} {r : Int64} (Z : Zk ad X cc own nL ret rm) (hKc : KL ad y bytes mL rt rm2 (.ref (ad b) :: As) M r M1) (hC : wn_cV y bytes mL rt C n) (hci : vwCl[ci]? = some (C, TT, NN)) (hb9 : b < 101) (hce : ∀ (cy : Nat → ClassId) (M : Mm), ∃ fs, cel cy ad M b = .inr (ci, fs)) (hl : Cond.methodLink own index y ∈ wn_all) (hrc : rm2.cells = 0) (hrs : rm2.slots = 0) (hRm : rm2.frames + 1 ≤ rm.frames ∧ 8 + (mL + 11) + rm2.locals ≤ rm.locals) (hn : As.length = n) (hsz : ls.size = nL) (hst : st = As.reverse ++ .ref (ad b) :: rest) (hrm : (rest.map fun v => v.category).sum ≤ 8) (hdg : decode cc pc = .ok (.invokevirtual index, 3)) (k : G ad X M1 (pc + 3) ls (.long r :: rest)) : G ad X M pc ls st := by
  obtain ⟨p, l, e, R, s, m, args, below, meth, c, dC, dI, cy, A, cells, slots, Q⟩ := X
  obtain ⟨hx, hb, hml, hown, hts, hK, hJ, hr, hlk, hR, hA, hcc, hss⟩ := Z
  intro H locs hP hS
  obtain ⟨fs, hfs⟩ := hce cy M
  refine va_calll (va_runV (As := As) (rest := rest) (C := C) ⟨hx, hb, hml, hown, hts⟩ (hKc l dC dI cy) ⟨callB_of n hts (wn_gi hC.1) rfl hrc hrs (hts _ hC.2.2.2.1) (hts _ hl) hC.2.2.2.2 (by rw [hR]; exact hRm), hts _ hC.2.1, hts _ hC.2.2.1⟩ ⟨wn_fb, va_recv hK hP hci ((wn_at hb9).trans (by rw [hfs])), fun U hU hW => ⟨rfl, by rw [hU]; exact hP, va_K.moved hW.alike hK, hJ⟩⟩ rfl hn (hsz.trans rfl) hst (lv_room hrm) hdg ⟨hcc, hss⟩) hS (fun q _ h => by obtain ⟨k9, h9, rfl⟩ := h; exact hA k9 h9) (fun q h => by obtain ⟨k9, h9, rfl⟩ := h; exact hA k9 h9) (fun r2 u t H1 locs1 ht hvm hw hB hz1 hk1 hS1 => ?_)
  obtain ⟨rfl, rfl⟩ := hw
  obtain ⟨hP1, hK1, -⟩ := hB
  rw [ht] at hP1
  exact k H1 locs1 hP1 hS1
theorem r_invSl {ad : Nat → Nat} {X : Cx} {cc : ByteArray} {own : String} {nL : Nat} {ret : Option FieldType} {rm : Room} {M : Mm} {pc : Nat} {ls : Array Slot} (rest : List Value) {y : MethodName} {bytes : ByteArray} {mL n index : Nat} {rt : Option FieldType} {rm2 : Room} {As : List Value} {st : List Value} {M1 : Mm} {r : Int64} (Z : Zk ad X cc own nL ret rm) (hKc : KL ad y bytes mL rt rm2 As M r M1) (hC : wn_cS y bytes mL rt n) (hl : Cond.methodLink own index y ∈ wn_all) (hrc : rm2.cells = 0) (hrs : rm2.slots = 0) (hRm : rm2.frames + 1 ≤ rm.frames ∧ 8 + (mL + 11) + rm2.locals ≤ rm.locals) (hn : As.length = n) (hsz : ls.size = nL) (hst : st = As.reverse ++ rest) (hrm : (rest.map fun v => v.category).sum ≤ 8) (hdg : decode cc pc = .ok (.invokestatic index, 3)) (k : G ad X M1 (pc + 3) ls (.long r :: rest)) : G ad X M pc ls st := by
  obtain ⟨p, l, e, R, s, m, args, below, meth, c, dC, dI, cy, A, cells, slots, Q⟩ := X
  obtain ⟨hx, hb, hml, hown, hts, hK, hJ, hr, hlk, hR, hA, hcc, hss⟩ := Z
  intro H locs hP hS
  refine va_calll (va_runS (As := As) (rest := rest) ⟨hx, hb, hml, hown, hts⟩ (hKc l dC dI cy) ⟨callB_of n hts (wn_gi hC.1) rfl hrc hrs (hts _ hC.2.2.1) (hts _ hl) hC.2.2.2 (by rw [hR]; exact hRm), hts _ hC.2.1⟩ ⟨wn_fb, fun U hU hW => ⟨rfl, by rw [hU]; exact hP, va_K.moved hW.alike hK, hJ⟩⟩ rfl hn (hsz.trans rfl) hst (lv_room hrm) hdg ⟨hcc, hss⟩) hS (fun q _ h => by obtain ⟨k9, h9, rfl⟩ := h; exact hA k9 h9) (fun q h => by obtain ⟨k9, h9, rfl⟩ := h; exact hA k9 h9) (fun r2 u t H1 locs1 ht hvm hw hB hz1 hk1 hS1 => ?_)
  obtain ⟨rfl, rfl⟩ := hw
  obtain ⟨hP1, hK1, -⟩ := hB
  rw [ht] at hP1
  exact k H1 locs1 hP1 hS1
/-- the contract of a method: it answers r and leaves the memory M1 -/
def KV (ad : Nat → Nat) (y : MethodName) (cc : ByteArray) (n : Nat) (ret : Option FieldType) (rm : Room) (as : List Value) (M : Mm) (M1 : Mm) : Prop := ∀ (l : Launch) (dC : Nat → ClassId) (dI : Nat → Nat → Nat) (cy : Nat → ClassId), Met l y (wn_ws y cc n ret) rm (va_Pc as (wn_B dC dI cy ad M)) (va_Qv (fun (M2 : Mm) => M2 = M1) (fun M2 t => wn_B dC dI cy ad M2 t) (wn_A ad)) 0 0 (wn_A ad)
def QV (ad : Nat → Nat) (X : Cx) (M1 : Mm) : Prop := match X with
  | (_, _, _, _, s, _, args, below, _, _, dC, dI, cy, A, cells, slots, Q) => Q = MQ below (va_Qv (fun (M2 : Mm) => M2 = M1) (fun M2 t => wn_B dC dI cy ad M2 t) (wn_A ad)) args s 0 0 (wn_A ad) ∧ A = wn_A ad ∧ cells = 0 ∧ slots = 0
theorem wn_enterV {ad : Nat → Nat} {y : MethodName} {cc : ByteArray} {n : Nat} {ret : Option FieldType} {rm : Room} {vs : List Value} {M M1 : Mm}  {own : String} (hpl : plainName y.cls = true) (hown : y.cls = own) (hlen : (lg_sl vs).length ≤ n) (body : ∀ (X : Cx) (ls : Array Slot), Zk ad X cc own n ret rm → QV ad X M1 → lv_has ls n (lv_args 0 vs) → G ad X M 0 ls []) : KV ad y cc n ret rm vs M M1 := by
  intro l dC dI cy
  refine Met.ofW (cc := cc) (maxL := n) (ret := ret) hpl rfl ?_
  intro p e s m args below meth c s₁ B hml hv
  obtain ⟨rfl, hP, hK, hJ⟩ := hv
  have hts := atoms_spec (ws := wn_ws y cc n ret) B.pre
  have hown2 : s.vm.findClass y.cls = some m.cls := findClass_of_methodNamed B.named
  rw [hown] at hown2
  have hl := lv_entry vs (n := n) hlen
  rw [lg_entry_eq]
  exact body (p, l, e, (headSpec (wn_ws y cc n ret) rm).room, s, m, vs.toArray, below, meth, c, dC, dI, cy, wn_A ad, 0, 0, _) _ ⟨B.exec, B.bytes, hml, hown2, fun w hw => hts w (List.mem_cons_of_mem _ hw), hK, hJ, B.returns, B.notSynchronized, rfl, fun k hk => ⟨k, hk, rfl⟩, Nat.zero_le _, Nat.zero_le _⟩ ⟨rfl, rfl, rfl, rfl⟩ hl s.heap [] hP va_S.rf
theorem r_invVv {ad : Nat → Nat} {X : Cx} {cc : ByteArray} {own : String} {nL : Nat} {ret : Option FieldType} {rm : Room} {M : Mm} {pc : Nat} {ls : Array Slot} (rest : List Value) {y : MethodName} {bytes : ByteArray} {mL n ci NN b index : Nat} {TT : u_T} {C : String} {rt : Option FieldType} {rm2 : Room} {As : List Value} {st : List Value} {M1 : Mm}  (Z : Zk ad X cc own nL ret rm) (hKc : KV ad y bytes mL rt rm2 (.ref (ad b) :: As) M M1) (hC : wn_cV y bytes mL rt C n) (hci : vwCl[ci]? = some (C, TT, NN)) (hb9 : b < 101) (hce : ∀ (cy : Nat → ClassId) (M : Mm), ∃ fs, cel cy ad M b = .inr (ci, fs)) (hl : Cond.methodLink own index y ∈ wn_all) (hrc : rm2.cells = 0) (hrs : rm2.slots = 0) (hRm : rm2.frames + 1 ≤ rm.frames ∧ 8 + (mL + 11) + rm2.locals ≤ rm.locals) (hn : As.length = n) (hsz : ls.size = nL) (hst : st = As.reverse ++ .ref (ad b) :: rest) (hrm : (rest.map fun v => v.category).sum ≤ 8) (hdg : decode cc pc = .ok (.invokevirtual index, 3)) (k : G ad X M1 (pc + 3) ls (rest)) : G ad X M pc ls st := by
  obtain ⟨p, l, e, R, s, m, args, below, meth, c, dC, dI, cy, A, cells, slots, Q⟩ := X
  obtain ⟨hx, hb, hml, hown, hts, hK, hJ, hr, hlk, hR, hA, hcc, hss⟩ := Z
  intro H locs hP hS
  obtain ⟨fs, hfs⟩ := hce cy M
  refine va_callv (va_runV (As := As) (rest := rest) (C := C) ⟨hx, hb, hml, hown, hts⟩ (hKc l dC dI cy) ⟨callB_of n hts (wn_gi hC.1) rfl hrc hrs (hts _ hC.2.2.2.1) (hts _ hl) hC.2.2.2.2 (by rw [hR]; exact hRm), hts _ hC.2.1, hts _ hC.2.2.1⟩ ⟨wn_fb, va_recv hK hP hci ((wn_at hb9).trans (by rw [hfs])), fun U hU hW => ⟨rfl, by rw [hU]; exact hP, va_K.moved hW.alike hK, hJ⟩⟩ rfl hn (hsz.trans rfl) hst (lv_room hrm) hdg ⟨hcc, hss⟩) hS (fun q _ h => by obtain ⟨k9, h9, rfl⟩ := h; exact hA k9 h9) (fun q h => by obtain ⟨k9, h9, rfl⟩ := h; exact hA k9 h9) (fun u t H1 locs1 ht hvm hw hB hz1 hk1 hS1 => ?_)
  subst hw
  obtain ⟨hP1, hK1, -⟩ := hB
  rw [ht] at hP1
  exact k H1 locs1 hP1 hS1
theorem r_invSv {ad : Nat → Nat} {X : Cx} {cc : ByteArray} {own : String} {nL : Nat} {ret : Option FieldType} {rm : Room} {M : Mm} {pc : Nat} {ls : Array Slot} (rest : List Value) {y : MethodName} {bytes : ByteArray} {mL n index : Nat} {rt : Option FieldType} {rm2 : Room} {As : List Value} {st : List Value} {M1 : Mm}  (Z : Zk ad X cc own nL ret rm) (hKc : KV ad y bytes mL rt rm2 As M M1) (hC : wn_cS y bytes mL rt n) (hl : Cond.methodLink own index y ∈ wn_all) (hrc : rm2.cells = 0) (hrs : rm2.slots = 0) (hRm : rm2.frames + 1 ≤ rm.frames ∧ 8 + (mL + 11) + rm2.locals ≤ rm.locals) (hn : As.length = n) (hsz : ls.size = nL) (hst : st = As.reverse ++ rest) (hrm : (rest.map fun v => v.category).sum ≤ 8) (hdg : decode cc pc = .ok (.invokestatic index, 3)) (k : G ad X M1 (pc + 3) ls (rest)) : G ad X M pc ls st := by
  obtain ⟨p, l, e, R, s, m, args, below, meth, c, dC, dI, cy, A, cells, slots, Q⟩ := X
  obtain ⟨hx, hb, hml, hown, hts, hK, hJ, hr, hlk, hR, hA, hcc, hss⟩ := Z
  intro H locs hP hS
  refine va_callv (va_runS (As := As) (rest := rest) ⟨hx, hb, hml, hown, hts⟩ (hKc l dC dI cy) ⟨callB_of n hts (wn_gi hC.1) rfl hrc hrs (hts _ hC.2.2.1) (hts _ hl) hC.2.2.2 (by rw [hR]; exact hRm), hts _ hC.2.1⟩ ⟨wn_fb, fun U hU hW => ⟨rfl, by rw [hU]; exact hP, va_K.moved hW.alike hK, hJ⟩⟩ rfl hn (hsz.trans rfl) hst (lv_room hrm) hdg ⟨hcc, hss⟩) hS (fun q _ h => by obtain ⟨k9, h9, rfl⟩ := h; exact hA k9 h9) (fun q h => by obtain ⟨k9, h9, rfl⟩ := h; exact hA k9 h9) (fun u t H1 locs1 ht hvm hw hB hz1 hk1 hS1 => ?_)
  subst hw
  obtain ⟨hP1, hK1, -⟩ := hB
  rw [ht] at hP1
  exact k H1 locs1 hP1 hS1
theorem r_iret {ad : Nat → Nat} {X : Cx} {cc : ByteArray} {own : String} {nL : Nat} {rm : Room} {M : Mm} {pc : Nat} {ls : Array Slot} {v : Int32} {q : Int32 × Mm} (Z : Zk ad X cc own nL (some .int) rm) (hQ : QI ad X q.1 q.2) (hF : some (v, M) = some q) (hdg : decode cc pc = .ok (.ireturn, 1)) : G ad X M pc ls [.int v] := by
  obtain ⟨p, l, e, R, s, m, args, below, meth, c, dC, dI, cy, A, cells, slots, Q⟩ := X
  obtain ⟨hx, hb, hml, hown, hts, hK, hJ, hr, hlk, hR, hA, hcc, hss⟩ := Z
  cases hF
  unfold QI at hQ
  dsimp only at hQ
  obtain ⟨rfl, rfl, rfl, rfl⟩ := hQ
  exact fun H locs hP hS => W.iret hx hb hr (fun t ht hW => ⟨⟨v, M, rfl, ⟨rfl, rfl⟩, by rw [ht]; exact hP, va_K.moved hW.alike hK, hJ⟩, hS.F ht⟩) hS.2.2 hdg
theorem r_zret {ad : Nat → Nat} {X : Cx} {cc : ByteArray} {own : String} {nL : Nat} {rm : Room} {M : Mm} {pc : Nat} {ls : Array Slot} {v : Int32} {q : Int32 × Mm} (Z : Zk ad X cc own nL (some .boolean) rm) (hQ : QI ad X q.1 q.2) (hz : v = 0 ∨ v = 1) (hF : some (v, M) = some q) (hdg : decode cc pc = .ok (.ireturn, 1)) : G ad X M pc ls [.int v] := by
  obtain ⟨p, l, e, R, s, m, args, below, meth, c, dC, dI, cy, A, cells, slots, Q⟩ := X
  obtain ⟨hx, hb, hml, hown, hts, hK, hJ, hr, hlk, hR, hA, hcc, hss⟩ := Z
  cases hF
  unfold QI at hQ
  dsimp only at hQ
  obtain ⟨rfl, rfl, rfl, rfl⟩ := hQ
  exact fun H locs hP hS => W.zret hx hb hr (by rcases hz with rfl | rfl <;> rfl) (fun t ht hW => ⟨⟨v, M, rfl, ⟨rfl, rfl⟩, by rw [ht]; exact hP, va_K.moved hW.alike hK, hJ⟩, hS.F ht⟩) hS.2.2 hdg
theorem r_lret {ad : Nat → Nat} {X : Cx} {cc : ByteArray} {own : String} {nL : Nat} {rm : Room} {M : Mm} {pc : Nat} {ls : Array Slot} {v : Int64} {q : Int64 × Mm} (Z : Zk ad X cc own nL (some .long) rm) (hQ : QL ad X q.1 q.2) (hF : some (v, M) = some q) (hdg : decode cc pc = .ok (.lreturn, 1)) : G ad X M pc ls [.long v] := by
  obtain ⟨p, l, e, R, s, m, args, below, meth, c, dC, dI, cy, A, cells, slots, Q⟩ := X
  obtain ⟨hx, hb, hml, hown, hts, hK, hJ, hr, hlk, hR, hA, hcc, hss⟩ := Z
  cases hF
  unfold QL at hQ
  dsimp only at hQ
  obtain ⟨rfl, rfl, rfl, rfl⟩ := hQ
  exact fun H locs hP hS => W.lret hx hb hr (fun t ht hW => ⟨⟨v, M, rfl, ⟨rfl, rfl⟩, by rw [ht]; exact hP, va_K.moved hW.alike hK, hJ⟩, hS.F ht⟩) hS.2.2 hdg
theorem r_vret {ad : Nat → Nat} {X : Cx} {cc : ByteArray} {own : String} {nL : Nat} {rm : Room} {M M1 : Mm} {pc : Nat} {ls : Array Slot} (Z : Zk ad X cc own nL none rm) (hQ : QV ad X M1) (hF : some M = some M1) (hdg : decode cc pc = .ok (.return_, 1)) : G ad X M pc ls [] := by
  obtain ⟨p, l, e, R, s, m, args, below, meth, c, dC, dI, cy, A, cells, slots, Q⟩ := X
  obtain ⟨hx, hb, hml, hown, hts, hK, hJ, hr, hlk, hR, hA, hcc, hss⟩ := Z
  cases hF
  unfold QV at hQ
  dsimp only at hQ
  obtain ⟨rfl, rfl, rfl, rfl⟩ := hQ
  exact fun H locs hP hS => W.vret hx hb hr (fun t ht hW => ⟨⟨M, rfl, rfl, by rw [ht]; exact hP, va_K.moved hW.alike hK, hJ⟩, hS.F ht⟩) hS.2.2 hdg
/-- the pure steps: a place in a row, a divisor, a truth, a call, a name -/
def ck {α : Type} (i : Int32) (n : Nat) (x : Option α) : Option α := if i < 0 ∨ n ≤ i.toNatClampNeg then none else x
def dvI {α : Type} (b : Int32) (x : Option α) : Option α := if b = 0 then none else x
def dvJ {α : Type} (b : Int64) (x : Option α) : Option α := if b = 0 then none else x
def bz {α : Type} (v : Int32) (x : Option α) : Option α := if v = 0 ∨ v = 1 then x else none
def bd {α β : Type} (x : Option α) (f : α → Option β) : Option β := match x with
  | none => none
  | some a => f a
def nm {α β : Type} (a : α) (f : α → β) : β := f a
theorem ck_some {α : Type} {i : Int32} {n : Nat} {x : Option α} {r : α} (h : ck i n x = some r) : vp_in i n ∧ x = some r := by
  unfold ck at h
  by_cases hc : i < 0 ∨ n ≤ i.toNatClampNeg
  · rw [if_pos hc] at h
    cases h
  · rw [if_neg hc] at h
    exact ⟨hc, h⟩
theorem dvI_some {α : Type} {b : Int32} {x : Option α} {r : α} (h : dvI b x = some r) : ¬ b = 0 ∧ x = some r := by
  unfold dvI at h
  by_cases hc : b = 0
  · rw [if_pos hc] at h
    cases h
  · rw [if_neg hc] at h
    exact ⟨hc, h⟩
theorem dvJ_some {α : Type} {b : Int64} {x : Option α} {r : α} (h : dvJ b x = some r) : ¬ b = 0 ∧ x = some r := by
  unfold dvJ at h
  by_cases hc : b = 0
  · rw [if_pos hc] at h
    cases h
  · rw [if_neg hc] at h
    exact ⟨hc, h⟩
theorem bz_some {α : Type} {v : Int32} {x : Option α} {r : α} (h : bz v x = some r) : (v = 0 ∨ v = 1) ∧ x = some r := by
  unfold bz at h
  by_cases hc : v = 0 ∨ v = 1
  · rw [if_pos hc] at h
    exact ⟨hc, h⟩
  · rw [if_neg hc] at h
    cases h
theorem bd_some {α β : Type} {x : Option α} {f : α → Option β} {r : β} (h : bd x f = some r) : ∃ a, x = some a ∧ f a = some r := by
  cases x with
  | none => cases h
  | some a => exact ⟨a, rfl, h⟩
theorem nm_some {α β : Type} {a : α} {f : α → Option β} {r : β} (h : nm a f = some r) : ∃ x, x = a ∧ f x = some r := ⟨a, rfl, h⟩
theorem if_some {α : Type} {c : Prop} [Decidable c] {x y : Option α} {r : α} (hc : c) (h : (if c then x else y) = some r) : x = some r := by
  rw [if_pos hc] at h
  exact h
theorem nif_some {α : Type} {c : Prop} [Decidable c] {x y : Option α} {r : α} (hc : ¬ c) (h : (if c then x else y) = some r) : y = some r := by
  rw [if_neg hc] at h
  exact h

theorem r_mmax {ad : Nat → Nat} {X : Cx} {cc : ByteArray} {own : String} {nL : Nat} {ret : Option FieldType} {rm : Room} {M : Mm} {pc : Nat} {ls : Array Slot} {rest : List Value} {index : Nat} {x y : Int32} (Z : Zk ad X cc own nL ret rm) (hl : Cond.methodLink own index Lib.Math.max.name ∈ wn_all) (hst : Cond.static Lib.Math.max.name ∈ wn_all) (hin : Cond.initialized "java/lang/Math" ∈ wn_all) (hcd : Cond.code Lib.Math.max.name Lib.Math.max.code 2 (some .int) ∈ wn_all) (hf : 1 ≤ rm.frames) (hlo : (rest.map fun v => v.category).sum + 13 ≤ rm.locals) (hsz : ls.size = nL) (hdg : decode cc pc = .ok (.invokestatic index, 3)) (k : G ad X M (pc + 3) ls (.int (if x < y then y else x) :: rest)) : G ad X M pc ls (.int y :: .int x :: rest) := by
  obtain ⟨p, l, e, R, s, m, args, below, meth, c, dC, dI, cy, A, cells, slots, Q⟩ := X
  obtain ⟨hx, hb, hml, hown, hts, hK, hJ, hr, hlk, hR, hA, hcc, hss⟩ := Z
  subst hR
  exact fun H locs hP hS => va_mmax hx hb (hml.trans hsz.symm) hown (hts _ hl) (hts _ hst) (hts _ hin) (hts _ hcd) hf hlo hcc hss hdg (k H locs hP hS)
theorem r_mmin {ad : Nat → Nat} {X : Cx} {cc : ByteArray} {own : String} {nL : Nat} {ret : Option FieldType} {rm : Room} {M : Mm} {pc : Nat} {ls : Array Slot} {rest : List Value} {index : Nat} {x y : Int32} (Z : Zk ad X cc own nL ret rm) (hl : Cond.methodLink own index Lib.Math.min.name ∈ wn_all) (hst : Cond.static Lib.Math.min.name ∈ wn_all) (hin : Cond.initialized "java/lang/Math" ∈ wn_all) (hcd : Cond.code Lib.Math.min.name Lib.Math.min.code 2 (some .int) ∈ wn_all) (hf : 1 ≤ rm.frames) (hlo : (rest.map fun v => v.category).sum + 13 ≤ rm.locals) (hsz : ls.size = nL) (hdg : decode cc pc = .ok (.invokestatic index, 3)) (k : G ad X M (pc + 3) ls (.int (if y < x then y else x) :: rest)) : G ad X M pc ls (.int y :: .int x :: rest) := by
  obtain ⟨p, l, e, R, s, m, args, below, meth, c, dC, dI, cy, A, cells, slots, Q⟩ := X
  obtain ⟨hx, hb, hml, hown, hts, hK, hJ, hr, hlk, hR, hA, hcc, hss⟩ := Z
  subst hR
  exact fun H locs hP hS => va_mmin hx hb (hml.trans hsz.symm) hown (hts _ hl) (hts _ hst) (hts _ hin) (hts _ hcd) hf hlo hcc hss hdg (k H locs hP hS)
theorem r_labs {ad : Nat → Nat} {X : Cx} {cc : ByteArray} {own : String} {nL : Nat} {ret : Option FieldType} {rm : Room} {M : Mm} {pc : Nat} {ls : Array Slot} {rest : List Value} {index : Nat} {x : Int64} (Z : Zk ad X cc own nL ret rm) (hl : Cond.methodLink own index Lib.MathLoose.abs_long.x ∈ wn_all) (hst : Cond.static Lib.MathLoose.abs_long.x ∈ wn_all) (hin : Cond.initialized "java/lang/Math" ∈ wn_all) (hcd : Cond.code Lib.MathLoose.abs_long.x Lib.MathLoose.abs_long.code 2 (some .long) ∈ wn_all) (hf : 1 ≤ rm.frames) (hlo : (rest.map fun v => v.category).sum + 13 ≤ rm.locals) (hsz : ls.size = nL) (hdg : decode cc pc = .ok (.invokestatic index, 3)) (k : G ad X M (pc + 3) ls (.long (if 0 < x then x else -x) :: rest)) : G ad X M pc ls (.long x :: rest) := by
  obtain ⟨p, l, e, R, s, m, args, below, meth, c, dC, dI, cy, A, cells, slots, Q⟩ := X
  obtain ⟨hx, hb, hml, hown, hts, hK, hJ, hr, hlk, hR, hA, hcc, hss⟩ := Z
  subst hR
  exact fun H locs hP hS => va_mabs_long hx hb (hml.trans hsz.symm) hown (hts _ hl) (hts _ hst) (hts _ hin) (hts _ hcd) hf hlo hcc hss hdg (k H locs hP hS)
theorem r_acopy {ad : Nat → Nat} {X : Cx} {cc : ByteArray} {own : String} {nL : Nat} {ret : Option FieldType} {rm : Room} {M : Mm} {pc : Nat} {ls : Array Slot} {rest : List Value} {index a b na nb : Nat} {sp dp n : Int32} (Z : Zk ad X cc own nL ret rm) (hl : Cond.methodLink own index arraycopyName ∈ wn_all) (hnt : Cond.native arraycopyName ∈ wn_all) (hst : Cond.static arraycopyName ∈ wn_all) (hin : Cond.initialized "java/lang/System" ∈ wn_all) (ha : a < 101) (hb9 : b < 101) (hca : ∀ (cy : Nat → ClassId) (M : Mm), cel cy ad M a = .inl (cy 0, na, .inl (mI M a))) (hcb : ∀ (cy : Nat → ClassId) (M : Mm), cel cy ad M b = .inl (cy 0, nb, .inl (mI M b))) (h1 : ¬ sp < 0) (h2 : ¬ dp < 0) (h3 : ¬ n < 0) (h4 : sp.toNatClampNeg + n.toNatClampNeg ≤ na) (h5 : dp.toNatClampNeg + n.toNatClampNeg ≤ nb) (hf : 1 ≤ rm.frames) (hlo : (rest.map fun v => v.category).sum + 18 ≤ rm.locals) (hsz : ls.size = nL) (hdg : decode cc pc = .ok (.invokestatic index, 3)) (k : G ad X (sC M a sp.toNatClampNeg b dp.toNatClampNeg n.toNatClampNeg) (pc + 3) ls rest) : G ad X M pc ls (.int n :: .int dp :: .ref (ad b) :: .int sp :: .ref (ad a) :: rest) := by
  obtain ⟨p, l, e, R, s, m, args, below, meth, c, dC, dI, cy, A, cells, slots, Q⟩ := X
  obtain ⟨hx, hb, hml, hown, hts, hK, hJ, hr, hlk, hR, hA, hcc, hss⟩ := Z
  subst hR
  exact fun H locs hP hS => va_copyi hx hb (hml.trans hsz.symm) hown (hts _ hl) (hts _ hnt) (hts _ hst) (hts _ hin) hK hP (wn_D hJ hA) hS a b 0 0 ((wn_at ha).trans (by rw [hca])) ((wn_at hb9).trans (by rw [hcb])) rfl rfl rfl h1 h2 h3 h4 h5 (fun i hi => rfl) hf (by exact hlo) hdg (fun H1 locs1 hP1 hD1 hS1 => k H1 locs1 (by
    rw [wn_set (M1 := sC M a sp.toNatClampNeg b dp.toNatClampNeg n.toNatClampNeg) (by
      rw [hcb]
      have e : mI (sC M a sp.toNatClampNeg b dp.toNatClampNeg n.toNatClampNeg) b = va_cpy (mI M a) (mI M b) sp.toNatClampNeg dp.toNatClampNeg n.toNatClampNeg := by
        funext q
        simp [mI, sC]
        rfl
      rw [e]) (fun j hj => ⟨by funext q; simp [sC, hj], by funext q; simp [sC]⟩)] at hP1
    exact hP1) hS1)
/-- the copy of n places -/
def cpk {α : Type} (sp dp n : Int32) (na nb : Nat) (x : Option α) : Option α := if sp < 0 ∨ dp < 0 ∨ n < 0 ∨ na < sp.toNatClampNeg + n.toNatClampNeg ∨ nb < dp.toNatClampNeg + n.toNatClampNeg then none else x
theorem cpk_some {α : Type} {sp dp n : Int32} {na nb : Nat} {x : Option α} {r : α} (h : cpk sp dp n na nb x = some r) : (¬ sp < 0 ∧ ¬ dp < 0 ∧ ¬ n < 0 ∧ sp.toNatClampNeg + n.toNatClampNeg ≤ na ∧ dp.toNatClampNeg + n.toNatClampNeg ≤ nb) ∧ x = some r := by
  unfold cpk at h
  by_cases hc : sp < 0 ∨ dp < 0 ∨ n < 0 ∨ na < sp.toNatClampNeg + n.toNatClampNeg ∨ nb < dp.toNatClampNeg + n.toNatClampNeg
  · rw [if_pos hc] at h
    cases h
  · rw [if_neg hc] at h
    simp only [not_or, Nat.not_lt] at hc
    exact ⟨hc, h⟩
def fuel : Nat := 1000


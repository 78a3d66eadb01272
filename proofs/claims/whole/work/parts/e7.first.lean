/-! the first world -/
def pos_ (k : Nat) : Nat := ([2, 100, 1, 0, 4, 46, 69, 70, 30, 31, 72, 74, 76, 78, 80, 82, 71, 73, 75, 77, 79, 81, 3, 33, 35, 37, 39, 32, 34, 36, 38, 6, 53, 7, 54, 5, 52, 14, 61, 22, 15, 62, 23, 16, 17, 18, 19, 20, 21, 63, 64, 65, 66, 67, 68, 24, 25, 26, 27, 28, 29, 8, 9, 10, 11, 12, 13, 55, 56, 57, 58, 59, 60, 45, 44, 43, 42, 41, 47, 48, 49, 50, 51, 40, 99, 98, 97, 96, 95, 94, 93, 92, 91, 90, 89, 88, 87, 86, 85, 84, 83] : List Nat).getD k 0
theorem pos_lt : ∀ k, k < 101 → pos_ k < 101 := by decide +kernel
theorem pos_inj : ∀ i, i < 101 → ∀ j, j < 101 → pos_ i = pos_ j → i = j := by decide +kernel
theorem ad_J2 {A : Nat → Prop} {Ps : va_W} (hn : Ps.length = 101) (hD : va_D A Ps) : wn_J (fun k => (Ps.map Prod.fst).getD (pos_ k) 0) ∧ ∀ k, k < 101 → A ((Ps.map Prod.fst).getD (pos_ k) 0) := by
  refine ⟨fun i j hi hj h => ?_, fun k hk => ?_⟩
  · have l1 := pos_lt i hi
    have l2 := pos_lt j hj
    obtain ⟨e1, h1⟩ := ad_at (Ps := Ps) (k := pos_ i) (by omega)
    obtain ⟨e2, h2⟩ := ad_at (Ps := Ps) (k := pos_ j) (by omega)
    exact pos_inj i hi j hj (hD.1 _ _ _ _ h1 h2 h)
  · have l1 := pos_lt k hk
    obtain ⟨e1, h1⟩ := ad_at (Ps := Ps) (k := pos_ k) (by omega)
    exact hD.2 _ _ h1
set_option maxHeartbeats 2000000 in
set_option maxRecDepth 100000 in
theorem fw_flat6 {cy : Nat → ClassId} {h0 : Nat} {x72 : Nat} : WX6 cy h0 x72 = [(x72, .inl (cy 0, 40, .inl (fun _ => 0))), (h0, .inr (6, [.ref x72, .int (-1)]))] := rfl
set_option maxHeartbeats 2000000 in
set_option maxRecDepth 100000 in
theorem fw_flat1 {cy : Nat → ClassId} {h0 : Nat} {x73 : Nat} : WX1 cy h0 x73 = [(x73, .inl (cy 0, 4, .inl (fun _ => 0))), (h0, .inr (1, [.ref x73, .int (-1), .int 1, .int 1, .int 1, .int 0]))] := rfl
set_option maxHeartbeats 2000000 in
set_option maxRecDepth 100000 in
theorem fw_flat2 {cy : Nat → ClassId} {h0 : Nat}  : WX2 cy h0 () = [(h0, .inr (2, [.long 0, .long 1]))] := rfl
set_option maxHeartbeats 2000000 in
set_option maxRecDepth 100000 in
theorem fw_flat3 {cy : Nat → ClassId} {h0 : Nat}  : WX3 cy h0 () = [(h0, .inr (3, [.int 0, .int 0, .int 0]))] := rfl
set_option maxHeartbeats 2000000 in
set_option maxRecDepth 100000 in
theorem fw_flat7 {cy : Nat → ClassId} {h0 : Nat} {x74 : Nat} {f75 : Nat → Nat} : WX7 cy h0 (x74, f75) = [(h0, .inr (7, [.ref x74, .int 0])), (x74, .inl (cy 6, 6, .inr (.inr (.inr (.inr (fun i => if i < 6 then some (f75 i) else none)))))), ((f75 0), .inl (cy 1, 6, .inr (.inl (fun _ => 0)))), ((f75 1), .inl (cy 1, 6, .inr (.inl (fun _ => 0)))), ((f75 2), .inl (cy 1, 6, .inr (.inl (fun _ => 0)))), ((f75 3), .inl (cy 1, 6, .inr (.inl (fun _ => 0)))), ((f75 4), .inl (cy 1, 6, .inr (.inl (fun _ => 0)))), ((f75 5), .inl (cy 1, 6, .inr (.inl (fun _ => 0))))] := by
  simp only [WX7, List.cons_append, List.nil_append]
set_option maxHeartbeats 2000000 in
set_option maxRecDepth 100000 in
theorem fw_flat0 {cy : Nat → ClassId} {h0 : Nat} {x76 x78 x79 x80 : Nat} {f77 f81 : Nat → Nat} : WX0 cy h0 (x76, f77, x78, x79, (x80, f81)) = [(x78, .inl (cy 0, 6, .inl (fun _ => 0))), (h0, .inr (0, [.ref x76, .ref x78, .ref x79, .int 0])), (x76, .inl (cy 5, 6, .inr (.inr (.inr (.inr (fun i => if i < 6 then some (f77 i) else none)))))), ((f77 0), .inl (cy 0, 6, .inl (fun _ => 0))), ((f77 1), .inl (cy 0, 6, .inl (fun _ => 0))), ((f77 2), .inl (cy 0, 6, .inl (fun _ => 0))), ((f77 3), .inl (cy 0, 6, .inl (fun _ => 0))), ((f77 4), .inl (cy 0, 6, .inl (fun _ => 0))), ((f77 5), .inl (cy 0, 6, .inl (fun _ => 0))), (x79, .inr (7, [.ref x80, .int 0])), (x80, .inl (cy 6, 6, .inr (.inr (.inr (.inr (fun i => if i < 6 then some (f81 i) else none)))))), ((f81 0), .inl (cy 1, 6, .inr (.inl (fun _ => 0)))), ((f81 1), .inl (cy 1, 6, .inr (.inl (fun _ => 0)))), ((f81 2), .inl (cy 1, 6, .inr (.inl (fun _ => 0)))), ((f81 3), .inl (cy 1, 6, .inr (.inl (fun _ => 0)))), ((f81 4), .inl (cy 1, 6, .inr (.inl (fun _ => 0)))), ((f81 5), .inl (cy 1, 6, .inr (.inl (fun _ => 0))))] := by
  simp only [WX0, fw_flat7, List.cons_append, List.nil_append]
set_option maxHeartbeats 2000000 in
set_option maxRecDepth 100000 in
theorem fw_flat5 {cy : Nat → ClassId} {h0 : Nat} {x82 x83 x84 x85 x86 x87 x89 : Nat} {f88 : Nat → Nat} : WX5 cy h0 (x82, x83, x84, x85, x86, x87, f88, x89) = [(x89, .inl (cy 0, 4, .inl (fun _ => 0))), (x86, .inl (cy 1, 4, .inr (.inl (fun _ => 0)))), (x85, .inl (cy 0, 4, .inl (fun _ => 0))), (x84, .inl (cy 0, 4, .inl (fun _ => 0))), (x83, .inl (cy 0, 4, .inl (fun _ => 0))), (x82, .inl (cy 1, 4, .inr (.inl (fun _ => 0)))), (h0, .inr (5, [.ref x82, .ref x83, .ref x84, .ref x85, .ref x86, .ref x87, .ref x89])), (x87, .inl (cy 5, 4, .inr (.inr (.inr (.inr (fun i => if i < 4 then some (f88 i) else none)))))), ((f88 0), .inl (cy 0, 4, .inl (fun _ => 0))), ((f88 1), .inl (cy 0, 4, .inl (fun _ => 0))), ((f88 2), .inl (cy 0, 4, .inl (fun _ => 0))), ((f88 3), .inl (cy 0, 4, .inl (fun _ => 0)))] := by
  simp only [WX5, List.cons_append, List.nil_append]
set_option maxHeartbeats 2000000 in
set_option maxRecDepth 100000 in
theorem fw_flat4 {cy : Nat → ClassId} {h0 : Nat} {x90 x91 x99 x101 x102 x103 x92 x105 x93 x94 x95 x107 x96 x108 x97 x109 x98 x110 : Nat} {f100 f104 f106 : Nat → Nat} : WX4 cy h0 (x90, x91, (x99, f100, x101, x102, (x103, f104)), x92, (x105, f106), x93, (), x94, (), x95, x107, x96, x108, x97, x109, x98, x110) = [(x90, .inl (cy 3, 4, .inr (.inr (.inr (.inr (va_up (va_up (va_up (va_up (fun _ => none) 0 (some x95)) 1 (some x96)) 2 (some x97)) 3 (some x98))))))), (h0, .inr (4, [.ref x90, .ref x91, .ref x92, .ref x93, .ref x94])), (x101, .inl (cy 0, 6, .inl (fun _ => 0))), (x91, .inr (0, [.ref x99, .ref x101, .ref x102, .int 0])), (x99, .inl (cy 5, 6, .inr (.inr (.inr (.inr (fun i => if i < 6 then some (f100 i) else none)))))), ((f100 0), .inl (cy 0, 6, .inl (fun _ => 0))), ((f100 1), .inl (cy 0, 6, .inl (fun _ => 0))), ((f100 2), .inl (cy 0, 6, .inl (fun _ => 0))), ((f100 3), .inl (cy 0, 6, .inl (fun _ => 0))), ((f100 4), .inl (cy 0, 6, .inl (fun _ => 0))), ((f100 5), .inl (cy 0, 6, .inl (fun _ => 0))), (x102, .inr (7, [.ref x103, .int 0])), (x103, .inl (cy 6, 6, .inr (.inr (.inr (.inr (fun i => if i < 6 then some (f104 i) else none)))))), ((f104 0), .inl (cy 1, 6, .inr (.inl (fun _ => 0)))), ((f104 1), .inl (cy 1, 6, .inr (.inl (fun _ => 0)))), ((f104 2), .inl (cy 1, 6, .inr (.inl (fun _ => 0)))), ((f104 3), .inl (cy 1, 6, .inr (.inl (fun _ => 0)))), ((f104 4), .inl (cy 1, 6, .inr (.inl (fun _ => 0)))), ((f104 5), .inl (cy 1, 6, .inr (.inl (fun _ => 0)))), (x92, .inr (7, [.ref x105, .int 0])), (x105, .inl (cy 6, 6, .inr (.inr (.inr (.inr (fun i => if i < 6 then some (f106 i) else none)))))), ((f106 0), .inl (cy 1, 6, .inr (.inl (fun _ => 0)))), ((f106 1), .inl (cy 1, 6, .inr (.inl (fun _ => 0)))), ((f106 2), .inl (cy 1, 6, .inr (.inl (fun _ => 0)))), ((f106 3), .inl (cy 1, 6, .inr (.inl (fun _ => 0)))), ((f106 4), .inl (cy 1, 6, .inr (.inl (fun _ => 0)))), ((f106 5), .inl (cy 1, 6, .inr (.inl (fun _ => 0)))), (x93, .inr (2, [.long 0, .long 1])), (x94, .inr (2, [.long 0, .long 1])), (x107, .inl (cy 0, 4, .inl (fun _ => 0))), (x95, .inr (1, [.ref x107, .int (-1), .int 1, .int 1, .int 1, .int 0])), (x108, .inl (cy 0, 4, .inl (fun _ => 0))), (x96, .inr (1, [.ref x108, .int (-1), .int 1, .int 1, .int 1, .int 0])), (x109, .inl (cy 0, 4, .inl (fun _ => 0))), (x97, .inr (1, [.ref x109, .int (-1), .int 1, .int 1, .int 1, .int 0])), (x110, .inl (cy 0, 4, .inl (fun _ => 0))), (x98, .inr (1, [.ref x110, .int (-1), .int 1, .int 1, .int 1, .int 0]))] := by
  simp only [WX4, fw_flat0, fw_flat7, fw_flat2, fw_flat1, List.cons_append, List.nil_append]
set_option maxHeartbeats 2000000 in
set_option maxRecDepth 100000 in
theorem fw_flat8 {cy : Nat → ClassId} {q0 : Nat} {x1 x2 x14 x15 x23 x25 x26 x27 x16 x29 x17 x18 x19 x31 x20 x32 x21 x33 x22 x34 x3 x35 x36 x37 x38 x39 x40 x42 x4 x43 x45 x46 x47 x5 x6 x7 x8 x49 x9 x50 x10 x51 x11 x52 x12 x53 x13 x54 : Nat} {f24 f28 f30 f41 f44 f48 : Nat → Nat} : WX8 cy q0 (x1, x2, (x14, x15, (x23, f24, x25, x26, (x27, f28)), x16, (x29, f30), x17, (), x18, (), x19, x31, x20, x32, x21, x33, x22, x34), x3, (x35, x36, x37, x38, x39, x40, f41, x42), x4, (x43, f44, x45, x46, (x47, f48)), x5, (), x6, (), x7, x8, x49, x9, x50, x10, x51, x11, x52, x12, x53, x13, x54) = [(x7, .inl (cy 0, 6, .inl (fun _ => 0))), (x1, .inl (cy 4, 6, .inr (.inr (.inr (.inr (va_up (va_up (va_up (va_up (va_up (va_up (fun _ => none) 0 (some x8)) 1 (some x9)) 2 (some x10)) 3 (some x11)) 4 (some x12)) 5 (some x13))))))), (q0, .inr (8, [.ref x1, .ref x2, .ref x3, .ref x4, .ref x5, .ref x6, .ref x7, .int 0, .int 0])), (x14, .inl (cy 3, 4, .inr (.inr (.inr (.inr (va_up (va_up (va_up (va_up (fun _ => none) 0 (some x19)) 1 (some x20)) 2 (some x21)) 3 (some x22))))))), (x2, .inr (4, [.ref x14, .ref x15, .ref x16, .ref x17, .ref x18])), (x25, .inl (cy 0, 6, .inl (fun _ => 0))), (x15, .inr (0, [.ref x23, .ref x25, .ref x26, .int 0])), (x23, .inl (cy 5, 6, .inr (.inr (.inr (.inr (fun i => if i < 6 then some (f24 i) else none)))))), ((f24 0), .inl (cy 0, 6, .inl (fun _ => 0))), ((f24 1), .inl (cy 0, 6, .inl (fun _ => 0))), ((f24 2), .inl (cy 0, 6, .inl (fun _ => 0))), ((f24 3), .inl (cy 0, 6, .inl (fun _ => 0))), ((f24 4), .inl (cy 0, 6, .inl (fun _ => 0))), ((f24 5), .inl (cy 0, 6, .inl (fun _ => 0))), (x26, .inr (7, [.ref x27, .int 0])), (x27, .inl (cy 6, 6, .inr (.inr (.inr (.inr (fun i => if i < 6 then some (f28 i) else none)))))), ((f28 0), .inl (cy 1, 6, .inr (.inl (fun _ => 0)))), ((f28 1), .inl (cy 1, 6, .inr (.inl (fun _ => 0)))), ((f28 2), .inl (cy 1, 6, .inr (.inl (fun _ => 0)))), ((f28 3), .inl (cy 1, 6, .inr (.inl (fun _ => 0)))), ((f28 4), .inl (cy 1, 6, .inr (.inl (fun _ => 0)))), ((f28 5), .inl (cy 1, 6, .inr (.inl (fun _ => 0)))), (x16, .inr (7, [.ref x29, .int 0])), (x29, .inl (cy 6, 6, .inr (.inr (.inr (.inr (fun i => if i < 6 then some (f30 i) else none)))))), ((f30 0), .inl (cy 1, 6, .inr (.inl (fun _ => 0)))), ((f30 1), .inl (cy 1, 6, .inr (.inl (fun _ => 0)))), ((f30 2), .inl (cy 1, 6, .inr (.inl (fun _ => 0)))), ((f30 3), .inl (cy 1, 6, .inr (.inl (fun _ => 0)))), ((f30 4), .inl (cy 1, 6, .inr (.inl (fun _ => 0)))), ((f30 5), .inl (cy 1, 6, .inr (.inl (fun _ => 0)))), (x17, .inr (2, [.long 0, .long 1])), (x18, .inr (2, [.long 0, .long 1])), (x31, .inl (cy 0, 4, .inl (fun _ => 0))), (x19, .inr (1, [.ref x31, .int (-1), .int 1, .int 1, .int 1, .int 0])), (x32, .inl (cy 0, 4, .inl (fun _ => 0))), (x20, .inr (1, [.ref x32, .int (-1), .int 1, .int 1, .int 1, .int 0])), (x33, .inl (cy 0, 4, .inl (fun _ => 0))), (x21, .inr (1, [.ref x33, .int (-1), .int 1, .int 1, .int 1, .int 0])), (x34, .inl (cy 0, 4, .inl (fun _ => 0))), (x22, .inr (1, [.ref x34, .int (-1), .int 1, .int 1, .int 1, .int 0])), (x42, .inl (cy 0, 4, .inl (fun _ => 0))), (x39, .inl (cy 1, 4, .inr (.inl (fun _ => 0)))), (x38, .inl (cy 0, 4, .inl (fun _ => 0))), (x37, .inl (cy 0, 4, .inl (fun _ => 0))), (x36, .inl (cy 0, 4, .inl (fun _ => 0))), (x35, .inl (cy 1, 4, .inr (.inl (fun _ => 0)))), (x3, .inr (5, [.ref x35, .ref x36, .ref x37, .ref x38, .ref x39, .ref x40, .ref x42])), (x40, .inl (cy 5, 4, .inr (.inr (.inr (.inr (fun i => if i < 4 then some (f41 i) else none)))))), ((f41 0), .inl (cy 0, 4, .inl (fun _ => 0))), ((f41 1), .inl (cy 0, 4, .inl (fun _ => 0))), ((f41 2), .inl (cy 0, 4, .inl (fun _ => 0))), ((f41 3), .inl (cy 0, 4, .inl (fun _ => 0))), (x45, .inl (cy 0, 6, .inl (fun _ => 0))), (x4, .inr (0, [.ref x43, .ref x45, .ref x46, .int 0])), (x43, .inl (cy 5, 6, .inr (.inr (.inr (.inr (fun i => if i < 6 then some (f44 i) else none)))))), ((f44 0), .inl (cy 0, 6, .inl (fun _ => 0))), ((f44 1), .inl (cy 0, 6, .inl (fun _ => 0))), ((f44 2), .inl (cy 0, 6, .inl (fun _ => 0))), ((f44 3), .inl (cy 0, 6, .inl (fun _ => 0))), ((f44 4), .inl (cy 0, 6, .inl (fun _ => 0))), ((f44 5), .inl (cy 0, 6, .inl (fun _ => 0))), (x46, .inr (7, [.ref x47, .int 0])), (x47, .inl (cy 6, 6, .inr (.inr (.inr (.inr (fun i => if i < 6 then some (f48 i) else none)))))), ((f48 0), .inl (cy 1, 6, .inr (.inl (fun _ => 0)))), ((f48 1), .inl (cy 1, 6, .inr (.inl (fun _ => 0)))), ((f48 2), .inl (cy 1, 6, .inr (.inl (fun _ => 0)))), ((f48 3), .inl (cy 1, 6, .inr (.inl (fun _ => 0)))), ((f48 4), .inl (cy 1, 6, .inr (.inl (fun _ => 0)))), ((f48 5), .inl (cy 1, 6, .inr (.inl (fun _ => 0)))), (x5, .inr (3, [.int 0, .int 0, .int 0])), (x6, .inr (2, [.long 0, .long 1])), (x49, .inl (cy 0, 40, .inl (fun _ => 0))), (x8, .inr (6, [.ref x49, .int (-1)])), (x50, .inl (cy 0, 40, .inl (fun _ => 0))), (x9, .inr (6, [.ref x50, .int (-1)])), (x51, .inl (cy 0, 40, .inl (fun _ => 0))), (x10, .inr (6, [.ref x51, .int (-1)])), (x52, .inl (cy 0, 40, .inl (fun _ => 0))), (x11, .inr (6, [.ref x52, .int (-1)])), (x53, .inl (cy 0, 40, .inl (fun _ => 0))), (x12, .inr (6, [.ref x53, .int (-1)])), (x54, .inl (cy 0, 40, .inl (fun _ => 0))), (x13, .inr (6, [.ref x54, .int (-1)]))] := by
  simp only [WX8, fw_flat4, fw_flat5, fw_flat0, fw_flat3, fw_flat2, fw_flat6, List.cons_append, List.nil_append]
set_option maxHeartbeats 2000000 in
set_option maxRecDepth 100000 in
theorem fw_flat9 {cy : Nat → ClassId} {q1 : Nat} {x55 x56 x57 x58 x59 x60 x61 x62 x63 x64 x65 x66 x67 x68 x69 x70 x71 : Nat} : WX9 cy q1 (x55, x56, x57, x58, x59, x60, x61, x62, x63, x64, x65, x66, x67, x68, x69, x70, x71) = [(x71, .inl (cy 0, 40, .inl (fun _ => 0))), (x70, .inl (cy 0, 4, .inl (fun _ => 0))), (x69, .inl (cy 1, 4, .inr (.inl (fun _ => 0)))), (x68, .inl (cy 1, 36, .inr (.inl (fun _ => 0)))), (x67, .inl (cy 0, 6, .inl (fun _ => 0))), (x66, .inl (cy 1, 36, .inr (.inl (fun _ => 0)))), (x65, .inl (cy 0, 16, .inl (fun _ => 0))), (x64, .inl (cy 0, 4, .inl (fun _ => 0))), (x63, .inl (cy 0, 4, .inl (fun _ => 0))), (x62, .inl (cy 0, 4, .inl (fun _ => 0))), (x61, .inl (cy 0, 4, .inl (fun _ => 0))), (x60, .inl (cy 0, 4, .inl (fun _ => 0))), (x59, .inl (cy 2, 4, .inl (fun _ => 0))), (x58, .inl (cy 0, 40, .inl (fun _ => 0))), (x57, .inl (cy 0, 240, .inl (fun _ => 0))), (x56, .inl (cy 0, 6, .inl (upd (upd (upd (upd (upd (upd (fun _ => 0) 0 (-9)) 1 (-9)) 2 (-9)) 3 (-9)) 4 (-9)) 5 (-9)))), (x55, .inl (cy 0, 6, .inl (fun _ => 0))), (q1, .inr (9, [.int 0, .ref x55, .int 0, .long 0, .long 1, .ref x56, .ref x57, .ref x58, .ref x59, .ref x60, .ref x61, .ref x62, .ref x63, .ref x64, .ref x65, .ref x66, .ref x67, .ref x68, .long 0, .long 0, .ref x69, .ref x70, .int 0, .int 0, .ref x71, .long 0]))] := by
  simp only [WX9, List.cons_append, List.nil_append]
set_option maxHeartbeats 4000000 in
set_option maxRecDepth 100000 in
theorem fw_all {D : va_G} {A : Nat → Prop} {cy : Nat → ClassId} {q0 q1 : Nat} {x1 x2 x14 x15 x23 x25 x26 x27 x16 x29 x17 x18 x19 x31 x20 x32 x21 x33 x22 x34 x3 x35 x36 x37 x38 x39 x40 x42 x4 x43 x45 x46 x47 x5 x6 x7 x8 x49 x9 x50 x10 x51 x11 x52 x12 x53 x13 x54 : Nat} {f24 f28 f30 f41 f44 f48 : Nat → Nat} {x55 x56 x57 x58 x59 x60 x61 x62 x63 x64 x65 x66 x67 x68 x69 x70 x71 : Nat} {H : Heap} (hP : va_P D vwCl [(x7, .inl (cy 0, 6, .inl (fun _ => 0))), (x1, .inl (cy 4, 6, .inr (.inr (.inr (.inr (va_up (va_up (va_up (va_up (va_up (va_up (fun _ => none) 0 (some x8)) 1 (some x9)) 2 (some x10)) 3 (some x11)) 4 (some x12)) 5 (some x13))))))), (q0, .inr (8, [.ref x1, .ref x2, .ref x3, .ref x4, .ref x5, .ref x6, .ref x7, .int 0, .int 0])), (x14, .inl (cy 3, 4, .inr (.inr (.inr (.inr (va_up (va_up (va_up (va_up (fun _ => none) 0 (some x19)) 1 (some x20)) 2 (some x21)) 3 (some x22))))))), (x2, .inr (4, [.ref x14, .ref x15, .ref x16, .ref x17, .ref x18])), (x25, .inl (cy 0, 6, .inl (fun _ => 0))), (x15, .inr (0, [.ref x23, .ref x25, .ref x26, .int 0])), (x23, .inl (cy 5, 6, .inr (.inr (.inr (.inr (fun i => if i < 6 then some (f24 i) else none)))))), ((f24 0), .inl (cy 0, 6, .inl (fun _ => 0))), ((f24 1), .inl (cy 0, 6, .inl (fun _ => 0))), ((f24 2), .inl (cy 0, 6, .inl (fun _ => 0))), ((f24 3), .inl (cy 0, 6, .inl (fun _ => 0))), ((f24 4), .inl (cy 0, 6, .inl (fun _ => 0))), ((f24 5), .inl (cy 0, 6, .inl (fun _ => 0))), (x26, .inr (7, [.ref x27, .int 0])), (x27, .inl (cy 6, 6, .inr (.inr (.inr (.inr (fun i => if i < 6 then some (f28 i) else none)))))), ((f28 0), .inl (cy 1, 6, .inr (.inl (fun _ => 0)))), ((f28 1), .inl (cy 1, 6, .inr (.inl (fun _ => 0)))), ((f28 2), .inl (cy 1, 6, .inr (.inl (fun _ => 0)))), ((f28 3), .inl (cy 1, 6, .inr (.inl (fun _ => 0)))), ((f28 4), .inl (cy 1, 6, .inr (.inl (fun _ => 0)))), ((f28 5), .inl (cy 1, 6, .inr (.inl (fun _ => 0)))), (x16, .inr (7, [.ref x29, .int 0])), (x29, .inl (cy 6, 6, .inr (.inr (.inr (.inr (fun i => if i < 6 then some (f30 i) else none)))))), ((f30 0), .inl (cy 1, 6, .inr (.inl (fun _ => 0)))), ((f30 1), .inl (cy 1, 6, .inr (.inl (fun _ => 0)))), ((f30 2), .inl (cy 1, 6, .inr (.inl (fun _ => 0)))), ((f30 3), .inl (cy 1, 6, .inr (.inl (fun _ => 0)))), ((f30 4), .inl (cy 1, 6, .inr (.inl (fun _ => 0)))), ((f30 5), .inl (cy 1, 6, .inr (.inl (fun _ => 0)))), (x17, .inr (2, [.long 0, .long 1])), (x18, .inr (2, [.long 0, .long 1])), (x31, .inl (cy 0, 4, .inl (fun _ => 0))), (x19, .inr (1, [.ref x31, .int (-1), .int 1, .int 1, .int 1, .int 0])), (x32, .inl (cy 0, 4, .inl (fun _ => 0))), (x20, .inr (1, [.ref x32, .int (-1), .int 1, .int 1, .int 1, .int 0])), (x33, .inl (cy 0, 4, .inl (fun _ => 0))), (x21, .inr (1, [.ref x33, .int (-1), .int 1, .int 1, .int 1, .int 0])), (x34, .inl (cy 0, 4, .inl (fun _ => 0))), (x22, .inr (1, [.ref x34, .int (-1), .int 1, .int 1, .int 1, .int 0])), (x42, .inl (cy 0, 4, .inl (fun _ => 0))), (x39, .inl (cy 1, 4, .inr (.inl (fun _ => 0)))), (x38, .inl (cy 0, 4, .inl (fun _ => 0))), (x37, .inl (cy 0, 4, .inl (fun _ => 0))), (x36, .inl (cy 0, 4, .inl (fun _ => 0))), (x35, .inl (cy 1, 4, .inr (.inl (fun _ => 0)))), (x3, .inr (5, [.ref x35, .ref x36, .ref x37, .ref x38, .ref x39, .ref x40, .ref x42])), (x40, .inl (cy 5, 4, .inr (.inr (.inr (.inr (fun i => if i < 4 then some (f41 i) else none)))))), ((f41 0), .inl (cy 0, 4, .inl (fun _ => 0))), ((f41 1), .inl (cy 0, 4, .inl (fun _ => 0))), ((f41 2), .inl (cy 0, 4, .inl (fun _ => 0))), ((f41 3), .inl (cy 0, 4, .inl (fun _ => 0))), (x45, .inl (cy 0, 6, .inl (fun _ => 0))), (x4, .inr (0, [.ref x43, .ref x45, .ref x46, .int 0])), (x43, .inl (cy 5, 6, .inr (.inr (.inr (.inr (fun i => if i < 6 then some (f44 i) else none)))))), ((f44 0), .inl (cy 0, 6, .inl (fun _ => 0))), ((f44 1), .inl (cy 0, 6, .inl (fun _ => 0))), ((f44 2), .inl (cy 0, 6, .inl (fun _ => 0))), ((f44 3), .inl (cy 0, 6, .inl (fun _ => 0))), ((f44 4), .inl (cy 0, 6, .inl (fun _ => 0))), ((f44 5), .inl (cy 0, 6, .inl (fun _ => 0))), (x46, .inr (7, [.ref x47, .int 0])), (x47, .inl (cy 6, 6, .inr (.inr (.inr (.inr (fun i => if i < 6 then some (f48 i) else none)))))), ((f48 0), .inl (cy 1, 6, .inr (.inl (fun _ => 0)))), ((f48 1), .inl (cy 1, 6, .inr (.inl (fun _ => 0)))), ((f48 2), .inl (cy 1, 6, .inr (.inl (fun _ => 0)))), ((f48 3), .inl (cy 1, 6, .inr (.inl (fun _ => 0)))), ((f48 4), .inl (cy 1, 6, .inr (.inl (fun _ => 0)))), ((f48 5), .inl (cy 1, 6, .inr (.inl (fun _ => 0)))), (x5, .inr (3, [.int 0, .int 0, .int 0])), (x6, .inr (2, [.long 0, .long 1])), (x49, .inl (cy 0, 40, .inl (fun _ => 0))), (x8, .inr (6, [.ref x49, .int (-1)])), (x50, .inl (cy 0, 40, .inl (fun _ => 0))), (x9, .inr (6, [.ref x50, .int (-1)])), (x51, .inl (cy 0, 40, .inl (fun _ => 0))), (x10, .inr (6, [.ref x51, .int (-1)])), (x52, .inl (cy 0, 40, .inl (fun _ => 0))), (x11, .inr (6, [.ref x52, .int (-1)])), (x53, .inl (cy 0, 40, .inl (fun _ => 0))), (x12, .inr (6, [.ref x53, .int (-1)])), (x54, .inl (cy 0, 40, .inl (fun _ => 0))), (x13, .inr (6, [.ref x54, .int (-1)])), (x71, .inl (cy 0, 40, .inl (fun _ => 0))), (x70, .inl (cy 0, 4, .inl (fun _ => 0))), (x69, .inl (cy 1, 4, .inr (.inl (fun _ => 0)))), (x68, .inl (cy 1, 36, .inr (.inl (fun _ => 0)))), (x67, .inl (cy 0, 6, .inl (fun _ => 0))), (x66, .inl (cy 1, 36, .inr (.inl (fun _ => 0)))), (x65, .inl (cy 0, 16, .inl (fun _ => 0))), (x64, .inl (cy 0, 4, .inl (fun _ => 0))), (x63, .inl (cy 0, 4, .inl (fun _ => 0))), (x62, .inl (cy 0, 4, .inl (fun _ => 0))), (x61, .inl (cy 0, 4, .inl (fun _ => 0))), (x60, .inl (cy 0, 4, .inl (fun _ => 0))), (x59, .inl (cy 2, 4, .inl (fun _ => 0))), (x58, .inl (cy 0, 40, .inl (fun _ => 0))), (x57, .inl (cy 0, 240, .inl (fun _ => 0))), (x56, .inl (cy 0, 6, .inl (upd (upd (upd (upd (upd (upd (fun _ => 0) 0 (-9)) 1 (-9)) 2 (-9)) 3 (-9)) 4 (-9)) 5 (-9)))), (x55, .inl (cy 0, 6, .inl (fun _ => 0))), (q1, .inr (9, [.int 0, .ref x55, .int 0, .long 0, .long 1, .ref x56, .ref x57, .ref x58, .ref x59, .ref x60, .ref x61, .ref x62, .ref x63, .ref x64, .ref x65, .ref x66, .ref x67, .ref x68, .long 0, .long 0, .ref x69, .ref x70, .int 0, .int 0, .ref x71, .long 0]))] H) (hD : va_D A [(x7, .inl (cy 0, 6, .inl (fun _ => 0))), (x1, .inl (cy 4, 6, .inr (.inr (.inr (.inr (va_up (va_up (va_up (va_up (va_up (va_up (fun _ => none) 0 (some x8)) 1 (some x9)) 2 (some x10)) 3 (some x11)) 4 (some x12)) 5 (some x13))))))), (q0, .inr (8, [.ref x1, .ref x2, .ref x3, .ref x4, .ref x5, .ref x6, .ref x7, .int 0, .int 0])), (x14, .inl (cy 3, 4, .inr (.inr (.inr (.inr (va_up (va_up (va_up (va_up (fun _ => none) 0 (some x19)) 1 (some x20)) 2 (some x21)) 3 (some x22))))))), (x2, .inr (4, [.ref x14, .ref x15, .ref x16, .ref x17, .ref x18])), (x25, .inl (cy 0, 6, .inl (fun _ => 0))), (x15, .inr (0, [.ref x23, .ref x25, .ref x26, .int 0])), (x23, .inl (cy 5, 6, .inr (.inr (.inr (.inr (fun i => if i < 6 then some (f24 i) else none)))))), ((f24 0), .inl (cy 0, 6, .inl (fun _ => 0))), ((f24 1), .inl (cy 0, 6, .inl (fun _ => 0))), ((f24 2), .inl (cy 0, 6, .inl (fun _ => 0))), ((f24 3), .inl (cy 0, 6, .inl (fun _ => 0))), ((f24 4), .inl (cy 0, 6, .inl (fun _ => 0))), ((f24 5), .inl (cy 0, 6, .inl (fun _ => 0))), (x26, .inr (7, [.ref x27, .int 0])), (x27, .inl (cy 6, 6, .inr (.inr (.inr (.inr (fun i => if i < 6 then some (f28 i) else none)))))), ((f28 0), .inl (cy 1, 6, .inr (.inl (fun _ => 0)))), ((f28 1), .inl (cy 1, 6, .inr (.inl (fun _ => 0)))), ((f28 2), .inl (cy 1, 6, .inr (.inl (fun _ => 0)))), ((f28 3), .inl (cy 1, 6, .inr (.inl (fun _ => 0)))), ((f28 4), .inl (cy 1, 6, .inr (.inl (fun _ => 0)))), ((f28 5), .inl (cy 1, 6, .inr (.inl (fun _ => 0)))), (x16, .inr (7, [.ref x29, .int 0])), (x29, .inl (cy 6, 6, .inr (.inr (.inr (.inr (fun i => if i < 6 then some (f30 i) else none)))))), ((f30 0), .inl (cy 1, 6, .inr (.inl (fun _ => 0)))), ((f30 1), .inl (cy 1, 6, .inr (.inl (fun _ => 0)))), ((f30 2), .inl (cy 1, 6, .inr (.inl (fun _ => 0)))), ((f30 3), .inl (cy 1, 6, .inr (.inl (fun _ => 0)))), ((f30 4), .inl (cy 1, 6, .inr (.inl (fun _ => 0)))), ((f30 5), .inl (cy 1, 6, .inr (.inl (fun _ => 0)))), (x17, .inr (2, [.long 0, .long 1])), (x18, .inr (2, [.long 0, .long 1])), (x31, .inl (cy 0, 4, .inl (fun _ => 0))), (x19, .inr (1, [.ref x31, .int (-1), .int 1, .int 1, .int 1, .int 0])), (x32, .inl (cy 0, 4, .inl (fun _ => 0))), (x20, .inr (1, [.ref x32, .int (-1), .int 1, .int 1, .int 1, .int 0])), (x33, .inl (cy 0, 4, .inl (fun _ => 0))), (x21, .inr (1, [.ref x33, .int (-1), .int 1, .int 1, .int 1, .int 0])), (x34, .inl (cy 0, 4, .inl (fun _ => 0))), (x22, .inr (1, [.ref x34, .int (-1), .int 1, .int 1, .int 1, .int 0])), (x42, .inl (cy 0, 4, .inl (fun _ => 0))), (x39, .inl (cy 1, 4, .inr (.inl (fun _ => 0)))), (x38, .inl (cy 0, 4, .inl (fun _ => 0))), (x37, .inl (cy 0, 4, .inl (fun _ => 0))), (x36, .inl (cy 0, 4, .inl (fun _ => 0))), (x35, .inl (cy 1, 4, .inr (.inl (fun _ => 0)))), (x3, .inr (5, [.ref x35, .ref x36, .ref x37, .ref x38, .ref x39, .ref x40, .ref x42])), (x40, .inl (cy 5, 4, .inr (.inr (.inr (.inr (fun i => if i < 4 then some (f41 i) else none)))))), ((f41 0), .inl (cy 0, 4, .inl (fun _ => 0))), ((f41 1), .inl (cy 0, 4, .inl (fun _ => 0))), ((f41 2), .inl (cy 0, 4, .inl (fun _ => 0))), ((f41 3), .inl (cy 0, 4, .inl (fun _ => 0))), (x45, .inl (cy 0, 6, .inl (fun _ => 0))), (x4, .inr (0, [.ref x43, .ref x45, .ref x46, .int 0])), (x43, .inl (cy 5, 6, .inr (.inr (.inr (.inr (fun i => if i < 6 then some (f44 i) else none)))))), ((f44 0), .inl (cy 0, 6, .inl (fun _ => 0))), ((f44 1), .inl (cy 0, 6, .inl (fun _ => 0))), ((f44 2), .inl (cy 0, 6, .inl (fun _ => 0))), ((f44 3), .inl (cy 0, 6, .inl (fun _ => 0))), ((f44 4), .inl (cy 0, 6, .inl (fun _ => 0))), ((f44 5), .inl (cy 0, 6, .inl (fun _ => 0))), (x46, .inr (7, [.ref x47, .int 0])), (x47, .inl (cy 6, 6, .inr (.inr (.inr (.inr (fun i => if i < 6 then some (f48 i) else none)))))), ((f48 0), .inl (cy 1, 6, .inr (.inl (fun _ => 0)))), ((f48 1), .inl (cy 1, 6, .inr (.inl (fun _ => 0)))), ((f48 2), .inl (cy 1, 6, .inr (.inl (fun _ => 0)))), ((f48 3), .inl (cy 1, 6, .inr (.inl (fun _ => 0)))), ((f48 4), .inl (cy 1, 6, .inr (.inl (fun _ => 0)))), ((f48 5), .inl (cy 1, 6, .inr (.inl (fun _ => 0)))), (x5, .inr (3, [.int 0, .int 0, .int 0])), (x6, .inr (2, [.long 0, .long 1])), (x49, .inl (cy 0, 40, .inl (fun _ => 0))), (x8, .inr (6, [.ref x49, .int (-1)])), (x50, .inl (cy 0, 40, .inl (fun _ => 0))), (x9, .inr (6, [.ref x50, .int (-1)])), (x51, .inl (cy 0, 40, .inl (fun _ => 0))), (x10, .inr (6, [.ref x51, .int (-1)])), (x52, .inl (cy 0, 40, .inl (fun _ => 0))), (x11, .inr (6, [.ref x52, .int (-1)])), (x53, .inl (cy 0, 40, .inl (fun _ => 0))), (x12, .inr (6, [.ref x53, .int (-1)])), (x54, .inl (cy 0, 40, .inl (fun _ => 0))), (x13, .inr (6, [.ref x54, .int (-1)])), (x71, .inl (cy 0, 40, .inl (fun _ => 0))), (x70, .inl (cy 0, 4, .inl (fun _ => 0))), (x69, .inl (cy 1, 4, .inr (.inl (fun _ => 0)))), (x68, .inl (cy 1, 36, .inr (.inl (fun _ => 0)))), (x67, .inl (cy 0, 6, .inl (fun _ => 0))), (x66, .inl (cy 1, 36, .inr (.inl (fun _ => 0)))), (x65, .inl (cy 0, 16, .inl (fun _ => 0))), (x64, .inl (cy 0, 4, .inl (fun _ => 0))), (x63, .inl (cy 0, 4, .inl (fun _ => 0))), (x62, .inl (cy 0, 4, .inl (fun _ => 0))), (x61, .inl (cy 0, 4, .inl (fun _ => 0))), (x60, .inl (cy 0, 4, .inl (fun _ => 0))), (x59, .inl (cy 2, 4, .inl (fun _ => 0))), (x58, .inl (cy 0, 40, .inl (fun _ => 0))), (x57, .inl (cy 0, 240, .inl (fun _ => 0))), (x56, .inl (cy 0, 6, .inl (upd (upd (upd (upd (upd (upd (fun _ => 0) 0 (-9)) 1 (-9)) 2 (-9)) 3 (-9)) 4 (-9)) 5 (-9)))), (x55, .inl (cy 0, 6, .inl (fun _ => 0))), (q1, .inr (9, [.int 0, .ref x55, .int 0, .long 0, .long 1, .ref x56, .ref x57, .ref x58, .ref x59, .ref x60, .ref x61, .ref x62, .ref x63, .ref x64, .ref x65, .ref x66, .ref x67, .ref x68, .long 0, .long 0, .ref x69, .ref x70, .int 0, .int 0, .ref x71, .long 0]))]) : ∃ ad : Nat → Nat, ad 0 = q0 ∧ ad 1 = q1 ∧ wn_J ad ∧ (∀ k, k < 101 → A (ad k)) ∧ va_P D vwCl (wn_W cy ad M00) H := by
  obtain ⟨hJ, hA⟩ := ad_J2 rfl hD
  clear hD
  generalize had : (fun k => (List.map Prod.fst ([(x7, .inl (cy 0, 6, .inl (fun _ => 0))), (x1, .inl (cy 4, 6, .inr (.inr (.inr (.inr (va_up (va_up (va_up (va_up (va_up (va_up (fun _ => none) 0 (some x8)) 1 (some x9)) 2 (some x10)) 3 (some x11)) 4 (some x12)) 5 (some x13))))))), (q0, .inr (8, [.ref x1, .ref x2, .ref x3, .ref x4, .ref x5, .ref x6, .ref x7, .int 0, .int 0])), (x14, .inl (cy 3, 4, .inr (.inr (.inr (.inr (va_up (va_up (va_up (va_up (fun _ => none) 0 (some x19)) 1 (some x20)) 2 (some x21)) 3 (some x22))))))), (x2, .inr (4, [.ref x14, .ref x15, .ref x16, .ref x17, .ref x18])), (x25, .inl (cy 0, 6, .inl (fun _ => 0))), (x15, .inr (0, [.ref x23, .ref x25, .ref x26, .int 0])), (x23, .inl (cy 5, 6, .inr (.inr (.inr (.inr (fun i => if i < 6 then some (f24 i) else none)))))), ((f24 0), .inl (cy 0, 6, .inl (fun _ => 0))), ((f24 1), .inl (cy 0, 6, .inl (fun _ => 0))), ((f24 2), .inl (cy 0, 6, .inl (fun _ => 0))), ((f24 3), .inl (cy 0, 6, .inl (fun _ => 0))), ((f24 4), .inl (cy 0, 6, .inl (fun _ => 0))), ((f24 5), .inl (cy 0, 6, .inl (fun _ => 0))), (x26, .inr (7, [.ref x27, .int 0])), (x27, .inl (cy 6, 6, .inr (.inr (.inr (.inr (fun i => if i < 6 then some (f28 i) else none)))))), ((f28 0), .inl (cy 1, 6, .inr (.inl (fun _ => 0)))), ((f28 1), .inl (cy 1, 6, .inr (.inl (fun _ => 0)))), ((f28 2), .inl (cy 1, 6, .inr (.inl (fun _ => 0)))), ((f28 3), .inl (cy 1, 6, .inr (.inl (fun _ => 0)))), ((f28 4), .inl (cy 1, 6, .inr (.inl (fun _ => 0)))), ((f28 5), .inl (cy 1, 6, .inr (.inl (fun _ => 0)))), (x16, .inr (7, [.ref x29, .int 0])), (x29, .inl (cy 6, 6, .inr (.inr (.inr (.inr (fun i => if i < 6 then some (f30 i) else none)))))), ((f30 0), .inl (cy 1, 6, .inr (.inl (fun _ => 0)))), ((f30 1), .inl (cy 1, 6, .inr (.inl (fun _ => 0)))), ((f30 2), .inl (cy 1, 6, .inr (.inl (fun _ => 0)))), ((f30 3), .inl (cy 1, 6, .inr (.inl (fun _ => 0)))), ((f30 4), .inl (cy 1, 6, .inr (.inl (fun _ => 0)))), ((f30 5), .inl (cy 1, 6, .inr (.inl (fun _ => 0)))), (x17, .inr (2, [.long 0, .long 1])), (x18, .inr (2, [.long 0, .long 1])), (x31, .inl (cy 0, 4, .inl (fun _ => 0))), (x19, .inr (1, [.ref x31, .int (-1), .int 1, .int 1, .int 1, .int 0])), (x32, .inl (cy 0, 4, .inl (fun _ => 0))), (x20, .inr (1, [.ref x32, .int (-1), .int 1, .int 1, .int 1, .int 0])), (x33, .inl (cy 0, 4, .inl (fun _ => 0))), (x21, .inr (1, [.ref x33, .int (-1), .int 1, .int 1, .int 1, .int 0])), (x34, .inl (cy 0, 4, .inl (fun _ => 0))), (x22, .inr (1, [.ref x34, .int (-1), .int 1, .int 1, .int 1, .int 0])), (x42, .inl (cy 0, 4, .inl (fun _ => 0))), (x39, .inl (cy 1, 4, .inr (.inl (fun _ => 0)))), (x38, .inl (cy 0, 4, .inl (fun _ => 0))), (x37, .inl (cy 0, 4, .inl (fun _ => 0))), (x36, .inl (cy 0, 4, .inl (fun _ => 0))), (x35, .inl (cy 1, 4, .inr (.inl (fun _ => 0)))), (x3, .inr (5, [.ref x35, .ref x36, .ref x37, .ref x38, .ref x39, .ref x40, .ref x42])), (x40, .inl (cy 5, 4, .inr (.inr (.inr (.inr (fun i => if i < 4 then some (f41 i) else none)))))), ((f41 0), .inl (cy 0, 4, .inl (fun _ => 0))), ((f41 1), .inl (cy 0, 4, .inl (fun _ => 0))), ((f41 2), .inl (cy 0, 4, .inl (fun _ => 0))), ((f41 3), .inl (cy 0, 4, .inl (fun _ => 0))), (x45, .inl (cy 0, 6, .inl (fun _ => 0))), (x4, .inr (0, [.ref x43, .ref x45, .ref x46, .int 0])), (x43, .inl (cy 5, 6, .inr (.inr (.inr (.inr (fun i => if i < 6 then some (f44 i) else none)))))), ((f44 0), .inl (cy 0, 6, .inl (fun _ => 0))), ((f44 1), .inl (cy 0, 6, .inl (fun _ => 0))), ((f44 2), .inl (cy 0, 6, .inl (fun _ => 0))), ((f44 3), .inl (cy 0, 6, .inl (fun _ => 0))), ((f44 4), .inl (cy 0, 6, .inl (fun _ => 0))), ((f44 5), .inl (cy 0, 6, .inl (fun _ => 0))), (x46, .inr (7, [.ref x47, .int 0])), (x47, .inl (cy 6, 6, .inr (.inr (.inr (.inr (fun i => if i < 6 then some (f48 i) else none)))))), ((f48 0), .inl (cy 1, 6, .inr (.inl (fun _ => 0)))), ((f48 1), .inl (cy 1, 6, .inr (.inl (fun _ => 0)))), ((f48 2), .inl (cy 1, 6, .inr (.inl (fun _ => 0)))), ((f48 3), .inl (cy 1, 6, .inr (.inl (fun _ => 0)))), ((f48 4), .inl (cy 1, 6, .inr (.inl (fun _ => 0)))), ((f48 5), .inl (cy 1, 6, .inr (.inl (fun _ => 0)))), (x5, .inr (3, [.int 0, .int 0, .int 0])), (x6, .inr (2, [.long 0, .long 1])), (x49, .inl (cy 0, 40, .inl (fun _ => 0))), (x8, .inr (6, [.ref x49, .int (-1)])), (x50, .inl (cy 0, 40, .inl (fun _ => 0))), (x9, .inr (6, [.ref x50, .int (-1)])), (x51, .inl (cy 0, 40, .inl (fun _ => 0))), (x10, .inr (6, [.ref x51, .int (-1)])), (x52, .inl (cy 0, 40, .inl (fun _ => 0))), (x11, .inr (6, [.ref x52, .int (-1)])), (x53, .inl (cy 0, 40, .inl (fun _ => 0))), (x12, .inr (6, [.ref x53, .int (-1)])), (x54, .inl (cy 0, 40, .inl (fun _ => 0))), (x13, .inr (6, [.ref x54, .int (-1)])), (x71, .inl (cy 0, 40, .inl (fun _ => 0))), (x70, .inl (cy 0, 4, .inl (fun _ => 0))), (x69, .inl (cy 1, 4, .inr (.inl (fun _ => 0)))), (x68, .inl (cy 1, 36, .inr (.inl (fun _ => 0)))), (x67, .inl (cy 0, 6, .inl (fun _ => 0))), (x66, .inl (cy 1, 36, .inr (.inl (fun _ => 0)))), (x65, .inl (cy 0, 16, .inl (fun _ => 0))), (x64, .inl (cy 0, 4, .inl (fun _ => 0))), (x63, .inl (cy 0, 4, .inl (fun _ => 0))), (x62, .inl (cy 0, 4, .inl (fun _ => 0))), (x61, .inl (cy 0, 4, .inl (fun _ => 0))), (x60, .inl (cy 0, 4, .inl (fun _ => 0))), (x59, .inl (cy 2, 4, .inl (fun _ => 0))), (x58, .inl (cy 0, 40, .inl (fun _ => 0))), (x57, .inl (cy 0, 240, .inl (fun _ => 0))), (x56, .inl (cy 0, 6, .inl (upd (upd (upd (upd (upd (upd (fun _ => 0) 0 (-9)) 1 (-9)) 2 (-9)) 3 (-9)) 4 (-9)) 5 (-9)))), (x55, .inl (cy 0, 6, .inl (fun _ => 0))), (q1, .inr (9, [.int 0, .ref x55, .int 0, .long 0, .long 1, .ref x56, .ref x57, .ref x58, .ref x59, .ref x60, .ref x61, .ref x62, .ref x63, .ref x64, .ref x65, .ref x66, .ref x67, .ref x68, .long 0, .long 0, .ref x69, .ref x70, .int 0, .int 0, .ref x71, .long 0]))] : va_W)).getD (pos_ k) 0) = ad at hJ
  have e0 : ad 0 = q0 := by rw [← had]; rfl
  have e1 : ad 1 = q1 := by rw [← had]; rfl
  have e2 : ad 2 = x1 := by rw [← had]; rfl
  have e3 : ad 3 = x7 := by rw [← had]; rfl
  have e4 : ad 4 = x2 := by rw [← had]; rfl
  have e5 : ad 5 = x3 := by rw [← had]; rfl
  have e6 : ad 6 = x5 := by rw [← had]; rfl
  have e7 : ad 7 = x6 := by rw [← had]; rfl
  have e8 : ad 8 = x17 := by rw [← had]; rfl
  have e9 : ad 9 = x18 := by rw [← had]; rfl
  have e10 : ad 10 = x8 := by rw [← had]; rfl
  have e11 : ad 11 = x9 := by rw [← had]; rfl
  have e12 : ad 12 = x10 := by rw [← had]; rfl
  have e13 : ad 13 = x11 := by rw [← had]; rfl
  have e14 : ad 14 = x12 := by rw [← had]; rfl
  have e15 : ad 15 = x13 := by rw [← had]; rfl
  have e16 : ad 16 = x49 := by rw [← had]; rfl
  have e17 : ad 17 = x50 := by rw [← had]; rfl
  have e18 : ad 18 = x51 := by rw [← had]; rfl
  have e19 : ad 19 = x52 := by rw [← had]; rfl
  have e20 : ad 20 = x53 := by rw [← had]; rfl
  have e21 : ad 21 = x54 := by rw [← had]; rfl
  have e22 : ad 22 = x14 := by rw [← had]; rfl
  have e23 : ad 23 = x19 := by rw [← had]; rfl
  have e24 : ad 24 = x20 := by rw [← had]; rfl
  have e25 : ad 25 = x21 := by rw [← had]; rfl
  have e26 : ad 26 = x22 := by rw [← had]; rfl
  have e27 : ad 27 = x31 := by rw [← had]; rfl
  have e28 : ad 28 = x32 := by rw [← had]; rfl
  have e29 : ad 29 = x33 := by rw [← had]; rfl
  have e30 : ad 30 = x34 := by rw [← had]; rfl
  have e31 : ad 31 = x15 := by rw [← had]; rfl
  have e32 : ad 32 = x4 := by rw [← had]; rfl
  have e33 : ad 33 = x23 := by rw [← had]; rfl
  have e34 : ad 34 = x43 := by rw [← had]; rfl
  have e35 : ad 35 = x25 := by rw [← had]; rfl
  have e36 : ad 36 = x45 := by rw [← had]; rfl
  have e37 : ad 37 = x26 := by rw [← had]; rfl
  have e38 : ad 38 = x46 := by rw [← had]; rfl
  have e39 : ad 39 = x16 := by rw [← had]; rfl
  have e40 : ad 40 = x27 := by rw [← had]; rfl
  have e41 : ad 41 = x47 := by rw [← had]; rfl
  have e42 : ad 42 = x29 := by rw [← had]; rfl
  have e43 : ad 43 = (f28 0) := by rw [← had]; rfl
  have e44 : ad 44 = (f28 1) := by rw [← had]; rfl
  have e45 : ad 45 = (f28 2) := by rw [← had]; rfl
  have e46 : ad 46 = (f28 3) := by rw [← had]; rfl
  have e47 : ad 47 = (f28 4) := by rw [← had]; rfl
  have e48 : ad 48 = (f28 5) := by rw [← had]; rfl
  have e49 : ad 49 = (f48 0) := by rw [← had]; rfl
  have e50 : ad 50 = (f48 1) := by rw [← had]; rfl
  have e51 : ad 51 = (f48 2) := by rw [← had]; rfl
  have e52 : ad 52 = (f48 3) := by rw [← had]; rfl
  have e53 : ad 53 = (f48 4) := by rw [← had]; rfl
  have e54 : ad 54 = (f48 5) := by rw [← had]; rfl
  have e55 : ad 55 = (f30 0) := by rw [← had]; rfl
  have e56 : ad 56 = (f30 1) := by rw [← had]; rfl
  have e57 : ad 57 = (f30 2) := by rw [← had]; rfl
  have e58 : ad 58 = (f30 3) := by rw [← had]; rfl
  have e59 : ad 59 = (f30 4) := by rw [← had]; rfl
  have e60 : ad 60 = (f30 5) := by rw [← had]; rfl
  have e61 : ad 61 = (f24 0) := by rw [← had]; rfl
  have e62 : ad 62 = (f24 1) := by rw [← had]; rfl
  have e63 : ad 63 = (f24 2) := by rw [← had]; rfl
  have e64 : ad 64 = (f24 3) := by rw [← had]; rfl
  have e65 : ad 65 = (f24 4) := by rw [← had]; rfl
  have e66 : ad 66 = (f24 5) := by rw [← had]; rfl
  have e67 : ad 67 = (f44 0) := by rw [← had]; rfl
  have e68 : ad 68 = (f44 1) := by rw [← had]; rfl
  have e69 : ad 69 = (f44 2) := by rw [← had]; rfl
  have e70 : ad 70 = (f44 3) := by rw [← had]; rfl
  have e71 : ad 71 = (f44 4) := by rw [← had]; rfl
  have e72 : ad 72 = (f44 5) := by rw [← had]; rfl
  have e73 : ad 73 = x35 := by rw [← had]; rfl
  have e74 : ad 74 = x36 := by rw [← had]; rfl
  have e75 : ad 75 = x37 := by rw [← had]; rfl
  have e76 : ad 76 = x38 := by rw [← had]; rfl
  have e77 : ad 77 = x39 := by rw [← had]; rfl
  have e78 : ad 78 = x40 := by rw [← had]; rfl
  have e79 : ad 79 = (f41 0) := by rw [← had]; rfl
  have e80 : ad 80 = (f41 1) := by rw [← had]; rfl
  have e81 : ad 81 = (f41 2) := by rw [← had]; rfl
  have e82 : ad 82 = (f41 3) := by rw [← had]; rfl
  have e83 : ad 83 = x42 := by rw [← had]; rfl
  have e84 : ad 84 = x55 := by rw [← had]; rfl
  have e85 : ad 85 = x56 := by rw [← had]; rfl
  have e86 : ad 86 = x57 := by rw [← had]; rfl
  have e87 : ad 87 = x58 := by rw [← had]; rfl
  have e88 : ad 88 = x59 := by rw [← had]; rfl
  have e89 : ad 89 = x60 := by rw [← had]; rfl
  have e90 : ad 90 = x61 := by rw [← had]; rfl
  have e91 : ad 91 = x62 := by rw [← had]; rfl
  have e92 : ad 92 = x63 := by rw [← had]; rfl
  have e93 : ad 93 = x64 := by rw [← had]; rfl
  have e94 : ad 94 = x65 := by rw [← had]; rfl
  have e95 : ad 95 = x66 := by rw [← had]; rfl
  have e96 : ad 96 = x67 := by rw [← had]; rfl
  have e97 : ad 97 = x68 := by rw [← had]; rfl
  have e98 : ad 98 = x69 := by rw [← had]; rfl
  have e99 : ad 99 = x70 := by rw [← had]; rfl
  have e100 : ad 100 = x71 := by rw [← had]; rfl
  have hA : ∀ k, k < 101 → A (ad k) := fun k hk => by rw [← had]; exact hA k hk
  clear had
  refine ⟨ad, e0, e1, hJ, hA, ?_⟩
  exact world_x e0 e1 e2 e3 e4 e5 e6 e7 e8 e9 e10 e11 e12 e13 e14 e15 e16 e17 e18 e19 e20 e21 e22 e23 e24 e25 e26 e27 e28 e29 e30 e31 e32 e33 e34 e35 e36 e37 e38 e39 e40 e41 e42 e43 e44 e45 e46 e47 e48 e49 e50 e51 e52 e53 e54 e55 e56 e57 e58 e59 e60 e61 e62 e63 e64 e65 e66 e67 e68 e69 e70 e71 e72 e73 e74 e75 e76 e77 e78 e79 e80 e81 e82 e83 e84 e85 e86 e87 e88 e89 e90 e91 e92 e93 e94 e95 e96 e97 e98 e99 e100 hP (fun i hi => by
    rcases (show i = 0 ∨ i = 1 ∨ i = 2 ∨ i = 3 ∨ i = 4 ∨ i = 5 by omega) with rfl | rfl | rfl | rfl | rfl | rfl
    · exact congrArg some e10.symm
    · exact congrArg some e11.symm
    · exact congrArg some e12.symm
    · exact congrArg some e13.symm
    · exact congrArg some e14.symm
    · exact congrArg some e15.symm
    ) (fun i hi => by
    rcases (show i = 0 ∨ i = 1 ∨ i = 2 ∨ i = 3 by omega) with rfl | rfl | rfl | rfl
    · exact congrArg some e23.symm
    · exact congrArg some e24.symm
    · exact congrArg some e25.symm
    · exact congrArg some e26.symm
    ) (fun i hi => by
    rcases (show i = 0 ∨ i = 1 ∨ i = 2 ∨ i = 3 ∨ i = 4 ∨ i = 5 by omega) with rfl | rfl | rfl | rfl | rfl | rfl
    · exact congrArg some e61.symm
    · exact congrArg some e62.symm
    · exact congrArg some e63.symm
    · exact congrArg some e64.symm
    · exact congrArg some e65.symm
    · exact congrArg some e66.symm
    ) (fun i hi => by
    rcases (show i = 0 ∨ i = 1 ∨ i = 2 ∨ i = 3 ∨ i = 4 ∨ i = 5 by omega) with rfl | rfl | rfl | rfl | rfl | rfl
    · exact congrArg some e67.symm
    · exact congrArg some e68.symm
    · exact congrArg some e69.symm
    · exact congrArg some e70.symm
    · exact congrArg some e71.symm
    · exact congrArg some e72.symm
    ) (fun i hi => by
    rcases (show i = 0 ∨ i = 1 ∨ i = 2 ∨ i = 3 ∨ i = 4 ∨ i = 5 by omega) with rfl | rfl | rfl | rfl | rfl | rfl
    · exact congrArg some e43.symm
    · exact congrArg some e44.symm
    · exact congrArg some e45.symm
    · exact congrArg some e46.symm
    · exact congrArg some e47.symm
    · exact congrArg some e48.symm
    ) (fun i hi => by
    rcases (show i = 0 ∨ i = 1 ∨ i = 2 ∨ i = 3 ∨ i = 4 ∨ i = 5 by omega) with rfl | rfl | rfl | rfl | rfl | rfl
    · exact congrArg some e49.symm
    · exact congrArg some e50.symm
    · exact congrArg some e51.symm
    · exact congrArg some e52.symm
    · exact congrArg some e53.symm
    · exact congrArg some e54.symm
    ) (fun i hi => by
    rcases (show i = 0 ∨ i = 1 ∨ i = 2 ∨ i = 3 ∨ i = 4 ∨ i = 5 by omega) with rfl | rfl | rfl | rfl | rfl | rfl
    · exact congrArg some e55.symm
    · exact congrArg some e56.symm
    · exact congrArg some e57.symm
    · exact congrArg some e58.symm
    · exact congrArg some e59.symm
    · exact congrArg some e60.symm
    ) (fun i hi => by
    rcases (show i = 0 ∨ i = 1 ∨ i = 2 ∨ i = 3 by omega) with rfl | rfl | rfl | rfl
    · exact congrArg some e79.symm
    · exact congrArg some e80.symm
    · exact congrArg some e81.symm
    · exact congrArg some e82.symm
    ) (fun i hi => by rcases (show i = 0 ∨ i = 1 ∨ i = 2 ∨ i = 3 ∨ i = 4 ∨ i = 5 by omega) with rfl | rfl | rfl | rfl | rfl | rfl <;> rfl)
set_option maxHeartbeats 2000000 in
set_option maxRecDepth 100000 in
theorem first_world {D : va_G} {A : Nat → Prop} {cy : Nat → ClassId} {q0 q1 : Nat} {u8 : SX8} {u9 : SX9} {H : Heap} (hP : va_P D vwCl (WX8 cy q0 u8 ++ WX9 cy q1 u9) H) (hD : va_D A (WX8 cy q0 u8 ++ WX9 cy q1 u9)) : ∃ ad : Nat → Nat, ad 0 = q0 ∧ ad 1 = q1 ∧ wn_J ad ∧ (∀ k, k < 101 → A (ad k)) ∧ va_P D vwCl (wn_W cy ad M00) H := by
  obtain ⟨x1, x2, ⟨x14, x15, ⟨x23, f24, x25, x26, ⟨x27, f28⟩⟩, x16, ⟨x29, f30⟩, x17, ⟨⟩, x18, ⟨⟩, x19, x31, x20, x32, x21, x33, x22, x34⟩, x3, ⟨x35, x36, x37, x38, x39, x40, f41, x42⟩, x4, ⟨x43, f44, x45, x46, ⟨x47, f48⟩⟩, x5, ⟨⟩, x6, ⟨⟩, x7, x8, x49, x9, x50, x10, x51, x11, x52, x12, x53, x13, x54⟩ := u8
  obtain ⟨x55, x56, x57, x58, x59, x60, x61, x62, x63, x64, x65, x66, x67, x68, x69, x70, x71⟩ := u9
  rw [fw_flat8, fw_flat9] at hP hD
  exact fw_all hP hD

/-! the law's own rows: the script -/
def Lx (b L : Nat) (xs : Nat → Int32) (X : Cx) : Prop := match X with
  | (_, _, _, _, s, _, _, _, _, _, _, _, _, A, _, _, _) => va_X b L xs s s.heap ∧ b < s.heap.size ∧ ¬ A b
theorem r_slen {ad : Nat → Nat} {X : Cx} {cc : ByteArray} {own : String} {nL : Nat} {ret : Option FieldType} {rm : Room} {M : Mm} {pc : Nat} {ls : Array Slot} {rest : List Value} {b L : Nat} {xs : Nat → Int32} (Z : Zk ad X cc own nL ret rm) (hX : Lx b L xs X) (hdg : decode cc pc = .ok (.arraylength, 1)) (k : G ad X M (pc + 1) ls (.int (nI L) :: rest)) : G ad X M pc ls (.ref b :: rest) := by
  obtain ⟨p, l, e, R, s, m, args, below, meth, c, dC, dI, cy, A, cells, slots, Q⟩ := X
  obtain ⟨hx, hb, hml, hown, hts, hK, hJ, hr, hlk, hR, hA, hcc, hss⟩ := Z
  exact fun H locs hP hS => va_slen hx hb hX.1 hX.2.1 hX.2.2 hS hdg (k H locs hP hS)
theorem r_sld {ad : Nat → Nat} {X : Cx} {cc : ByteArray} {own : String} {nL : Nat} {ret : Option FieldType} {rm : Room} {M : Mm} {pc : Nat} {ls : Array Slot} {rest : List Value} {b L : Nat} {xs : Nat → Int32} {x : Int32} (Z : Zk ad X cc own nL ret rm) (hX : Lx b L xs X) (hin : vp_in x L) (hdg : decode cc pc = .ok (.iaload, 1)) (k : G ad X M (pc + 1) ls (.int (xs x.toNatClampNeg) :: rest)) : G ad X M pc ls (.int x :: .ref b :: rest) := by
  obtain ⟨p, l, e, R, s, m, args, below, meth, c, dC, dI, cy, A, cells, slots, Q⟩ := X
  obtain ⟨hx, hb, hml, hown, hts, hK, hJ, hr, hlk, hR, hA, hcc, hss⟩ := Z
  exact fun H locs hP hS => va_sld hx hb hX.1 hX.2.1 hX.2.2 hS hin hdg (k H locs hP hS)

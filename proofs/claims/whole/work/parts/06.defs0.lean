def f_J6_bitCount_0f7a4 (x1 : Int32) (M : Mm) : Option (Int32 × Mm) := nm (x1 - (((Int32.toUInt32 x1 >>> (Int32.toUInt32 1 &&& Int32.toUInt32 31)).toInt32) &&& 1431655765)) fun t1 => nm ((t1 &&& 858993459) + (((Int32.toUInt32 t1 >>> (Int32.toUInt32 2 &&& Int32.toUInt32 31)).toInt32) &&& 858993459)) fun t2 => nm ((t2 + ((Int32.toUInt32 t2 >>> (Int32.toUInt32 4 &&& Int32.toUInt32 31)).toInt32)) &&& 252645135) fun t3 => nm (t3 + ((Int32.toUInt32 t3 >>> (Int32.toUInt32 8 &&& Int32.toUInt32 31)).toInt32)) fun t4 => nm (t4 + ((Int32.toUInt32 t4 >>> (Int32.toUInt32 16 &&& Int32.toUInt32 31)).toInt32)) fun t5 => some (t5 &&& 63, M)
def f_X0_reachedFrom_b15B (k4 : Int32 → Int32 → Mm → Option (Int32 × Mm)) (k15 : Int32 → Int32 → Int32 → Mm → Option (Int32 × Mm)) (o : Nat) (v2 : Int32) (v3 : Int32) (v4 : Int32) (M : Mm) : Option (Int32 × Mm) := if ((mI M o 3) ≤ v4 : Prop) then nm (v3 + 1) fun t2 => k4 v2 t2 M else if (((v2 >>> (v4 &&& 31)) &&& 1) = 0 : Prop) then nm (v4 + 1) fun t4 => k15 v2 v3 t4 M else ck v4 6 (nm (v2 ||| (mI M (fld o 1) (Int32.toNatClampNeg v4))) fun t6 => nm (v4 + 1) fun t7 => k15 t6 v3 t7 M)
def f_X0_reachedFrom_b15 (k4 : Int32 → Int32 → Mm → Option (Int32 × Mm)) (o : Nat) : Nat → Int32 → Int32 → Int32 → Mm → Option (Int32 × Mm)
  | 0, _, _, _, _ => none
  | n + 1, v2, v3, v4, M => f_X0_reachedFrom_b15B k4 (f_X0_reachedFrom_b15 k4 o n) o v2 v3 v4 M
def f_X0_reachedFrom_b4B (k4 : Int32 → Int32 → Mm → Option (Int32 × Mm)) (o : Nat) (v2 : Int32) (v3 : Int32) (M : Mm) : Option (Int32 × Mm) := if ((mI M o 3) ≤ v3 : Prop) then some (v2, M) else f_X0_reachedFrom_b15 k4 o fuel v2 v3 0 M
def f_X0_reachedFrom_b4 (o : Nat) : Nat → Int32 → Int32 → Mm → Option (Int32 × Mm)
  | 0, _, _, _ => none
  | n + 1, v2, v3, M => f_X0_reachedFrom_b4B (f_X0_reachedFrom_b4 o n) o v2 v3 M
def f_X0_reachedFrom (o : Nat) (x1 : Int32) (M : Mm) : Option (Int32 × Mm) := f_X0_reachedFrom_b4 o fuel x1 0 M
def f_X0_partOf_b31 (k10 : Int32 → Int32 → Int32 → Mm → Option (Int32 × Mm)) (o : Nat) (v1 : Int32) (v2 : Int32) (v3 : Int32) (s0 : Int32) (M : Mm) : Option (Int32 × Mm) := if (s0 = 0 : Prop) then nm (v3 + 1) fun t2 => k10 v1 v2 t2 M else if (v3 < v1 : Prop) then some (0, M) else bd (f_X0_reachedFrom o (1 <<< (v3 &&& 31)) M) fun q4 => if (q4.1 = v2 : Prop) then nm (v3 + 1) fun t6 => k10 v1 v2 t6 q4.2 else some (0, q4.2)
def f_X0_partOf_b10B (k10 : Int32 → Int32 → Int32 → Mm → Option (Int32 × Mm)) (o : Nat) (v1 : Int32) (v2 : Int32) (v3 : Int32) (M : Mm) : Option (Int32 × Mm) := if ((mI M o 3) ≤ v3 : Prop) then some (v2, M) else if (((v2 >>> (v3 &&& 31)) &&& 1) = 0 : Prop) then f_X0_partOf_b31 k10 o v1 v2 v3 0 M else f_X0_partOf_b31 k10 o v1 v2 v3 1 M
def f_X0_partOf_b10 (o : Nat) : Nat → Int32 → Int32 → Int32 → Mm → Option (Int32 × Mm)
  | 0, _, _, _, _ => none
  | n + 1, v1, v2, v3, M => f_X0_partOf_b10B (f_X0_partOf_b10 o n) o v1 v2 v3 M
def f_X0_partOf (o : Nat) (x1 : Int32) (M : Mm) : Option (Int32 × Mm) := bd (f_X0_reachedFrom o (1 <<< (x1 &&& 31)) M) fun q9 => f_X0_partOf_b10 o fuel x1 q9.1 0 q9.2
def f_X0_firstPart_b2B (k2 : Int32 → Mm → Option (Int32 × Mm)) (o : Nat) (v1 : Int32) (M : Mm) : Option (Int32 × Mm) := if ((mI M o 3) ≤ v1 : Prop) then some (0, M) else bd (f_X0_partOf o v1 M) fun q2 => if (q2.1 = 0 : Prop) then nm (v1 + 1) fun t4 => k2 t4 q2.2 else some (q2.1, q2.2)
def f_X0_firstPart_b2 (o : Nat) : Nat → Int32 → Mm → Option (Int32 × Mm)
  | 0, _, _ => none
  | n + 1, v1, M => f_X0_firstPart_b2B (f_X0_firstPart_b2 o n) o v1 M
def f_X0_firstPart (o : Nat) (M : Mm) : Option (Int32 × Mm) := f_X0_firstPart_b2 o fuel 0 M
def f_X6_has (o : Nat) (x1 : Int32) (M : Mm) : Option (Int32 × Mm) := if (x1 < 0 : Prop) then some (0, M) else if ((mI M o 1) ≤ x1 : Prop) then some (0, M) else if (40 ≤ x1 : Prop) then some (0, M) else some (1, M)
def f_X6_at (o : Nat) (x1 : Int32) (M : Mm) : Option (Int32 × Mm) := bd (f_X6_has o x1 M) fun q1 => if (q1.1 = 0 : Prop) then some (0, q1.2) else ck x1 40 (some (mI q1.2 (fld o 0) (Int32.toNatClampNeg x1), q1.2))
def f_X0_going_b5B (k5 : Int32 → Int64 → Int32 → Mm → Option (Int64 × Mm)) (o : Nat) (v1 : Int32) (v2 : Int64) (v4 : Int32) (M : Mm) : Option (Int64 × Mm) := if ((mI M o 3) ≤ v4 : Prop) then some (v2, M) else if (v4 = v1 : Prop) then nm (v4 + 1) fun t3 => k5 v1 v2 t3 M else ck v1 6 (ck v4 6 (nm (v2 + (Int32.toInt64 (mI M (elm (fld o 0) (Int32.toNatClampNeg v1)) (Int32.toNatClampNeg v4)))) fun t6 => nm (v4 + 1) fun t7 => k5 v1 t6 t7 M))
def f_X0_going_b5 (o : Nat) : Nat → Int32 → Int64 → Int32 → Mm → Option (Int64 × Mm)
  | 0, _, _, _, _ => none
  | n + 1, v1, v2, v4, M => f_X0_going_b5B (f_X0_going_b5 o n) o v1 v2 v4 M
def f_X0_going (o : Nat) (x1 : Int32) (M : Mm) : Option (Int64 × Mm) := f_X0_going_b5 o fuel x1 0 0 M
def f_X0_firstUneven_b15B (k2 : Nat → Int32 → Mm → Option (Int32 × Mm)) (k15 : Nat → Int32 → Int64 → Int32 → Mm → Option (Int32 × Mm)) (o : Nat) (v1 : Nat) (v2 : Int32) (v3 : Int64) (v5 : Int32) (M : Mm) : Option (Int32 × Mm) := if ((mI M o 3) ≤ v5 : Prop) then bd (f_X6_at v1 v2 M) fun q2 => bd (f_X0_going o v2 q2.2) fun q3 => if ((lg_cmp v3 ((Int32.toInt64 q2.1) * q3.1)) = 0 : Prop) then nm (v2 + 1) fun t5 => k2 v1 t5 q3.2 else some (v2, q3.2) else if (v5 = v2 : Prop) then nm (v5 + 1) fun t7 => k15 v1 v2 v3 t7 M else bd (f_X6_at v1 v5 M) fun q8 => ck v5 6 (ck v2 6 (nm (v3 + ((Int32.toInt64 q8.1) * (Int32.toInt64 (mI q8.2 (elm (fld o 0) (Int32.toNatClampNeg v5)) (Int32.toNatClampNeg v2))))) fun t11 => nm (v5 + 1) fun t12 => k15 v1 v2 t11 t12 q8.2))
def f_X0_firstUneven_b15 (k2 : Nat → Int32 → Mm → Option (Int32 × Mm)) (o : Nat) : Nat → Nat → Int32 → Int64 → Int32 → Mm → Option (Int32 × Mm)
  | 0, _, _, _, _, _ => none
  | n + 1, v1, v2, v3, v5, M => f_X0_firstUneven_b15B k2 (f_X0_firstUneven_b15 k2 o n) o v1 v2 v3 v5 M
def f_X0_firstUneven_b2B (k2 : Nat → Int32 → Mm → Option (Int32 × Mm)) (o : Nat) (v1 : Nat) (v2 : Int32) (M : Mm) : Option (Int32 × Mm) := if ((mI M o 3) ≤ v2 : Prop) then some ((-9), M) else f_X0_firstUneven_b15 k2 o fuel v1 v2 0 0 M
def f_X0_firstUneven_b2 (o : Nat) : Nat → Nat → Int32 → Mm → Option (Int32 × Mm)
  | 0, _, _, _ => none
  | n + 1, v1, v2, M => f_X0_firstUneven_b2B (f_X0_firstUneven_b2 o n) o v1 v2 M
def f_X0_firstUneven (o : Nat) (x1 : Nat) (M : Mm) : Option (Int32 × Mm) := f_X0_firstUneven_b2 o fuel x1 0 M
def f_X0_layLine_b60 (k6 : Int32 → Int32 → Int32 → Int32 → Int32 → Mm → Option Mm) (o : Nat) (v1 : Int32) (v2 : Int32) (v3 : Int32) (v4 : Int32) (v5 : Int32) (s0 : Nat) (s1 : Int32) (s2 : Int64) (M : Mm) : Option Mm := ck s1 6 (nm (sJ M s0 (Int32.toNatClampNeg s1) s2) fun M2 => nm (v4 + 1) fun t3 => nm (v5 + 1) fun t4 => k6 v1 v2 v3 t3 t4 M2)
def f_X0_layLine_b6B (k6 : Int32 → Int32 → Int32 → Int32 → Int32 → Mm → Option Mm) (o : Nat) (v1 : Int32) (v2 : Int32) (v3 : Int32) (v4 : Int32) (v5 : Int32) (M : Mm) : Option Mm := if ((mI M o 3) ≤ v5 : Prop) then some M else if (((v3 >>> (v5 &&& 31)) &&& 1) = 0 : Prop) then nm (v5 + 1) fun t7 => k6 v1 v2 v3 v4 t7 M else ck v1 6 (if (v2 = v5 : Prop) then bd (f_X0_going o v2 M) fun q12 => f_X0_layLine_b60 k6 o v1 v2 v3 v4 v5 (elm (fld (fld o 2) 0) (Int32.toNatClampNeg v1)) v4 q12.1 q12.2 else ck v2 6 (ck v5 6 (f_X0_layLine_b60 k6 o v1 v2 v3 v4 v5 (elm (fld (fld o 2) 0) (Int32.toNatClampNeg v1)) v4 (Int32.toInt64 (-(mI M (elm (fld o 0) (Int32.toNatClampNeg v2)) (Int32.toNatClampNeg v5)))) M)))
def f_X0_layLine_b6 (o : Nat) : Nat → Int32 → Int32 → Int32 → Int32 → Int32 → Mm → Option Mm
  | 0, _, _, _, _, _, _ => none
  | n + 1, v1, v2, v3, v4, v5, M => f_X0_layLine_b6B (f_X0_layLine_b6 o n) o v1 v2 v3 v4 v5 M
def f_X0_layLine (o : Nat) (x1 : Int32) (x2 : Int32) (x3 : Int32) (M : Mm) : Option Mm := f_X0_layLine_b6 o fuel x1 x2 x3 0 0 M
def f_X6_side_b2B (k2 : Int32 → Mm → Option (Int32 × Mm)) (o : Nat) (v1 : Int32) (M : Mm) : Option (Int32 × Mm) := if (6 < v1 : Prop) then some (0, M) else if ((v1 * v1) = (mI M o 1) : Prop) then some (v1, M) else nm (v1 + 1) fun t3 => k2 t3 M
def f_X6_side_b2 (o : Nat) : Nat → Int32 → Mm → Option (Int32 × Mm)
  | 0, _, _ => none
  | n + 1, v1, M => f_X6_side_b2B (f_X6_side_b2 o n) o v1 M
def f_X6_side (o : Nat) (M : Mm) : Option (Int32 × Mm) := f_X6_side_b2 o fuel 2 M
def f_X0_noteLeads_b19B (k2 : Int32 → Mm → Option Mm) (k19 : Int32 → Int32 → Mm → Option Mm) (o : Nat) (v1 : Int32) (v2 : Int32) (M : Mm) : Option Mm := if ((mI M o 3) ≤ v2 : Prop) then nm (v1 + 1) fun t2 => k2 t2 M else if (v1 = v2 : Prop) then nm (v2 + 1) fun t4 => k19 v1 t4 M else ck v1 6 (ck v2 6 (if ((mI M (elm (fld o 0) (Int32.toNatClampNeg v1)) (Int32.toNatClampNeg v2)) ≤ 0 : Prop) then nm (v2 + 1) fun t8 => k19 v1 t8 M else ck v1 6 (ck v1 6 (nm (sI M (fld o 1) (Int32.toNatClampNeg v1) ((mI M (fld o 1) (Int32.toNatClampNeg v1)) ||| (1 <<< (v2 &&& 31)))) fun M11 => nm (v2 + 1) fun t12 => k19 v1 t12 M11))))
def f_X0_noteLeads_b19 (k2 : Int32 → Mm → Option Mm) (o : Nat) : Nat → Int32 → Int32 → Mm → Option Mm
  | 0, _, _, _ => none
  | n + 1, v1, v2, M => f_X0_noteLeads_b19B k2 (f_X0_noteLeads_b19 k2 o n) o v1 v2 M
def f_X0_noteLeads_b2B (k2 : Int32 → Mm → Option Mm) (o : Nat) (v1 : Int32) (M : Mm) : Option Mm := if ((mI M o 3) ≤ v1 : Prop) then some M else ck v1 6 (nm (sI M (fld o 1) (Int32.toNatClampNeg v1) 0) fun M15 => f_X0_noteLeads_b19 k2 o fuel v1 0 M15)
def f_X0_noteLeads_b2 (o : Nat) : Nat → Int32 → Mm → Option Mm
  | 0, _, _ => none
  | n + 1, v1, M => f_X0_noteLeads_b2B (f_X0_noteLeads_b2 o n) o v1 M
def f_X0_noteLeads (o : Nat) (M : Mm) : Option Mm := f_X0_noteLeads_b2 o fuel 0 M
def f_X0_load_b20B (k10 : Nat → Int32 → Mm → Option Mm) (k20 : Nat → Int32 → Int32 → Mm → Option Mm) (o : Nat) (v1 : Nat) (v2 : Int32) (v3 : Int32) (M : Mm) : Option Mm := if ((mI M o 3) ≤ v3 : Prop) then nm (v2 + 1) fun t2 => k10 v1 t2 M else ck v2 6 (bd (f_X6_at v1 ((v2 * (mI M o 3)) + v3) M) fun q4 => ck v3 6 (nm (sI q4.2 (elm (fld o 0) (Int32.toNatClampNeg v2)) (Int32.toNatClampNeg v3) q4.1) fun M6 => nm (v3 + 1) fun t7 => k20 v1 v2 t7 M6))
def f_X0_load_b20 (k10 : Nat → Int32 → Mm → Option Mm) (o : Nat) : Nat → Nat → Int32 → Int32 → Mm → Option Mm
  | 0, _, _, _, _ => none
  | n + 1, v1, v2, v3, M => f_X0_load_b20B k10 (f_X0_load_b20 k10 o n) o v1 v2 v3 M
def f_X0_load_b10B (k10 : Nat → Int32 → Mm → Option Mm) (o : Nat) (v1 : Nat) (v2 : Int32) (M : Mm) : Option Mm := if ((mI M o 3) ≤ v2 : Prop) then bd (f_X0_noteLeads o M) fun M9 => some M9 else f_X0_load_b20 k10 o fuel v1 v2 0 M
def f_X0_load_b10 (o : Nat) : Nat → Nat → Int32 → Mm → Option Mm
  | 0, _, _, _ => none
  | n + 1, v1, v2, M => f_X0_load_b10B (f_X0_load_b10 o n) o v1 v2 M
def f_X0_load (o : Nat) (x1 : Nat) (M : Mm) : Option Mm := bd (f_X6_side x1 M) fun q10 => nm (sI q10.2 o 3 q10.1) fun M11 => f_X0_load_b10 o fuel x1 0 M11
def f_X0_partsThere_b4B (k4 : Int32 → Int32 → Mm → Option (Int32 × Mm)) (o : Nat) (v1 : Int32) (v2 : Int32) (M : Mm) : Option (Int32 × Mm) := if ((mI M o 3) ≤ v2 : Prop) then some (v1, M) else bd (f_X0_partOf o v2 M) fun q2 => if (q2.1 = 0 : Prop) then nm (v2 + 1) fun t4 => k4 v1 t4 q2.2 else nm (v1 + 1) fun t5 => nm (v2 + 1) fun t6 => k4 t5 t6 q2.2
def f_X0_partsThere_b4 (o : Nat) : Nat → Int32 → Int32 → Mm → Option (Int32 × Mm)
  | 0, _, _, _ => none
  | n + 1, v1, v2, M => f_X0_partsThere_b4B (f_X0_partsThere_b4 o n) o v1 v2 M
def f_X0_partsThere (o : Nat) (M : Mm) : Option (Int32 × Mm) := f_X0_partsThere_b4 o fuel 0 0 M
def f_X7_bringUp_b25B (k25 : Int32 → Int32 → Int32 → Int32 → Mm → Option (Int32 × Mm)) (o : Nat) (v1 : Int32) (v2 : Int32) (v3 : Int32) (v4 : Int32) (M : Mm) : Option (Int32 × Mm) := if (v2 ≤ v4 : Prop) then some (1, M) else ck v1 6 (ck v4 6 (nm (mJ M (elm (fld o 0) (Int32.toNatClampNeg v1)) (Int32.toNatClampNeg v4)) fun t4 => ck v1 6 (ck v3 6 (ck v4 6 (ck v4 6 (nm (sJ M (elm (fld o 0) (Int32.toNatClampNeg v1)) (Int32.toNatClampNeg v4) (mJ M (elm (fld o 0) (Int32.toNatClampNeg v3)) (Int32.toNatClampNeg v4))) fun M9 => ck v3 6 (ck v4 6 (nm (sJ M9 (elm (fld o 0) (Int32.toNatClampNeg v3)) (Int32.toNatClampNeg v4) t4) fun M12 => nm (v4 + 1) fun t13 => k25 v1 v2 v3 t13 M12))))))))
def f_X7_bringUp_b25 (o : Nat) : Nat → Int32 → Int32 → Int32 → Int32 → Mm → Option (Int32 × Mm)
  | 0, _, _, _, _, _ => none
  | n + 1, v1, v2, v3, v4, M => f_X7_bringUp_b25B (f_X7_bringUp_b25 o n) o v1 v2 v3 v4 M
def f_X7_bringUp_b4B (k4 : Int32 → Int32 → Int32 → Mm → Option (Int32 × Mm)) (o : Nat) (v1 : Int32) (v2 : Int32) (v3 : Int32) (M : Mm) : Option (Int32 × Mm) := if (v2 ≤ v3 : Prop) then some (0, M) else ck v3 6 (ck v1 6 (if ((lg_cmp (mJ M (elm (fld o 0) (Int32.toNatClampNeg v3)) (Int32.toNatClampNeg v1)) 0) = 0 : Prop) then nm (v3 + 1) fun t18 => k4 v1 v2 t18 M else f_X7_bringUp_b25 o fuel v1 v2 v3 0 M))
def f_X7_bringUp_b4 (o : Nat) : Nat → Int32 → Int32 → Int32 → Mm → Option (Int32 × Mm)
  | 0, _, _, _, _ => none
  | n + 1, v1, v2, v3, M => f_X7_bringUp_b4B (f_X7_bringUp_b4 o n) o v1 v2 v3 M
def f_X7_bringUp (o : Nat) (x1 : Int32) (x2 : Int32) (M : Mm) : Option (Int32 × Mm) := nm (x1 + 1) fun t19 => f_X7_bringUp_b4 o fuel x1 x2 t19 M
def f_X7_clearBelow_b86 (k5 : Int32 → Int32 → Int64 → Int32 → Mm → Option Mm) (k16 : Int32 → Int32 → Int64 → Int32 → Int32 → Mm → Option Mm) (o : Nat) (v1 : Int32) (v2 : Int32) (v3 : Int64) (v5 : Int32) (v6 : Int32) (s0 : Nat) (s1 : Int32) (s2 : Int64) (M : Mm) : Option Mm := ck s1 6 (nm (sJ M s0 (Int32.toNatClampNeg s1) s2) fun M2 => nm (v6 + 1) fun t3 => k16 v1 v2 v3 v5 t3 M2)
def f_X7_clearBelow_b16B (k5 : Int32 → Int32 → Int64 → Int32 → Mm → Option Mm) (k16 : Int32 → Int32 → Int64 → Int32 → Int32 → Mm → Option Mm) (o : Nat) (v1 : Int32) (v2 : Int32) (v3 : Int64) (v5 : Int32) (v6 : Int32) (M : Mm) : Option Mm := if (v2 ≤ v6 : Prop) then nm (v5 + 1) fun t5 => k5 v1 v2 v3 t5 M else ck v5 6 (ck v6 6 (ck v1 6 (ck v1 6 (ck v5 6 (ck v1 6 (ck v1 6 (ck v6 6 (nm (((mJ M (elm (fld o 0) (Int32.toNatClampNeg v5)) (Int32.toNatClampNeg v6)) * (mJ M (elm (fld o 0) (Int32.toNatClampNeg v1)) (Int32.toNatClampNeg v1))) - ((mJ M (elm (fld o 0) (Int32.toNatClampNeg v5)) (Int32.toNatClampNeg v1)) * (mJ M (elm (fld o 0) (Int32.toNatClampNeg v1)) (Int32.toNatClampNeg v6)))) fun t14 => ck v5 6 (if ((lg_cmp v3 0) = 0 : Prop) then f_X7_clearBelow_b86 k5 k16 o v1 v2 v3 v5 v6 (elm (fld o 0) (Int32.toNatClampNeg v5)) v6 0 M else dvJ v3 (f_X7_clearBelow_b86 k5 k16 o v1 v2 v3 v5 v6 (elm (fld o 0) (Int32.toNatClampNeg v5)) v6 (t14 / v3) M))))))))))
def f_X7_clearBelow_b16 (k5 : Int32 → Int32 → Int64 → Int32 → Mm → Option Mm) (o : Nat) : Nat → Int32 → Int32 → Int64 → Int32 → Int32 → Mm → Option Mm
  | 0, _, _, _, _, _, _ => none
  | n + 1, v1, v2, v3, v5, v6, M => f_X7_clearBelow_b16B k5 (f_X7_clearBelow_b16 k5 o n) o v1 v2 v3 v5 v6 M
def f_X7_clearBelow_b5B (k5 : Int32 → Int32 → Int64 → Int32 → Mm → Option Mm) (o : Nat) (v1 : Int32) (v2 : Int32) (v3 : Int64) (v5 : Int32) (M : Mm) : Option Mm := if (v2 ≤ v5 : Prop) then some M else nm (v1 + 1) fun t19 => f_X7_clearBelow_b16 k5 o fuel v1 v2 v3 v5 t19 M
def f_X7_clearBelow_b5 (o : Nat) : Nat → Int32 → Int32 → Int64 → Int32 → Mm → Option Mm
  | 0, _, _, _, _, _ => none
  | n + 1, v1, v2, v3, v5, M => f_X7_clearBelow_b5B (f_X7_clearBelow_b5 o n) o v1 v2 v3 v5 M
def f_X7_clearBelow (o : Nat) (x1 : Int32) (x2 : Int32) (x3 : Int64) (M : Mm) : Option Mm := nm (x1 + 1) fun t20 => f_X7_clearBelow_b5 o fuel x1 x2 x3 t20 M
def f_X7_determinant_b56 (k18 : Int32 → Int64 → Int64 → Int32 → Mm → Option (Int64 × Mm)) (o : Nat) (v1 : Int32) (v2 : Int64) (v4 : Int64) (v6 : Int32) (M : Mm) : Option (Int64 × Mm) := if ((lg_cmp v4 0) = 0 : Prop) then some (0, M) else bd (f_X7_clearBelow o v6 v1 v4 M) fun M2 => ck v6 6 (ck v6 6 (nm (mJ M2 (elm (fld o 0) (Int32.toNatClampNeg v6)) (Int32.toNatClampNeg v6)) fun t5 => nm (v6 + 1) fun t6 => k18 v1 v2 t5 t6 M2))
def f_X7_determinant_b18B (k18 : Int32 → Int64 → Int64 → Int32 → Mm → Option (Int64 × Mm)) (o : Nat) (v1 : Int32) (v2 : Int64) (v4 : Int64) (v6 : Int32) (M : Mm) : Option (Int64 × Mm) := if ((v1 - 1) ≤ v6 : Prop) then if (v1 ≤ 0 : Prop) then some (1, M) else ck (v1 - 1) 6 (ck (v1 - 1) 6 (some (v2 * (mJ M (elm (fld o 0) (Int32.toNatClampNeg (v1 - 1))) (Int32.toNatClampNeg (v1 - 1))), M))) else ck v6 6 (ck v6 6 (if ((lg_cmp (mJ M (elm (fld o 0) (Int32.toNatClampNeg v6)) (Int32.toNatClampNeg v6)) 0) = 0 : Prop) then bd (f_X7_bringUp o v6 v1 M) fun q14 => if (q14.1 = 0 : Prop) then some (0, q14.2) else nm (-v2) fun t16 => f_X7_determinant_b56 k18 o v1 t16 v4 v6 q14.2 else f_X7_determinant_b56 k18 o v1 v2 v4 v6 M))
def f_X7_determinant_b18 (o : Nat) : Nat → Int32 → Int64 → Int64 → Int32 → Mm → Option (Int64 × Mm)
  | 0, _, _, _, _, _ => none
  | n + 1, v1, v2, v4, v6, M => f_X7_determinant_b18B (f_X7_determinant_b18 o n) o v1 v2 v4 v6 M
def f_X7_determinant (o : Nat) (M : Mm) : Option (Int64 × Mm) := nm (if 6 < (mI M o 1) then 6 else (mI M o 1)) fun t17 => f_X7_determinant_b18 o fuel t17 1 1 0 M
def f_X0_weightOf_b35B (k35 : Int32 → Int32 → Int32 → Mm → Option (Int64 × Mm)) (o : Nat) (v3 : Int32) (v4 : Int32) (v5 : Int32) (M : Mm) : Option (Int64 × Mm) := if ((mI M o 3) ≤ v5 : Prop) then bd (f_X7_determinant (fld o 2) M) fun q2 => some (q2.1, q2.2) else if (((v3 >>> (v5 &&& 31)) &&& 1) = 0 : Prop) then nm (v5 + 1) fun t4 => k35 v3 v4 t4 M else bd (f_X0_layLine o v4 v5 v3 M) fun M5 => nm (v4 + 1) fun t6 => nm (v5 + 1) fun t7 => k35 v3 t6 t7 M5
def f_X0_weightOf_b35 (o : Nat) : Nat → Int32 → Int32 → Int32 → Mm → Option (Int64 × Mm)
  | 0, _, _, _, _ => none
  | n + 1, v3, v4, v5, M => f_X0_weightOf_b35B (f_X0_weightOf_b35 o n) o v3 v4 v5 M
def f_X0_weightOf (o : Nat) (x1 : Int32) (x2 : Int32) (M : Mm) : Option (Int64 × Mm) := if (((x2 >>> (x1 &&& 31)) &&& 1) = 0 : Prop) then some (0, M) else nm (x2 &&& ((1 <<< (x1 &&& 31)) ^^^ (-1))) fun t9 => bd (f_J6_bitCount_0f7a4 t9 M) fun q10 => nm (sI q10.2 (fld o 2) 1 q10.1) fun M11 => f_X0_weightOf_b35 o fuel t9 0 0 M11
def f_X2_commonPart_b15B (k15 : Int64 → Int64 → Int32 → Mm → Option (Int64 × Mm)) (v4 : Int64) (v6 : Int64) (v8 : Int32) (M : Mm) : Option (Int64 × Mm) := if (200 ≤ v8 : Prop) then some (v4, M) else if ((lg_cmp v6 0) = 0 : Prop) then some (v4, M) else dvJ v6 (nm (v4 - v4 / v6 * v6) fun t4 => nm (v8 + 1) fun t5 => k15 v6 t4 t5 M)
def f_X2_commonPart_b15 : Nat → Int64 → Int64 → Int32 → Mm → Option (Int64 × Mm)
  | 0, _, _, _, _ => none
  | n + 1, v4, v6, v8, M => f_X2_commonPart_b15B (f_X2_commonPart_b15 n) v4 v6 v8 M
def f_X2_commonPart (x1 : Int64) (x2 : Int64) (M : Mm) : Option (Int64 × Mm) := nm (if 0 < x1 then x1 else -x1) fun t6 => nm (if 0 < x2 then x2 else -x2) fun t7 => f_X2_commonPart_b15 fuel t6 t7 0 M
def f_X2_set_b35 (o : Nat) (v1 : Int64) (v3 : Int64) (s0 : Int64) (M : Mm) : Option Mm := dvJ s0 (nm (sJ M o 0 (v1 / s0)) fun M2 => dvJ s0 (nm (sJ M2 o 1 (v3 / s0)) fun M4 => some M4))
def f_X2_set (o : Nat) (x1 : Int64) (x2 : Int64) (M : Mm) : Option Mm := bd (f_X2_commonPart x1 x2 M) fun q5 => if ((lg_cmp x2 0) = 0 : Prop) then some q5.2 else if ((lg_cmp q5.1 0) = 0 : Prop) then some q5.2 else if (0 ≤ (lg_cmp x2 0) : Prop) then f_X2_set_b35 o x1 x2 q5.1 q5.2 else f_X2_set_b35 o x1 x2 (-q5.1) q5.2
def f_X0_tellLasting_b11B (k11 : Int32 → Nat → Int32 → Int64 → Int32 → Mm → Option Mm) (o : Nat) (v1 : Int32) (v2 : Nat) (v3 : Int32) (v4 : Int64) (v6 : Int32) (M : Mm) : Option Mm := if ((mI M o 3) ≤ v6 : Prop) then bd (f_X0_weightOf o v1 v3 M) fun q2 => bd (f_X2_set v2 q2.1 v4 q2.2) fun M3 => some M3 else bd (f_X0_weightOf o v6 v3 M) fun q4 => nm (v4 + q4.1) fun t5 => nm (v6 + 1) fun t6 => k11 v1 v2 v3 t5 t6 q4.2
def f_X0_tellLasting_b11 (o : Nat) : Nat → Int32 → Nat → Int32 → Int64 → Int32 → Mm → Option Mm
  | 0, _, _, _, _, _, _ => none
  | n + 1, v1, v2, v3, v4, v6, M => f_X0_tellLasting_b11B (f_X0_tellLasting_b11 o n) o v1 v2 v3 v4 v6 M
def f_X0_tellLasting (o : Nat) (x1 : Int32) (x2 : Nat) (M : Mm) : Option Mm := bd (f_X0_firstPart o M) fun q7 => f_X0_tellLasting_b11 o fuel x1 x2 q7.1 0 0 q7.2
def f_X1_begin_b27B (k27 : Int32 → Mm → Option Mm) (o : Nat) (v2 : Int32) (M : Mm) : Option Mm := if (4 ≤ v2 : Prop) then some M else ck v2 4 (nm (sI M (fld o 0) (Int32.toNatClampNeg v2) 0) fun M3 => nm (v2 + 1) fun t4 => k27 t4 M3)
def f_X1_begin_b27 (o : Nat) : Nat → Int32 → Mm → Option Mm
  | 0, _, _ => none
  | n + 1, v2, M => f_X1_begin_b27B (f_X1_begin_b27 o n) o v2 M
def f_X1_begin (o : Nat) (x1 : Int32) (M : Mm) : Option Mm := nm (sI M o 1 x1) fun M5 => nm (sI M5 o 2 1) fun M6 => nm (sI M6 o 3 1) fun M7 => nm (sI M7 o 4 1) fun M8 => nm (sI M8 o 5 0) fun M9 => f_X1_begin_b27 o fuel 0 M9
def f_X1_daysOf (o : Nat) (M : Mm) : Option (Int32 × Mm) := if ((mI M o 2) ≤ 0 : Prop) then some (0, M) else dvI (mI M o 2) (some (12 / (mI M o 2), M))
def f_X1_leaving_b4B (k4 : Int32 → Int32 → Mm → Option (Int32 × Mm)) (o : Nat) (v1 : Int32) (v2 : Int32) (M : Mm) : Option (Int32 × Mm) := if (4 ≤ v2 : Prop) then some (v1, M) else ck v2 4 (nm (v1 - (mI M (fld o 0) (Int32.toNatClampNeg v2))) fun t3 => nm (v2 + 1) fun t4 => k4 t3 t4 M)
def f_X1_leaving_b4 (o : Nat) : Nat → Int32 → Int32 → Mm → Option (Int32 × Mm)
  | 0, _, _, _ => none
  | n + 1, v1, v2, M => f_X1_leaving_b4B (f_X1_leaving_b4 o n) o v1 v2 M
def f_X1_leaving (o : Nat) (M : Mm) : Option (Int32 × Mm) := f_X1_leaving_b4 o fuel 4 0 M
def f_X1_fact (o : Nat) (x1 : Int32) (M : Mm) : Option (Int32 × Mm) := if (x1 = 0 : Prop) then some (mI M o 1, M) else if (x1 = 1 : Prop) then some (mI M o 2, M) else if (x1 = 2 : Prop) then some (mI M o 3, M) else if (x1 = 3 : Prop) then some (mI M o 5, M) else bd (f_X1_leaving o M) fun q5 => some (q5.1, q5.2)
def f_X1_isOf_b29 (o : Nat) (M : Mm) : Option (Int32 × Mm) := some (1, M)
def f_X1_isOf (o : Nat) (x1 : Int32) (M : Mm) : Option (Int32 × Mm) := if ((mI M o 1) = x1 : Prop) then f_X1_isOf_b29 o M else if (x1 = 1 : Prop) then if ((mI M o 1) = 2 : Prop) then f_X1_isOf_b29 o M else if ((mI M o 1) = 3 : Prop) then f_X1_isOf_b29 o M else some (0, M) else some (0, M)
def f_X1_isThere (o : Nat) (M : Mm) : Option (Int32 × Mm) := if ((mI M o 1) = (-1) : Prop) then some (0, M) else some (1, M)
def f_X1_markOf (o : Nat) (x1 : Int32) (M : Mm) : Option (Int32 × Mm) := if (x1 = 3 : Prop) then bd (f_X1_daysOf o M) fun q2 => some (q2.1, q2.2) else if (x1 = 4 : Prop) then some ((mI M o 2) - 1, M) else if (x1 = 5 : Prop) then some (mI M o 4, M) else some (mI M o 2, M)
def f_X1_mixInto_b71B (k71 : Int64 → Int32 → Mm → Option (Int64 × Mm)) (o : Nat) (v3 : Int64) (v5 : Int32) (M : Mm) : Option (Int64 × Mm) := if (4 ≤ v5 : Prop) then some (v3, M) else ck v5 4 (nm ((31 * v3) + (Int32.toInt64 (mI M (fld o 0) (Int32.toNatClampNeg v5)))) fun t3 => nm (v5 + 1) fun t4 => k71 t3 t4 M)
def f_X1_mixInto_b71 (o : Nat) : Nat → Int64 → Int32 → Mm → Option (Int64 × Mm)
  | 0, _, _, _ => none
  | n + 1, v3, v5, M => f_X1_mixInto_b71B (f_X1_mixInto_b71 o n) o v3 v5 M
def f_X1_mixInto_b22B (k22 : Int64 → Int32 → Mm → Option (Int64 × Mm)) (o : Nat) (v3 : Int64) (v5 : Int32) (M : Mm) : Option (Int64 × Mm) := if (4 < v5 : Prop) then if ((mI M o 1) = 5 : Prop) then nm ((31 * v3) + (Int32.toInt64 (mI M o 4))) fun t7 => f_X1_mixInto_b71 o fuel t7 0 M else f_X1_mixInto_b71 o fuel v3 0 M else bd (f_X1_fact o v5 M) fun q8 => nm ((31 * v3) + (Int32.toInt64 q8.1)) fun t9 => nm (v5 + 1) fun t10 => k22 t9 t10 q8.2
def f_X1_mixInto_b22 (o : Nat) : Nat → Int64 → Int32 → Mm → Option (Int64 × Mm)
  | 0, _, _, _ => none
  | n + 1, v3, v5, M => f_X1_mixInto_b22B (f_X1_mixInto_b22 o n) o v3 v5 M
def f_X1_mixInto (o : Nat) (x1 : Int64) (M : Mm) : Option (Int64 × Mm) := bd (f_X1_isThere o M) fun q11 => if (q11.1 = 0 : Prop) then some ((31 * x1) + (-1), q11.2) else f_X1_mixInto_b22 o fuel x1 0 q11.2
def f_X1_roomWeight_b31 (k5 : Int32 → Int32 → Int64 → Int32 → Mm → Option (Int64 × Mm)) (o : Nat) (v1 : Int32) (v2 : Int32) (v5 : Int32) (s0 : Int64) (s1 : Int64) (M : Mm) : Option (Int64 × Mm) := nm (s0 * s1) fun t1 => nm (v5 + 1) fun t2 => k5 v1 v2 t1 t2 M
def f_X1_roomWeight_b5B (k5 : Int32 → Int32 → Int64 → Int32 → Mm → Option (Int64 × Mm)) (o : Nat) (v1 : Int32) (v2 : Int32) (v3 : Int64) (v5 : Int32) (M : Mm) : Option (Int64 × Mm) := if ((mI M o 4) ≤ v5 : Prop) then some (v3, M) else if (v2 ≤ v5 : Prop) then f_X1_roomWeight_b31 k5 o v1 v2 v5 v3 (Int32.toInt64 (mI M o 2)) M else f_X1_roomWeight_b31 k5 o v1 v2 v5 v3 (Int32.toInt64 v1) M
def f_X1_roomWeight_b5 (o : Nat) : Nat → Int32 → Int32 → Int64 → Int32 → Mm → Option (Int64 × Mm)
  | 0, _, _, _, _, _ => none
  | n + 1, v1, v2, v3, v5, M => f_X1_roomWeight_b5B (f_X1_roomWeight_b5 o n) o v1 v2 v3 v5 M
def f_X1_roomWeight (o : Nat) (x1 : Int32) (x2 : Int32) (M : Mm) : Option (Int64 × Mm) := f_X1_roomWeight_b5 o fuel x1 x2 1 0 M
def f_X2_isAbove_b169 (v8 : Int32) (v9 : Int32) (s0 : Int32) (M : Mm) : Option (Int32 × Mm) := if (v8 = 0 : Prop) then bz v9 (some (v9, M)) else bz s0 (some (s0, M))
def f_X2_isAbove_b168 (v8 : Int32) (v9 : Int32) (M : Mm) : Option (Int32 × Mm) := f_X2_isAbove_b169 v8 v9 0 M
def f_X2_isAbove_b149 (v2 : Int64) (v6 : Int64) (v8 : Int32) (s0 : Int32) (M : Mm) : Option (Int32 × Mm) := if (0 < (lg_cmp v6 0) : Prop) then f_X2_isAbove_b168 v8 s0 M else if ((lg_cmp v2 0) ≤ 0 : Prop) then f_X2_isAbove_b168 v8 s0 M else f_X2_isAbove_b169 v8 s0 1 M
def f_X2_isAbove_b148 (v2 : Int64) (v6 : Int64) (v8 : Int32) (M : Mm) : Option (Int32 × Mm) := f_X2_isAbove_b149 v2 v6 v8 0 M
def f_X2_isAbove_b131 (v2 : Int64) (v6 : Int64) (v8 : Int32) (M : Mm) : Option (Int32 × Mm) := if (0 < (lg_cmp v2 0) : Prop) then f_X2_isAbove_b148 v2 v6 v8 M else if ((lg_cmp v6 0) ≤ 0 : Prop) then f_X2_isAbove_b148 v2 v6 v8 M else f_X2_isAbove_b149 v2 v6 v8 1 M
def f_X2_isAbove_b6B (k6 : Int64 → Int64 → Int64 → Int64 → Int32 → Int32 → Mm → Option (Int32 × Mm)) (v0 : Int64) (v2 : Int64) (v4 : Int64) (v6 : Int64) (v8 : Int32) (v9 : Int32) (M : Mm) : Option (Int32 × Mm) := if (200 ≤ v9 : Prop) then f_X2_isAbove_b131 v2 v6 v8 M else if ((lg_cmp v2 0) ≤ 0 : Prop) then f_X2_isAbove_b131 v2 v6 v8 M else if ((lg_cmp v6 0) ≤ 0 : Prop) then f_X2_isAbove_b131 v2 v6 v8 M else dvJ v2 (nm (v0 / v2) fun t10 => dvJ v6 (nm (v4 / v6) fun t12 => if ((lg_cmp t10 t12) = 0 : Prop) then nm (v0 - (t10 * v2)) fun t14 => nm (v4 - (t12 * v6)) fun t15 => if (v8 = 0 : Prop) then nm (v9 + 1) fun t18 => k6 v2 t14 v6 t15 1 t18 M else nm (v9 + 1) fun t17 => k6 v2 t14 v6 t15 0 t17 M else if (v8 = 0 : Prop) then if ((lg_cmp t10 t12) ≤ 0 : Prop) then some (0, M) else some (1, M) else if (0 ≤ (lg_cmp t10 t12) : Prop) then some (0, M) else some (1, M)))
def f_X2_isAbove_b6 : Nat → Int64 → Int64 → Int64 → Int64 → Int32 → Int32 → Mm → Option (Int32 × Mm)
  | 0, _, _, _, _, _, _, _ => none
  | n + 1, v0, v2, v4, v6, v8, v9, M => f_X2_isAbove_b6B (f_X2_isAbove_b6 n) v0 v2 v4 v6 v8 v9 M
def f_X2_isAbove (x1 : Int64) (x2 : Int64) (x3 : Int64) (x4 : Int64) (M : Mm) : Option (Int32 × Mm) := f_X2_isAbove_b6 fuel x1 x2 x3 x4 0 0 M
def f_X2_take (o : Nat) (x1 : Nat) (M : Mm) : Option Mm := nm (sJ M o 0 (mJ M x1 0)) fun M1 => nm (sJ M1 o 1 (mJ M1 x1 1)) fun M2 => some M2
def f_X3_begin_b21 (o : Nat) (s0 : Nat) (s1 : Int32) (M : Mm) : Option Mm := bz s1 (nm (sI M s0 2 s1) fun M1 => some M1)
def f_X3_begin (o : Nat) (x1 : Int32) (M : Mm) : Option Mm := nm (sI M o 0 0) fun M2 => nm (sI M2 o 1 0) fun M3 => if (x1 = 2 : Prop) then f_X3_begin_b21 o o 1 M3 else f_X3_begin_b21 o o 0 M3
def f_X3_serve_b40 (o : Nat) (v1 : Int32) (v2 : Int32) (v3 : Int32) (s0 : Int32) (s1 : Int32) (M : Mm) : Option (Int32 × Mm) := nm (if s0 < s1 then s1 else s0) fun t1 => if (v3 = 0 : Prop) then nm (sI M o 0 (t1 + v2)) fun M3 => some (t1 - v1, M3) else nm (sI M o 1 (t1 + v2)) fun M4 => some (t1 - v1, M4)
def f_X3_serve_b23 (o : Nat) (v1 : Int32) (v2 : Int32) (s0 : Int32) (M : Mm) : Option (Int32 × Mm) := if (s0 = 0 : Prop) then f_X3_serve_b40 o v1 v2 s0 v1 (mI M o 0) M else f_X3_serve_b40 o v1 v2 s0 v1 (mI M o 1) M
def f_X3_serve_b22 (o : Nat) (v1 : Int32) (v2 : Int32) (M : Mm) : Option (Int32 × Mm) := f_X3_serve_b23 o v1 v2 0 M
def f_X3_serve (o : Nat) (x1 : Int32) (x2 : Int32) (M : Mm) : Option (Int32 × Mm) := if ((mI M o 2) = 0 : Prop) then f_X3_serve_b22 o x1 x2 M else if ((mI M o 0) ≤ (mI M o 1) : Prop) then f_X3_serve_b22 o x1 x2 M else f_X3_serve_b23 o x1 x2 1 M
def f_X4_has (o : Nat) (x1 : Int32) (M : Mm) : Option (Int32 × Mm) := if (x1 < 0 : Prop) then some (0, M) else if (4 ≤ x1 : Prop) then some (0, M) else ck x1 4 (bd (f_X1_isThere (elm (fld o 0) (Int32.toNatClampNeg x1)) M) fun q4 => if (q4.1 = 0 : Prop) then some (0, q4.2) else some (1, q4.2))
def f_X4_bitsReached_b4B (k4 : Int32 → Int32 → Mm → Option (Int32 × Mm)) (o : Nat) (v1 : Int32) (v2 : Int32) (M : Mm) : Option (Int32 × Mm) := if (4 ≤ v2 : Prop) then bd (f_X0_reachedFrom (fld o 1) v1 M) fun q2 => some (q2.1, q2.2) else bd (f_X4_has o v2 M) fun q3 => if (q3.1 = 0 : Prop) then nm (v2 + 1) fun t5 => k4 v1 t5 q3.2 else ck v2 4 (if ((mI q3.2 (elm (fld o 0) (Int32.toNatClampNeg v2)) 5) ≤ 0 : Prop) then nm (v2 + 1) fun t8 => k4 v1 t8 q3.2 else nm (v1 ||| (1 <<< (v2 &&& 31))) fun t9 => nm (v2 + 1) fun t10 => k4 t9 t10 q3.2)
def f_X4_bitsReached_b4 (o : Nat) : Nat → Int32 → Int32 → Mm → Option (Int32 × Mm)
  | 0, _, _, _ => none
  | n + 1, v1, v2, M => f_X4_bitsReached_b4B (f_X4_bitsReached_b4 o n) o v1 v2 M
def f_X4_bitsReached (o : Nat) (M : Mm) : Option (Int32 × Mm) := f_X4_bitsReached_b4 o fuel 0 0 M
def f_X4_bitsThere_b4B (k4 : Int32 → Int32 → Mm → Option (Int32 × Mm)) (o : Nat) (v1 : Int32) (v2 : Int32) (M : Mm) : Option (Int32 × Mm) := if (4 ≤ v2 : Prop) then some (v1, M) else bd (f_X4_has o v2 M) fun q2 => if (q2.1 = 0 : Prop) then nm (v2 + 1) fun t4 => k4 v1 t4 q2.2 else nm (v1 ||| (1 <<< (v2 &&& 31))) fun t5 => nm (v2 + 1) fun t6 => k4 t5 t6 q2.2
def f_X4_bitsThere_b4 (o : Nat) : Nat → Int32 → Int32 → Mm → Option (Int32 × Mm)
  | 0, _, _, _ => none
  | n + 1, v1, v2, M => f_X4_bitsThere_b4B (f_X4_bitsThere_b4 o n) o v1 v2 M
def f_X4_bitsThere (o : Nat) (M : Mm) : Option (Int32 × Mm) := f_X4_bitsThere_b4 o fuel 0 0 M
def f_X4_flowDeterminant_b118 (k10 : Int32 → Int32 → Int32 → Mm → Option (Int64 × Mm)) (k18 : Int32 → Int32 → Int32 → Int32 → Mm → Option (Int64 × Mm)) (o : Nat) (v1 : Int32) (v2 : Int32) (v3 : Int32) (v4 : Int32) (s0 : Nat) (s1 : Int32) (s2 : Int64) (M : Mm) : Option (Int64 × Mm) := ck s1 6 (nm (sJ M s0 (Int32.toNatClampNeg s1) s2) fun M2 => nm (v4 + 1) fun t3 => k18 v1 v2 v3 t3 M2)
def f_X4_flowDeterminant_b86 (k10 : Int32 → Int32 → Int32 → Mm → Option (Int64 × Mm)) (k18 : Int32 → Int32 → Int32 → Int32 → Mm → Option (Int64 × Mm)) (o : Nat) (v1 : Int32) (v2 : Int32) (v3 : Int32) (v4 : Int32) (v6 : Int64) (M : Mm) : Option (Int64 × Mm) := ck v3 6 (if (v3 = v2 : Prop) then ck v4 4 (f_X4_flowDeterminant_b118 k10 k18 o v1 v2 v3 v4 (elm (fld (fld o 2) 0) (Int32.toNatClampNeg v3)) v4 (Int32.toInt64 (mI M (elm (fld o 0) (Int32.toNatClampNeg v4)) 5)) M) else f_X4_flowDeterminant_b118 k10 k18 o v1 v2 v3 v4 (elm (fld (fld o 2) 0) (Int32.toNatClampNeg v3)) v4 v6 M)
def f_X4_flowDeterminant_b61 (k10 : Int32 → Int32 → Int32 → Mm → Option (Int64 × Mm)) (k18 : Int32 → Int32 → Int32 → Int32 → Mm → Option (Int64 × Mm)) (o : Nat) (v1 : Int32) (v2 : Int32) (v3 : Int32) (v4 : Int32) (v5 : Int32) (s0 : Int64) (M : Mm) : Option (Int64 × Mm) := if (v5 = 0 : Prop) then ck v3 4 (ck v4 4 (nm (s0 - (Int32.toInt64 (mI M (fld (elm (fld o 0) (Int32.toNatClampNeg v3)) 0) (Int32.toNatClampNeg v4)))) fun t10 => f_X4_flowDeterminant_b86 k10 k18 o v1 v2 v3 v4 t10 M)) else f_X4_flowDeterminant_b86 k10 k18 o v1 v2 v3 v4 s0 M
def f_X4_flowDeterminant_b46 (k10 : Int32 → Int32 → Int32 → Mm → Option (Int64 × Mm)) (k18 : Int32 → Int32 → Int32 → Int32 → Mm → Option (Int64 × Mm)) (o : Nat) (v1 : Int32) (v2 : Int32) (v3 : Int32) (v4 : Int32) (s0 : Int32) (M : Mm) : Option (Int64 × Mm) := if (v3 = v4 : Prop) then f_X4_flowDeterminant_b61 k10 k18 o v1 v2 v3 v4 s0 4 M else f_X4_flowDeterminant_b61 k10 k18 o v1 v2 v3 v4 s0 0 M
def f_X4_flowDeterminant_b41 (k10 : Int32 → Int32 → Int32 → Mm → Option (Int64 × Mm)) (k18 : Int32 → Int32 → Int32 → Int32 → Mm → Option (Int64 × Mm)) (o : Nat) (v1 : Int32) (v2 : Int32) (v3 : Int32) (v4 : Int32) (M : Mm) : Option (Int64 × Mm) := f_X4_flowDeterminant_b46 k10 k18 o v1 v2 v3 v4 1 M
def f_X4_flowDeterminant_b18B (k10 : Int32 → Int32 → Int32 → Mm → Option (Int64 × Mm)) (k18 : Int32 → Int32 → Int32 → Int32 → Mm → Option (Int64 × Mm)) (o : Nat) (v1 : Int32) (v2 : Int32) (v3 : Int32) (v4 : Int32) (M : Mm) : Option (Int64 × Mm) := if (4 ≤ v4 : Prop) then nm (v3 + 1) fun t13 => k10 v1 v2 t13 M else if (((v1 >>> (v3 &&& 31)) &&& 1) = 0 : Prop) then f_X4_flowDeterminant_b41 k10 k18 o v1 v2 v3 v4 M else if (((v1 >>> (v4 &&& 31)) &&& 1) = 0 : Prop) then f_X4_flowDeterminant_b41 k10 k18 o v1 v2 v3 v4 M else f_X4_flowDeterminant_b46 k10 k18 o v1 v2 v3 v4 0 M
def f_X4_flowDeterminant_b18 (k10 : Int32 → Int32 → Int32 → Mm → Option (Int64 × Mm)) (o : Nat) : Nat → Int32 → Int32 → Int32 → Int32 → Mm → Option (Int64 × Mm)
  | 0, _, _, _, _, _ => none
  | n + 1, v1, v2, v3, v4, M => f_X4_flowDeterminant_b18B k10 (f_X4_flowDeterminant_b18 k10 o n) o v1 v2 v3 v4 M
def f_X4_flowDeterminant_b10B (k10 : Int32 → Int32 → Int32 → Mm → Option (Int64 × Mm)) (o : Nat) (v1 : Int32) (v2 : Int32) (v3 : Int32) (M : Mm) : Option (Int64 × Mm) := if (4 ≤ v3 : Prop) then bd (f_X7_determinant (fld o 2) M) fun q17 => some (q17.1, q17.2) else f_X4_flowDeterminant_b18 k10 o fuel v1 v2 v3 0 M
def f_X4_flowDeterminant_b10 (o : Nat) : Nat → Int32 → Int32 → Int32 → Mm → Option (Int64 × Mm)
  | 0, _, _, _, _ => none
  | n + 1, v1, v2, v3, M => f_X4_flowDeterminant_b10B (f_X4_flowDeterminant_b10 o n) o v1 v2 v3 M
def f_X4_flowDeterminant (o : Nat) (x1 : Int32) (x2 : Int32) (M : Mm) : Option (Int64 × Mm) := nm (sI M (fld o 2) 1 4) fun M18 => f_X4_flowDeterminant_b10 o fuel x1 x2 0 M18
def f_X4_handsThere_b4B (k4 : Int32 → Int32 → Mm → Option (Int32 × Mm)) (o : Nat) (v1 : Int32) (v2 : Int32) (M : Mm) : Option (Int32 × Mm) := if (4 ≤ v2 : Prop) then some (v1, M) else bd (f_X4_has o v2 M) fun q2 => if (q2.1 = 0 : Prop) then nm (v2 + 1) fun t4 => k4 v1 t4 q2.2 else ck v2 4 (if ((mI q2.2 (elm (fld o 0) (Int32.toNatClampNeg v2)) 1) = 3 : Prop) then nm (v2 + 1) fun t7 => k4 v1 t7 q2.2 else ck v2 4 (nm (v1 + (mI q2.2 (elm (fld o 0) (Int32.toNatClampNeg v2)) 3)) fun t9 => nm (v2 + 1) fun t10 => k4 t9 t10 q2.2))
def f_X4_handsThere_b4 (o : Nat) : Nat → Int32 → Int32 → Mm → Option (Int32 × Mm)
  | 0, _, _, _ => none
  | n + 1, v1, v2, M => f_X4_handsThere_b4B (f_X4_handsThere_b4 o n) o v1 v2 M
def f_X4_handsThere (o : Nat) (M : Mm) : Option (Int32 × Mm) := f_X4_handsThere_b4 o fuel 0 0 M
def f_X4_isProduct_b2B (k2 : Int32 → Mm → Option (Int32 × Mm)) (o : Nat) (v1 : Int32) (M : Mm) : Option (Int32 × Mm) := if (4 ≤ v1 : Prop) then some (1, M) else ck v1 4 (if ((mI M (elm (fld o 0) (Int32.toNatClampNeg v1)) 1) = 4 : Prop) then some (0, M) else ck v1 4 (if ((mI M (elm (fld o 0) (Int32.toNatClampNeg v1)) 1) = 5 : Prop) then some (0, M) else nm (v1 + 1) fun t6 => k2 t6 M))
def f_X4_isProduct_b2 (o : Nat) : Nat → Int32 → Mm → Option (Int32 × Mm)
  | 0, _, _ => none
  | n + 1, v1, M => f_X4_isProduct_b2B (f_X4_isProduct_b2 o n) o v1 M
def f_X4_isProduct (o : Nat) (M : Mm) : Option (Int32 × Mm) := f_X4_isProduct_b2 o fuel 0 M
def f_X4_loadPaths_b17B (k10 : Int32 → Mm → Option Mm) (k17 : Int32 → Int32 → Mm → Option Mm) (o : Nat) (v1 : Int32) (v2 : Int32) (M : Mm) : Option Mm := if (4 ≤ v2 : Prop) then nm (v1 + 1) fun t2 => k10 t2 M else ck v1 6 (ck v1 4 (ck v2 4 (ck v2 6 (nm (sI M (elm (fld (fld o 1) 0) (Int32.toNatClampNeg v1)) (Int32.toNatClampNeg v2) (mI M (fld (elm (fld o 0) (Int32.toNatClampNeg v1)) 0) (Int32.toNatClampNeg v2))) fun M7 => nm (v2 + 1) fun t8 => k17 v1 t8 M7))))
def f_X4_loadPaths_b17 (k10 : Int32 → Mm → Option Mm) (o : Nat) : Nat → Int32 → Int32 → Mm → Option Mm
  | 0, _, _, _ => none
  | n + 1, v1, v2, M => f_X4_loadPaths_b17B k10 (f_X4_loadPaths_b17 k10 o n) o v1 v2 M
def f_X4_loadPaths_b10B (k10 : Int32 → Mm → Option Mm) (o : Nat) (v1 : Int32) (M : Mm) : Option Mm := if (4 ≤ v1 : Prop) then bd (f_X0_noteLeads (fld o 1) M) fun M10 => some M10 else f_X4_loadPaths_b17 k10 o fuel v1 0 M
def f_X4_loadPaths_b10 (o : Nat) : Nat → Int32 → Mm → Option Mm
  | 0, _, _ => none
  | n + 1, v1, M => f_X4_loadPaths_b10B (f_X4_loadPaths_b10 o n) o v1 M
def f_X4_loadPaths (o : Nat) (M : Mm) : Option Mm := nm (sI M (fld o 1) 3 4) fun M11 => f_X4_loadPaths_b10 o fuel 0 M11
def f_X4_isInnerOf (o : Nat) (x1 : Int32) (x2 : Int32) (M : Mm) : Option (Int32 × Mm) := ck x1 4 (if ((mI M (elm (fld o 0) (Int32.toNatClampNeg x1)) 5) = 0 : Prop) then ck x1 4 (bd (f_X1_leaving (elm (fld o 0) (Int32.toNatClampNeg x1)) M) fun q4 => if (q4.1 = 0 : Prop) then bd (f_X0_reachedFrom (fld o 1) (1 <<< (x1 &&& 31)) q4.2) fun q6 => if (q6.1 = x2 : Prop) then some (1, q6.2) else some (0, q6.2) else some (0, q4.2)) else some (0, M))
def f_X4_isClosed_b24B (k24 : Int32 → Int32 → Mm → Option (Int32 × Mm)) (o : Nat) (v1 : Int32) (v2 : Int32) (M : Mm) : Option (Int32 × Mm) := if (4 ≤ v2 : Prop) then some (1, M) else bd (f_X4_has o v2 M) fun q2 => if (q2.1 = 0 : Prop) then nm (v2 + 1) fun t4 => k24 v1 t4 q2.2 else bd (f_X4_isInnerOf o v2 v1 q2.2) fun q5 => if (q5.1 = 0 : Prop) then some (0, q5.2) else nm (v2 + 1) fun t7 => k24 v1 t7 q5.2
def f_X4_isClosed_b24 (o : Nat) : Nat → Int32 → Int32 → Mm → Option (Int32 × Mm)
  | 0, _, _, _ => none
  | n + 1, v1, v2, M => f_X4_isClosed_b24B (f_X4_isClosed_b24 o n) o v1 v2 M
def f_X4_isClosed (o : Nat) (M : Mm) : Option (Int32 × Mm) := bd (f_X4_bitsThere o M) fun q8 => if (q8.1 = 0 : Prop) then some (0, q8.2) else bd (f_X4_isProduct o q8.2) fun q10 => if (q10.1 = 0 : Prop) then some (0, q10.2) else bd (f_X4_loadPaths o q10.2) fun M12 => f_X4_isClosed_b24 o fuel q8.1 0 M12
def f_X4_isOverfull (o : Nat) (x1 : Int32) (M : Mm) : Option (Int32 × Mm) := bd (f_X4_has o x1 M) fun q1 => if (q1.1 = 0 : Prop) then some (0, q1.2) else ck x1 4 (if ((mI q1.2 (elm (fld o 0) (Int32.toNatClampNeg x1)) 1) = 3 : Prop) then some (0, q1.2) else if ((lg_cmp (mJ q1.2 (fld o 4) 0) (mJ q1.2 (fld o 4) 1)) < 0 : Prop) then some (0, q1.2) else some (1, q1.2))
def f_X4_keptBits_b55B (k55 : Int32 → Int32 → Int32 → Int32 → Mm → Option (Int32 × Mm)) (o : Nat) (v1 : Int32) (v2 : Int32) (v3 : Int32) (v4 : Int32) (M : Mm) : Option (Int32 × Mm) := if (4 ≤ v4 : Prop) then some (v3, M) else if (((v2 >>> (v4 &&& 31)) &&& 1) = 0 : Prop) then nm (v4 + 1) fun t3 => k55 v1 v2 v3 t3 M else bd (f_X0_reachedFrom (fld o 1) (1 <<< (v4 &&& 31)) M) fun q4 => if ((q4.1 &&& v1) = 0 : Prop) then nm (v3 ||| (1 <<< (v4 &&& 31))) fun t7 => nm (v4 + 1) fun t8 => k55 v1 v2 t7 t8 q4.2 else nm (v4 + 1) fun t6 => k55 v1 v2 v3 t6 q4.2
def f_X4_keptBits_b55 (o : Nat) : Nat → Int32 → Int32 → Int32 → Int32 → Mm → Option (Int32 × Mm)
  | 0, _, _, _, _, _ => none
  | n + 1, v1, v2, v3, v4, M => f_X4_keptBits_b55B (f_X4_keptBits_b55 o n) o v1 v2 v3 v4 M
def f_X4_keptBits_b8B (k8 : Int32 → Int32 → Mm → Option (Int32 × Mm)) (o : Nat) (v1 : Int32) (v2 : Int32) (M : Mm) : Option (Int32 × Mm) := if (4 ≤ v2 : Prop) then bd (f_X4_bitsReached o M) fun q10 => f_X4_keptBits_b55 o fuel v1 q10.1 0 0 q10.2 else bd (f_X4_has o v2 M) fun q11 => if (q11.1 = 0 : Prop) then nm (v2 + 1) fun t13 => k8 v1 t13 q11.2 else ck v2 4 (bd (f_X1_leaving (elm (fld o 0) (Int32.toNatClampNeg v2)) q11.2) fun q15 => if (q15.1 ≤ 0 : Prop) then nm (v2 + 1) fun t17 => k8 v1 t17 q15.2 else nm (v1 ||| (1 <<< (v2 &&& 31))) fun t18 => nm (v2 + 1) fun t19 => k8 t18 t19 q15.2)
def f_X4_keptBits_b8 (o : Nat) : Nat → Int32 → Int32 → Mm → Option (Int32 × Mm)
  | 0, _, _, _ => none
  | n + 1, v1, v2, M => f_X4_keptBits_b8B (f_X4_keptBits_b8 o n) o v1 v2 M
def f_X4_keptBits (o : Nat) (M : Mm) : Option (Int32 × Mm) := bd (f_X4_loadPaths o M) fun M20 => f_X4_keptBits_b8 o fuel 0 0 M20
def f_X4_leadingTo_b4B (k4 : Int32 → Int32 → Int32 → Mm → Option (Int32 × Mm)) (o : Nat) (v1 : Int32) (v2 : Int32) (v3 : Int32) (M : Mm) : Option (Int32 × Mm) := if (4 ≤ v3 : Prop) then some (v2, M) else bd (f_X4_has o v1 M) fun q2 => if (q2.1 = 0 : Prop) then nm (v3 + 1) fun t4 => k4 v1 v2 t4 q2.2 else ck v3 4 (ck v1 4 (if ((mI q2.2 (fld (elm (fld o 0) (Int32.toNatClampNeg v3)) 0) (Int32.toNatClampNeg v1)) ≤ 0 : Prop) then nm (v3 + 1) fun t8 => k4 v1 v2 t8 q2.2 else nm (v2 + 1) fun t9 => nm (v3 + 1) fun t10 => k4 v1 t9 t10 q2.2))
def f_X4_leadingTo_b4 (o : Nat) : Nat → Int32 → Int32 → Int32 → Mm → Option (Int32 × Mm)
  | 0, _, _, _, _ => none
  | n + 1, v1, v2, v3, M => f_X4_leadingTo_b4B (f_X4_leadingTo_b4 o n) o v1 v2 v3 M
def f_X4_leadingTo (o : Nat) (x1 : Int32) (M : Mm) : Option (Int32 × Mm) := f_X4_leadingTo_b4 o fuel x1 0 0 M
def f_X4_replace_b22B (k22 : Int32 → Int32 → Mm → Option Mm) (o : Nat) (v1 : Int32) (v3 : Int32) (M : Mm) : Option Mm := if (4 ≤ v3 : Prop) then some M else ck v3 4 (ck v1 4 (nm (sI M (fld (elm (fld o 0) (Int32.toNatClampNeg v3)) 0) (Int32.toNatClampNeg v1) 0) fun M4 => nm (v3 + 1) fun t5 => k22 v1 t5 M4))
def f_X4_replace_b22 (o : Nat) : Nat → Int32 → Int32 → Mm → Option Mm
  | 0, _, _, _ => none
  | n + 1, v1, v3, M => f_X4_replace_b22B (f_X4_replace_b22 o n) o v1 v3 M
def f_X4_replace (o : Nat) (x1 : Int32) (x2 : Int32) (M : Mm) : Option Mm := if (x1 < 0 : Prop) then some M else if (x1 < 4 : Prop) then ck x1 4 (bd (f_X1_begin (elm (fld o 0) (Int32.toNatClampNeg x1)) x2 M) fun M9 => f_X4_replace_b22 o fuel x1 0 M9) else some M
def f_X4_thingsOf_b40 (k5 : Nat → Int64 → Int32 → Mm → Option (Int32 × Mm)) (o : Nat) (v1 : Nat) (v2 : Int64) (v4 : Int32) (M : Mm) : Option (Int32 × Mm) := bd (f_X6_at v1 v4 M) fun q1 => nm (v2 + (Int32.toInt64 q1.1)) fun t2 => nm (v4 + 1) fun t3 => k5 v1 t2 t3 q1.2
def f_X4_thingsOf_b5B (k5 : Nat → Int64 → Int32 → Mm → Option (Int32 × Mm)) (o : Nat) (v1 : Nat) (v2 : Int64) (v4 : Int32) (M : Mm) : Option (Int32 × Mm) := if (4 ≤ v4 : Prop) then if (0 < (lg_cmp v2 4) : Prop) then some (0, M) else some (Int64.toInt32 v2, M) else bd (f_X6_at v1 v4 M) fun q6 => if (q6.1 < 0 : Prop) then some (0, q6.2) else bd (f_X6_at v1 v4 q6.2) fun q8 => if (q8.1 ≤ 0 : Prop) then f_X4_thingsOf_b40 k5 o v1 v2 v4 q8.2 else bd (f_X4_has o v4 q8.2) fun q10 => if (q10.1 = 0 : Prop) then some (0, q10.2) else f_X4_thingsOf_b40 k5 o v1 v2 v4 q10.2
def f_X4_thingsOf_b5 (o : Nat) : Nat → Nat → Int64 → Int32 → Mm → Option (Int32 × Mm)
  | 0, _, _, _, _ => none
  | n + 1, v1, v2, v4, M => f_X4_thingsOf_b5B (f_X4_thingsOf_b5 o n) o v1 v2 v4 M
def f_X4_thingsOf (o : Nat) (x1 : Nat) (M : Mm) : Option (Int32 × Mm) := f_X4_thingsOf_b5 o fuel x1 0 0 M
def f_X4_waysThere_b4B (k4 : Int32 → Int32 → Mm → Option (Int32 × Mm)) (o : Nat) (v1 : Int32) (v2 : Int32) (M : Mm) : Option (Int32 × Mm) := if (4 ≤ v2 : Prop) then some (v1, M) else bd (f_X4_leadingTo o v2 M) fun q2 => nm (v1 + q2.1) fun t3 => nm (v2 + 1) fun t4 => k4 t3 t4 q2.2
def f_X4_waysThere_b4 (o : Nat) : Nat → Int32 → Int32 → Mm → Option (Int32 × Mm)
  | 0, _, _, _ => none
  | n + 1, v1, v2, M => f_X4_waysThere_b4B (f_X4_waysThere_b4 o n) o v1 v2 M
def f_X4_waysThere (o : Nat) (M : Mm) : Option (Int32 × Mm) := f_X4_waysThere_b4 o fuel 0 0 M
def f_X4_workOutFlow (o : Nat) (x1 : Int32) (M : Mm) : Option Mm := bd (f_X4_has o x1 M) fun q1 => if (q1.1 = 0 : Prop) then some q1.2 else bd (f_X4_loadPaths o q1.2) fun M3 => bd (f_X4_bitsReached o M3) fun q4 => bd (f_X4_flowDeterminant o q4.1 (-9) q4.2) fun q5 => bd (f_X4_flowDeterminant o q4.1 x1 q5.2) fun q6 => bd (f_X2_set (fld o 3) (4 * q6.1) q5.1 q6.2) fun M7 => ck x1 4 (bd (f_X2_set (fld o 4) (mJ M7 (fld o 3) 0) (((mJ M7 (fld o 3) 1) * (Int32.toInt64 (mI M7 (elm (fld o 0) (Int32.toNatClampNeg x1)) 2))) * (Int32.toInt64 (mI M7 (elm (fld o 0) (Int32.toNatClampNeg x1)) 3))) M7) fun M9 => some M9)
def f_X4_workOutMean (o : Nat) (x1 : Int32) (x2 : Nat) (M : Mm) : Option Mm := bd (f_X4_has o x1 M) fun q1 => if (q1.1 = 0 : Prop) then some q1.2 else nm (mJ q1.2 (fld o 4) 0) fun t3 => nm (mJ q1.2 (fld o 4) 1) fun t4 => ck x1 4 (if ((mI q1.2 (elm (fld o 0) (Int32.toNatClampNeg x1)) 1) = 3 : Prop) then bd (f_X2_set x2 t3 t4 q1.2) fun M11 => some M11 else ck x1 4 (if ((mI q1.2 (elm (fld o 0) (Int32.toNatClampNeg x1)) 3) = 2 : Prop) then bd (f_X2_set x2 ((2 * t3) * t4) ((t4 * t4) - (t3 * t3)) q1.2) fun M10 => some M10 else bd (f_X2_set x2 t3 (t4 - t3) q1.2) fun M9 => some M9))
def f_X5_beginStates_b2B (k2 : Int32 → Int32 → Mm → Option Mm) (o : Nat) (v1 : Int32) (v2 : Int32) (M : Mm) : Option Mm := if (4 ≤ v2 : Prop) then ck 0 4 (nm (sI M (fld o 6) (Int32.toNatClampNeg 0) v1) fun M3 => some M3) else ck v2 4 (nm (sI M (fld o 6) (Int32.toNatClampNeg v2) 0) fun M5 => nm (v2 + 1) fun t6 => k2 v1 t6 M5)
def f_X5_beginStates_b2 (o : Nat) : Nat → Int32 → Int32 → Mm → Option Mm
  | 0, _, _, _ => none
  | n + 1, v1, v2, M => f_X5_beginStates_b2B (f_X5_beginStates_b2 o n) o v1 v2 M
def f_X5_beginStates (o : Nat) (x1 : Int32) (M : Mm) : Option Mm := f_X5_beginStates_b2 o fuel x1 0 M
def f_X5_isState_b2B (k2 : Int32 → Mm → Option (Int32 × Mm)) (o : Nat) (v1 : Int32) (M : Mm) : Option (Int32 × Mm) := if (4 ≤ v1 : Prop) then some (1, M) else ck v1 4 (if ((mI M (fld o 6) (Int32.toNatClampNeg v1)) ≤ 0 : Prop) then nm (v1 + 1) fun t4 => k2 t4 M else ck v1 4 (if ((mI M (fld o 1) (Int32.toNatClampNeg v1)) = (-1) : Prop) then some (0, M) else nm (v1 + 1) fun t7 => k2 t7 M))
def f_X5_isState_b2 (o : Nat) : Nat → Int32 → Mm → Option (Int32 × Mm)
  | 0, _, _ => none
  | n + 1, v1, M => f_X5_isState_b2B (f_X5_isState_b2 o n) o v1 M
def f_X5_isState (o : Nat) (M : Mm) : Option (Int32 × Mm) := f_X5_isState_b2 o fuel 0 M
def f_X5_busy (o : Nat) (x1 : Int32) (x2 : Int32) (M : Mm) : Option (Int32 × Mm) := ck x1 4 (if ((mI M (fld o 1) (Int32.toNatClampNeg x1)) = 3 : Prop) then some (x2, M) else ck x1 4 (some (if (mI M (fld o 3) (Int32.toNatClampNeg x1)) < x2 then (mI M (fld o 3) (Int32.toNatClampNeg x1)) else x2, M)))
def f_X5_weight_b16B (k7 : Int64 → Int64 → Int32 → Mm → Option (Int64 × Mm)) (k16 : Int64 → Int64 → Int32 → Int32 → Mm → Option (Int64 × Mm)) (o : Nat) (v1 : Int64) (v3 : Int64) (v5 : Int32) (v6 : Int32) (M : Mm) : Option (Int64 × Mm) := ck v5 4 (if ((mI M (fld o 6) (Int32.toNatClampNeg v5)) < v6 : Prop) then nm (v5 + 1) fun t3 => k7 v1 v3 t3 M else ck v5 4 (nm (v1 * (mJ M (fld o 4) (Int32.toNatClampNeg v5))) fun t5 => bd (f_X5_busy o v5 v6 M) fun q6 => nm (v3 * (Int32.toInt64 q6.1)) fun t7 => nm (v6 + 1) fun t8 => k16 t5 t7 v5 t8 q6.2))
def f_X5_weight_b16 (k7 : Int64 → Int64 → Int32 → Mm → Option (Int64 × Mm)) (o : Nat) : Nat → Int64 → Int64 → Int32 → Int32 → Mm → Option (Int64 × Mm)
  | 0, _, _, _, _, _ => none
  | n + 1, v1, v3, v5, v6, M => f_X5_weight_b16B k7 (f_X5_weight_b16 k7 o n) o v1 v3 v5 v6 M
def f_X5_weight_b7B (k7 : Int64 → Int64 → Int32 → Mm → Option (Int64 × Mm)) (o : Nat) (v1 : Int64) (v3 : Int64) (v5 : Int32) (M : Mm) : Option (Int64 × Mm) := if (4 ≤ v5 : Prop) then if ((lg_cmp v3 0) ≤ 0 : Prop) then some (0, M) else dvJ v3 (some (v1 * (24 / v3), M)) else f_X5_weight_b16 k7 o fuel v1 v3 v5 1 M
def f_X5_weight_b7 (o : Nat) : Nat → Int64 → Int64 → Int32 → Mm → Option (Int64 × Mm)
  | 0, _, _, _, _ => none
  | n + 1, v1, v3, v5, M => f_X5_weight_b7B (f_X5_weight_b7 o n) o v1 v3 v5 M
def f_X5_weight (o : Nat) (M : Mm) : Option (Int64 × Mm) := f_X5_weight_b7 o fuel 1 1 0 M
def f_X5_served (o : Nat) (x1 : Int32) (M : Mm) : Option (Int64 × Mm) := ck x1 4 (ck x1 4 (bd (f_X5_busy o x1 (mI M (fld o 6) (Int32.toNatClampNeg x1)) M) fun q3 => some ((Int32.toInt64 (mI M (fld o 2) (Int32.toNatClampNeg x1))) * (Int32.toInt64 q3.1), q3.2)))
def f_X5_comingTo_b5B (k5 : Int32 → Int64 → Int32 → Mm → Option (Int64 × Mm)) (o : Nat) (v1 : Int32) (v2 : Int64) (v4 : Int32) (M : Mm) : Option (Int64 × Mm) := if (4 ≤ v4 : Prop) then some (v2, M) else ck v4 4 (ck v1 4 (if ((mI M (elm (fld o 5) (Int32.toNatClampNeg v4)) (Int32.toNatClampNeg v1)) ≤ 0 : Prop) then nm (v4 + 1) fun t5 => k5 v1 v2 t5 M else ck v4 4 (ck v4 4 (nm (sI M (fld o 6) (Int32.toNatClampNeg v4) ((mI M (fld o 6) (Int32.toNatClampNeg v4)) + 1)) fun M8 => bd (f_X5_weight o M8) fun q9 => bd (f_X5_served o v4 q9.2) fun q10 => ck v4 4 (ck v1 4 (nm (v2 + ((q9.1 * q10.1) * (Int32.toInt64 (mI q10.2 (elm (fld o 5) (Int32.toNatClampNeg v4)) (Int32.toNatClampNeg v1))))) fun t13 => ck v4 4 (ck v4 4 (nm (sI q10.2 (fld o 6) (Int32.toNatClampNeg v4) ((mI q10.2 (fld o 6) (Int32.toNatClampNeg v4)) - 1)) fun M16 => nm (v4 + 1) fun t17 => k5 v1 t13 t17 M16))))))))
def f_X5_comingTo_b5 (o : Nat) : Nat → Int32 → Int64 → Int32 → Mm → Option (Int64 × Mm)
  | 0, _, _, _, _ => none
  | n + 1, v1, v2, v4, M => f_X5_comingTo_b5B (f_X5_comingTo_b5 o n) o v1 v2 v4 M
def f_X5_comingTo (o : Nat) (x1 : Int32) (M : Mm) : Option (Int64 × Mm) := f_X5_comingTo_b5 o fuel x1 0 0 M
def f_X5_comingHere_b4B (k4 : Int64 → Int32 → Mm → Option (Int64 × Mm)) (o : Nat) (v1 : Int64) (v3 : Int32) (M : Mm) : Option (Int64 × Mm) := if (4 ≤ v3 : Prop) then some (v1, M) else ck v3 4 (if ((mI M (fld o 6) (Int32.toNatClampNeg v3)) ≤ 0 : Prop) then nm (v3 + 1) fun t4 => k4 v1 t4 M else ck v3 4 (ck v3 4 (nm (sI M (fld o 6) (Int32.toNatClampNeg v3) ((mI M (fld o 6) (Int32.toNatClampNeg v3)) - 1)) fun M7 => bd (f_X5_comingTo o v3 M7) fun q8 => nm (v1 + q8.1) fun t9 => ck v3 4 (ck v3 4 (nm (sI q8.2 (fld o 6) (Int32.toNatClampNeg v3) ((mI q8.2 (fld o 6) (Int32.toNatClampNeg v3)) + 1)) fun M12 => nm (v3 + 1) fun t13 => k4 t9 t13 M12)))))
def f_X5_comingHere_b4 (o : Nat) : Nat → Int64 → Int32 → Mm → Option (Int64 × Mm)
  | 0, _, _, _ => none
  | n + 1, v1, v3, M => f_X5_comingHere_b4B (f_X5_comingHere_b4 o n) o v1 v3 M
def f_X5_comingHere (o : Nat) (M : Mm) : Option (Int64 × Mm) := f_X5_comingHere_b4 o fuel 0 0 M
def f_X5_goingFromHere_b12B (k4 : Int64 → Int32 → Mm → Option (Int64 × Mm)) (k12 : Int64 → Int32 → Int32 → Mm → Option (Int64 × Mm)) (o : Nat) (v1 : Int64) (v3 : Int32) (v4 : Int32) (M : Mm) : Option (Int64 × Mm) := if (4 ≤ v4 : Prop) then nm (v3 + 1) fun t2 => k4 v1 t2 M else bd (f_X5_served o v3 M) fun q3 => ck v3 4 (ck v4 4 (nm (v1 + (q3.1 * (Int32.toInt64 (mI q3.2 (elm (fld o 5) (Int32.toNatClampNeg v3)) (Int32.toNatClampNeg v4))))) fun t6 => nm (v4 + 1) fun t7 => k12 t6 v3 t7 q3.2))
def f_X5_goingFromHere_b12 (k4 : Int64 → Int32 → Mm → Option (Int64 × Mm)) (o : Nat) : Nat → Int64 → Int32 → Int32 → Mm → Option (Int64 × Mm)
  | 0, _, _, _, _ => none
  | n + 1, v1, v3, v4, M => f_X5_goingFromHere_b12B k4 (f_X5_goingFromHere_b12 k4 o n) o v1 v3 v4 M
def f_X5_goingFromHere_b4B (k4 : Int64 → Int32 → Mm → Option (Int64 × Mm)) (o : Nat) (v1 : Int64) (v3 : Int32) (M : Mm) : Option (Int64 × Mm) := if (4 ≤ v3 : Prop) then bd (f_X5_weight o M) fun q9 => some (v1 * q9.1, q9.2) else f_X5_goingFromHere_b12 k4 o fuel v1 v3 0 M
def f_X5_goingFromHere_b4 (o : Nat) : Nat → Int64 → Int32 → Mm → Option (Int64 × Mm)
  | 0, _, _, _ => none
  | n + 1, v1, v3, M => f_X5_goingFromHere_b4B (f_X5_goingFromHere_b4 o n) o v1 v3 M
def f_X5_goingFromHere (o : Nat) (M : Mm) : Option (Int64 × Mm) := f_X5_goingFromHere_b4 o fuel 0 0 M
def f_X5_nextState_b6B (k6 : Int32 → Int32 → Mm → Option (Int32 × Mm)) (o : Nat) (v1 : Int32) (v2 : Int32) (M : Mm) : Option (Int32 × Mm) := if (v2 < 0 : Prop) then some (0, M) else ck v2 4 (if ((mI M (fld o 6) (Int32.toNatClampNeg v2)) ≤ 0 : Prop) then nm (v2 + (-1)) fun t4 => k6 v1 t4 M else ck v1 4 (nm ((mI M (fld o 6) (Int32.toNatClampNeg v1)) + 1) fun t6 => ck v1 4 (nm (sI M (fld o 6) (Int32.toNatClampNeg v1) 0) fun M8 => ck v2 4 (ck v2 4 (nm (sI M8 (fld o 6) (Int32.toNatClampNeg v2) ((mI M8 (fld o 6) (Int32.toNatClampNeg v2)) - 1)) fun M11 => ck (v2 + 1) 4 (nm (sI M11 (fld o 6) (Int32.toNatClampNeg (v2 + 1)) t6) fun M13 => some (1, M13)))))))
def f_X5_nextState_b6 (o : Nat) : Nat → Int32 → Int32 → Mm → Option (Int32 × Mm)
  | 0, _, _, _ => none
  | n + 1, v1, v2, M => f_X5_nextState_b6B (f_X5_nextState_b6 o n) o v1 v2 M
def f_X5_nextState (o : Nat) (M : Mm) : Option (Int32 × Mm) := nm (3 - 1) fun t14 => f_X5_nextState_b6 o fuel 3 t14 M
def f_X5_balanced_b45 (k12 : Int32 → Int32 → Int32 → Mm → Option (Int32 × Mm)) (o : Nat) (v2 : Int32) (v4 : Int32) (M : Mm) : Option (Int32 × Mm) := bd (f_X5_nextState o M) fun q1 => nm (v4 + 1) fun t2 => k12 v2 q1.1 t2 q1.2
def f_X5_balanced_b12B (k12 : Int32 → Int32 → Int32 → Mm → Option (Int32 × Mm)) (o : Nat) (v2 : Int32) (v3 : Int32) (v4 : Int32) (M : Mm) : Option (Int32 × Mm) := if (v3 = 0 : Prop) then some (v2, M) else if (35 ≤ v4 : Prop) then some (v2, M) else bd (f_X5_isState o M) fun q5 => if (q5.1 = 0 : Prop) then f_X5_balanced_b45 k12 o v2 v4 q5.2 else bd (f_X5_comingHere o q5.2) fun q7 => bd (f_X5_goingFromHere o q7.2) fun q8 => if ((lg_cmp q7.1 q8.1) = 0 : Prop) then nm (v2 + 1) fun t10 => f_X5_balanced_b45 k12 o t10 v4 q8.2 else f_X5_balanced_b45 k12 o v2 v4 q8.2
def f_X5_balanced_b12 (o : Nat) : Nat → Int32 → Int32 → Int32 → Mm → Option (Int32 × Mm)
  | 0, _, _, _, _ => none
  | n + 1, v2, v3, v4, M => f_X5_balanced_b12B (f_X5_balanced_b12 o n) o v2 v3 v4 M
def f_X5_balanced (o : Nat) (x1 : Int32) (M : Mm) : Option (Int32 × Mm) := bd (f_X5_beginStates o x1 M) fun M11 => f_X5_balanced_b12 o fuel 0 1 0 M11
def f_X5_firstThere_b2B (k2 : Int32 → Mm → Option (Int32 × Mm)) (o : Nat) (v1 : Int32) (M : Mm) : Option (Int32 × Mm) := if (4 ≤ v1 : Prop) then some (0, M) else ck v1 4 (if ((mI M (fld o 1) (Int32.toNatClampNeg v1)) = (-1) : Prop) then nm (v1 + 1) fun t4 => k2 t4 M else some (v1, M))
def f_X5_firstThere_b2 (o : Nat) : Nat → Int32 → Mm → Option (Int32 × Mm)
  | 0, _, _ => none
  | n + 1, v1, M => f_X5_firstThere_b2B (f_X5_firstThere_b2 o n) o v1 M
def f_X5_firstThere (o : Nat) (M : Mm) : Option (Int32 × Mm) := f_X5_firstThere_b2 o fuel 0 M
def f_X5_load_b159B (k58 : Nat → Int64 → Int32 → Mm → Option Mm) (k159 : Nat → Int64 → Int32 → Nat → Int32 → Mm → Option Mm) (o : Nat) (v1 : Nat) (v3 : Int64) (v5 : Int32) (v6 : Nat) (v7 : Int32) (M : Mm) : Option Mm := if (4 ≤ v7 : Prop) then nm (v5 + 1) fun t2 => k58 v1 v3 t2 M else ck v5 4 (ck v7 4 (ck v7 4 (nm (sI M (elm (fld o 5) (Int32.toNatClampNeg v5)) (Int32.toNatClampNeg v7) (mI M (fld v6 0) (Int32.toNatClampNeg v7))) fun M6 => nm (v7 + 1) fun t7 => k159 v1 v3 v5 v6 t7 M6)))
def f_X5_load_b159 (k58 : Nat → Int64 → Int32 → Mm → Option Mm) (o : Nat) : Nat → Nat → Int64 → Int32 → Nat → Int32 → Mm → Option Mm
  | 0, _, _, _, _, _, _ => none
  | n + 1, v1, v3, v5, v6, v7, M => f_X5_load_b159B k58 (f_X5_load_b159 k58 o n) o v1 v3 v5 v6 v7 M
def f_X5_load_b98 (k58 : Nat → Int64 → Int32 → Mm → Option Mm) (o : Nat) (v1 : Nat) (v3 : Int64) (v5 : Int32) (v6 : Nat) (s0 : Nat) (s1 : Int32) (s2 : Int64) (M : Mm) : Option Mm := ck s1 4 (nm (sJ M s0 (Int32.toNatClampNeg s1) s2) fun M9 => ck v5 4 (nm (sI M9 (fld o 1) (Int32.toNatClampNeg v5) (mI M9 v6 1)) fun M11 => ck v5 4 (nm (sI M11 (fld o 2) (Int32.toNatClampNeg v5) (mI M11 v6 2)) fun M13 => ck v5 4 (nm (sI M13 (fld o 3) (Int32.toNatClampNeg v5) (mI M13 v6 3)) fun M15 => ck v5 4 (bd (f_X1_daysOf v6 M15) fun q17 => ck v5 4 (nm (sJ q17.2 (fld o 4) (Int32.toNatClampNeg v5) ((mJ M15 (fld o 0) (Int32.toNatClampNeg v5)) * (Int32.toInt64 q17.1))) fun M19 => f_X5_load_b159 k58 o fuel v1 v3 v5 v6 0 M19))))))
def f_X5_load_b58B (k58 : Nat → Int64 → Int32 → Mm → Option Mm) (o : Nat) (v1 : Nat) (v3 : Int64) (v5 : Int32) (M : Mm) : Option Mm := if (4 ≤ v5 : Prop) then some M else ck v5 4 (if ((lg_cmp v3 0) ≤ 0 : Prop) then f_X5_load_b98 k58 o v1 v3 v5 (elm (fld v1 0) (Int32.toNatClampNeg v5)) (fld o 0) v5 0 M else ck v5 4 (dvJ v3 (f_X5_load_b98 k58 o v1 v3 v5 (elm (fld v1 0) (Int32.toNatClampNeg v5)) (fld o 0) v5 ((mJ M (fld o 0) (Int32.toNatClampNeg v5)) / v3) M)))
def f_X5_load_b58 (o : Nat) : Nat → Nat → Int64 → Int32 → Mm → Option Mm
  | 0, _, _, _, _ => none
  | n + 1, v1, v3, v5, M => f_X5_load_b58B (f_X5_load_b58 o n) o v1 v3 v5 M
def f_X5_load_b14B (k14 : Nat → Int32 → Int64 → Int32 → Mm → Option Mm) (o : Nat) (v1 : Nat) (v2 : Int32) (v3 : Int64) (v5 : Int32) (M : Mm) : Option Mm := if (4 ≤ v5 : Prop) then f_X5_load_b58 o fuel v1 v3 0 M else bd (f_X0_weightOf (fld v1 1) v5 v2 M) fun q26 => ck v5 4 (nm (sJ q26.2 (fld o 0) (Int32.toNatClampNeg v5) q26.1) fun M28 => ck v5 4 (bd (f_X2_commonPart v3 (mJ M28 (fld o 0) (Int32.toNatClampNeg v5)) M28) fun q30 => nm (v5 + 1) fun t31 => k14 v1 v2 q30.1 t31 q30.2))
def f_X5_load_b14 (o : Nat) : Nat → Nat → Int32 → Int64 → Int32 → Mm → Option Mm
  | 0, _, _, _, _, _ => none
  | n + 1, v1, v2, v3, v5, M => f_X5_load_b14B (f_X5_load_b14 o n) o v1 v2 v3 v5 M
def f_X5_load (o : Nat) (x1 : Nat) (M : Mm) : Option Mm := bd (f_X4_loadPaths x1 M) fun M32 => bd (f_X4_bitsThere x1 M32) fun q33 => f_X5_load_b14 o fuel x1 q33.1 0 0 q33.2
def f_X5_strain (o : Nat) (x1 : Int32) (x2 : Int32) (M : Mm) : Option (Int64 × Mm) := ck x1 4 (ck x2 4 (some ((mJ M (fld o 4) (Int32.toNatClampNeg x1)) * (Int32.toInt64 (mI M (fld o 3) (Int32.toNatClampNeg x2))), M)))
def f_X5_narrowest_b35 (k5 : Int32 → Int32 → Mm → Option (Int32 × Mm)) (o : Nat) (v1 : Int32) (v2 : Int32) (s0 : Int32) (M : Mm) : Option (Int32 × Mm) := if (s0 = 0 : Prop) then nm (v2 + 1) fun t2 => k5 v1 t2 M else if (v1 = (-9) : Prop) then nm (v2 + 1) fun t4 => k5 v2 t4 M else bd (f_X5_strain o v2 v1 M) fun q5 => bd (f_X5_strain o v1 v2 q5.2) fun q6 => if ((lg_cmp q5.1 q6.1) ≤ 0 : Prop) then nm (v2 + 1) fun t8 => k5 v1 t8 q6.2 else nm (v2 + 1) fun t9 => k5 v2 t9 q6.2
def f_X5_narrowest_b34 (k5 : Int32 → Int32 → Mm → Option (Int32 × Mm)) (o : Nat) (v1 : Int32) (v2 : Int32) (M : Mm) : Option (Int32 × Mm) := f_X5_narrowest_b35 k5 o v1 v2 0 M
def f_X5_narrowest_b5B (k5 : Int32 → Int32 → Mm → Option (Int32 × Mm)) (o : Nat) (v1 : Int32) (v2 : Int32) (M : Mm) : Option (Int32 × Mm) := if (4 ≤ v2 : Prop) then some (v1, M) else ck v2 4 (if ((mI M (fld o 1) (Int32.toNatClampNeg v2)) = (-1) : Prop) then f_X5_narrowest_b34 k5 o v1 v2 M else ck v2 4 (if ((mI M (fld o 1) (Int32.toNatClampNeg v2)) = 3 : Prop) then f_X5_narrowest_b34 k5 o v1 v2 M else f_X5_narrowest_b35 k5 o v1 v2 1 M))
def f_X5_narrowest_b5 (o : Nat) : Nat → Int32 → Int32 → Mm → Option (Int32 × Mm)
  | 0, _, _, _ => none
  | n + 1, v1, v2, M => f_X5_narrowest_b5B (f_X5_narrowest_b5 o n) o v1 v2 M
def f_X5_narrowest (o : Nat) (M : Mm) : Option (Int32 × Mm) := f_X5_narrowest_b5 o fuel (-9) 0 M
def f_X5_weightOfAll_b13B (k13 : Int64 → Int32 → Int32 → Mm → Option (Int64 × Mm)) (o : Nat) (v2 : Int64) (v4 : Int32) (v5 : Int32) (M : Mm) : Option (Int64 × Mm) := if (v4 = 0 : Prop) then some (v2, M) else if (35 ≤ v5 : Prop) then some (v2, M) else bd (f_X5_weight o M) fun q3 => nm (v2 + q3.1) fun t4 => bd (f_X5_nextState o q3.2) fun q5 => nm (v5 + 1) fun t6 => k13 t4 q5.1 t6 q5.2
def f_X5_weightOfAll_b13 (o : Nat) : Nat → Int64 → Int32 → Int32 → Mm → Option (Int64 × Mm)
  | 0, _, _, _, _ => none
  | n + 1, v2, v4, v5, M => f_X5_weightOfAll_b13B (f_X5_weightOfAll_b13 o n) o v2 v4 v5 M
def f_X5_weightOfAll (o : Nat) (x1 : Int32) (M : Mm) : Option (Int64 × Mm) := bd (f_X5_beginStates o x1 M) fun M7 => f_X5_weightOfAll_b13 o fuel 0 1 0 M7
def f_X5_tellBest_b94 (k12 : Int32 → Nat → Int32 → Int64 → Int64 → Int32 → Mm → Option (Int32 × Mm)) (o : Nat) (v1 : Int32) (v2 : Nat) (v8 : Int32) (v9 : Int64) (v11 : Int64) (M : Mm) : Option (Int32 × Mm) := nm (v8 + 1) fun t1 => k12 v1 v2 v8 v9 v11 t1 M
def f_X5_tellBest_b12B (k12 : Int32 → Nat → Int32 → Int64 → Int64 → Int32 → Mm → Option (Int32 × Mm)) (o : Nat) (v1 : Int32) (v2 : Nat) (v3 : Int32) (v4 : Int64) (v6 : Int64) (v8 : Int32) (M : Mm) : Option (Int32 × Mm) := if (4 ≤ v8 : Prop) then if (v3 = (-9) : Prop) then some (v3, M) else bd (f_X5_firstThere o M) fun q4 => ck q4.1 4 (bd (f_X2_set v2 ((12 * (mJ q4.2 (fld o 0) (Int32.toNatClampNeg q4.1))) * v4) v6 q4.2) fun M6 => some (v3, M6)) else ck v8 4 (if ((mI M (fld o 1) (Int32.toNatClampNeg v8)) = 0 : Prop) then ck v8 4 (if ((mI M (fld o 3) (Int32.toNatClampNeg v8)) = 1 : Prop) then ck v8 4 (nm (sI M (fld o 3) (Int32.toNatClampNeg v8) 2) fun M13 => bd (f_X5_weightOfAll o (v1 - 1) M13) fun q14 => bd (f_X5_weightOfAll o v1 q14.2) fun q15 => ck v8 4 (nm (sI q15.2 (fld o 3) (Int32.toNatClampNeg v8) 1) fun M17 => if (v3 = (-9) : Prop) then f_X5_tellBest_b94 k12 o v1 v2 v8 q14.1 q15.1 M17 else bd (f_X2_isAbove q14.1 q15.1 v4 v6 M17) fun q19 => if (q19.1 = 0 : Prop) then nm (v8 + 1) fun t21 => k12 v1 v2 v3 v4 v6 t21 q19.2 else f_X5_tellBest_b94 k12 o v1 v2 v8 q14.1 q15.1 q19.2)) else nm (v8 + 1) fun t22 => k12 v1 v2 v3 v4 v6 t22 M) else nm (v8 + 1) fun t9 => k12 v1 v2 v3 v4 v6 t9 M)
def f_X5_tellBest_b12 (o : Nat) : Nat → Int32 → Nat → Int32 → Int64 → Int64 → Int32 → Mm → Option (Int32 × Mm)
  | 0, _, _, _, _, _, _, _ => none
  | n + 1, v1, v2, v3, v4, v6, v8, M => f_X5_tellBest_b12B (f_X5_tellBest_b12 o n) o v1 v2 v3 v4 v6 v8 M
def f_X5_tellBest (o : Nat) (x1 : Int32) (x2 : Nat) (M : Mm) : Option (Int32 × Mm) := f_X5_tellBest_b12 o fuel x1 x2 (-9) 0 1 0 M

def RX0 : String := "WaitingNets$Chain"
def TX0 : u_T := fun k => match k with
  | 0 => ("WaitingNets$Chain", "rates", "[[I", true)
  | 1 => ("WaitingNets$Chain", "leads", "[I", true)
  | 2 => ("WaitingNets$Chain", "square", "LWaitingNets$Square;", true)
  | _ => ("WaitingNets$Chain", "size", "I", false)
def tyX0 : Nat → FieldType := fun k => match k with
  | 0 => .array (.array .int)
  | 1 => .array .int
  | 2 => .object "WaitingNets$Square"
  | _ => .int
abbrev wsX00 : List Cond := u_ws RX0 TX0 4
theorem nmX0 : ∀ a, a < 4 → ∀ b, b < 4 → a ≠ b → (TX0 a).2.1 ≠ (TX0 b).2.1 := by decide +kernel
theorem tyX0_ok : ∀ k, k < 4 → parseFieldDescriptor (TX0 k).2.2.1 = some (tyX0 k) := by decide +kernel
abbrev cX0_init : ByteArray := prog_2_method_1_code
def yX0_init : MethodName := ⟨RX0, "<init>", "()V"⟩
abbrev cX0_load : ByteArray := prog_2_method_2_code
def yX0_load : MethodName := ⟨RX0, "load", "(LWaitingNets$Row;)V"⟩
abbrev cX0_noteLeads : ByteArray := prog_2_method_3_code
def yX0_noteLeads : MethodName := ⟨RX0, "noteLeads", "()V"⟩
abbrev cX0_reachedFrom : ByteArray := prog_2_method_4_code
def yX0_reachedFrom : MethodName := ⟨RX0, "reachedFrom", "(I)I"⟩
abbrev cX0_partOf : ByteArray := prog_2_method_5_code
def yX0_partOf : MethodName := ⟨RX0, "partOf", "(I)I"⟩
abbrev cX0_partsThere : ByteArray := prog_2_method_6_code
def yX0_partsThere : MethodName := ⟨RX0, "partsThere", "()I"⟩
abbrev cX0_firstPart : ByteArray := prog_2_method_7_code
def yX0_firstPart : MethodName := ⟨RX0, "firstPart", "()I"⟩
abbrev cX0_tellLasting : ByteArray := prog_2_method_8_code
def yX0_tellLasting : MethodName := ⟨RX0, "tellLasting", "(ILWaitingNets$Fraction;)V"⟩
abbrev cX0_weightOf : ByteArray := prog_2_method_9_code
def yX0_weightOf : MethodName := ⟨RX0, "weightOf", "(II)J"⟩
abbrev cX0_layLine : ByteArray := prog_2_method_10_code
def yX0_layLine : MethodName := ⟨RX0, "layLine", "(III)V"⟩
abbrev cX0_going : ByteArray := prog_2_method_11_code
def yX0_going : MethodName := ⟨RX0, "going", "(I)J"⟩
abbrev cX0_firstUneven : ByteArray := prog_2_method_12_code
def yX0_firstUneven : MethodName := ⟨RX0, "firstUneven", "(LWaitingNets$Row;)I"⟩
def RX1 : String := "WaitingNets$Counter"
def TX1 : u_T := fun k => match k with
  | 0 => ("WaitingNets$Counter", "ways", "[I", true)
  | 1 => ("WaitingNets$Counter", "kind", "I", false)
  | 2 => ("WaitingNets$Counter", "rate", "I", false)
  | 3 => ("WaitingNets$Counter", "hands", "I", false)
  | 4 => ("WaitingNets$Counter", "room", "I", false)
  | _ => ("WaitingNets$Counter", "comes", "I", false)
def tyX1 : Nat → FieldType := fun k => match k with
  | 0 => .array .int
  | 1 => .int
  | 2 => .int
  | 3 => .int
  | 4 => .int
  | _ => .int
abbrev wsX10 : List Cond := u_ws RX1 TX1 6
theorem nmX1 : ∀ a, a < 6 → ∀ b, b < 6 → a ≠ b → (TX1 a).2.1 ≠ (TX1 b).2.1 := by decide +kernel
theorem tyX1_ok : ∀ k, k < 6 → parseFieldDescriptor (TX1 k).2.2.1 = some (tyX1 k) := by decide +kernel
abbrev cX1_init : ByteArray := prog_3_method_1_code
def yX1_init : MethodName := ⟨RX1, "<init>", "()V"⟩
abbrev cX1_begin : ByteArray := prog_3_method_2_code
def yX1_begin : MethodName := ⟨RX1, "begin", "(I)V"⟩
abbrev cX1_isThere : ByteArray := prog_3_method_3_code
def yX1_isThere : MethodName := ⟨RX1, "isThere", "()Z"⟩
abbrev cX1_isOf : ByteArray := prog_3_method_4_code
def yX1_isOf : MethodName := ⟨RX1, "isOf", "(I)Z"⟩
abbrev cX1_leaving : ByteArray := prog_3_method_5_code
def yX1_leaving : MethodName := ⟨RX1, "leaving", "()I"⟩
abbrev cX1_fact : ByteArray := prog_3_method_6_code
def yX1_fact : MethodName := ⟨RX1, "fact", "(I)I"⟩
abbrev cX1_markOf : ByteArray := prog_3_method_7_code
def yX1_markOf : MethodName := ⟨RX1, "markOf", "(I)I"⟩
abbrev cX1_daysOf : ByteArray := prog_3_method_8_code
def yX1_daysOf : MethodName := ⟨RX1, "daysOf", "()I"⟩
abbrev cX1_roomWeight : ByteArray := prog_3_method_9_code
def yX1_roomWeight : MethodName := ⟨RX1, "roomWeight", "(II)J"⟩
abbrev cX1_mixInto : ByteArray := prog_3_method_10_code
def yX1_mixInto : MethodName := ⟨RX1, "mixInto", "(J)J"⟩
def RX2 : String := "WaitingNets$Fraction"
def TX2 : u_T := fun k => match k with
  | 0 => ("WaitingNets$Fraction", "upper", "J", false)
  | _ => ("WaitingNets$Fraction", "lower", "J", false)
def tyX2 : Nat → FieldType := fun k => match k with
  | 0 => .long
  | _ => .long
abbrev wsX20 : List Cond := u_ws RX2 TX2 2
theorem nmX2 : ∀ a, a < 2 → ∀ b, b < 2 → a ≠ b → (TX2 a).2.1 ≠ (TX2 b).2.1 := by decide +kernel
theorem tyX2_ok : ∀ k, k < 2 → parseFieldDescriptor (TX2 k).2.2.1 = some (tyX2 k) := by decide +kernel
abbrev cX2_init : ByteArray := prog_4_method_1_code
def yX2_init : MethodName := ⟨RX2, "<init>", "()V"⟩
abbrev cX2_set : ByteArray := prog_4_method_2_code
def yX2_set : MethodName := ⟨RX2, "set", "(JJ)V"⟩
abbrev cX2_take : ByteArray := prog_4_method_3_code
def yX2_take : MethodName := ⟨RX2, "take", "(LWaitingNets$Fraction;)V"⟩
abbrev cX2_commonPart : ByteArray := prog_4_method_4_code
def yX2_commonPart : MethodName := ⟨RX2, "commonPart", "(JJ)J"⟩
abbrev cX2_isAbove : ByteArray := prog_4_method_5_code
def yX2_isAbove : MethodName := ⟨RX2, "isAbove", "(JJJJ)Z"⟩
def RX3 : String := "WaitingNets$Line"
def TX3 : u_T := fun k => match k with
  | 0 => ("WaitingNets$Line", "firstFree", "I", false)
  | 1 => ("WaitingNets$Line", "secondFree", "I", false)
  | _ => ("WaitingNets$Line", "two", "Z", false)
def tyX3 : Nat → FieldType := fun k => match k with
  | 0 => .int
  | 1 => .int
  | _ => .boolean
abbrev wsX30 : List Cond := u_ws RX3 TX3 3
theorem nmX3 : ∀ a, a < 3 → ∀ b, b < 3 → a ≠ b → (TX3 a).2.1 ≠ (TX3 b).2.1 := by decide +kernel
theorem tyX3_ok : ∀ k, k < 3 → parseFieldDescriptor (TX3 k).2.2.1 = some (tyX3 k) := by decide +kernel
abbrev cX3_init : ByteArray := prog_5_method_1_code
def yX3_init : MethodName := ⟨RX3, "<init>", "()V"⟩
abbrev cX3_begin : ByteArray := prog_5_method_2_code
def yX3_begin : MethodName := ⟨RX3, "begin", "(I)V"⟩
abbrev cX3_serve : ByteArray := prog_5_method_3_code
def yX3_serve : MethodName := ⟨RX3, "serve", "(II)I"⟩
def RX4 : String := "WaitingNets$Net"
def TX4 : u_T := fun k => match k with
  | 0 => ("WaitingNets$Net", "counters", "[LWaitingNets$Counter;", true)
  | 1 => ("WaitingNets$Net", "paths", "LWaitingNets$Chain;", true)
  | 2 => ("WaitingNets$Net", "square", "LWaitingNets$Square;", true)
  | 3 => ("WaitingNets$Net", "flowThere", "LWaitingNets$Fraction;", true)
  | _ => ("WaitingNets$Net", "useThere", "LWaitingNets$Fraction;", true)
def tyX4 : Nat → FieldType := fun k => match k with
  | 0 => .array (.object "WaitingNets$Counter")
  | 1 => .object "WaitingNets$Chain"
  | 2 => .object "WaitingNets$Square"
  | 3 => .object "WaitingNets$Fraction"
  | _ => .object "WaitingNets$Fraction"
abbrev wsX40 : List Cond := u_ws RX4 TX4 5
theorem nmX4 : ∀ a, a < 5 → ∀ b, b < 5 → a ≠ b → (TX4 a).2.1 ≠ (TX4 b).2.1 := by decide +kernel
theorem tyX4_ok : ∀ k, k < 5 → parseFieldDescriptor (TX4 k).2.2.1 = some (tyX4 k) := by decide +kernel
abbrev cX4_init : ByteArray := prog_6_method_1_code
def yX4_init : MethodName := ⟨RX4, "<init>", "()V"⟩
abbrev cX4_has : ByteArray := prog_6_method_2_code
def yX4_has : MethodName := ⟨RX4, "has", "(I)Z"⟩
abbrev cX4_replace : ByteArray := prog_6_method_3_code
def yX4_replace : MethodName := ⟨RX4, "replace", "(II)V"⟩
abbrev cX4_bitsThere : ByteArray := prog_6_method_4_code
def yX4_bitsThere : MethodName := ⟨RX4, "bitsThere", "()I"⟩
abbrev cX4_handsThere : ByteArray := prog_6_method_5_code
def yX4_handsThere : MethodName := ⟨RX4, "handsThere", "()I"⟩
abbrev cX4_waysThere : ByteArray := prog_6_method_6_code
def yX4_waysThere : MethodName := ⟨RX4, "waysThere", "()I"⟩
abbrev cX4_leadingTo : ByteArray := prog_6_method_7_code
def yX4_leadingTo : MethodName := ⟨RX4, "leadingTo", "(I)I"⟩
abbrev cX4_isProduct : ByteArray := prog_6_method_8_code
def yX4_isProduct : MethodName := ⟨RX4, "isProduct", "()Z"⟩
abbrev cX4_loadPaths : ByteArray := prog_6_method_9_code
def yX4_loadPaths : MethodName := ⟨RX4, "loadPaths", "()V"⟩
abbrev cX4_bitsReached : ByteArray := prog_6_method_10_code
def yX4_bitsReached : MethodName := ⟨RX4, "bitsReached", "()I"⟩
abbrev cX4_keptBits : ByteArray := prog_6_method_11_code
def yX4_keptBits : MethodName := ⟨RX4, "keptBits", "()I"⟩
abbrev cX4_workOutFlow : ByteArray := prog_6_method_12_code
def yX4_workOutFlow : MethodName := ⟨RX4, "workOutFlow", "(I)V"⟩
abbrev cX4_flowDeterminant : ByteArray := prog_6_method_13_code
def yX4_flowDeterminant : MethodName := ⟨RX4, "flowDeterminant", "(II)J"⟩
abbrev cX4_isOverfull : ByteArray := prog_6_method_14_code
def yX4_isOverfull : MethodName := ⟨RX4, "isOverfull", "(I)Z"⟩
abbrev cX4_workOutMean : ByteArray := prog_6_method_15_code
def yX4_workOutMean : MethodName := ⟨RX4, "workOutMean", "(ILWaitingNets$Fraction;)V"⟩
abbrev cX4_isClosed : ByteArray := prog_6_method_16_code
def yX4_isClosed : MethodName := ⟨RX4, "isClosed", "()Z"⟩
abbrev cX4_isInnerOf : ByteArray := prog_6_method_17_code
def yX4_isInnerOf : MethodName := ⟨RX4, "isInnerOf", "(II)Z"⟩
abbrev cX4_thingsOf : ByteArray := prog_6_method_18_code
def yX4_thingsOf : MethodName := ⟨RX4, "thingsOf", "(LWaitingNets$Row;)I"⟩
def RX5 : String := "WaitingNets$Rounds"
def TX5 : u_T := fun k => match k with
  | 0 => ("WaitingNets$Rounds", "visited", "[J", true)
  | 1 => ("WaitingNets$Rounds", "kinds", "[I", true)
  | 2 => ("WaitingNets$Rounds", "rates", "[I", true)
  | 3 => ("WaitingNets$Rounds", "hands", "[I", true)
  | 4 => ("WaitingNets$Rounds", "shares", "[J", true)
  | 5 => ("WaitingNets$Rounds", "ways", "[[I", true)
  | _ => ("WaitingNets$Rounds", "state", "[I", true)
def tyX5 : Nat → FieldType := fun k => match k with
  | 0 => .array .long
  | 1 => .array .int
  | 2 => .array .int
  | 3 => .array .int
  | 4 => .array .long
  | 5 => .array (.array .int)
  | _ => .array .int
abbrev wsX50 : List Cond := u_ws RX5 TX5 7
theorem nmX5 : ∀ a, a < 7 → ∀ b, b < 7 → a ≠ b → (TX5 a).2.1 ≠ (TX5 b).2.1 := by decide +kernel
theorem tyX5_ok : ∀ k, k < 7 → parseFieldDescriptor (TX5 k).2.2.1 = some (tyX5 k) := by decide +kernel
abbrev cX5_init : ByteArray := prog_7_method_1_code
def yX5_init : MethodName := ⟨RX5, "<init>", "()V"⟩
abbrev cX5_load : ByteArray := prog_7_method_2_code
def yX5_load : MethodName := ⟨RX5, "load", "(LWaitingNets$Net;)V"⟩
abbrev cX5_beginStates : ByteArray := prog_7_method_3_code
def yX5_beginStates : MethodName := ⟨RX5, "beginStates", "(I)V"⟩
abbrev cX5_nextState : ByteArray := prog_7_method_4_code
def yX5_nextState : MethodName := ⟨RX5, "nextState", "()Z"⟩
abbrev cX5_weight : ByteArray := prog_7_method_5_code
def yX5_weight : MethodName := ⟨RX5, "weight", "()J"⟩
abbrev cX5_busy : ByteArray := prog_7_method_6_code
def yX5_busy : MethodName := ⟨RX5, "busy", "(II)I"⟩
abbrev cX5_weightOfAll : ByteArray := prog_7_method_7_code
def yX5_weightOfAll : MethodName := ⟨RX5, "weightOfAll", "(I)J"⟩
abbrev cX5_tellChance : ByteArray := prog_7_method_8_code
def yX5_tellChance : MethodName := ⟨RX5, "tellChance", "(LWaitingNets$Row;ILWaitingNets$Fraction;)V"⟩
abbrev cX5_tellThrough : ByteArray := prog_7_method_9_code
def yX5_tellThrough : MethodName := ⟨RX5, "tellThrough", "(IILWaitingNets$Fraction;)V"⟩
abbrev cX5_tellMeanOf : ByteArray := prog_7_method_10_code
def yX5_tellMeanOf : MethodName := ⟨RX5, "tellMeanOf", "(IILWaitingNets$Fraction;)V"⟩
abbrev cX5_narrowest : ByteArray := prog_7_method_11_code
def yX5_narrowest : MethodName := ⟨RX5, "narrowest", "()I"⟩
abbrev cX5_strain : ByteArray := prog_7_method_12_code
def yX5_strain : MethodName := ⟨RX5, "strain", "(II)J"⟩
abbrev cX5_tellBound : ByteArray := prog_7_method_13_code
def yX5_tellBound : MethodName := ⟨RX5, "tellBound", "(IILWaitingNets$Fraction;)V"⟩
abbrev cX5_tellBest : ByteArray := prog_7_method_14_code
def yX5_tellBest : MethodName := ⟨RX5, "tellBest", "(ILWaitingNets$Fraction;)I"⟩
abbrev cX5_firstThere : ByteArray := prog_7_method_15_code
def yX5_firstThere : MethodName := ⟨RX5, "firstThere", "()I"⟩
abbrev cX5_balanced : ByteArray := prog_7_method_16_code
def yX5_balanced : MethodName := ⟨RX5, "balanced", "(I)I"⟩
abbrev cX5_isState : ByteArray := prog_7_method_17_code
def yX5_isState : MethodName := ⟨RX5, "isState", "()Z"⟩
abbrev cX5_served : ByteArray := prog_7_method_18_code
def yX5_served : MethodName := ⟨RX5, "served", "(I)J"⟩
abbrev cX5_goingFromHere : ByteArray := prog_7_method_19_code
def yX5_goingFromHere : MethodName := ⟨RX5, "goingFromHere", "()J"⟩
abbrev cX5_comingHere : ByteArray := prog_7_method_20_code
def yX5_comingHere : MethodName := ⟨RX5, "comingHere", "()J"⟩
abbrev cX5_comingTo : ByteArray := prog_7_method_21_code
def yX5_comingTo : MethodName := ⟨RX5, "comingTo", "(I)J"⟩
def RX6 : String := "WaitingNets$Row"
def TX6 : u_T := fun k => match k with
  | 0 => ("WaitingNets$Row", "places", "[I", true)
  | _ => ("WaitingNets$Row", "size", "I", false)
def tyX6 : Nat → FieldType := fun k => match k with
  | 0 => .array .int
  | _ => .int
abbrev wsX60 : List Cond := u_ws RX6 TX6 2
theorem nmX6 : ∀ a, a < 2 → ∀ b, b < 2 → a ≠ b → (TX6 a).2.1 ≠ (TX6 b).2.1 := by decide +kernel
theorem tyX6_ok : ∀ k, k < 2 → parseFieldDescriptor (TX6 k).2.2.1 = some (tyX6 k) := by decide +kernel
abbrev cX6_init : ByteArray := prog_8_method_1_code
def yX6_init : MethodName := ⟨RX6, "<init>", "()V"⟩
abbrev cX6_isThere : ByteArray := prog_8_method_2_code
def yX6_isThere : MethodName := ⟨RX6, "isThere", "()Z"⟩
abbrev cX6_begin : ByteArray := prog_8_method_3_code
def yX6_begin : MethodName := ⟨RX6, "begin", "(I)V"⟩
abbrev cX6_end : ByteArray := prog_8_method_4_code
def yX6_end : MethodName := ⟨RX6, "end", "()V"⟩
abbrev cX6_has : ByteArray := prog_8_method_5_code
def yX6_has : MethodName := ⟨RX6, "has", "(I)Z"⟩
abbrev cX6_spans : ByteArray := prog_8_method_6_code
def yX6_spans : MethodName := ⟨RX6, "spans", "(II)Z"⟩
abbrev cX6_at : ByteArray := prog_8_method_7_code
def yX6_at : MethodName := ⟨RX6, "at", "(I)I"⟩
abbrev cX6_put : ByteArray := prog_8_method_8_code
def yX6_put : MethodName := ⟨RX6, "put", "(II)V"⟩
abbrev cX6_take : ByteArray := prog_8_method_9_code
def yX6_take : MethodName := ⟨RX6, "take", "(LWaitingNets$Row;III)V"⟩
abbrev cX6_sum : ByteArray := prog_8_method_10_code
def yX6_sum : MethodName := ⟨RX6, "sum", "()J"⟩
abbrev cX6_isWithin : ByteArray := prog_8_method_11_code
def yX6_isWithin : MethodName := ⟨RX6, "isWithin", "(II)Z"⟩
abbrev cX6_isRising : ByteArray := prog_8_method_12_code
def yX6_isRising : MethodName := ⟨RX6, "isRising", "()Z"⟩
abbrev cX6_side : ByteArray := prog_8_method_13_code
def yX6_side : MethodName := ⟨RX6, "side", "()I"⟩
abbrev cX6_holdsRates : ByteArray := prog_8_method_14_code
def yX6_holdsRates : MethodName := ⟨RX6, "holdsRates", "(I)Z"⟩
abbrev cX6_mixInto : ByteArray := prog_8_method_15_code
def yX6_mixInto : MethodName := ⟨RX6, "mixInto", "(J)J"⟩
def RX7 : String := "WaitingNets$Square"
def TX7 : u_T := fun k => match k with
  | 0 => ("WaitingNets$Square", "cells", "[[J", true)
  | _ => ("WaitingNets$Square", "size", "I", false)
def tyX7 : Nat → FieldType := fun k => match k with
  | 0 => .array (.array .long)
  | _ => .int
abbrev wsX70 : List Cond := u_ws RX7 TX7 2
theorem nmX7 : ∀ a, a < 2 → ∀ b, b < 2 → a ≠ b → (TX7 a).2.1 ≠ (TX7 b).2.1 := by decide +kernel
theorem tyX7_ok : ∀ k, k < 2 → parseFieldDescriptor (TX7 k).2.2.1 = some (tyX7 k) := by decide +kernel
abbrev cX7_init : ByteArray := prog_9_method_1_code
def yX7_init : MethodName := ⟨RX7, "<init>", "()V"⟩
abbrev cX7_determinant : ByteArray := prog_9_method_2_code
def yX7_determinant : MethodName := ⟨RX7, "determinant", "()J"⟩
abbrev cX7_clearBelow : ByteArray := prog_9_method_3_code
def yX7_clearBelow : MethodName := ⟨RX7, "clearBelow", "(IIJ)V"⟩
abbrev cX7_bringUp : ByteArray := prog_9_method_4_code
def yX7_bringUp : MethodName := ⟨RX7, "bringUp", "(II)Z"⟩
def RX8 : String := "WaitingNets"
def TX8 : u_T := fun k => match k with
  | 0 => ("WaitingNets", "rows", "[LWaitingNets$Row;", true)
  | 1 => ("WaitingNets", "net", "LWaitingNets$Net;", true)
  | 2 => ("WaitingNets", "rounds", "LWaitingNets$Rounds;", true)
  | 3 => ("WaitingNets", "chain", "LWaitingNets$Chain;", true)
  | 4 => ("WaitingNets", "line", "LWaitingNets$Line;", true)
  | 5 => ("WaitingNets", "fraction", "LWaitingNets$Fraction;", true)
  | 6 => ("WaitingNets", "answered", "[I", true)
  | 7 => ("WaitingNets", "latestFinding", "I", false)
  | _ => ("WaitingNets", "latestAsked", "I", false)
def tyX8 : Nat → FieldType := fun k => match k with
  | 0 => .array (.object "WaitingNets$Row")
  | 1 => .object "WaitingNets$Net"
  | 2 => .object "WaitingNets$Rounds"
  | 3 => .object "WaitingNets$Chain"
  | 4 => .object "WaitingNets$Line"
  | 5 => .object "WaitingNets$Fraction"
  | 6 => .array .int
  | 7 => .int
  | _ => .int
abbrev wsX80 : List Cond := u_ws RX8 TX8 9
theorem nmX8 : ∀ a, a < 9 → ∀ b, b < 9 → a ≠ b → (TX8 a).2.1 ≠ (TX8 b).2.1 := by decide +kernel
theorem tyX8_ok : ∀ k, k < 9 → parseFieldDescriptor (TX8 k).2.2.1 = some (tyX8 k) := by decide +kernel
abbrev cX8_init : ByteArray := prog_1_method_1_code
def yX8_init : MethodName := ⟨RX8, "<init>", "()V"⟩
abbrev cX8_row : ByteArray := prog_1_method_2_code
def yX8_row : MethodName := ⟨RX8, "row", "(II)I"⟩
abbrev cX8_lay : ByteArray := prog_1_method_3_code
def yX8_lay : MethodName := ⟨RX8, "lay", "(III)I"⟩
abbrev cX8_tear : ByteArray := prog_1_method_4_code
def yX8_tear : MethodName := ⟨RX8, "tear", "(I)I"⟩
abbrev cX8_copy : ByteArray := prog_1_method_5_code
def yX8_copy : MethodName := ⟨RX8, "copy", "(IIIII)I"⟩
abbrev cX8_average : ByteArray := prog_1_method_6_code
def yX8_average : MethodName := ⟨RX8, "average", "(I)I"⟩
abbrev cX8_counter : ByteArray := prog_1_method_7_code
def yX8_counter : MethodName := ⟨RX8, "counter", "(II)I"⟩
abbrev cX8_drop : ByteArray := prog_1_method_8_code
def yX8_drop : MethodName := ⟨RX8, "drop", "(I)I"⟩
abbrev cX8_rate : ByteArray := prog_1_method_9_code
def yX8_rate : MethodName := ⟨RX8, "rate", "(II)I"⟩
abbrev cX8_hands : ByteArray := prog_1_method_10_code
def yX8_hands : MethodName := ⟨RX8, "hands", "(II)I"⟩
abbrev cX8_room : ByteArray := prog_1_method_11_code
def yX8_room : MethodName := ⟨RX8, "room", "(II)I"⟩
abbrev cX8_way : ByteArray := prog_1_method_12_code
def yX8_way : MethodName := ⟨RX8, "way", "(III)I"⟩
abbrev cX8_comes : ByteArray := prog_1_method_13_code
def yX8_comes : MethodName := ⟨RX8, "comes", "(II)I"⟩
abbrev cX8_told : ByteArray := prog_1_method_14_code
def yX8_told : MethodName := ⟨RX8, "told", "(II)I"⟩
abbrev cX8_mark : ByteArray := prog_1_method_15_code
def yX8_mark : MethodName := ⟨RX8, "mark", "(II)I"⟩
abbrev cX8_product : ByteArray := prog_1_method_16_code
def yX8_product : MethodName := ⟨RX8, "product", "()I"⟩
abbrev cX8_kept : ByteArray := prog_1_method_17_code
def yX8_kept : MethodName := ⟨RX8, "kept", "()I"⟩
abbrev cX8_flow : ByteArray := prog_1_method_18_code
def yX8_flow : MethodName := ⟨RX8, "flow", "(I)I"⟩
abbrev cX8_use : ByteArray := prog_1_method_19_code
def yX8_use : MethodName := ⟨RX8, "use", "(I)I"⟩
abbrev cX8_mean : ByteArray := prog_1_method_20_code
def yX8_mean : MethodName := ⟨RX8, "mean", "(IZ)I"⟩
abbrev cX8_closed : ByteArray := prog_1_method_21_code
def yX8_closed : MethodName := ⟨RX8, "closed", "()I"⟩
abbrev cX8_visits : ByteArray := prog_1_method_22_code
def yX8_visits : MethodName := ⟨RX8, "visits", "(I)I"⟩
abbrev cX8_chance : ByteArray := prog_1_method_23_code
def yX8_chance : MethodName := ⟨RX8, "chance", "(I)I"⟩
abbrev cX8_through : ByteArray := prog_1_method_24_code
def yX8_through : MethodName := ⟨RX8, "through", "(II)I"⟩
abbrev cX8_meanOf : ByteArray := prog_1_method_25_code
def yX8_meanOf : MethodName := ⟨RX8, "meanOf", "(II)I"⟩
abbrev cX8_round : ByteArray := prog_1_method_26_code
def yX8_round : MethodName := ⟨RX8, "round", "(II)I"⟩
abbrev cX8_narrow : ByteArray := prog_1_method_27_code
def yX8_narrow : MethodName := ⟨RX8, "narrow", "()I"⟩
abbrev cX8_bound : ByteArray := prog_1_method_28_code
def yX8_bound : MethodName := ⟨RX8, "bound", "(II)I"⟩
abbrev cX8_best : ByteArray := prog_1_method_29_code
def yX8_best : MethodName := ⟨RX8, "best", "(I)I"⟩
abbrev cX8_balance : ByteArray := prog_1_method_30_code
def yX8_balance : MethodName := ⟨RX8, "balance", "(I)I"⟩
abbrev cX8_ranked : ByteArray := prog_1_method_31_code
def yX8_ranked : MethodName := ⟨RX8, "ranked", "(IIIZI)I"⟩
abbrev cX8_roomed : ByteArray := prog_1_method_32_code
def yX8_roomed : MethodName := ⟨RX8, "roomed", "(III)I"⟩
abbrev cX8_lasting : ByteArray := prog_1_method_33_code
def yX8_lasting : MethodName := ⟨RX8, "lasting", "(II)I"⟩
abbrev cX8_parts : ByteArray := prog_1_method_34_code
def yX8_parts : MethodName := ⟨RX8, "parts", "(I)I"⟩
abbrev cX8_judge : ByteArray := prog_1_method_35_code
def yX8_judge : MethodName := ⟨RX8, "judge", "(II)I"⟩
abbrev cX8_waited : ByteArray := prog_1_method_36_code
def yX8_waited : MethodName := ⟨RX8, "waited", "(IIII)I"⟩
abbrev cX8_seen : ByteArray := prog_1_method_37_code
def yX8_seen : MethodName := ⟨RX8, "seen", "(III)I"⟩
abbrev cX8_asked : ByteArray := prog_1_method_38_code
def yX8_asked : MethodName := ⟨RX8, "asked", "()I"⟩
abbrev cX8_upper : ByteArray := prog_1_method_39_code
def yX8_upper : MethodName := ⟨RX8, "upper", "()J"⟩
abbrev cX8_lower : ByteArray := prog_1_method_40_code
def yX8_lower : MethodName := ⟨RX8, "lower", "()J"⟩
abbrev cX8_count : ByteArray := prog_1_method_41_code
def yX8_count : MethodName := ⟨RX8, "count", "(I)I"⟩
abbrev cX8_finding : ByteArray := prog_1_method_42_code
def yX8_finding : MethodName := ⟨RX8, "finding", "()I"⟩
abbrev cX8_findings : ByteArray := prog_1_method_43_code
def yX8_findings : MethodName := ⟨RX8, "findings", "(I)I"⟩
abbrev cX8_digest : ByteArray := prog_1_method_44_code
def yX8_digest : MethodName := ⟨RX8, "digest", "()J"⟩
abbrev cX8_refuse : ByteArray := prog_1_method_45_code
def yX8_refuse : MethodName := ⟨RX8, "refuse", "(I)I"⟩
abbrev cX8_judgeFlow : ByteArray := prog_1_method_46_code
def yX8_judgeFlow : MethodName := ⟨RX8, "judgeFlow", "(I)I"⟩
abbrev cX8_judgeRound : ByteArray := prog_1_method_47_code
def yX8_judgeRound : MethodName := ⟨RX8, "judgeRound", "(II)I"⟩
abbrev cX8_judgeChain : ByteArray := prog_1_method_48_code
def yX8_judgeChain : MethodName := ⟨RX8, "judgeChain", "(I)I"⟩
abbrev cX8_judgeRun : ByteArray := prog_1_method_49_code
def yX8_judgeRun : MethodName := ⟨RX8, "judgeRun", "(III)I"⟩
abbrev cX8_isRowNumber : ByteArray := prog_1_method_50_code
def yX8_isRowNumber : MethodName := ⟨RX8, "isRowNumber", "(I)Z"⟩
abbrev cX8_isCounterNumber : ByteArray := prog_1_method_51_code
def yX8_isCounterNumber : MethodName := ⟨RX8, "isCounterNumber", "(I)Z"⟩
abbrev cX8_isRate : ByteArray := prog_1_method_52_code
def yX8_isRate : MethodName := ⟨RX8, "isRate", "(I)Z"⟩
abbrev cX8_isComing : ByteArray := prog_1_method_53_code
def yX8_isComing : MethodName := ⟨RX8, "isComing", "(I)Z"⟩
abbrev cX8_isThings : ByteArray := prog_1_method_54_code
def yX8_isThings : MethodName := ⟨RX8, "isThings", "(I)Z"⟩
abbrev cX8_rowsThere : ByteArray := prog_1_method_55_code
def yX8_rowsThere : MethodName := ⟨RX8, "rowsThere", "()I"⟩
abbrev cX8_tellBreakingIn : ByteArray := prog_1_method_56_code
def yX8_tellBreakingIn : MethodName := ⟨RX8, "tellBreakingIn", "(IIII)V"⟩
abbrev cX8_tellWaitingTurn : ByteArray := prog_1_method_57_code
def yX8_tellWaitingTurn : MethodName := ⟨RX8, "tellWaitingTurn", "(IIII)V"⟩
def RX9 : String := "WaitingNetsModel"
def TX9 : u_T := fun k => match k with
  | 0 => ("WaitingNetsModel", "finding", "I", false)
  | 1 => ("WaitingNetsModel", "findings", "[I", true)
  | 2 => ("WaitingNetsModel", "asked", "I", false)
  | 3 => ("WaitingNetsModel", "upper", "J", false)
  | 4 => ("WaitingNetsModel", "lower", "J", false)
  | 5 => ("WaitingNetsModel", "sizes", "[I", true)
  | 6 => ("WaitingNetsModel", "rows", "[I", true)
  | 7 => ("WaitingNetsModel", "moving", "[I", true)
  | 8 => ("WaitingNetsModel", "isThere", "[Z", true)
  | 9 => ("WaitingNetsModel", "kinds", "[I", true)
  | 10 => ("WaitingNetsModel", "rates", "[I", true)
  | 11 => ("WaitingNetsModel", "handsOf", "[I", true)
  | 12 => ("WaitingNetsModel", "rooms", "[I", true)
  | 13 => ("WaitingNetsModel", "coming", "[I", true)
  | 14 => ("WaitingNetsModel", "ways", "[I", true)
  | 15 => ("WaitingNetsModel", "square", "[J", true)
  | 16 => ("WaitingNetsModel", "rowOf", "[I", true)
  | 17 => ("WaitingNetsModel", "cleared", "[J", true)
  | 18 => ("WaitingNetsModel", "flowUp", "J", false)
  | 19 => ("WaitingNetsModel", "flowLow", "J", false)
  | 20 => ("WaitingNetsModel", "visit", "[J", true)
  | 21 => ("WaitingNetsModel", "state", "[I", true)
  | 22 => ("WaitingNetsModel", "code", "I", false)
  | 23 => ("WaitingNetsModel", "firstPart", "I", false)
  | 24 => ("WaitingNetsModel", "waits", "[I", true)
  | _ => ("WaitingNetsModel", "h", "J", false)
def tyX9 : Nat → FieldType := fun k => match k with
  | 0 => .int
  | 1 => .array .int
  | 2 => .int
  | 3 => .long
  | 4 => .long
  | 5 => .array .int
  | 6 => .array .int
  | 7 => .array .int
  | 8 => .array .boolean
  | 9 => .array .int
  | 10 => .array .int
  | 11 => .array .int
  | 12 => .array .int
  | 13 => .array .int
  | 14 => .array .int
  | 15 => .array .long
  | 16 => .array .int
  | 17 => .array .long
  | 18 => .long
  | 19 => .long
  | 20 => .array .long
  | 21 => .array .int
  | 22 => .int
  | 23 => .int
  | 24 => .array .int
  | _ => .long
abbrev wsX90 : List Cond := u_ws RX9 TX9 26
theorem nmX9 : ∀ a, a < 26 → ∀ b, b < 26 → a ≠ b → (TX9 a).2.1 ≠ (TX9 b).2.1 := by decide +kernel
theorem tyX9_ok : ∀ k, k < 26 → parseFieldDescriptor (TX9 k).2.2.1 = some (tyX9 k) := by decide +kernel
abbrev cX9_init : ByteArray := prog_11_method_1_code
def yX9_init : MethodName := ⟨RX9, "<init>", "()V"⟩
abbrev cX9_in : ByteArray := prog_11_method_3_code
def yX9_in : MethodName := ⟨RX9, "in", "(III)Z"⟩
abbrev cX9_meets : ByteArray := prog_11_method_4_code
def yX9_meets : MethodName := ⟨RX9, "meets", "(I)I"⟩
abbrev cX9_ask : ByteArray := prog_11_method_5_code
def yX9_ask : MethodName := ⟨RX9, "ask", "(II)I"⟩
abbrev cX9_divisor : ByteArray := prog_11_method_6_code
def yX9_divisor : MethodName := ⟨RX9, "divisor", "(JJ)J"⟩
abbrev cX9_share : ByteArray := prog_11_method_7_code
def yX9_share : MethodName := ⟨RX9, "share", "(JJI)I"⟩
abbrev cX9_isRow : ByteArray := prog_11_method_8_code
def yX9_isRow : MethodName := ⟨RX9, "isRow", "(I)Z"⟩
abbrev cX9_askedRow : ByteArray := prog_11_method_9_code
def yX9_askedRow : MethodName := ⟨RX9, "askedRow", "(I)I"⟩
abbrev cX9_row : ByteArray := prog_11_method_10_code
def yX9_row : MethodName := ⟨RX9, "row", "(II)I"⟩
abbrev cX9_lay : ByteArray := prog_11_method_11_code
def yX9_lay : MethodName := ⟨RX9, "lay", "(III)I"⟩
abbrev cX9_tear : ByteArray := prog_11_method_12_code
def yX9_tear : MethodName := ⟨RX9, "tear", "(I)I"⟩
abbrev cX9_copy : ByteArray := prog_11_method_13_code
def yX9_copy : MethodName := ⟨RX9, "copy", "(IIIII)I"⟩
abbrev cX9_average : ByteArray := prog_11_method_14_code
def yX9_average : MethodName := ⟨RX9, "average", "(I)I"⟩
abbrev cX9_isCounter : ByteArray := prog_11_method_15_code
def yX9_isCounter : MethodName := ⟨RX9, "isCounter", "(I)Z"⟩
abbrev cX9_askedFor : ByteArray := prog_11_method_16_code
def yX9_askedFor : MethodName := ⟨RX9, "askedFor", "(I)I"⟩
abbrev cX9_empty : ByteArray := prog_11_method_17_code
def yX9_empty : MethodName := ⟨RX9, "empty", "(I)V"⟩
abbrev cX9_counter : ByteArray := prog_11_method_18_code
def yX9_counter : MethodName := ⟨RX9, "counter", "(II)I"⟩
abbrev cX9_drop : ByteArray := prog_11_method_19_code
def yX9_drop : MethodName := ⟨RX9, "drop", "(I)I"⟩
abbrev cX9_rate : ByteArray := prog_11_method_20_code
def yX9_rate : MethodName := ⟨RX9, "rate", "(II)I"⟩
abbrev cX9_hands : ByteArray := prog_11_method_21_code
def yX9_hands : MethodName := ⟨RX9, "hands", "(II)I"⟩
abbrev cX9_room : ByteArray := prog_11_method_22_code
def yX9_room : MethodName := ⟨RX9, "room", "(II)I"⟩
abbrev cX9_outOf : ByteArray := prog_11_method_23_code
def yX9_outOf : MethodName := ⟨RX9, "outOf", "(I)I"⟩
abbrev cX9_way : ByteArray := prog_11_method_24_code
def yX9_way : MethodName := ⟨RX9, "way", "(III)I"⟩
abbrev cX9_comes : ByteArray := prog_11_method_25_code
def yX9_comes : MethodName := ⟨RX9, "comes", "(II)I"⟩
abbrev cX9_tells : ByteArray := prog_11_method_26_code
def yX9_tells : MethodName := ⟨RX9, "tells", "(II)I"⟩
abbrev cX9_told : ByteArray := prog_11_method_27_code
def yX9_told : MethodName := ⟨RX9, "told", "(II)I"⟩
abbrev cX9_mark : ByteArray := prog_11_method_28_code
def yX9_mark : MethodName := ⟨RX9, "mark", "(II)I"⟩
abbrev cX9_isProduct : ByteArray := prog_11_method_29_code
def yX9_isProduct : MethodName := ⟨RX9, "isProduct", "()Z"⟩
abbrev cX9_product : ByteArray := prog_11_method_30_code
def yX9_product : MethodName := ⟨RX9, "product", "()I"⟩
abbrev cX9_worth : ByteArray := prog_11_method_31_code
def yX9_worth : MethodName := ⟨RX9, "worth", "(II)J"⟩
abbrev cX9_clear : ByteArray := prog_11_method_32_code
def yX9_clear : MethodName := ⟨RX9, "clear", "(I)J"⟩
abbrev cX9_reached : ByteArray := prog_11_method_33_code
def yX9_reached : MethodName := ⟨RX9, "reached", "()I"⟩
abbrev cX9_keptOf : ByteArray := prog_11_method_34_code
def yX9_keptOf : MethodName := ⟨RX9, "keptOf", "()I"⟩
abbrev cX9_kept : ByteArray := prog_11_method_35_code
def yX9_kept : MethodName := ⟨RX9, "kept", "()I"⟩
abbrev cX9_setFlow : ByteArray := prog_11_method_36_code
def yX9_setFlow : MethodName := ⟨RX9, "setFlow", "(I)V"⟩
abbrev cX9_askedFlow : ByteArray := prog_11_method_37_code
def yX9_askedFlow : MethodName := ⟨RX9, "askedFlow", "(I)I"⟩
abbrev cX9_flow : ByteArray := prog_11_method_38_code
def yX9_flow : MethodName := ⟨RX9, "flow", "(I)I"⟩
abbrev cX9_bears : ByteArray := prog_11_method_39_code
def yX9_bears : MethodName := ⟨RX9, "bears", "(I)I"⟩
abbrev cX9_isFull : ByteArray := prog_11_method_40_code
def yX9_isFull : MethodName := ⟨RX9, "isFull", "(I)Z"⟩
abbrev cX9_use : ByteArray := prog_11_method_41_code
def yX9_use : MethodName := ⟨RX9, "use", "(I)I"⟩
abbrev cX9_mean : ByteArray := prog_11_method_42_code
def yX9_mean : MethodName := ⟨RX9, "mean", "(IZ)I"⟩
abbrev cX9_isClosed : ByteArray := prog_11_method_43_code
def yX9_isClosed : MethodName := ⟨RX9, "isClosed", "()Z"⟩
abbrev cX9_leadsTo : ByteArray := prog_11_method_44_code
def yX9_leadsTo : MethodName := ⟨RX9, "leadsTo", "(I)I"⟩
abbrev cX9_closed : ByteArray := prog_11_method_45_code
def yX9_closed : MethodName := ⟨RX9, "closed", "()I"⟩
abbrev cX9_setVisits : ByteArray := prog_11_method_46_code
def yX9_setVisits : MethodName := ⟨RX9, "setVisits", "()V"⟩
abbrev cX9_askedClosed : ByteArray := prog_11_method_47_code
def yX9_askedClosed : MethodName := ⟨RX9, "askedClosed", "(I)I"⟩
abbrev cX9_visits : ByteArray := prog_11_method_48_code
def yX9_visits : MethodName := ⟨RX9, "visits", "(I)I"⟩
abbrev cX9_part : ByteArray := prog_11_method_49_code
def yX9_part : MethodName := ⟨RX9, "part", "(I)J"⟩
abbrev cX9_weightAt : ByteArray := prog_11_method_50_code
def yX9_weightAt : MethodName := ⟨RX9, "weightAt", "(II)J"⟩
abbrev cX9_nextState : ByteArray := prog_11_method_51_code
def yX9_nextState : MethodName := ⟨RX9, "nextState", "(I)Z"⟩
abbrev cX9_weight : ByteArray := prog_11_method_52_code
def yX9_weight : MethodName := ⟨RX9, "weight", "()J"⟩
abbrev cX9_sumOf : ByteArray := prog_11_method_53_code
def yX9_sumOf : MethodName := ⟨RX9, "sumOf", "(II)J"⟩
abbrev cX9_chance : ByteArray := prog_11_method_54_code
def yX9_chance : MethodName := ⟨RX9, "chance", "(I)I"⟩
abbrev cX9_isMany : ByteArray := prog_11_method_55_code
def yX9_isMany : MethodName := ⟨RX9, "isMany", "(I)Z"⟩
abbrev cX9_through : ByteArray := prog_11_method_56_code
def yX9_through : MethodName := ⟨RX9, "through", "(II)I"⟩
abbrev cX9_meanOf : ByteArray := prog_11_method_57_code
def yX9_meanOf : MethodName := ⟨RX9, "meanOf", "(II)I"⟩
abbrev cX9_round : ByteArray := prog_11_method_58_code
def yX9_round : MethodName := ⟨RX9, "round", "(II)I"⟩
abbrev cX9_narrowOf : ByteArray := prog_11_method_59_code
def yX9_narrowOf : MethodName := ⟨RX9, "narrowOf", "()I"⟩
abbrev cX9_narrow : ByteArray := prog_11_method_60_code
def yX9_narrow : MethodName := ⟨RX9, "narrow", "()I"⟩
abbrev cX9_bound : ByteArray := prog_11_method_61_code
def yX9_bound : MethodName := ⟨RX9, "bound", "(II)I"⟩
abbrev cX9_isAbove : ByteArray := prog_11_method_62_code
def yX9_isAbove : MethodName := ⟨RX9, "isAbove", "(JJJJ)Z"⟩
abbrev cX9_best : ByteArray := prog_11_method_63_code
def yX9_best : MethodName := ⟨RX9, "best", "(I)I"⟩
abbrev cX9_sends : ByteArray := prog_11_method_64_code
def yX9_sends : MethodName := ⟨RX9, "sends", "(II)I"⟩
abbrev cX9_balance : ByteArray := prog_11_method_65_code
def yX9_balance : MethodName := ⟨RX9, "balance", "(I)I"⟩
abbrev cX9_ranked : ByteArray := prog_11_method_66_code
def yX9_ranked : MethodName := ⟨RX9, "ranked", "(IIIZI)I"⟩
abbrev cX9_power : ByteArray := prog_11_method_67_code
def yX9_power : MethodName := ⟨RX9, "power", "(JI)J"⟩
abbrev cX9_roomed : ByteArray := prog_11_method_68_code
def yX9_roomed : MethodName := ⟨RX9, "roomed", "(III)I"⟩
abbrev cX9_askedChain : ByteArray := prog_11_method_69_code
def yX9_askedChain : MethodName := ⟨RX9, "askedChain", "(I)I"⟩
abbrev cX9_areRates : ByteArray := prog_11_method_70_code
def yX9_areRates : MethodName := ⟨RX9, "areRates", "(II)Z"⟩
abbrev cX9_rateOf : ByteArray := prog_11_method_71_code
def yX9_rateOf : MethodName := ⟨RX9, "rateOf", "(IIII)I"⟩
abbrev cX9_comesTo : ByteArray := prog_11_method_72_code
def yX9_comesTo : MethodName := ⟨RX9, "comesTo", "(III)I"⟩
abbrev cX9_partsOf : ByteArray := prog_11_method_73_code
def yX9_partsOf : MethodName := ⟨RX9, "partsOf", "(II)I"⟩
abbrev cX9_lasting : ByteArray := prog_11_method_74_code
def yX9_lasting : MethodName := ⟨RX9, "lasting", "(II)I"⟩
abbrev cX9_parts : ByteArray := prog_11_method_75_code
def yX9_parts : MethodName := ⟨RX9, "parts", "(I)I"⟩
abbrev cX9_judge : ByteArray := prog_11_method_76_code
def yX9_judge : MethodName := ⟨RX9, "judge", "(II)I"⟩
abbrev cX9_askedRun : ByteArray := prog_11_method_77_code
def yX9_askedRun : MethodName := ⟨RX9, "askedRun", "(III)I"⟩
abbrev cX9_waited : ByteArray := prog_11_method_78_code
def yX9_waited : MethodName := ⟨RX9, "waited", "(IIII)I"⟩
abbrev cX9_seen : ByteArray := prog_11_method_79_code
def yX9_seen : MethodName := ⟨RX9, "seen", "(III)I"⟩
abbrev cX9_asked : ByteArray := prog_11_method_80_code
def yX9_asked : MethodName := ⟨RX9, "asked", "()I"⟩
abbrev cX9_upper : ByteArray := prog_11_method_81_code
def yX9_upper : MethodName := ⟨RX9, "upper", "()J"⟩
abbrev cX9_lower : ByteArray := prog_11_method_82_code
def yX9_lower : MethodName := ⟨RX9, "lower", "()J"⟩
abbrev cX9_count : ByteArray := prog_11_method_83_code
def yX9_count : MethodName := ⟨RX9, "count", "(I)I"⟩
abbrev cX9_finding : ByteArray := prog_11_method_84_code
def yX9_finding : MethodName := ⟨RX9, "finding", "()I"⟩
abbrev cX9_findings : ByteArray := prog_11_method_85_code
def yX9_findings : MethodName := ⟨RX9, "findings", "(I)I"⟩
abbrev cX9_mix : ByteArray := prog_11_method_86_code
def yX9_mix : MethodName := ⟨RX9, "mix", "(I)V"⟩
abbrev cX9_digest : ByteArray := prog_11_method_87_code
def yX9_digest : MethodName := ⟨RX9, "digest", "()J"⟩
def RJ6 : String := "java/lang/Integer"
def TJ6 : u_T := fun k => match k with
  | _ => ("", "", "", false)
def tyJ6 : Nat → FieldType := fun k => match k with
  | _ => .int
abbrev wsJ60 : List Cond := u_ws RJ6 TJ6 0
theorem nmJ6 : ∀ a, a < 0 → ∀ b, b < 0 → a ≠ b → (TJ6 a).2.1 ≠ (TJ6 b).2.1 := by decide +kernel
theorem tyJ6_ok : ∀ k, k < 0 → parseFieldDescriptor (TJ6 k).2.2.1 = some (tyJ6 k) := by decide +kernel
abbrev cJ6_bitCount_0f7a4 : ByteArray := prog_12_method_49_code
def yJ6_bitCount_0f7a4 : MethodName := ⟨RJ6, "bitCount", "(I)I"⟩
def RJ9 : String := "java/lang/Math"
def TJ9 : u_T := fun k => match k with
  | _ => ("", "", "", false)
def tyJ9 : Nat → FieldType := fun k => match k with
  | _ => .int
abbrev wsJ90 : List Cond := u_ws RJ9 TJ9 0
theorem nmJ9 : ∀ a, a < 0 → ∀ b, b < 0 → a ≠ b → (TJ9 a).2.1 ≠ (TJ9 b).2.1 := by decide +kernel
theorem tyJ9_ok : ∀ k, k < 0 → parseFieldDescriptor (TJ9 k).2.2.1 = some (tyJ9 k) := by decide +kernel
abbrev cJ9_abs_067f4 : ByteArray := prog_13_method_61_code
def yJ9_abs_067f4 : MethodName := ⟨RJ9, "abs", "(J)J"⟩
abbrev cJ9_max_7cf53 : ByteArray := prog_13_method_65_code
def yJ9_max_7cf53 : MethodName := ⟨RJ9, "max", "(II)I"⟩
abbrev cJ9_min_7cf53 : ByteArray := prog_13_method_69_code
def yJ9_min_7cf53 : MethodName := ⟨RJ9, "min", "(II)I"⟩
def RJ10 : String := "java/lang/System"
def TJ10 : u_T := fun k => match k with
  | _ => ("", "", "", false)
def tyJ10 : Nat → FieldType := fun k => match k with
  | _ => .int
abbrev wsJ100 : List Cond := u_ws RJ10 TJ10 0
theorem nmJ10 : ∀ a, a < 0 → ∀ b, b < 0 → a ≠ b → (TJ10 a).2.1 ≠ (TJ10 b).2.1 := by decide +kernel
theorem tyJ10_ok : ∀ k, k < 0 → parseFieldDescriptor (TJ10 k).2.2.1 = some (tyJ10 k) := by decide +kernel
def RL : String := "WaitingNetsLaw"
abbrev cL_law : ByteArray := code
def yL_law : MethodName := ⟨RL, "law", "([I)Z"⟩
abbrev vwCl : List vw_C := [(RX0, TX0, 4), (RX1, TX1, 6), (RX2, TX2, 2), (RX3, TX3, 3), (RX4, TX4, 5), (RX5, TX5, 7), (RX6, TX6, 2), (RX7, TX7, 2), (RX8, TX8, 9), (RX9, TX9, 26)]
def wn_c0 : List Cond := [Cond.code yX7_init cX7_init 1 none, Cond.methodLink RX7 3 objectInit, Cond.instanceMethod objectInit, Cond.code objectInit ⟨#[0xb1]⟩ 1 none, Cond.classLink RX7 9 "[[J", Cond.arrayClass .long, Cond.fieldLink RX7 11 "WaitingNets$Square" "cells" "[[J", Cond.fieldLink RX7 16 "WaitingNets$Square" "size" "I", Cond.code yX0_init cX0_init 1 none, Cond.methodLink RX0 3 objectInit, Cond.classLink RX0 9 "[[I", Cond.arrayClass .int, Cond.fieldLink RX0 11 "WaitingNets$Chain" "rates" "[[I", Cond.fieldLink RX0 16 "WaitingNets$Chain" "leads" "[I", Cond.classLink RX0 20 RX7, Cond.instantiable RX7 2, Cond.initialized RX7, Cond.fieldLink RX0 23 "WaitingNets$Chain" "square" "LWaitingNets$Square;", Cond.fieldLink RX0 27 "WaitingNets$Chain" "size" "I", Cond.instanceMethod yX7_init, Cond.code yX6_side cX6_side 2 (some .int), Cond.fieldLink RX6 15 "WaitingNets$Row" "size" "I", Cond.code yX6_has cX6_has 2 (some .boolean), Cond.fieldLink RX6 9 "WaitingNets$Row" "places" "[I", Cond.code yX6_at cX6_at 2 (some .int), Cond.methodLink RX6 28 yX6_has, Cond.instanceMethod yX6_has, Cond.selects RX6 yX6_has yX6_has, Cond.initialized RX6, Cond.code yX0_noteLeads cX0_noteLeads 3 none, Cond.code yX0_load cX0_load 4 none, Cond.methodLink RX0 31 yX6_side, Cond.instanceMethod yX6_side, Cond.selects RX6 yX6_side yX6_side, Cond.methodLink RX0 37 yX6_at, Cond.instanceMethod yX6_at, Cond.selects RX6 yX6_at yX6_at, Cond.methodLink RX0 41 yX0_noteLeads, Cond.instanceMethod yX0_noteLeads, Cond.selects RX0 yX0_noteLeads yX0_noteLeads, Cond.initialized RX0, Cond.code yX0_reachedFrom cX0_reachedFrom 5 (some .int), Cond.code yX0_partOf cX0_partOf 5 (some .int), Cond.methodLink RX0 44 yX0_reachedFrom, Cond.instanceMethod yX0_reachedFrom, Cond.selects RX0 yX0_reachedFrom yX0_reachedFrom, Cond.code yX0_partsThere cX0_partsThere 3 (some .int), Cond.methodLink RX0 47 yX0_partOf]
def wn_c1 : List Cond := [Cond.instanceMethod yX0_partOf, Cond.selects RX0 yX0_partOf yX0_partOf, Cond.code yX0_firstPart cX0_firstPart 3 (some .int), Cond.code yJ6_bitCount_0f7a4 cJ6_bitCount_0f7a4 1 (some .int), Cond.constant RJ6 265 (1431655765), Cond.constant RJ6 266 (858993459), Cond.constant RJ6 267 (252645135), Cond.code yX0_going cX0_going 5 (some .long), Cond.code yX0_layLine cX0_layLine 6 none, Cond.fieldLink RX0 77 "WaitingNets$Square" "cells" "[[J", Cond.methodLink RX0 81 yX0_going, Cond.instanceMethod yX0_going, Cond.selects RX0 yX0_going yX0_going, Cond.code yX7_bringUp cX7_bringUp 7 (some .boolean), Cond.code yX7_clearBelow cX7_clearBelow 9 none, Cond.code yX7_determinant cX7_determinant 7 (some .long), Cond.methodLink RX7 20 Lib.Math.min.name, Cond.static Lib.Math.min.name, Cond.initialized "java/lang/Math", Cond.code Lib.Math.min.name Lib.Math.min.code 2 (some .int), Cond.methodLink RX7 26 yX7_bringUp, Cond.instanceMethod yX7_bringUp, Cond.selects RX7 yX7_bringUp yX7_bringUp, Cond.methodLink RX7 30 yX7_clearBelow, Cond.instanceMethod yX7_clearBelow, Cond.selects RX7 yX7_clearBelow yX7_clearBelow, Cond.fieldLink RX0 68 "WaitingNets$Square" "size" "I", Cond.methodLink RX0 63 yJ6_bitCount_0f7a4, Cond.static yJ6_bitCount_0f7a4, Cond.initialized RJ6, Cond.methodLink RX0 69 yX0_layLine, Cond.instanceMethod yX0_layLine, Cond.selects RX0 yX0_layLine yX0_layLine, Cond.methodLink RX0 73 yX7_determinant, Cond.instanceMethod yX7_determinant, Cond.selects RX7 yX7_determinant yX7_determinant, Cond.code yX0_weightOf cX0_weightOf 6 (some .long), Cond.code yX2_commonPart cX2_commonPart 11 (some .long), Cond.methodLink RX2 22 Lib.MathLoose.abs_long.x, Cond.static Lib.MathLoose.abs_long.x, Cond.code Lib.MathLoose.abs_long.x Lib.MathLoose.abs_long.code 2 (some .long), Cond.code yX2_set cX2_set 9 none, Cond.fieldLink RX2 9 "WaitingNets$Fraction" "upper" "J", Cond.fieldLink RX2 15 "WaitingNets$Fraction" "lower" "J", Cond.methodLink RX2 18 yX2_commonPart, Cond.static yX2_commonPart, Cond.initialized RX2, Cond.methodLink RX0 50 yX0_firstPart]
def wn_c2 : List Cond := [Cond.instanceMethod yX0_firstPart, Cond.selects RX0 yX0_firstPart yX0_firstPart, Cond.methodLink RX0 53 yX0_weightOf, Cond.instanceMethod yX0_weightOf, Cond.selects RX0 yX0_weightOf yX0_weightOf, Cond.methodLink RX0 57 yX2_set, Cond.instanceMethod yX2_set, Cond.selects RX2 yX2_set yX2_set, Cond.code yX0_tellLasting cX0_tellLasting 7 none, Cond.code yX0_firstUneven cX0_firstUneven 6 (some .int), Cond.code yX1_init cX1_init 1 none, Cond.methodLink RX1 3 objectInit, Cond.fieldLink RX1 9 "WaitingNets$Counter" "ways" "[I", Cond.fieldLink RX1 15 "WaitingNets$Counter" "kind" "I", Cond.fieldLink RX1 19 "WaitingNets$Counter" "rate" "I", Cond.fieldLink RX1 22 "WaitingNets$Counter" "hands" "I", Cond.fieldLink RX1 25 "WaitingNets$Counter" "room" "I", Cond.fieldLink RX1 28 "WaitingNets$Counter" "comes" "I", Cond.code yX1_begin cX1_begin 3 none, Cond.code yX1_isThere cX1_isThere 1 (some .boolean), Cond.code yX1_isOf cX1_isOf 2 (some .boolean), Cond.code yX1_leaving cX1_leaving 3 (some .int), Cond.code yX1_fact cX1_fact 2 (some .int), Cond.methodLink RX1 31 yX1_leaving, Cond.instanceMethod yX1_leaving, Cond.selects RX1 yX1_leaving yX1_leaving, Cond.initialized RX1, Cond.code yX1_daysOf cX1_daysOf 1 (some .int), Cond.code yX1_markOf cX1_markOf 2 (some .int), Cond.methodLink RX1 35 yX1_daysOf, Cond.instanceMethod yX1_daysOf, Cond.selects RX1 yX1_daysOf yX1_daysOf, Cond.code yX1_roomWeight cX1_roomWeight 6 (some .long), Cond.code yX1_mixInto cX1_mixInto 6 (some .long), Cond.constantLong RX1 42 (31), Cond.constantLong RX1 44 (-1), Cond.methodLink RX1 38 yX1_isThere, Cond.instanceMethod yX1_isThere, Cond.selects RX1 yX1_isThere yX1_isThere, Cond.methodLink RX1 46 yX1_fact, Cond.instanceMethod yX1_fact, Cond.selects RX1 yX1_fact yX1_fact, Cond.code yX2_init cX2_init 1 none, Cond.methodLink RX2 3 objectInit, Cond.code yX2_take cX2_take 2 none, Cond.code yX2_isAbove cX2_isAbove 18 (some .boolean), Cond.code yX3_init cX3_init 1 none, Cond.methodLink RX3 1 objectInit]
def wn_c3 : List Cond := [Cond.fieldLink RX3 7 "WaitingNets$Line" "firstFree" "I", Cond.fieldLink RX3 13 "WaitingNets$Line" "secondFree" "I", Cond.fieldLink RX3 16 "WaitingNets$Line" "two" "Z", Cond.code yX3_begin cX3_begin 2 none, Cond.code yX3_serve cX3_serve 5 (some .int), Cond.methodLink RX3 20 Lib.Math.max.name, Cond.static Lib.Math.max.name, Cond.code Lib.Math.max.name Lib.Math.max.code 2 (some .int), Cond.methodLink RX4 3 objectInit, Cond.classLink RX4 9 RX1, Cond.fieldLink RX4 11 "WaitingNets$Net" "counters" "[LWaitingNets$Counter;", Cond.classLink RX4 17 RX0, Cond.instantiable RX0 4, Cond.fieldLink RX4 20 "WaitingNets$Net" "paths" "LWaitingNets$Chain;", Cond.classLink RX4 24 RX7, Cond.fieldLink RX4 27 "WaitingNets$Net" "square" "LWaitingNets$Square;", Cond.classLink RX4 31 RX2, Cond.instantiable RX2 2, Cond.fieldLink RX4 34 "WaitingNets$Net" "flowThere" "LWaitingNets$Fraction;", Cond.fieldLink RX4 38 "WaitingNets$Net" "useThere" "LWaitingNets$Fraction;", Cond.instantiable RX1 6, Cond.instanceMethod yX0_init, Cond.instanceMethod yX2_init, Cond.instanceMethod yX1_init, Cond.code yX4_init cX4_init 2 none, Cond.code yX4_has cX4_has 2 (some .boolean), Cond.methodLink RX4 42 yX1_isThere, Cond.code yX4_replace cX4_replace 4 none, Cond.fieldLink RX4 50 "WaitingNets$Counter" "ways" "[I", Cond.methodLink RX4 46 yX1_begin, Cond.instanceMethod yX1_begin, Cond.selects RX1 yX1_begin yX1_begin, Cond.code yX4_bitsThere cX4_bitsThere 3 (some .int), Cond.methodLink RX4 54 yX4_has, Cond.instanceMethod yX4_has, Cond.selects RX4 yX4_has yX4_has, Cond.initialized RX4, Cond.code yX4_handsThere cX4_handsThere 3 (some .int), Cond.fieldLink RX4 58 "WaitingNets$Counter" "kind" "I", Cond.fieldLink RX4 62 "WaitingNets$Counter" "hands" "I", Cond.code yX4_leadingTo cX4_leadingTo 4 (some .int), Cond.code yX4_waysThere cX4_waysThere 3 (some .int), Cond.methodLink RX4 65 yX4_leadingTo, Cond.instanceMethod yX4_leadingTo, Cond.selects RX4 yX4_leadingTo yX4_leadingTo, Cond.code yX4_isProduct cX4_isProduct 2 (some .boolean), Cond.code yX4_loadPaths cX4_loadPaths 3 none, Cond.fieldLink RX4 69 "WaitingNets$Chain" "size" "I"]
def wn_c4 : List Cond := [Cond.fieldLink RX4 72 "WaitingNets$Chain" "rates" "[[I", Cond.methodLink RX4 76 yX0_noteLeads, Cond.code yX4_bitsReached cX4_bitsReached 3 (some .int), Cond.fieldLink RX4 79 "WaitingNets$Counter" "comes" "I", Cond.methodLink RX4 82 yX0_reachedFrom, Cond.methodLink RX4 85 yX4_loadPaths, Cond.instanceMethod yX4_loadPaths, Cond.selects RX4 yX4_loadPaths yX4_loadPaths, Cond.methodLink RX4 88 yX1_leaving, Cond.methodLink RX4 92 yX4_bitsReached, Cond.instanceMethod yX4_bitsReached, Cond.selects RX4 yX4_bitsReached yX4_bitsReached, Cond.code yX4_keptBits cX4_keptBits 5 (some .int), Cond.fieldLink RX4 115 "WaitingNets$Square" "size" "I", Cond.constantLong RX4 99 (4), Cond.fieldLink RX4 116 "WaitingNets$Square" "cells" "[[J", Cond.methodLink RX4 120 yX7_determinant, Cond.code yX4_flowDeterminant cX4_flowDeterminant 8 (some .long), Cond.fieldLink RX4 105 "WaitingNets$Fraction" "upper" "J", Cond.fieldLink RX4 109 "WaitingNets$Fraction" "lower" "J", Cond.fieldLink RX4 112 "WaitingNets$Counter" "rate" "I", Cond.methodLink RX4 95 yX4_flowDeterminant, Cond.instanceMethod yX4_flowDeterminant, Cond.selects RX4 yX4_flowDeterminant yX4_flowDeterminant, Cond.methodLink RX4 101 yX2_set, Cond.code yX4_workOutFlow cX4_workOutFlow 8 none, Cond.code yX4_isOverfull cX4_isOverfull 2 (some .boolean), Cond.constantLong RX4 124 (2), Cond.code yX4_workOutMean cX4_workOutMean 7 none, Cond.code yX4_isInnerOf cX4_isInnerOf 3 (some .boolean), Cond.methodLink RX4 126 yX4_bitsThere, Cond.instanceMethod yX4_bitsThere, Cond.selects RX4 yX4_bitsThere yX4_bitsThere, Cond.methodLink RX4 129 yX4_isProduct, Cond.instanceMethod yX4_isProduct, Cond.selects RX4 yX4_isProduct yX4_isProduct, Cond.methodLink RX4 132 yX4_isInnerOf, Cond.instanceMethod yX4_isInnerOf, Cond.selects RX4 yX4_isInnerOf yX4_isInnerOf, Cond.code yX4_isClosed cX4_isClosed 3 (some .boolean), Cond.code yX4_thingsOf cX4_thingsOf 5 (some .int), Cond.methodLink RX4 136 yX6_at, Cond.code yX5_init cX5_init 1 none, Cond.methodLink RX5 3 objectInit, Cond.fieldLink RX5 9 "WaitingNets$Rounds" "visited" "[J", Cond.fieldLink RX5 15 "WaitingNets$Rounds" "kinds" "[I", Cond.fieldLink RX5 19 "WaitingNets$Rounds" "rates" "[I", Cond.fieldLink RX5 22 "WaitingNets$Rounds" "hands" "[I"]
def wn_c5 : List Cond := [Cond.fieldLink RX5 25 "WaitingNets$Rounds" "shares" "[J", Cond.classLink RX5 28 "[[I", Cond.fieldLink RX5 30 "WaitingNets$Rounds" "ways" "[[I", Cond.fieldLink RX5 33 "WaitingNets$Rounds" "state" "[I", Cond.fieldLink RX5 45 "WaitingNets$Net" "paths" "LWaitingNets$Chain;", Cond.fieldLink RX5 61 "WaitingNets$Net" "counters" "[LWaitingNets$Counter;", Cond.fieldLink RX5 65 "WaitingNets$Counter" "kind" "I", Cond.fieldLink RX5 71 "WaitingNets$Counter" "rate" "I", Cond.fieldLink RX5 74 "WaitingNets$Counter" "hands" "I", Cond.fieldLink RX5 79 "WaitingNets$Counter" "ways" "[I", Cond.methodLink RX5 36 yX4_loadPaths, Cond.methodLink RX5 41 yX4_bitsThere, Cond.methodLink RX5 49 yX0_weightOf, Cond.methodLink RX5 55 yX2_commonPart, Cond.methodLink RX5 76 yX1_daysOf, Cond.code yX5_load cX5_load 8 none, Cond.code yX5_beginStates cX5_beginStates 3 none, Cond.code yX5_nextState cX5_nextState 4 (some .boolean), Cond.code yX5_busy cX5_busy 3 (some .int), Cond.methodLink RX5 87 Lib.Math.min.name, Cond.code yX5_weight cX5_weight 7 (some .long), Cond.constantLong RX5 85 (24), Cond.methodLink RX5 81 yX5_busy, Cond.instanceMethod yX5_busy, Cond.selects RX5 yX5_busy yX5_busy, Cond.initialized RX5, Cond.methodLink RX5 92 yX5_beginStates, Cond.instanceMethod yX5_beginStates, Cond.selects RX5 yX5_beginStates yX5_beginStates, Cond.methodLink RX5 96 yX5_weight, Cond.instanceMethod yX5_weight, Cond.selects RX5 yX5_weight yX5_weight, Cond.methodLink RX5 100 yX5_nextState, Cond.instanceMethod yX5_nextState, Cond.selects RX5 yX5_nextState yX5_nextState, Cond.code yX5_weightOfAll cX5_weightOfAll 6 (some .long), Cond.methodLink RX5 104 yX5_weightOfAll, Cond.instanceMethod yX5_weightOfAll, Cond.selects RX5 yX5_weightOfAll yX5_weightOfAll, Cond.methodLink RX5 108 yX6_at, Cond.methodLink RX5 114 yX2_set, Cond.code yX5_tellChance cX5_tellChance 7 none, Cond.constantLong RX5 118 (12), Cond.code yX5_tellThrough cX5_tellThrough 4 none, Cond.code yX5_tellMeanOf cX5_tellMeanOf 12 none, Cond.code yX5_strain cX5_strain 3 (some .long), Cond.code yX5_narrowest cX5_narrowest 4 (some .int), Cond.methodLink RX5 120 yX5_strain]
def wn_c6 : List Cond := [Cond.instanceMethod yX5_strain, Cond.selects RX5 yX5_strain yX5_strain, Cond.methodLink RX5 123 yX5_narrowest, Cond.instanceMethod yX5_narrowest, Cond.selects RX5 yX5_narrowest yX5_narrowest, Cond.code yX5_tellBound cX5_tellBound 11 none, Cond.code yX5_firstThere cX5_firstThere 2 (some .int), Cond.methodLink RX5 126 yX2_isAbove, Cond.static yX2_isAbove, Cond.methodLink RX5 130 yX5_firstThere, Cond.instanceMethod yX5_firstThere, Cond.selects RX5 yX5_firstThere yX5_firstThere, Cond.code yX5_tellBest cX5_tellBest 13 (some .int), Cond.code yX5_isState cX5_isState 2 (some .boolean), Cond.code yX5_served cX5_served 2 (some .long), Cond.code yX5_comingTo cX5_comingTo 5 (some .long), Cond.methodLink RX5 142 yX5_served, Cond.instanceMethod yX5_served, Cond.selects RX5 yX5_served yX5_served, Cond.methodLink RX5 145 yX5_comingTo, Cond.instanceMethod yX5_comingTo, Cond.selects RX5 yX5_comingTo yX5_comingTo, Cond.code yX5_comingHere cX5_comingHere 4 (some .long), Cond.code yX5_goingFromHere cX5_goingFromHere 5 (some .long), Cond.methodLink RX5 133 yX5_isState, Cond.instanceMethod yX5_isState, Cond.selects RX5 yX5_isState yX5_isState, Cond.methodLink RX5 136 yX5_comingHere, Cond.instanceMethod yX5_comingHere, Cond.selects RX5 yX5_comingHere yX5_comingHere, Cond.methodLink RX5 139 yX5_goingFromHere, Cond.instanceMethod yX5_goingFromHere, Cond.selects RX5 yX5_goingFromHere yX5_goingFromHere, Cond.code yX5_balanced cX5_balanced 5 (some .int), Cond.code yX6_init cX6_init 1 none, Cond.methodLink RX6 3 objectInit, Cond.code yX6_isThere cX6_isThere 1 (some .boolean), Cond.code yX6_begin cX6_begin 3 none, Cond.methodLink RX6 19 Lib.Math.min.name, Cond.methodLink RX6 25 Lib.Math.max.name, Cond.code yX6_end cX6_end 1 none, Cond.code yX6_spans cX6_spans 3 (some .boolean), Cond.code yX6_put cX6_put 3 none, Cond.code yX6_take cX6_take 5 none, Cond.methodLink RX6 36 arraycopyName, Cond.native arraycopyName, Cond.static arraycopyName, Cond.initialized "java/lang/System"]
def wn_c7 : List Cond := [Cond.methodLink RX6 32 yX6_spans, Cond.instanceMethod yX6_spans, Cond.selects RX6 yX6_spans yX6_spans, Cond.code yX6_sum cX6_sum 4 (some .long), Cond.methodLink RX6 42 yX6_at, Cond.code yX6_isWithin cX6_isWithin 4 (some .boolean), Cond.code yX6_isRising cX6_isRising 2 (some .boolean), Cond.code yX6_holdsRates cX6_holdsRates 5 (some .boolean), Cond.code yX6_mixInto cX6_mixInto 6 (some .long), Cond.constantLong RX6 46 (31), Cond.methodLink RX8 1 objectInit, Cond.classLink RX8 9 RX6, Cond.fieldLink RX8 11 "WaitingNets" "rows" "[LWaitingNets$Row;", Cond.classLink RX8 15 RX4, Cond.instantiable RX4 5, Cond.fieldLink RX8 18 "WaitingNets" "net" "LWaitingNets$Net;", Cond.classLink RX8 22 RX5, Cond.instantiable RX5 7, Cond.fieldLink RX8 25 "WaitingNets" "rounds" "LWaitingNets$Rounds;", Cond.classLink RX8 29 RX0, Cond.fieldLink RX8 32 "WaitingNets" "chain" "LWaitingNets$Chain;", Cond.classLink RX8 36 RX3, Cond.instantiable RX3 3, Cond.initialized RX3, Cond.fieldLink RX8 39 "WaitingNets" "line" "LWaitingNets$Line;", Cond.classLink RX8 43 RX2, Cond.fieldLink RX8 46 "WaitingNets" "fraction" "LWaitingNets$Fraction;", Cond.fieldLink RX8 50 "WaitingNets" "answered" "[I", Cond.fieldLink RX8 54 "WaitingNets" "latestFinding" "I", Cond.fieldLink RX8 58 "WaitingNets" "latestAsked" "I", Cond.instantiable RX6 2, Cond.methodLink RX8 17 yX4_init, Cond.instanceMethod yX4_init, Cond.instanceMethod yX5_init, Cond.instanceMethod yX3_init, Cond.instanceMethod yX6_init, Cond.code yX8_init cX8_init 2 none, Cond.code yX8_isRowNumber cX8_isRowNumber 1 (some .boolean), Cond.code yX8_refuse cX8_refuse 2 (some .int), Cond.methodLink RX8 62 yX8_isRowNumber, Cond.static yX8_isRowNumber, Cond.initialized RX8, Cond.methodLink RX8 66 yX8_refuse, Cond.instanceMethod yX8_refuse, Cond.selects RX8 yX8_refuse yX8_refuse, Cond.methodLink RX8 70 yX6_begin, Cond.instanceMethod yX6_begin, Cond.selects RX6 yX6_begin yX6_begin]
def wn_c8 : List Cond := [Cond.code yX8_row cX8_row 3 (some .int), Cond.methodLink RX8 74 yX6_isThere, Cond.instanceMethod yX6_isThere, Cond.selects RX6 yX6_isThere yX6_isThere, Cond.methodLink RX8 78 yX6_has, Cond.methodLink RX8 81 yX6_at, Cond.methodLink RX8 84 yX6_put, Cond.instanceMethod yX6_put, Cond.selects RX6 yX6_put yX6_put, Cond.code yX8_lay cX8_lay 4 (some .int), Cond.code yX8_tear cX8_tear 2 (some .int), Cond.methodLink RX8 88 yX6_end, Cond.instanceMethod yX6_end, Cond.selects RX6 yX6_end yX6_end, Cond.methodLink RX8 91 yX6_spans, Cond.methodLink RX8 95 yX6_take, Cond.instanceMethod yX6_take, Cond.selects RX6 yX6_take yX6_take, Cond.code yX8_copy cX8_copy 6 (some .int), Cond.fieldLink RX8 99 "WaitingNets$Row" "size" "I", Cond.methodLink RX8 102 yX6_sum, Cond.instanceMethod yX6_sum, Cond.selects RX6 yX6_sum yX6_sum, Cond.code yX8_average cX8_average 3 (some .int), Cond.code yX8_isCounterNumber cX8_isCounterNumber 1 (some .boolean), Cond.methodLink RX8 106 yX8_isCounterNumber, Cond.static yX8_isCounterNumber, Cond.methodLink RX8 109 yX4_has, Cond.methodLink RX8 110 yX4_replace, Cond.instanceMethod yX4_replace, Cond.selects RX4 yX4_replace yX4_replace, Cond.code yX8_counter cX8_counter 4 (some .int), Cond.code yX8_drop cX8_drop 2 (some .int), Cond.code yX8_isRate cX8_isRate 1 (some .boolean), Cond.fieldLink RX8 116 "WaitingNets$Net" "counters" "[LWaitingNets$Counter;", Cond.fieldLink RX8 120 "WaitingNets$Counter" "rate" "I", Cond.methodLink RX8 113 yX8_isRate, Cond.static yX8_isRate, Cond.code yX8_rate cX8_rate 4 (some .int), Cond.fieldLink RX8 125 "WaitingNets$Counter" "kind" "I", Cond.fieldLink RX8 128 "WaitingNets$Counter" "hands" "I", Cond.code yX8_hands cX8_hands 4 (some .int), Cond.fieldLink RX8 131 "WaitingNets$Counter" "room" "I", Cond.code yX8_room cX8_room 4 (some .int), Cond.fieldLink RX8 134 "WaitingNets$Counter" "ways" "[I", Cond.methodLink RX8 137 yX1_leaving, Cond.code yX8_way cX8_way 5 (some .int), Cond.fieldLink RX8 141 "WaitingNets$Counter" "comes" "I"]
def wn_c9 : List Cond := [Cond.code yX8_comes cX8_comes 4 (some .int), Cond.methodLink RX8 144 yX1_fact, Cond.code yX8_told cX8_told 3 (some .int), Cond.methodLink RX8 147 yX1_isOf, Cond.instanceMethod yX1_isOf, Cond.selects RX1 yX1_isOf yX1_isOf, Cond.methodLink RX8 150 yX4_leadingTo, Cond.methodLink RX8 153 yX1_markOf, Cond.instanceMethod yX1_markOf, Cond.selects RX1 yX1_markOf yX1_markOf, Cond.code yX8_mark cX8_mark 3 (some .int), Cond.code yX8_product cX8_product 1 (some .int), Cond.methodLink RX8 156 yX4_isProduct, Cond.methodLink RX8 159 yX4_keptBits, Cond.instanceMethod yX4_keptBits, Cond.selects RX4 yX4_keptBits yX4_keptBits, Cond.code yX8_kept cX8_kept 1 (some .int), Cond.code yX8_judgeFlow cX8_judgeFlow 2 (some .int), Cond.fieldLink RX8 168 "WaitingNets$Net" "flowThere" "LWaitingNets$Fraction;", Cond.methodLink RX8 162 yX8_judgeFlow, Cond.instanceMethod yX8_judgeFlow, Cond.selects RX8 yX8_judgeFlow yX8_judgeFlow, Cond.methodLink RX8 165 yX4_workOutFlow, Cond.instanceMethod yX4_workOutFlow, Cond.selects RX4 yX4_workOutFlow yX4_workOutFlow, Cond.methodLink RX8 171 yX2_take, Cond.instanceMethod yX2_take, Cond.selects RX2 yX2_take yX2_take, Cond.code yX8_flow cX8_flow 3 (some .int), Cond.fieldLink RX8 174 "WaitingNets$Net" "useThere" "LWaitingNets$Fraction;", Cond.methodLink RX8 177 yX4_isOverfull, Cond.instanceMethod yX4_isOverfull, Cond.selects RX4 yX4_isOverfull yX4_isOverfull, Cond.code yX8_use cX8_use 3 (some .int), Cond.fieldLink RX8 180 "WaitingNets$Fraction" "upper" "J", Cond.fieldLink RX8 188 "WaitingNets$Fraction" "lower" "J", Cond.methodLink RX8 184 yX4_workOutMean, Cond.instanceMethod yX4_workOutMean, Cond.selects RX4 yX4_workOutMean yX4_workOutMean, Cond.methodLink RX8 191 yX2_set, Cond.code yX8_mean cX8_mean 5 (some .int), Cond.methodLink RX8 195 yX4_isClosed, Cond.instanceMethod yX4_isClosed, Cond.selects RX4 yX4_isClosed yX4_isClosed, Cond.code yX8_closed cX8_closed 1 (some .int), Cond.code yX8_isThings cX8_isThings 1 (some .boolean), Cond.methodLink RX8 231 yX8_isThings, Cond.static yX8_isThings]
def wn_c10 : List Cond := [Cond.code yX8_judgeRound cX8_judgeRound 3 (some .int), Cond.fieldLink RX8 206 "WaitingNets$Rounds" "visited" "[J", Cond.methodLink RX8 198 yX8_judgeRound, Cond.instanceMethod yX8_judgeRound, Cond.selects RX8 yX8_judgeRound yX8_judgeRound, Cond.methodLink RX8 202 yX5_load, Cond.instanceMethod yX5_load, Cond.selects RX5 yX5_load yX5_load, Cond.code yX8_visits cX8_visits 3 (some .int), Cond.methodLink RX8 210 yX4_thingsOf, Cond.instanceMethod yX4_thingsOf, Cond.selects RX4 yX4_thingsOf yX4_thingsOf, Cond.methodLink RX8 214 yX5_tellChance, Cond.instanceMethod yX5_tellChance, Cond.selects RX5 yX5_tellChance yX5_tellChance, Cond.code yX8_chance cX8_chance 4 (some .int), Cond.methodLink RX8 218 yX5_tellThrough, Cond.instanceMethod yX5_tellThrough, Cond.selects RX5 yX5_tellThrough yX5_tellThrough, Cond.code yX8_through cX8_through 4 (some .int), Cond.methodLink RX8 222 yX5_tellMeanOf, Cond.instanceMethod yX5_tellMeanOf, Cond.selects RX5 yX5_tellMeanOf yX5_tellMeanOf, Cond.code yX8_meanOf cX8_meanOf 4 (some .int), Cond.code yX8_round cX8_round 4 (some .int), Cond.methodLink RX8 225 yX5_narrowest, Cond.code yX8_narrow cX8_narrow 1 (some .int), Cond.methodLink RX8 228 yX5_tellBound, Cond.instanceMethod yX5_tellBound, Cond.selects RX5 yX5_tellBound yX5_tellBound, Cond.code yX8_bound cX8_bound 4 (some .int), Cond.methodLink RX8 234 yX5_tellBest, Cond.instanceMethod yX5_tellBest, Cond.selects RX5 yX5_tellBest yX5_tellBest, Cond.code yX8_best cX8_best 2 (some .int), Cond.methodLink RX8 238 yX5_balanced, Cond.instanceMethod yX5_balanced, Cond.selects RX5 yX5_balanced yX5_balanced, Cond.code yX8_balance cX8_balance 2 (some .int), Cond.code yX8_isComing cX8_isComing 1 (some .boolean), Cond.code yX8_tellBreakingIn cX8_tellBreakingIn 7 none, Cond.code yX8_tellWaitingTurn cX8_tellWaitingTurn 9 none, Cond.methodLink RX8 241 yX8_isComing, Cond.static yX8_isComing, Cond.methodLink RX8 244 yX8_tellBreakingIn, Cond.instanceMethod yX8_tellBreakingIn, Cond.selects RX8 yX8_tellBreakingIn yX8_tellBreakingIn, Cond.methodLink RX8 248 yX8_tellWaitingTurn]
def wn_c11 : List Cond := [Cond.instanceMethod yX8_tellWaitingTurn, Cond.selects RX8 yX8_tellWaitingTurn yX8_tellWaitingTurn, Cond.code yX8_ranked cX8_ranked 7 (some .int), Cond.methodLink RX8 251 yX1_roomWeight, Cond.instanceMethod yX1_roomWeight, Cond.selects RX1 yX1_roomWeight yX1_roomWeight, Cond.code yX8_roomed cX8_roomed 8 (some .int), Cond.methodLink RX8 271 yX6_side, Cond.methodLink RX8 274 yX6_holdsRates, Cond.instanceMethod yX6_holdsRates, Cond.selects RX6 yX6_holdsRates yX6_holdsRates, Cond.code yX8_judgeChain cX8_judgeChain 3 (some .int), Cond.fieldLink RX8 261 "WaitingNets$Chain" "size" "I", Cond.methodLink RX8 255 yX8_judgeChain, Cond.instanceMethod yX8_judgeChain, Cond.selects RX8 yX8_judgeChain yX8_judgeChain, Cond.methodLink RX8 258 yX0_load, Cond.instanceMethod yX0_load, Cond.selects RX0 yX0_load yX0_load, Cond.methodLink RX8 262 yX0_partsThere, Cond.instanceMethod yX0_partsThere, Cond.selects RX0 yX0_partsThere yX0_partsThere, Cond.methodLink RX8 265 yX0_tellLasting, Cond.instanceMethod yX0_tellLasting, Cond.selects RX0 yX0_tellLasting yX0_tellLasting, Cond.code yX8_lasting cX8_lasting 4 (some .int), Cond.methodLink RX8 268 yX0_firstPart, Cond.code yX8_parts cX8_parts 3 (some .int), Cond.constant RX8 277 (1000000), Cond.methodLink RX8 278 yX6_isWithin, Cond.instanceMethod yX6_isWithin, Cond.selects RX6 yX6_isWithin yX6_isWithin, Cond.methodLink RX8 281 yX0_firstUneven, Cond.instanceMethod yX0_firstUneven, Cond.selects RX0 yX0_firstUneven yX0_firstUneven, Cond.code yX8_judge cX8_judge 6 (some .int), Cond.constant RX8 316 (100000), Cond.methodLink RX8 317 yX6_isRising, Cond.instanceMethod yX6_isRising, Cond.selects RX6 yX6_isRising yX6_isRising, Cond.code yX8_judgeRun cX8_judgeRun 5 (some .int), Cond.methodLink RX8 284 yX8_judgeRun, Cond.instanceMethod yX8_judgeRun, Cond.selects RX8 yX8_judgeRun yX8_judgeRun, Cond.methodLink RX8 288 yX3_begin, Cond.instanceMethod yX3_begin, Cond.selects RX3 yX3_begin yX3_begin, Cond.methodLink RX8 289 yX3_serve]
def wn_c12 : List Cond := [Cond.instanceMethod yX3_serve, Cond.selects RX3 yX3_serve yX3_serve, Cond.code yX8_waited cX8_waited 8 (some .int), Cond.code yX8_seen cX8_seen 9 (some .int), Cond.code yX8_asked cX8_asked 1 (some .int), Cond.code yX8_upper cX8_upper 1 (some .long), Cond.code yX8_lower cX8_lower 1 (some .long), Cond.code yX8_rowsThere cX8_rowsThere 3 (some .int), Cond.methodLink RX8 292 yX8_rowsThere, Cond.instanceMethod yX8_rowsThere, Cond.selects RX8 yX8_rowsThere yX8_rowsThere, Cond.methodLink RX8 295 yX4_bitsThere, Cond.methodLink RX8 298 yJ6_bitCount_0f7a4, Cond.methodLink RX8 303 yX4_handsThere, Cond.instanceMethod yX4_handsThere, Cond.selects RX4 yX4_handsThere yX4_handsThere, Cond.methodLink RX8 306 yX4_waysThere, Cond.instanceMethod yX4_waysThere, Cond.selects RX4 yX4_waysThere yX4_waysThere, Cond.code yX8_count cX8_count 2 (some .int), Cond.code yX8_finding cX8_finding 1 (some .int), Cond.code yX8_findings cX8_findings 2 (some .int), Cond.constantLong RX8 309 (17), Cond.methodLink RX8 311 yX1_mixInto, Cond.instanceMethod yX1_mixInto, Cond.selects RX1 yX1_mixInto yX1_mixInto, Cond.methodLink RX8 315 yX6_mixInto, Cond.instanceMethod yX6_mixInto, Cond.selects RX6 yX6_mixInto yX6_mixInto, Cond.code yX8_digest cX8_digest 4 (some .long), Cond.code yX9_init cX9_init 2 none, Cond.methodLink RX9 1 objectInit, Cond.fieldLink RX9 7 "WaitingNetsModel" "findings" "[I", Cond.fieldLink RX9 13 "WaitingNetsModel" "lower" "J", Cond.fieldLink RX9 17 "WaitingNetsModel" "sizes" "[I", Cond.fieldLink RX9 20 "WaitingNetsModel" "rows" "[I", Cond.fieldLink RX9 23 "WaitingNetsModel" "moving" "[I", Cond.arrayClass .boolean, Cond.fieldLink RX9 26 "WaitingNetsModel" "isThere" "[Z", Cond.fieldLink RX9 30 "WaitingNetsModel" "kinds" "[I", Cond.fieldLink RX9 33 "WaitingNetsModel" "rates" "[I", Cond.fieldLink RX9 36 "WaitingNetsModel" "handsOf" "[I", Cond.fieldLink RX9 39 "WaitingNetsModel" "rooms" "[I", Cond.fieldLink RX9 42 "WaitingNetsModel" "coming" "[I", Cond.fieldLink RX9 45 "WaitingNetsModel" "ways" "[I", Cond.fieldLink RX9 48 "WaitingNetsModel" "square" "[J", Cond.fieldLink RX9 52 "WaitingNetsModel" "rowOf" "[I", Cond.fieldLink RX9 55 "WaitingNetsModel" "cleared" "[J"]
def wn_c13 : List Cond := [Cond.fieldLink RX9 58 "WaitingNetsModel" "visit" "[J", Cond.fieldLink RX9 61 "WaitingNetsModel" "state" "[I", Cond.fieldLink RX9 64 "WaitingNetsModel" "waits" "[I", Cond.code yX9_in cX9_in 3 (some .boolean), Cond.code yX9_meets cX9_meets 2 (some .int), Cond.fieldLink RX9 67 "WaitingNetsModel" "finding" "I", Cond.code yX9_ask cX9_ask 3 (some .int), Cond.fieldLink RX9 71 "WaitingNetsModel" "asked" "I", Cond.code yX9_divisor cX9_divisor 10 (some .long), Cond.code yX9_share cX9_share 8 (some .int), Cond.fieldLink RX9 78 "WaitingNetsModel" "upper" "J", Cond.methodLink RX9 74 yX9_divisor, Cond.static yX9_divisor, Cond.initialized RX9, Cond.code yX9_isRow cX9_isRow 1 (some .boolean), Cond.methodLink RX9 81 yX9_in, Cond.static yX9_in, Cond.code yX9_askedRow cX9_askedRow 2 (some .int), Cond.methodLink RX9 85 yX9_isRow, Cond.static yX9_isRow, Cond.methodLink RX9 89 yX9_meets, Cond.instanceMethod yX9_meets, Cond.selects RX9 yX9_meets yX9_meets, Cond.code yX9_row cX9_row 4 (some .int), Cond.code yX9_lay cX9_lay 5 (some .int), Cond.methodLink RX9 93 yX9_askedRow, Cond.instanceMethod yX9_askedRow, Cond.selects RX9 yX9_askedRow yX9_askedRow, Cond.code yX9_tear cX9_tear 3 (some .int), Cond.code yX9_copy cX9_copy 7 (some .int), Cond.code yX9_average cX9_average 6 (some .int), Cond.methodLink RX9 96 yX9_ask, Cond.instanceMethod yX9_ask, Cond.selects RX9 yX9_ask yX9_ask, Cond.code yX9_isCounter cX9_isCounter 1 (some .boolean), Cond.code yX9_askedFor cX9_askedFor 2 (some .int), Cond.methodLink RX9 100 yX9_isCounter, Cond.static yX9_isCounter, Cond.code yX9_empty cX9_empty 3 none, Cond.code yX9_counter cX9_counter 4 (some .int), Cond.methodLink RX9 103 yX9_empty, Cond.instanceMethod yX9_empty, Cond.selects RX9 yX9_empty yX9_empty, Cond.code yX9_drop cX9_drop 3 (some .int), Cond.methodLink RX9 107 yX9_askedFor, Cond.instanceMethod yX9_askedFor, Cond.selects RX9 yX9_askedFor yX9_askedFor, Cond.code yX9_rate cX9_rate 5 (some .int)]
def wn_c14 : List Cond := [Cond.code yX9_hands cX9_hands 5 (some .int), Cond.code yX9_room cX9_room 5 (some .int), Cond.code yX9_outOf cX9_outOf 4 (some .int), Cond.code yX9_way cX9_way 5 (some .int), Cond.methodLink RX9 110 yX9_outOf, Cond.instanceMethod yX9_outOf, Cond.selects RX9 yX9_outOf yX9_outOf, Cond.code yX9_comes cX9_comes 5 (some .int), Cond.code yX9_tells cX9_tells 3 (some .int), Cond.methodLink RX9 113 yX9_tells, Cond.instanceMethod yX9_tells, Cond.selects RX9 yX9_tells yX9_tells, Cond.code yX9_told cX9_told 4 (some .int), Cond.code yX9_mark cX9_mark 6 (some .int), Cond.code yX9_isProduct cX9_isProduct 3 (some .boolean), Cond.code yX9_product cX9_product 1 (some .int), Cond.methodLink RX9 116 yX9_isProduct, Cond.instanceMethod yX9_isProduct, Cond.selects RX9 yX9_isProduct yX9_isProduct, Cond.code yX9_clear cX9_clear 10 (some .long), Cond.code yX9_worth cX9_worth 6 (some .long), Cond.methodLink RX9 120 yX9_clear, Cond.instanceMethod yX9_clear, Cond.selects RX9 yX9_clear yX9_clear, Cond.code yX9_reached cX9_reached 5 (some .int), Cond.code yX9_keptOf cX9_keptOf 5 (some .int), Cond.methodLink RX9 124 yX9_reached, Cond.instanceMethod yX9_reached, Cond.selects RX9 yX9_reached yX9_reached, Cond.code yX9_kept cX9_kept 1 (some .int), Cond.methodLink RX9 128 yX9_keptOf, Cond.instanceMethod yX9_keptOf, Cond.selects RX9 yX9_keptOf yX9_keptOf, Cond.fieldLink RX9 131 "WaitingNetsModel" "flowUp" "J", Cond.fieldLink RX9 134 "WaitingNetsModel" "flowLow" "J", Cond.constantLong RX9 141 (4), Cond.methodLink RX9 137 yX9_worth, Cond.instanceMethod yX9_worth, Cond.selects RX9 yX9_worth yX9_worth, Cond.code yX9_setFlow cX9_setFlow 9 none, Cond.methodLink RX9 143 yX9_setFlow, Cond.instanceMethod yX9_setFlow, Cond.selects RX9 yX9_setFlow yX9_setFlow, Cond.code yX9_askedFlow cX9_askedFlow 3 (some .int), Cond.methodLink RX9 146 yX9_askedFlow, Cond.instanceMethod yX9_askedFlow, Cond.selects RX9 yX9_askedFlow yX9_askedFlow, Cond.methodLink RX9 149 yX9_share]
def wn_c15 : List Cond := [Cond.instanceMethod yX9_share, Cond.selects RX9 yX9_share yX9_share, Cond.code yX9_flow cX9_flow 3 (some .int), Cond.code yX9_bears cX9_bears 2 (some .int), Cond.code yX9_isFull cX9_isFull 2 (some .boolean), Cond.methodLink RX9 153 yX9_bears, Cond.instanceMethod yX9_bears, Cond.selects RX9 yX9_bears yX9_bears, Cond.methodLink RX9 156 yX9_isFull, Cond.instanceMethod yX9_isFull, Cond.selects RX9 yX9_isFull yX9_isFull, Cond.code yX9_use cX9_use 3 (some .int), Cond.constantLong RX9 159 (2), Cond.code yX9_mean cX9_mean 12 (some .int), Cond.code yX9_leadsTo cX9_leadsTo 6 (some .int), Cond.code yX9_isClosed cX9_isClosed 4 (some .boolean), Cond.methodLink RX9 161 yX9_leadsTo, Cond.instanceMethod yX9_leadsTo, Cond.selects RX9 yX9_leadsTo yX9_leadsTo, Cond.code yX9_closed cX9_closed 1 (some .int), Cond.methodLink RX9 164 yX9_isClosed, Cond.instanceMethod yX9_isClosed, Cond.selects RX9 yX9_isClosed yX9_isClosed, Cond.code yX9_setVisits cX9_setVisits 5 none, Cond.methodLink RX9 167 yX9_setVisits, Cond.instanceMethod yX9_setVisits, Cond.selects RX9 yX9_setVisits yX9_setVisits, Cond.code yX9_askedClosed cX9_askedClosed 3 (some .int), Cond.methodLink RX9 170 yX9_askedClosed, Cond.instanceMethod yX9_askedClosed, Cond.selects RX9 yX9_askedClosed yX9_askedClosed, Cond.code yX9_visits cX9_visits 3 (some .int), Cond.code yX9_part cX9_part 2 (some .long), Cond.code yX9_weightAt cX9_weightAt 6 (some .long), Cond.methodLink RX9 173 yX9_part, Cond.instanceMethod yX9_part, Cond.selects RX9 yX9_part yX9_part, Cond.code yX9_nextState cX9_nextState 5 (some .boolean), Cond.fieldLink RX9 176 "WaitingNetsModel" "code" "I", Cond.code yX9_weight cX9_weight 4 (some .long), Cond.methodLink RX9 179 yX9_weightAt, Cond.instanceMethod yX9_weightAt, Cond.selects RX9 yX9_weightAt yX9_weightAt, Cond.code yX9_sumOf cX9_sumOf 5 (some .long), Cond.methodLink RX9 182 yX9_nextState, Cond.instanceMethod yX9_nextState, Cond.selects RX9 yX9_nextState yX9_nextState, Cond.methodLink RX9 185 yX9_weight]
def wn_c16 : List Cond := [Cond.instanceMethod yX9_weight, Cond.selects RX9 yX9_weight yX9_weight, Cond.methodLink RX9 189 yX9_sumOf, Cond.instanceMethod yX9_sumOf, Cond.selects RX9 yX9_sumOf yX9_sumOf, Cond.code yX9_chance cX9_chance 7 (some .int), Cond.code yX9_isMany cX9_isMany 1 (some .boolean), Cond.constantLong RX9 195 (12), Cond.methodLink RX9 192 yX9_isMany, Cond.static yX9_isMany, Cond.code yX9_through cX9_through 4 (some .int), Cond.code yX9_meanOf cX9_meanOf 4 (some .int), Cond.code yX9_round cX9_round 4 (some .int), Cond.code yX9_narrowOf cX9_narrowOf 3 (some .int), Cond.methodLink RX9 197 yX9_narrowOf, Cond.instanceMethod yX9_narrowOf, Cond.selects RX9 yX9_narrowOf yX9_narrowOf, Cond.code yX9_narrow cX9_narrow 1 (some .int), Cond.code yX9_bound cX9_bound 13 (some .int), Cond.code yX9_isAbove cX9_isAbove 23 (some .boolean), Cond.methodLink RX9 200 yX9_isAbove, Cond.static yX9_isAbove, Cond.code yX9_best cX9_best 13 (some .int), Cond.code yX9_sends cX9_sends 3 (some .int), Cond.methodLink RX9 204 yX9_sends, Cond.instanceMethod yX9_sends, Cond.selects RX9 yX9_sends yX9_sends, Cond.code yX9_balance cX9_balance 9 (some .int), Cond.code yX9_ranked cX9_ranked 12 (some .int), Cond.code yX9_power cX9_power 6 (some .long), Cond.methodLink RX9 207 yX9_power, Cond.static yX9_power, Cond.code yX9_roomed cX9_roomed 9 (some .int), Cond.code yX9_askedChain cX9_askedChain 4 (some .int), Cond.code yX9_areRates cX9_areRates 5 (some .boolean), Cond.code yX9_rateOf cX9_rateOf 5 (some .int), Cond.code yX9_comesTo cX9_comesTo 8 (some .int), Cond.methodLink RX9 211 yX9_rateOf, Cond.instanceMethod yX9_rateOf, Cond.selects RX9 yX9_rateOf yX9_rateOf, Cond.code yX9_partsOf cX9_partsOf 9 (some .int), Cond.fieldLink RX9 215 "WaitingNetsModel" "firstPart" "I", Cond.methodLink RX9 218 yX9_comesTo, Cond.instanceMethod yX9_comesTo, Cond.selects RX9 yX9_comesTo yX9_comesTo, Cond.methodLink RX9 222 yX9_askedChain, Cond.instanceMethod yX9_askedChain, Cond.selects RX9 yX9_askedChain yX9_askedChain]
def wn_c17 : List Cond := [Cond.methodLink RX9 225 yX9_areRates, Cond.instanceMethod yX9_areRates, Cond.selects RX9 yX9_areRates yX9_areRates, Cond.methodLink RX9 229 yX9_partsOf, Cond.instanceMethod yX9_partsOf, Cond.selects RX9 yX9_partsOf yX9_partsOf, Cond.code yX9_lasting cX9_lasting 8 (some .int), Cond.code yX9_parts cX9_parts 4 (some .int), Cond.constant RX9 232 (1000000), Cond.code yX9_judge cX9_judge 13 (some .int), Cond.code yX9_askedRun cX9_askedRun 14 (some .int), Cond.constant RX9 233 (100000), Cond.methodLink RX9 234 yX9_askedRun, Cond.instanceMethod yX9_askedRun, Cond.selects RX9 yX9_askedRun yX9_askedRun, Cond.code yX9_waited cX9_waited 6 (some .int), Cond.code yX9_seen cX9_seen 8 (some .int), Cond.code yX9_asked cX9_asked 1 (some .int), Cond.code yX9_upper cX9_upper 1 (some .long), Cond.code yX9_lower cX9_lower 1 (some .long), Cond.code yX9_count cX9_count 4 (some .int), Cond.code yX9_finding cX9_finding 1 (some .int), Cond.code yX9_findings cX9_findings 2 (some .int), Cond.code yX9_mix cX9_mix 2 none, Cond.constantLong RX9 237 (31), Cond.fieldLink RX9 239 "WaitingNetsModel" "h" "J", Cond.constantLong RX9 242 (17), Cond.methodLink RX9 244 yX9_mix, Cond.instanceMethod yX9_mix, Cond.selects RX9 yX9_mix yX9_mix, Cond.code yX9_digest cX9_digest 3 (some .long), Cond.code yJ9_abs_067f4 cJ9_abs_067f4 2 (some .long), Cond.code yJ9_max_7cf53 cJ9_max_7cf53 2 (some .int), Cond.code yJ9_min_7cf53 cJ9_min_7cf53 2 (some .int), Cond.classLink RL 7 RX8, Cond.instantiable RX8 9, Cond.classLink RL 10 RX9, Cond.instantiable RX9 26, Cond.methodLink RL 9 yX8_init, Cond.instanceMethod yX8_init, Cond.methodLink RL 12 yX9_init, Cond.instanceMethod yX9_init, Cond.methodLink RL 13 yX8_row, Cond.instanceMethod yX8_row, Cond.selects RX8 yX8_row yX8_row, Cond.methodLink RL 17 yX9_row, Cond.instanceMethod yX9_row, Cond.selects RX9 yX9_row yX9_row]
def wn_c18 : List Cond := [Cond.methodLink RL 18 yX8_lay, Cond.instanceMethod yX8_lay, Cond.selects RX8 yX8_lay yX8_lay, Cond.methodLink RL 22 yX9_lay, Cond.instanceMethod yX9_lay, Cond.selects RX9 yX9_lay yX9_lay, Cond.methodLink RL 23 yX8_tear, Cond.instanceMethod yX8_tear, Cond.selects RX8 yX8_tear yX8_tear, Cond.methodLink RL 27 yX9_tear, Cond.instanceMethod yX9_tear, Cond.selects RX9 yX9_tear yX9_tear, Cond.methodLink RL 28 yX8_copy, Cond.instanceMethod yX8_copy, Cond.selects RX8 yX8_copy yX8_copy, Cond.methodLink RL 32 yX9_copy, Cond.instanceMethod yX9_copy, Cond.selects RX9 yX9_copy yX9_copy, Cond.methodLink RL 33 yX8_average, Cond.instanceMethod yX8_average, Cond.selects RX8 yX8_average yX8_average, Cond.methodLink RL 36 yX9_average, Cond.instanceMethod yX9_average, Cond.selects RX9 yX9_average yX9_average, Cond.methodLink RL 37 yX8_counter, Cond.instanceMethod yX8_counter, Cond.selects RX8 yX8_counter yX8_counter, Cond.methodLink RL 40 yX9_counter, Cond.instanceMethod yX9_counter, Cond.selects RX9 yX9_counter yX9_counter, Cond.methodLink RL 41 yX8_drop, Cond.instanceMethod yX8_drop, Cond.selects RX8 yX8_drop yX8_drop, Cond.methodLink RL 44 yX9_drop, Cond.instanceMethod yX9_drop, Cond.selects RX9 yX9_drop yX9_drop, Cond.methodLink RL 45 yX8_rate, Cond.instanceMethod yX8_rate, Cond.selects RX8 yX8_rate yX8_rate, Cond.methodLink RL 48 yX9_rate, Cond.instanceMethod yX9_rate, Cond.selects RX9 yX9_rate yX9_rate, Cond.methodLink RL 49 yX8_hands, Cond.instanceMethod yX8_hands, Cond.selects RX8 yX8_hands yX8_hands, Cond.methodLink RL 52 yX9_hands, Cond.instanceMethod yX9_hands, Cond.selects RX9 yX9_hands yX9_hands]
def wn_c19 : List Cond := [Cond.methodLink RL 53 yX8_room, Cond.instanceMethod yX8_room, Cond.selects RX8 yX8_room yX8_room, Cond.methodLink RL 56 yX9_room, Cond.instanceMethod yX9_room, Cond.selects RX9 yX9_room yX9_room, Cond.methodLink RL 57 yX8_way, Cond.instanceMethod yX8_way, Cond.selects RX8 yX8_way yX8_way, Cond.methodLink RL 60 yX9_way, Cond.instanceMethod yX9_way, Cond.selects RX9 yX9_way yX9_way, Cond.methodLink RL 61 yX8_comes, Cond.instanceMethod yX8_comes, Cond.selects RX8 yX8_comes yX8_comes, Cond.methodLink RL 64 yX9_comes, Cond.instanceMethod yX9_comes, Cond.selects RX9 yX9_comes yX9_comes, Cond.methodLink RL 65 yX8_told, Cond.instanceMethod yX8_told, Cond.selects RX8 yX8_told yX8_told, Cond.methodLink RL 68 yX9_told, Cond.instanceMethod yX9_told, Cond.selects RX9 yX9_told yX9_told, Cond.methodLink RL 69 yX8_mark, Cond.instanceMethod yX8_mark, Cond.selects RX8 yX8_mark yX8_mark, Cond.methodLink RL 72 yX9_mark, Cond.instanceMethod yX9_mark, Cond.selects RX9 yX9_mark yX9_mark, Cond.methodLink RL 73 yX8_product, Cond.instanceMethod yX8_product, Cond.selects RX8 yX8_product yX8_product, Cond.methodLink RL 77 yX9_product, Cond.instanceMethod yX9_product, Cond.selects RX9 yX9_product yX9_product, Cond.methodLink RL 78 yX8_kept, Cond.instanceMethod yX8_kept, Cond.selects RX8 yX8_kept yX8_kept, Cond.methodLink RL 81 yX9_kept, Cond.instanceMethod yX9_kept, Cond.selects RX9 yX9_kept yX9_kept, Cond.methodLink RL 82 yX8_flow, Cond.instanceMethod yX8_flow, Cond.selects RX8 yX8_flow yX8_flow, Cond.methodLink RL 85 yX9_flow, Cond.instanceMethod yX9_flow, Cond.selects RX9 yX9_flow yX9_flow]
def wn_c20 : List Cond := [Cond.methodLink RL 86 yX8_use, Cond.instanceMethod yX8_use, Cond.selects RX8 yX8_use yX8_use, Cond.methodLink RL 89 yX9_use, Cond.instanceMethod yX9_use, Cond.selects RX9 yX9_use yX9_use, Cond.methodLink RL 90 yX8_mean, Cond.instanceMethod yX8_mean, Cond.selects RX8 yX8_mean yX8_mean, Cond.methodLink RL 94 yX9_mean, Cond.instanceMethod yX9_mean, Cond.selects RX9 yX9_mean yX9_mean, Cond.methodLink RL 95 yX8_closed, Cond.instanceMethod yX8_closed, Cond.selects RX8 yX8_closed yX8_closed, Cond.methodLink RL 98 yX9_closed, Cond.instanceMethod yX9_closed, Cond.selects RX9 yX9_closed yX9_closed, Cond.methodLink RL 99 yX8_visits, Cond.instanceMethod yX8_visits, Cond.selects RX8 yX8_visits yX8_visits, Cond.methodLink RL 102 yX9_visits, Cond.instanceMethod yX9_visits, Cond.selects RX9 yX9_visits yX9_visits, Cond.methodLink RL 103 yX8_chance, Cond.instanceMethod yX8_chance, Cond.selects RX8 yX8_chance yX8_chance, Cond.methodLink RL 106 yX9_chance, Cond.instanceMethod yX9_chance, Cond.selects RX9 yX9_chance yX9_chance, Cond.methodLink RL 107 yX8_through, Cond.instanceMethod yX8_through, Cond.selects RX8 yX8_through yX8_through, Cond.methodLink RL 110 yX9_through, Cond.instanceMethod yX9_through, Cond.selects RX9 yX9_through yX9_through, Cond.methodLink RL 111 yX8_meanOf, Cond.instanceMethod yX8_meanOf, Cond.selects RX8 yX8_meanOf yX8_meanOf, Cond.methodLink RL 114 yX9_meanOf, Cond.instanceMethod yX9_meanOf, Cond.selects RX9 yX9_meanOf yX9_meanOf, Cond.methodLink RL 115 yX8_round, Cond.instanceMethod yX8_round, Cond.selects RX8 yX8_round yX8_round, Cond.methodLink RL 118 yX9_round, Cond.instanceMethod yX9_round, Cond.selects RX9 yX9_round yX9_round]
def wn_c21 : List Cond := [Cond.methodLink RL 119 yX8_narrow, Cond.instanceMethod yX8_narrow, Cond.selects RX8 yX8_narrow yX8_narrow, Cond.methodLink RL 122 yX9_narrow, Cond.instanceMethod yX9_narrow, Cond.selects RX9 yX9_narrow yX9_narrow, Cond.methodLink RL 123 yX8_bound, Cond.instanceMethod yX8_bound, Cond.selects RX8 yX8_bound yX8_bound, Cond.methodLink RL 126 yX9_bound, Cond.instanceMethod yX9_bound, Cond.selects RX9 yX9_bound yX9_bound, Cond.methodLink RL 127 yX8_best, Cond.instanceMethod yX8_best, Cond.selects RX8 yX8_best yX8_best, Cond.methodLink RL 130 yX9_best, Cond.instanceMethod yX9_best, Cond.selects RX9 yX9_best yX9_best, Cond.methodLink RL 131 yX8_balance, Cond.instanceMethod yX8_balance, Cond.selects RX8 yX8_balance yX8_balance, Cond.methodLink RL 134 yX9_balance, Cond.instanceMethod yX9_balance, Cond.selects RX9 yX9_balance yX9_balance, Cond.methodLink RL 135 yX8_ranked, Cond.instanceMethod yX8_ranked, Cond.selects RX8 yX8_ranked yX8_ranked, Cond.methodLink RL 139 yX9_ranked, Cond.instanceMethod yX9_ranked, Cond.selects RX9 yX9_ranked yX9_ranked, Cond.methodLink RL 140 yX8_roomed, Cond.instanceMethod yX8_roomed, Cond.selects RX8 yX8_roomed yX8_roomed, Cond.methodLink RL 143 yX9_roomed, Cond.instanceMethod yX9_roomed, Cond.selects RX9 yX9_roomed yX9_roomed, Cond.methodLink RL 144 yX8_lasting, Cond.instanceMethod yX8_lasting, Cond.selects RX8 yX8_lasting yX8_lasting, Cond.methodLink RL 147 yX9_lasting, Cond.instanceMethod yX9_lasting, Cond.selects RX9 yX9_lasting yX9_lasting, Cond.methodLink RL 148 yX8_parts, Cond.instanceMethod yX8_parts, Cond.selects RX8 yX8_parts yX8_parts, Cond.methodLink RL 151 yX9_parts, Cond.instanceMethod yX9_parts, Cond.selects RX9 yX9_parts yX9_parts]
def wn_c22 : List Cond := [Cond.methodLink RL 152 yX8_judge, Cond.instanceMethod yX8_judge, Cond.selects RX8 yX8_judge yX8_judge, Cond.methodLink RL 155 yX9_judge, Cond.instanceMethod yX9_judge, Cond.selects RX9 yX9_judge yX9_judge, Cond.methodLink RL 156 yX8_waited, Cond.instanceMethod yX8_waited, Cond.selects RX8 yX8_waited yX8_waited, Cond.methodLink RL 160 yX9_waited, Cond.instanceMethod yX9_waited, Cond.selects RX9 yX9_waited yX9_waited, Cond.methodLink RL 161 yX8_seen, Cond.instanceMethod yX8_seen, Cond.selects RX8 yX8_seen yX8_seen, Cond.methodLink RL 164 yX9_seen, Cond.instanceMethod yX9_seen, Cond.selects RX9 yX9_seen yX9_seen, Cond.methodLink RL 165 yX8_asked, Cond.instanceMethod yX8_asked, Cond.selects RX8 yX8_asked yX8_asked, Cond.methodLink RL 168 yX9_asked, Cond.instanceMethod yX9_asked, Cond.selects RX9 yX9_asked yX9_asked, Cond.methodLink RL 169 yX8_upper, Cond.instanceMethod yX8_upper, Cond.selects RX8 yX8_upper yX8_upper, Cond.methodLink RL 173 yX9_upper, Cond.instanceMethod yX9_upper, Cond.selects RX9 yX9_upper yX9_upper, Cond.methodLink RL 174 yX8_lower, Cond.instanceMethod yX8_lower, Cond.selects RX8 yX8_lower yX8_lower, Cond.methodLink RL 177 yX9_lower, Cond.instanceMethod yX9_lower, Cond.selects RX9 yX9_lower yX9_lower, Cond.methodLink RL 178 yX8_count, Cond.instanceMethod yX8_count, Cond.selects RX8 yX8_count yX8_count, Cond.methodLink RL 181 yX9_count, Cond.instanceMethod yX9_count, Cond.selects RX9 yX9_count yX9_count, Cond.methodLink RL 182 yX8_finding, Cond.instanceMethod yX8_finding, Cond.selects RX8 yX8_finding yX8_finding, Cond.methodLink RL 185 yX9_finding, Cond.instanceMethod yX9_finding, Cond.selects RX9 yX9_finding yX9_finding]
def wn_c23 : List Cond := [Cond.methodLink RL 186 yX8_findings, Cond.instanceMethod yX8_findings, Cond.selects RX8 yX8_findings yX8_findings, Cond.methodLink RL 189 yX9_findings, Cond.instanceMethod yX9_findings, Cond.selects RX9 yX9_findings yX9_findings, Cond.methodLink RL 190 yX8_digest, Cond.instanceMethod yX8_digest, Cond.selects RX8 yX8_digest yX8_digest, Cond.methodLink RL 193 yX9_digest, Cond.instanceMethod yX9_digest, Cond.selects RX9 yX9_digest yX9_digest]
def wn_c24 : List Cond := wsX00 ++ wsX10 ++ wsX20 ++ wsX30 ++ wsX40 ++ wsX50 ++ wsX60 ++ wsX70 ++ wsX80 ++ wsX90
def wn_all : List Cond := wn_c0 ++ (wn_c1 ++ (wn_c2 ++ (wn_c3 ++ (wn_c4 ++ (wn_c5 ++ (wn_c6 ++ (wn_c7 ++ (wn_c8 ++ (wn_c9 ++ (wn_c10 ++ (wn_c11 ++ (wn_c12 ++ (wn_c13 ++ (wn_c14 ++ (wn_c15 ++ (wn_c16 ++ (wn_c17 ++ (wn_c18 ++ (wn_c19 ++ (wn_c20 ++ (wn_c21 ++ (wn_c22 ++ (wn_c23 ++ (wn_c24))))))))))))))))))))))))
theorem wn_in0 : ∀ w ∈ wn_c0, w ∈ wn_all := fun w h => List.mem_append_left _ h
theorem wn_in1 : ∀ w ∈ wn_c1, w ∈ wn_all := fun w h => List.mem_append_right _ (List.mem_append_left _ h)
theorem wn_in2 : ∀ w ∈ wn_c2, w ∈ wn_all := fun w h => List.mem_append_right _ (List.mem_append_right _ (List.mem_append_left _ h))
theorem wn_in3 : ∀ w ∈ wn_c3, w ∈ wn_all := fun w h => List.mem_append_right _ (List.mem_append_right _ (List.mem_append_right _ (List.mem_append_left _ h)))
theorem wn_in4 : ∀ w ∈ wn_c4, w ∈ wn_all := fun w h => List.mem_append_right _ (List.mem_append_right _ (List.mem_append_right _ (List.mem_append_right _ (List.mem_append_left _ h))))
theorem wn_in5 : ∀ w ∈ wn_c5, w ∈ wn_all := fun w h => List.mem_append_right _ (List.mem_append_right _ (List.mem_append_right _ (List.mem_append_right _ (List.mem_append_right _ (List.mem_append_left _ h)))))
theorem wn_in6 : ∀ w ∈ wn_c6, w ∈ wn_all := fun w h => List.mem_append_right _ (List.mem_append_right _ (List.mem_append_right _ (List.mem_append_right _ (List.mem_append_right _ (List.mem_append_right _ (List.mem_append_left _ h))))))
theorem wn_in7 : ∀ w ∈ wn_c7, w ∈ wn_all := fun w h => List.mem_append_right _ (List.mem_append_right _ (List.mem_append_right _ (List.mem_append_right _ (List.mem_append_right _ (List.mem_append_right _ (List.mem_append_right _ (List.mem_append_left _ h)))))))
theorem wn_in8 : ∀ w ∈ wn_c8, w ∈ wn_all := fun w h => List.mem_append_right _ (List.mem_append_right _ (List.mem_append_right _ (List.mem_append_right _ (List.mem_append_right _ (List.mem_append_right _ (List.mem_append_right _ (List.mem_append_right _ (List.mem_append_left _ h))))))))
theorem wn_in9 : ∀ w ∈ wn_c9, w ∈ wn_all := fun w h => List.mem_append_right _ (List.mem_append_right _ (List.mem_append_right _ (List.mem_append_right _ (List.mem_append_right _ (List.mem_append_right _ (List.mem_append_right _ (List.mem_append_right _ (List.mem_append_right _ (List.mem_append_left _ h)))))))))
theorem wn_in10 : ∀ w ∈ wn_c10, w ∈ wn_all := fun w h => List.mem_append_right _ (List.mem_append_right _ (List.mem_append_right _ (List.mem_append_right _ (List.mem_append_right _ (List.mem_append_right _ (List.mem_append_right _ (List.mem_append_right _ (List.mem_append_right _ (List.mem_append_right _ (List.mem_append_left _ h))))))))))
theorem wn_in11 : ∀ w ∈ wn_c11, w ∈ wn_all := fun w h => List.mem_append_right _ (List.mem_append_right _ (List.mem_append_right _ (List.mem_append_right _ (List.mem_append_right _ (List.mem_append_right _ (List.mem_append_right _ (List.mem_append_right _ (List.mem_append_right _ (List.mem_append_right _ (List.mem_append_right _ (List.mem_append_left _ h)))))))))))
theorem wn_in12 : ∀ w ∈ wn_c12, w ∈ wn_all := fun w h => List.mem_append_right _ (List.mem_append_right _ (List.mem_append_right _ (List.mem_append_right _ (List.mem_append_right _ (List.mem_append_right _ (List.mem_append_right _ (List.mem_append_right _ (List.mem_append_right _ (List.mem_append_right _ (List.mem_append_right _ (List.mem_append_right _ (List.mem_append_left _ h))))))))))))
theorem wn_in13 : ∀ w ∈ wn_c13, w ∈ wn_all := fun w h => List.mem_append_right _ (List.mem_append_right _ (List.mem_append_right _ (List.mem_append_right _ (List.mem_append_right _ (List.mem_append_right _ (List.mem_append_right _ (List.mem_append_right _ (List.mem_append_right _ (List.mem_append_right _ (List.mem_append_right _ (List.mem_append_right _ (List.mem_append_right _ (List.mem_append_left _ h)))))))))))))
theorem wn_in14 : ∀ w ∈ wn_c14, w ∈ wn_all := fun w h => List.mem_append_right _ (List.mem_append_right _ (List.mem_append_right _ (List.mem_append_right _ (List.mem_append_right _ (List.mem_append_right _ (List.mem_append_right _ (List.mem_append_right _ (List.mem_append_right _ (List.mem_append_right _ (List.mem_append_right _ (List.mem_append_right _ (List.mem_append_right _ (List.mem_append_right _ (List.mem_append_left _ h))))))))))))))
theorem wn_in15 : ∀ w ∈ wn_c15, w ∈ wn_all := fun w h => List.mem_append_right _ (List.mem_append_right _ (List.mem_append_right _ (List.mem_append_right _ (List.mem_append_right _ (List.mem_append_right _ (List.mem_append_right _ (List.mem_append_right _ (List.mem_append_right _ (List.mem_append_right _ (List.mem_append_right _ (List.mem_append_right _ (List.mem_append_right _ (List.mem_append_right _ (List.mem_append_right _ (List.mem_append_left _ h)))))))))))))))
theorem wn_in16 : ∀ w ∈ wn_c16, w ∈ wn_all := fun w h => List.mem_append_right _ (List.mem_append_right _ (List.mem_append_right _ (List.mem_append_right _ (List.mem_append_right _ (List.mem_append_right _ (List.mem_append_right _ (List.mem_append_right _ (List.mem_append_right _ (List.mem_append_right _ (List.mem_append_right _ (List.mem_append_right _ (List.mem_append_right _ (List.mem_append_right _ (List.mem_append_right _ (List.mem_append_right _ (List.mem_append_left _ h))))))))))))))))
theorem wn_in17 : ∀ w ∈ wn_c17, w ∈ wn_all := fun w h => List.mem_append_right _ (List.mem_append_right _ (List.mem_append_right _ (List.mem_append_right _ (List.mem_append_right _ (List.mem_append_right _ (List.mem_append_right _ (List.mem_append_right _ (List.mem_append_right _ (List.mem_append_right _ (List.mem_append_right _ (List.mem_append_right _ (List.mem_append_right _ (List.mem_append_right _ (List.mem_append_right _ (List.mem_append_right _ (List.mem_append_right _ (List.mem_append_left _ h)))))))))))))))))
theorem wn_in18 : ∀ w ∈ wn_c18, w ∈ wn_all := fun w h => List.mem_append_right _ (List.mem_append_right _ (List.mem_append_right _ (List.mem_append_right _ (List.mem_append_right _ (List.mem_append_right _ (List.mem_append_right _ (List.mem_append_right _ (List.mem_append_right _ (List.mem_append_right _ (List.mem_append_right _ (List.mem_append_right _ (List.mem_append_right _ (List.mem_append_right _ (List.mem_append_right _ (List.mem_append_right _ (List.mem_append_right _ (List.mem_append_right _ (List.mem_append_left _ h))))))))))))))))))
theorem wn_in19 : ∀ w ∈ wn_c19, w ∈ wn_all := fun w h => List.mem_append_right _ (List.mem_append_right _ (List.mem_append_right _ (List.mem_append_right _ (List.mem_append_right _ (List.mem_append_right _ (List.mem_append_right _ (List.mem_append_right _ (List.mem_append_right _ (List.mem_append_right _ (List.mem_append_right _ (List.mem_append_right _ (List.mem_append_right _ (List.mem_append_right _ (List.mem_append_right _ (List.mem_append_right _ (List.mem_append_right _ (List.mem_append_right _ (List.mem_append_right _ (List.mem_append_left _ h)))))))))))))))))))
theorem wn_in20 : ∀ w ∈ wn_c20, w ∈ wn_all := fun w h => List.mem_append_right _ (List.mem_append_right _ (List.mem_append_right _ (List.mem_append_right _ (List.mem_append_right _ (List.mem_append_right _ (List.mem_append_right _ (List.mem_append_right _ (List.mem_append_right _ (List.mem_append_right _ (List.mem_append_right _ (List.mem_append_right _ (List.mem_append_right _ (List.mem_append_right _ (List.mem_append_right _ (List.mem_append_right _ (List.mem_append_right _ (List.mem_append_right _ (List.mem_append_right _ (List.mem_append_right _ (List.mem_append_left _ h))))))))))))))))))))
theorem wn_in21 : ∀ w ∈ wn_c21, w ∈ wn_all := fun w h => List.mem_append_right _ (List.mem_append_right _ (List.mem_append_right _ (List.mem_append_right _ (List.mem_append_right _ (List.mem_append_right _ (List.mem_append_right _ (List.mem_append_right _ (List.mem_append_right _ (List.mem_append_right _ (List.mem_append_right _ (List.mem_append_right _ (List.mem_append_right _ (List.mem_append_right _ (List.mem_append_right _ (List.mem_append_right _ (List.mem_append_right _ (List.mem_append_right _ (List.mem_append_right _ (List.mem_append_right _ (List.mem_append_right _ (List.mem_append_left _ h)))))))))))))))))))))
theorem wn_in22 : ∀ w ∈ wn_c22, w ∈ wn_all := fun w h => List.mem_append_right _ (List.mem_append_right _ (List.mem_append_right _ (List.mem_append_right _ (List.mem_append_right _ (List.mem_append_right _ (List.mem_append_right _ (List.mem_append_right _ (List.mem_append_right _ (List.mem_append_right _ (List.mem_append_right _ (List.mem_append_right _ (List.mem_append_right _ (List.mem_append_right _ (List.mem_append_right _ (List.mem_append_right _ (List.mem_append_right _ (List.mem_append_right _ (List.mem_append_right _ (List.mem_append_right _ (List.mem_append_right _ (List.mem_append_right _ (List.mem_append_left _ h))))))))))))))))))))))
theorem wn_in23 : ∀ w ∈ wn_c23, w ∈ wn_all := fun w h => List.mem_append_right _ (List.mem_append_right _ (List.mem_append_right _ (List.mem_append_right _ (List.mem_append_right _ (List.mem_append_right _ (List.mem_append_right _ (List.mem_append_right _ (List.mem_append_right _ (List.mem_append_right _ (List.mem_append_right _ (List.mem_append_right _ (List.mem_append_right _ (List.mem_append_right _ (List.mem_append_right _ (List.mem_append_right _ (List.mem_append_right _ (List.mem_append_right _ (List.mem_append_right _ (List.mem_append_right _ (List.mem_append_right _ (List.mem_append_right _ (List.mem_append_right _ (List.mem_append_left _ h)))))))))))))))))))))))
theorem wn_in24 : ∀ w ∈ wn_c24, w ∈ wn_all := fun w h => List.mem_append_right _ (List.mem_append_right _ (List.mem_append_right _ (List.mem_append_right _ (List.mem_append_right _ (List.mem_append_right _ (List.mem_append_right _ (List.mem_append_right _ (List.mem_append_right _ (List.mem_append_right _ (List.mem_append_right _ (List.mem_append_right _ (List.mem_append_right _ (List.mem_append_right _ (List.mem_append_right _ (List.mem_append_right _ (List.mem_append_right _ (List.mem_append_right _ (List.mem_append_right _ (List.mem_append_right _ (List.mem_append_right _ (List.mem_append_right _ (List.mem_append_right _ (List.mem_append_right _ (h))))))))))))))))))))))))
theorem wm_0 : (Cond.code yX7_init cX7_init 1 none) ∈ wn_all := wn_in0 _ (List.mem_of_getElem? (i := 0) rfl)
theorem wm_1 : (Cond.methodLink RX7 3 objectInit) ∈ wn_all := wn_in0 _ (List.mem_of_getElem? (i := 1) rfl)
theorem wm_2 : (Cond.instanceMethod objectInit) ∈ wn_all := wn_in0 _ (List.mem_of_getElem? (i := 2) rfl)
theorem wm_3 : (Cond.code objectInit ⟨#[0xb1]⟩ 1 none) ∈ wn_all := wn_in0 _ (List.mem_of_getElem? (i := 3) rfl)
theorem wm_4 : (Cond.classLink RX7 9 "[[J") ∈ wn_all := wn_in0 _ (List.mem_of_getElem? (i := 4) rfl)
theorem wm_5 : (Cond.arrayClass .long) ∈ wn_all := wn_in0 _ (List.mem_of_getElem? (i := 5) rfl)
theorem wm_6 : (Cond.fieldLink RX7 11 "WaitingNets$Square" "cells" "[[J") ∈ wn_all := wn_in0 _ (List.mem_of_getElem? (i := 6) rfl)
theorem wm_7 : (Cond.fieldLink RX7 16 "WaitingNets$Square" "size" "I") ∈ wn_all := wn_in0 _ (List.mem_of_getElem? (i := 7) rfl)
theorem wm_8 : (Cond.code yX0_init cX0_init 1 none) ∈ wn_all := wn_in0 _ (List.mem_of_getElem? (i := 8) rfl)
theorem wm_9 : (Cond.methodLink RX0 3 objectInit) ∈ wn_all := wn_in0 _ (List.mem_of_getElem? (i := 9) rfl)
theorem wm_10 : (Cond.classLink RX0 9 "[[I") ∈ wn_all := wn_in0 _ (List.mem_of_getElem? (i := 10) rfl)
theorem wm_11 : (Cond.arrayClass .int) ∈ wn_all := wn_in0 _ (List.mem_of_getElem? (i := 11) rfl)
theorem wm_12 : (Cond.fieldLink RX0 11 "WaitingNets$Chain" "rates" "[[I") ∈ wn_all := wn_in0 _ (List.mem_of_getElem? (i := 12) rfl)
theorem wm_13 : (Cond.fieldLink RX0 16 "WaitingNets$Chain" "leads" "[I") ∈ wn_all := wn_in0 _ (List.mem_of_getElem? (i := 13) rfl)
theorem wm_14 : (Cond.classLink RX0 20 RX7) ∈ wn_all := wn_in0 _ (List.mem_of_getElem? (i := 14) rfl)
theorem wm_15 : (Cond.instantiable RX7 2) ∈ wn_all := wn_in0 _ (List.mem_of_getElem? (i := 15) rfl)
theorem wm_16 : (Cond.initialized RX7) ∈ wn_all := wn_in0 _ (List.mem_of_getElem? (i := 16) rfl)
theorem wm_17 : (Cond.fieldLink RX0 23 "WaitingNets$Chain" "square" "LWaitingNets$Square;") ∈ wn_all := wn_in0 _ (List.mem_of_getElem? (i := 17) rfl)
theorem wm_18 : (Cond.fieldLink RX0 27 "WaitingNets$Chain" "size" "I") ∈ wn_all := wn_in0 _ (List.mem_of_getElem? (i := 18) rfl)
theorem wm_19 : (Cond.instanceMethod yX7_init) ∈ wn_all := wn_in0 _ (List.mem_of_getElem? (i := 19) rfl)
theorem wm_20 : (Cond.code yX6_side cX6_side 2 (some .int)) ∈ wn_all := wn_in0 _ (List.mem_of_getElem? (i := 20) rfl)
theorem wm_21 : (Cond.fieldLink RX6 15 "WaitingNets$Row" "size" "I") ∈ wn_all := wn_in0 _ (List.mem_of_getElem? (i := 21) rfl)
theorem wm_22 : (Cond.code yX6_has cX6_has 2 (some .boolean)) ∈ wn_all := wn_in0 _ (List.mem_of_getElem? (i := 22) rfl)
theorem wm_23 : (Cond.fieldLink RX6 9 "WaitingNets$Row" "places" "[I") ∈ wn_all := wn_in0 _ (List.mem_of_getElem? (i := 23) rfl)
theorem wm_24 : (Cond.code yX6_at cX6_at 2 (some .int)) ∈ wn_all := wn_in0 _ (List.mem_of_getElem? (i := 24) rfl)
theorem wm_25 : (Cond.methodLink RX6 28 yX6_has) ∈ wn_all := wn_in0 _ (List.mem_of_getElem? (i := 25) rfl)
theorem wm_26 : (Cond.instanceMethod yX6_has) ∈ wn_all := wn_in0 _ (List.mem_of_getElem? (i := 26) rfl)
theorem wm_27 : (Cond.selects RX6 yX6_has yX6_has) ∈ wn_all := wn_in0 _ (List.mem_of_getElem? (i := 27) rfl)
theorem wm_28 : (Cond.initialized RX6) ∈ wn_all := wn_in0 _ (List.mem_of_getElem? (i := 28) rfl)
theorem wm_29 : (Cond.code yX0_noteLeads cX0_noteLeads 3 none) ∈ wn_all := wn_in0 _ (List.mem_of_getElem? (i := 29) rfl)
theorem wm_30 : (Cond.code yX0_load cX0_load 4 none) ∈ wn_all := wn_in0 _ (List.mem_of_getElem? (i := 30) rfl)
theorem wm_31 : (Cond.methodLink RX0 31 yX6_side) ∈ wn_all := wn_in0 _ (List.mem_of_getElem? (i := 31) rfl)
theorem wm_32 : (Cond.instanceMethod yX6_side) ∈ wn_all := wn_in0 _ (List.mem_of_getElem? (i := 32) rfl)
theorem wm_33 : (Cond.selects RX6 yX6_side yX6_side) ∈ wn_all := wn_in0 _ (List.mem_of_getElem? (i := 33) rfl)
theorem wm_34 : (Cond.methodLink RX0 37 yX6_at) ∈ wn_all := wn_in0 _ (List.mem_of_getElem? (i := 34) rfl)
theorem wm_35 : (Cond.instanceMethod yX6_at) ∈ wn_all := wn_in0 _ (List.mem_of_getElem? (i := 35) rfl)
theorem wm_36 : (Cond.selects RX6 yX6_at yX6_at) ∈ wn_all := wn_in0 _ (List.mem_of_getElem? (i := 36) rfl)
theorem wm_37 : (Cond.methodLink RX0 41 yX0_noteLeads) ∈ wn_all := wn_in0 _ (List.mem_of_getElem? (i := 37) rfl)
theorem wm_38 : (Cond.instanceMethod yX0_noteLeads) ∈ wn_all := wn_in0 _ (List.mem_of_getElem? (i := 38) rfl)
theorem wm_39 : (Cond.selects RX0 yX0_noteLeads yX0_noteLeads) ∈ wn_all := wn_in0 _ (List.mem_of_getElem? (i := 39) rfl)
theorem wm_40 : (Cond.initialized RX0) ∈ wn_all := wn_in0 _ (List.mem_of_getElem? (i := 40) rfl)
theorem wm_41 : (Cond.code yX0_reachedFrom cX0_reachedFrom 5 (some .int)) ∈ wn_all := wn_in0 _ (List.mem_of_getElem? (i := 41) rfl)
theorem wm_42 : (Cond.code yX0_partOf cX0_partOf 5 (some .int)) ∈ wn_all := wn_in0 _ (List.mem_of_getElem? (i := 42) rfl)
theorem wm_43 : (Cond.methodLink RX0 44 yX0_reachedFrom) ∈ wn_all := wn_in0 _ (List.mem_of_getElem? (i := 43) rfl)
theorem wm_44 : (Cond.instanceMethod yX0_reachedFrom) ∈ wn_all := wn_in0 _ (List.mem_of_getElem? (i := 44) rfl)
theorem wm_45 : (Cond.selects RX0 yX0_reachedFrom yX0_reachedFrom) ∈ wn_all := wn_in0 _ (List.mem_of_getElem? (i := 45) rfl)
theorem wm_46 : (Cond.code yX0_partsThere cX0_partsThere 3 (some .int)) ∈ wn_all := wn_in0 _ (List.mem_of_getElem? (i := 46) rfl)
theorem wm_47 : (Cond.methodLink RX0 47 yX0_partOf) ∈ wn_all := wn_in0 _ (List.mem_of_getElem? (i := 47) rfl)
theorem wm_48 : (Cond.instanceMethod yX0_partOf) ∈ wn_all := wn_in1 _ (List.mem_of_getElem? (i := 0) rfl)
theorem wm_49 : (Cond.selects RX0 yX0_partOf yX0_partOf) ∈ wn_all := wn_in1 _ (List.mem_of_getElem? (i := 1) rfl)
theorem wm_50 : (Cond.code yX0_firstPart cX0_firstPart 3 (some .int)) ∈ wn_all := wn_in1 _ (List.mem_of_getElem? (i := 2) rfl)
theorem wm_51 : (Cond.code yJ6_bitCount_0f7a4 cJ6_bitCount_0f7a4 1 (some .int)) ∈ wn_all := wn_in1 _ (List.mem_of_getElem? (i := 3) rfl)
theorem wm_52 : (Cond.constant RJ6 265 (1431655765)) ∈ wn_all := wn_in1 _ (List.mem_of_getElem? (i := 4) rfl)
theorem wm_53 : (Cond.constant RJ6 266 (858993459)) ∈ wn_all := wn_in1 _ (List.mem_of_getElem? (i := 5) rfl)
theorem wm_54 : (Cond.constant RJ6 267 (252645135)) ∈ wn_all := wn_in1 _ (List.mem_of_getElem? (i := 6) rfl)
theorem wm_55 : (Cond.code yX0_going cX0_going 5 (some .long)) ∈ wn_all := wn_in1 _ (List.mem_of_getElem? (i := 7) rfl)
theorem wm_56 : (Cond.code yX0_layLine cX0_layLine 6 none) ∈ wn_all := wn_in1 _ (List.mem_of_getElem? (i := 8) rfl)
theorem wm_57 : (Cond.fieldLink RX0 77 "WaitingNets$Square" "cells" "[[J") ∈ wn_all := wn_in1 _ (List.mem_of_getElem? (i := 9) rfl)
theorem wm_58 : (Cond.methodLink RX0 81 yX0_going) ∈ wn_all := wn_in1 _ (List.mem_of_getElem? (i := 10) rfl)
theorem wm_59 : (Cond.instanceMethod yX0_going) ∈ wn_all := wn_in1 _ (List.mem_of_getElem? (i := 11) rfl)
theorem wm_60 : (Cond.selects RX0 yX0_going yX0_going) ∈ wn_all := wn_in1 _ (List.mem_of_getElem? (i := 12) rfl)
theorem wm_61 : (Cond.code yX7_bringUp cX7_bringUp 7 (some .boolean)) ∈ wn_all := wn_in1 _ (List.mem_of_getElem? (i := 13) rfl)
theorem wm_62 : (Cond.code yX7_clearBelow cX7_clearBelow 9 none) ∈ wn_all := wn_in1 _ (List.mem_of_getElem? (i := 14) rfl)
theorem wm_63 : (Cond.code yX7_determinant cX7_determinant 7 (some .long)) ∈ wn_all := wn_in1 _ (List.mem_of_getElem? (i := 15) rfl)
theorem wm_64 : (Cond.methodLink RX7 20 Lib.Math.min.name) ∈ wn_all := wn_in1 _ (List.mem_of_getElem? (i := 16) rfl)
theorem wm_65 : (Cond.static Lib.Math.min.name) ∈ wn_all := wn_in1 _ (List.mem_of_getElem? (i := 17) rfl)
theorem wm_66 : (Cond.initialized "java/lang/Math") ∈ wn_all := wn_in1 _ (List.mem_of_getElem? (i := 18) rfl)
theorem wm_67 : (Cond.code Lib.Math.min.name Lib.Math.min.code 2 (some .int)) ∈ wn_all := wn_in1 _ (List.mem_of_getElem? (i := 19) rfl)
theorem wm_68 : (Cond.methodLink RX7 26 yX7_bringUp) ∈ wn_all := wn_in1 _ (List.mem_of_getElem? (i := 20) rfl)
theorem wm_69 : (Cond.instanceMethod yX7_bringUp) ∈ wn_all := wn_in1 _ (List.mem_of_getElem? (i := 21) rfl)
theorem wm_70 : (Cond.selects RX7 yX7_bringUp yX7_bringUp) ∈ wn_all := wn_in1 _ (List.mem_of_getElem? (i := 22) rfl)
theorem wm_71 : (Cond.methodLink RX7 30 yX7_clearBelow) ∈ wn_all := wn_in1 _ (List.mem_of_getElem? (i := 23) rfl)
theorem wm_72 : (Cond.instanceMethod yX7_clearBelow) ∈ wn_all := wn_in1 _ (List.mem_of_getElem? (i := 24) rfl)
theorem wm_73 : (Cond.selects RX7 yX7_clearBelow yX7_clearBelow) ∈ wn_all := wn_in1 _ (List.mem_of_getElem? (i := 25) rfl)
theorem wm_74 : (Cond.fieldLink RX0 68 "WaitingNets$Square" "size" "I") ∈ wn_all := wn_in1 _ (List.mem_of_getElem? (i := 26) rfl)
theorem wm_75 : (Cond.methodLink RX0 63 yJ6_bitCount_0f7a4) ∈ wn_all := wn_in1 _ (List.mem_of_getElem? (i := 27) rfl)
theorem wm_76 : (Cond.static yJ6_bitCount_0f7a4) ∈ wn_all := wn_in1 _ (List.mem_of_getElem? (i := 28) rfl)
theorem wm_77 : (Cond.initialized RJ6) ∈ wn_all := wn_in1 _ (List.mem_of_getElem? (i := 29) rfl)
theorem wm_78 : (Cond.methodLink RX0 69 yX0_layLine) ∈ wn_all := wn_in1 _ (List.mem_of_getElem? (i := 30) rfl)
theorem wm_79 : (Cond.instanceMethod yX0_layLine) ∈ wn_all := wn_in1 _ (List.mem_of_getElem? (i := 31) rfl)
theorem wm_80 : (Cond.selects RX0 yX0_layLine yX0_layLine) ∈ wn_all := wn_in1 _ (List.mem_of_getElem? (i := 32) rfl)
theorem wm_81 : (Cond.methodLink RX0 73 yX7_determinant) ∈ wn_all := wn_in1 _ (List.mem_of_getElem? (i := 33) rfl)
theorem wm_82 : (Cond.instanceMethod yX7_determinant) ∈ wn_all := wn_in1 _ (List.mem_of_getElem? (i := 34) rfl)
theorem wm_83 : (Cond.selects RX7 yX7_determinant yX7_determinant) ∈ wn_all := wn_in1 _ (List.mem_of_getElem? (i := 35) rfl)
theorem wm_84 : (Cond.code yX0_weightOf cX0_weightOf 6 (some .long)) ∈ wn_all := wn_in1 _ (List.mem_of_getElem? (i := 36) rfl)
theorem wm_85 : (Cond.code yX2_commonPart cX2_commonPart 11 (some .long)) ∈ wn_all := wn_in1 _ (List.mem_of_getElem? (i := 37) rfl)
theorem wm_86 : (Cond.methodLink RX2 22 Lib.MathLoose.abs_long.x) ∈ wn_all := wn_in1 _ (List.mem_of_getElem? (i := 38) rfl)
theorem wm_87 : (Cond.static Lib.MathLoose.abs_long.x) ∈ wn_all := wn_in1 _ (List.mem_of_getElem? (i := 39) rfl)
theorem wm_88 : (Cond.code Lib.MathLoose.abs_long.x Lib.MathLoose.abs_long.code 2 (some .long)) ∈ wn_all := wn_in1 _ (List.mem_of_getElem? (i := 40) rfl)
theorem wm_89 : (Cond.code yX2_set cX2_set 9 none) ∈ wn_all := wn_in1 _ (List.mem_of_getElem? (i := 41) rfl)
theorem wm_90 : (Cond.fieldLink RX2 9 "WaitingNets$Fraction" "upper" "J") ∈ wn_all := wn_in1 _ (List.mem_of_getElem? (i := 42) rfl)
theorem wm_91 : (Cond.fieldLink RX2 15 "WaitingNets$Fraction" "lower" "J") ∈ wn_all := wn_in1 _ (List.mem_of_getElem? (i := 43) rfl)
theorem wm_92 : (Cond.methodLink RX2 18 yX2_commonPart) ∈ wn_all := wn_in1 _ (List.mem_of_getElem? (i := 44) rfl)
theorem wm_93 : (Cond.static yX2_commonPart) ∈ wn_all := wn_in1 _ (List.mem_of_getElem? (i := 45) rfl)
theorem wm_94 : (Cond.initialized RX2) ∈ wn_all := wn_in1 _ (List.mem_of_getElem? (i := 46) rfl)
theorem wm_95 : (Cond.methodLink RX0 50 yX0_firstPart) ∈ wn_all := wn_in1 _ (List.mem_of_getElem? (i := 47) rfl)
theorem wm_96 : (Cond.instanceMethod yX0_firstPart) ∈ wn_all := wn_in2 _ (List.mem_of_getElem? (i := 0) rfl)
theorem wm_97 : (Cond.selects RX0 yX0_firstPart yX0_firstPart) ∈ wn_all := wn_in2 _ (List.mem_of_getElem? (i := 1) rfl)
theorem wm_98 : (Cond.methodLink RX0 53 yX0_weightOf) ∈ wn_all := wn_in2 _ (List.mem_of_getElem? (i := 2) rfl)
theorem wm_99 : (Cond.instanceMethod yX0_weightOf) ∈ wn_all := wn_in2 _ (List.mem_of_getElem? (i := 3) rfl)
theorem wm_100 : (Cond.selects RX0 yX0_weightOf yX0_weightOf) ∈ wn_all := wn_in2 _ (List.mem_of_getElem? (i := 4) rfl)
theorem wm_101 : (Cond.methodLink RX0 57 yX2_set) ∈ wn_all := wn_in2 _ (List.mem_of_getElem? (i := 5) rfl)
theorem wm_102 : (Cond.instanceMethod yX2_set) ∈ wn_all := wn_in2 _ (List.mem_of_getElem? (i := 6) rfl)
theorem wm_103 : (Cond.selects RX2 yX2_set yX2_set) ∈ wn_all := wn_in2 _ (List.mem_of_getElem? (i := 7) rfl)
theorem wm_104 : (Cond.code yX0_tellLasting cX0_tellLasting 7 none) ∈ wn_all := wn_in2 _ (List.mem_of_getElem? (i := 8) rfl)
theorem wm_105 : (Cond.code yX0_firstUneven cX0_firstUneven 6 (some .int)) ∈ wn_all := wn_in2 _ (List.mem_of_getElem? (i := 9) rfl)
theorem wm_106 : (Cond.code yX1_init cX1_init 1 none) ∈ wn_all := wn_in2 _ (List.mem_of_getElem? (i := 10) rfl)
theorem wm_107 : (Cond.methodLink RX1 3 objectInit) ∈ wn_all := wn_in2 _ (List.mem_of_getElem? (i := 11) rfl)
theorem wm_108 : (Cond.fieldLink RX1 9 "WaitingNets$Counter" "ways" "[I") ∈ wn_all := wn_in2 _ (List.mem_of_getElem? (i := 12) rfl)
theorem wm_109 : (Cond.fieldLink RX1 15 "WaitingNets$Counter" "kind" "I") ∈ wn_all := wn_in2 _ (List.mem_of_getElem? (i := 13) rfl)
theorem wm_110 : (Cond.fieldLink RX1 19 "WaitingNets$Counter" "rate" "I") ∈ wn_all := wn_in2 _ (List.mem_of_getElem? (i := 14) rfl)
theorem wm_111 : (Cond.fieldLink RX1 22 "WaitingNets$Counter" "hands" "I") ∈ wn_all := wn_in2 _ (List.mem_of_getElem? (i := 15) rfl)
theorem wm_112 : (Cond.fieldLink RX1 25 "WaitingNets$Counter" "room" "I") ∈ wn_all := wn_in2 _ (List.mem_of_getElem? (i := 16) rfl)
theorem wm_113 : (Cond.fieldLink RX1 28 "WaitingNets$Counter" "comes" "I") ∈ wn_all := wn_in2 _ (List.mem_of_getElem? (i := 17) rfl)
theorem wm_114 : (Cond.code yX1_begin cX1_begin 3 none) ∈ wn_all := wn_in2 _ (List.mem_of_getElem? (i := 18) rfl)
theorem wm_115 : (Cond.code yX1_isThere cX1_isThere 1 (some .boolean)) ∈ wn_all := wn_in2 _ (List.mem_of_getElem? (i := 19) rfl)
theorem wm_116 : (Cond.code yX1_isOf cX1_isOf 2 (some .boolean)) ∈ wn_all := wn_in2 _ (List.mem_of_getElem? (i := 20) rfl)
theorem wm_117 : (Cond.code yX1_leaving cX1_leaving 3 (some .int)) ∈ wn_all := wn_in2 _ (List.mem_of_getElem? (i := 21) rfl)
theorem wm_118 : (Cond.code yX1_fact cX1_fact 2 (some .int)) ∈ wn_all := wn_in2 _ (List.mem_of_getElem? (i := 22) rfl)
theorem wm_119 : (Cond.methodLink RX1 31 yX1_leaving) ∈ wn_all := wn_in2 _ (List.mem_of_getElem? (i := 23) rfl)
theorem wm_120 : (Cond.instanceMethod yX1_leaving) ∈ wn_all := wn_in2 _ (List.mem_of_getElem? (i := 24) rfl)
theorem wm_121 : (Cond.selects RX1 yX1_leaving yX1_leaving) ∈ wn_all := wn_in2 _ (List.mem_of_getElem? (i := 25) rfl)
theorem wm_122 : (Cond.initialized RX1) ∈ wn_all := wn_in2 _ (List.mem_of_getElem? (i := 26) rfl)
theorem wm_123 : (Cond.code yX1_daysOf cX1_daysOf 1 (some .int)) ∈ wn_all := wn_in2 _ (List.mem_of_getElem? (i := 27) rfl)
theorem wm_124 : (Cond.code yX1_markOf cX1_markOf 2 (some .int)) ∈ wn_all := wn_in2 _ (List.mem_of_getElem? (i := 28) rfl)
theorem wm_125 : (Cond.methodLink RX1 35 yX1_daysOf) ∈ wn_all := wn_in2 _ (List.mem_of_getElem? (i := 29) rfl)
theorem wm_126 : (Cond.instanceMethod yX1_daysOf) ∈ wn_all := wn_in2 _ (List.mem_of_getElem? (i := 30) rfl)
theorem wm_127 : (Cond.selects RX1 yX1_daysOf yX1_daysOf) ∈ wn_all := wn_in2 _ (List.mem_of_getElem? (i := 31) rfl)
theorem wm_128 : (Cond.code yX1_roomWeight cX1_roomWeight 6 (some .long)) ∈ wn_all := wn_in2 _ (List.mem_of_getElem? (i := 32) rfl)
theorem wm_129 : (Cond.code yX1_mixInto cX1_mixInto 6 (some .long)) ∈ wn_all := wn_in2 _ (List.mem_of_getElem? (i := 33) rfl)
theorem wm_130 : (Cond.constantLong RX1 42 (31)) ∈ wn_all := wn_in2 _ (List.mem_of_getElem? (i := 34) rfl)
theorem wm_131 : (Cond.constantLong RX1 44 (-1)) ∈ wn_all := wn_in2 _ (List.mem_of_getElem? (i := 35) rfl)
theorem wm_132 : (Cond.methodLink RX1 38 yX1_isThere) ∈ wn_all := wn_in2 _ (List.mem_of_getElem? (i := 36) rfl)
theorem wm_133 : (Cond.instanceMethod yX1_isThere) ∈ wn_all := wn_in2 _ (List.mem_of_getElem? (i := 37) rfl)
theorem wm_134 : (Cond.selects RX1 yX1_isThere yX1_isThere) ∈ wn_all := wn_in2 _ (List.mem_of_getElem? (i := 38) rfl)
theorem wm_135 : (Cond.methodLink RX1 46 yX1_fact) ∈ wn_all := wn_in2 _ (List.mem_of_getElem? (i := 39) rfl)
theorem wm_136 : (Cond.instanceMethod yX1_fact) ∈ wn_all := wn_in2 _ (List.mem_of_getElem? (i := 40) rfl)
theorem wm_137 : (Cond.selects RX1 yX1_fact yX1_fact) ∈ wn_all := wn_in2 _ (List.mem_of_getElem? (i := 41) rfl)
theorem wm_138 : (Cond.code yX2_init cX2_init 1 none) ∈ wn_all := wn_in2 _ (List.mem_of_getElem? (i := 42) rfl)
theorem wm_139 : (Cond.methodLink RX2 3 objectInit) ∈ wn_all := wn_in2 _ (List.mem_of_getElem? (i := 43) rfl)
theorem wm_140 : (Cond.code yX2_take cX2_take 2 none) ∈ wn_all := wn_in2 _ (List.mem_of_getElem? (i := 44) rfl)
theorem wm_141 : (Cond.code yX2_isAbove cX2_isAbove 18 (some .boolean)) ∈ wn_all := wn_in2 _ (List.mem_of_getElem? (i := 45) rfl)
theorem wm_142 : (Cond.code yX3_init cX3_init 1 none) ∈ wn_all := wn_in2 _ (List.mem_of_getElem? (i := 46) rfl)
theorem wm_143 : (Cond.methodLink RX3 1 objectInit) ∈ wn_all := wn_in2 _ (List.mem_of_getElem? (i := 47) rfl)
theorem wm_144 : (Cond.fieldLink RX3 7 "WaitingNets$Line" "firstFree" "I") ∈ wn_all := wn_in3 _ (List.mem_of_getElem? (i := 0) rfl)
theorem wm_145 : (Cond.fieldLink RX3 13 "WaitingNets$Line" "secondFree" "I") ∈ wn_all := wn_in3 _ (List.mem_of_getElem? (i := 1) rfl)
theorem wm_146 : (Cond.fieldLink RX3 16 "WaitingNets$Line" "two" "Z") ∈ wn_all := wn_in3 _ (List.mem_of_getElem? (i := 2) rfl)
theorem wm_147 : (Cond.code yX3_begin cX3_begin 2 none) ∈ wn_all := wn_in3 _ (List.mem_of_getElem? (i := 3) rfl)
theorem wm_148 : (Cond.code yX3_serve cX3_serve 5 (some .int)) ∈ wn_all := wn_in3 _ (List.mem_of_getElem? (i := 4) rfl)
theorem wm_149 : (Cond.methodLink RX3 20 Lib.Math.max.name) ∈ wn_all := wn_in3 _ (List.mem_of_getElem? (i := 5) rfl)
theorem wm_150 : (Cond.static Lib.Math.max.name) ∈ wn_all := wn_in3 _ (List.mem_of_getElem? (i := 6) rfl)
theorem wm_151 : (Cond.code Lib.Math.max.name Lib.Math.max.code 2 (some .int)) ∈ wn_all := wn_in3 _ (List.mem_of_getElem? (i := 7) rfl)
theorem wm_152 : (Cond.methodLink RX4 3 objectInit) ∈ wn_all := wn_in3 _ (List.mem_of_getElem? (i := 8) rfl)
theorem wm_153 : (Cond.classLink RX4 9 RX1) ∈ wn_all := wn_in3 _ (List.mem_of_getElem? (i := 9) rfl)
theorem wm_154 : (Cond.fieldLink RX4 11 "WaitingNets$Net" "counters" "[LWaitingNets$Counter;") ∈ wn_all := wn_in3 _ (List.mem_of_getElem? (i := 10) rfl)
theorem wm_155 : (Cond.classLink RX4 17 RX0) ∈ wn_all := wn_in3 _ (List.mem_of_getElem? (i := 11) rfl)
theorem wm_156 : (Cond.instantiable RX0 4) ∈ wn_all := wn_in3 _ (List.mem_of_getElem? (i := 12) rfl)
theorem wm_157 : (Cond.fieldLink RX4 20 "WaitingNets$Net" "paths" "LWaitingNets$Chain;") ∈ wn_all := wn_in3 _ (List.mem_of_getElem? (i := 13) rfl)
theorem wm_158 : (Cond.classLink RX4 24 RX7) ∈ wn_all := wn_in3 _ (List.mem_of_getElem? (i := 14) rfl)
theorem wm_159 : (Cond.fieldLink RX4 27 "WaitingNets$Net" "square" "LWaitingNets$Square;") ∈ wn_all := wn_in3 _ (List.mem_of_getElem? (i := 15) rfl)
theorem wm_160 : (Cond.classLink RX4 31 RX2) ∈ wn_all := wn_in3 _ (List.mem_of_getElem? (i := 16) rfl)
theorem wm_161 : (Cond.instantiable RX2 2) ∈ wn_all := wn_in3 _ (List.mem_of_getElem? (i := 17) rfl)
theorem wm_162 : (Cond.fieldLink RX4 34 "WaitingNets$Net" "flowThere" "LWaitingNets$Fraction;") ∈ wn_all := wn_in3 _ (List.mem_of_getElem? (i := 18) rfl)
theorem wm_163 : (Cond.fieldLink RX4 38 "WaitingNets$Net" "useThere" "LWaitingNets$Fraction;") ∈ wn_all := wn_in3 _ (List.mem_of_getElem? (i := 19) rfl)
theorem wm_164 : (Cond.instantiable RX1 6) ∈ wn_all := wn_in3 _ (List.mem_of_getElem? (i := 20) rfl)
theorem wm_165 : (Cond.instanceMethod yX0_init) ∈ wn_all := wn_in3 _ (List.mem_of_getElem? (i := 21) rfl)
theorem wm_166 : (Cond.instanceMethod yX2_init) ∈ wn_all := wn_in3 _ (List.mem_of_getElem? (i := 22) rfl)
theorem wm_167 : (Cond.instanceMethod yX1_init) ∈ wn_all := wn_in3 _ (List.mem_of_getElem? (i := 23) rfl)
theorem wm_168 : (Cond.code yX4_init cX4_init 2 none) ∈ wn_all := wn_in3 _ (List.mem_of_getElem? (i := 24) rfl)
theorem wm_169 : (Cond.code yX4_has cX4_has 2 (some .boolean)) ∈ wn_all := wn_in3 _ (List.mem_of_getElem? (i := 25) rfl)
theorem wm_170 : (Cond.methodLink RX4 42 yX1_isThere) ∈ wn_all := wn_in3 _ (List.mem_of_getElem? (i := 26) rfl)
theorem wm_171 : (Cond.code yX4_replace cX4_replace 4 none) ∈ wn_all := wn_in3 _ (List.mem_of_getElem? (i := 27) rfl)
theorem wm_172 : (Cond.fieldLink RX4 50 "WaitingNets$Counter" "ways" "[I") ∈ wn_all := wn_in3 _ (List.mem_of_getElem? (i := 28) rfl)
theorem wm_173 : (Cond.methodLink RX4 46 yX1_begin) ∈ wn_all := wn_in3 _ (List.mem_of_getElem? (i := 29) rfl)
theorem wm_174 : (Cond.instanceMethod yX1_begin) ∈ wn_all := wn_in3 _ (List.mem_of_getElem? (i := 30) rfl)
theorem wm_175 : (Cond.selects RX1 yX1_begin yX1_begin) ∈ wn_all := wn_in3 _ (List.mem_of_getElem? (i := 31) rfl)
theorem wm_176 : (Cond.code yX4_bitsThere cX4_bitsThere 3 (some .int)) ∈ wn_all := wn_in3 _ (List.mem_of_getElem? (i := 32) rfl)
theorem wm_177 : (Cond.methodLink RX4 54 yX4_has) ∈ wn_all := wn_in3 _ (List.mem_of_getElem? (i := 33) rfl)
theorem wm_178 : (Cond.instanceMethod yX4_has) ∈ wn_all := wn_in3 _ (List.mem_of_getElem? (i := 34) rfl)
theorem wm_179 : (Cond.selects RX4 yX4_has yX4_has) ∈ wn_all := wn_in3 _ (List.mem_of_getElem? (i := 35) rfl)
theorem wm_180 : (Cond.initialized RX4) ∈ wn_all := wn_in3 _ (List.mem_of_getElem? (i := 36) rfl)
theorem wm_181 : (Cond.code yX4_handsThere cX4_handsThere 3 (some .int)) ∈ wn_all := wn_in3 _ (List.mem_of_getElem? (i := 37) rfl)
theorem wm_182 : (Cond.fieldLink RX4 58 "WaitingNets$Counter" "kind" "I") ∈ wn_all := wn_in3 _ (List.mem_of_getElem? (i := 38) rfl)
theorem wm_183 : (Cond.fieldLink RX4 62 "WaitingNets$Counter" "hands" "I") ∈ wn_all := wn_in3 _ (List.mem_of_getElem? (i := 39) rfl)
theorem wm_184 : (Cond.code yX4_leadingTo cX4_leadingTo 4 (some .int)) ∈ wn_all := wn_in3 _ (List.mem_of_getElem? (i := 40) rfl)
theorem wm_185 : (Cond.code yX4_waysThere cX4_waysThere 3 (some .int)) ∈ wn_all := wn_in3 _ (List.mem_of_getElem? (i := 41) rfl)
theorem wm_186 : (Cond.methodLink RX4 65 yX4_leadingTo) ∈ wn_all := wn_in3 _ (List.mem_of_getElem? (i := 42) rfl)
theorem wm_187 : (Cond.instanceMethod yX4_leadingTo) ∈ wn_all := wn_in3 _ (List.mem_of_getElem? (i := 43) rfl)
theorem wm_188 : (Cond.selects RX4 yX4_leadingTo yX4_leadingTo) ∈ wn_all := wn_in3 _ (List.mem_of_getElem? (i := 44) rfl)
theorem wm_189 : (Cond.code yX4_isProduct cX4_isProduct 2 (some .boolean)) ∈ wn_all := wn_in3 _ (List.mem_of_getElem? (i := 45) rfl)
theorem wm_190 : (Cond.code yX4_loadPaths cX4_loadPaths 3 none) ∈ wn_all := wn_in3 _ (List.mem_of_getElem? (i := 46) rfl)
theorem wm_191 : (Cond.fieldLink RX4 69 "WaitingNets$Chain" "size" "I") ∈ wn_all := wn_in3 _ (List.mem_of_getElem? (i := 47) rfl)
theorem wm_192 : (Cond.fieldLink RX4 72 "WaitingNets$Chain" "rates" "[[I") ∈ wn_all := wn_in4 _ (List.mem_of_getElem? (i := 0) rfl)
theorem wm_193 : (Cond.methodLink RX4 76 yX0_noteLeads) ∈ wn_all := wn_in4 _ (List.mem_of_getElem? (i := 1) rfl)
theorem wm_194 : (Cond.code yX4_bitsReached cX4_bitsReached 3 (some .int)) ∈ wn_all := wn_in4 _ (List.mem_of_getElem? (i := 2) rfl)
theorem wm_195 : (Cond.fieldLink RX4 79 "WaitingNets$Counter" "comes" "I") ∈ wn_all := wn_in4 _ (List.mem_of_getElem? (i := 3) rfl)
theorem wm_196 : (Cond.methodLink RX4 82 yX0_reachedFrom) ∈ wn_all := wn_in4 _ (List.mem_of_getElem? (i := 4) rfl)
theorem wm_197 : (Cond.methodLink RX4 85 yX4_loadPaths) ∈ wn_all := wn_in4 _ (List.mem_of_getElem? (i := 5) rfl)
theorem wm_198 : (Cond.instanceMethod yX4_loadPaths) ∈ wn_all := wn_in4 _ (List.mem_of_getElem? (i := 6) rfl)
theorem wm_199 : (Cond.selects RX4 yX4_loadPaths yX4_loadPaths) ∈ wn_all := wn_in4 _ (List.mem_of_getElem? (i := 7) rfl)
theorem wm_200 : (Cond.methodLink RX4 88 yX1_leaving) ∈ wn_all := wn_in4 _ (List.mem_of_getElem? (i := 8) rfl)
theorem wm_201 : (Cond.methodLink RX4 92 yX4_bitsReached) ∈ wn_all := wn_in4 _ (List.mem_of_getElem? (i := 9) rfl)
theorem wm_202 : (Cond.instanceMethod yX4_bitsReached) ∈ wn_all := wn_in4 _ (List.mem_of_getElem? (i := 10) rfl)
theorem wm_203 : (Cond.selects RX4 yX4_bitsReached yX4_bitsReached) ∈ wn_all := wn_in4 _ (List.mem_of_getElem? (i := 11) rfl)
theorem wm_204 : (Cond.code yX4_keptBits cX4_keptBits 5 (some .int)) ∈ wn_all := wn_in4 _ (List.mem_of_getElem? (i := 12) rfl)
theorem wm_205 : (Cond.fieldLink RX4 115 "WaitingNets$Square" "size" "I") ∈ wn_all := wn_in4 _ (List.mem_of_getElem? (i := 13) rfl)
theorem wm_206 : (Cond.constantLong RX4 99 (4)) ∈ wn_all := wn_in4 _ (List.mem_of_getElem? (i := 14) rfl)
theorem wm_207 : (Cond.fieldLink RX4 116 "WaitingNets$Square" "cells" "[[J") ∈ wn_all := wn_in4 _ (List.mem_of_getElem? (i := 15) rfl)
theorem wm_208 : (Cond.methodLink RX4 120 yX7_determinant) ∈ wn_all := wn_in4 _ (List.mem_of_getElem? (i := 16) rfl)
theorem wm_209 : (Cond.code yX4_flowDeterminant cX4_flowDeterminant 8 (some .long)) ∈ wn_all := wn_in4 _ (List.mem_of_getElem? (i := 17) rfl)
theorem wm_210 : (Cond.fieldLink RX4 105 "WaitingNets$Fraction" "upper" "J") ∈ wn_all := wn_in4 _ (List.mem_of_getElem? (i := 18) rfl)
theorem wm_211 : (Cond.fieldLink RX4 109 "WaitingNets$Fraction" "lower" "J") ∈ wn_all := wn_in4 _ (List.mem_of_getElem? (i := 19) rfl)
theorem wm_212 : (Cond.fieldLink RX4 112 "WaitingNets$Counter" "rate" "I") ∈ wn_all := wn_in4 _ (List.mem_of_getElem? (i := 20) rfl)
theorem wm_213 : (Cond.methodLink RX4 95 yX4_flowDeterminant) ∈ wn_all := wn_in4 _ (List.mem_of_getElem? (i := 21) rfl)
theorem wm_214 : (Cond.instanceMethod yX4_flowDeterminant) ∈ wn_all := wn_in4 _ (List.mem_of_getElem? (i := 22) rfl)
theorem wm_215 : (Cond.selects RX4 yX4_flowDeterminant yX4_flowDeterminant) ∈ wn_all := wn_in4 _ (List.mem_of_getElem? (i := 23) rfl)
theorem wm_216 : (Cond.methodLink RX4 101 yX2_set) ∈ wn_all := wn_in4 _ (List.mem_of_getElem? (i := 24) rfl)
theorem wm_217 : (Cond.code yX4_workOutFlow cX4_workOutFlow 8 none) ∈ wn_all := wn_in4 _ (List.mem_of_getElem? (i := 25) rfl)
theorem wm_218 : (Cond.code yX4_isOverfull cX4_isOverfull 2 (some .boolean)) ∈ wn_all := wn_in4 _ (List.mem_of_getElem? (i := 26) rfl)
theorem wm_219 : (Cond.constantLong RX4 124 (2)) ∈ wn_all := wn_in4 _ (List.mem_of_getElem? (i := 27) rfl)
theorem wm_220 : (Cond.code yX4_workOutMean cX4_workOutMean 7 none) ∈ wn_all := wn_in4 _ (List.mem_of_getElem? (i := 28) rfl)
theorem wm_221 : (Cond.code yX4_isInnerOf cX4_isInnerOf 3 (some .boolean)) ∈ wn_all := wn_in4 _ (List.mem_of_getElem? (i := 29) rfl)
theorem wm_222 : (Cond.methodLink RX4 126 yX4_bitsThere) ∈ wn_all := wn_in4 _ (List.mem_of_getElem? (i := 30) rfl)
theorem wm_223 : (Cond.instanceMethod yX4_bitsThere) ∈ wn_all := wn_in4 _ (List.mem_of_getElem? (i := 31) rfl)
theorem wm_224 : (Cond.selects RX4 yX4_bitsThere yX4_bitsThere) ∈ wn_all := wn_in4 _ (List.mem_of_getElem? (i := 32) rfl)
theorem wm_225 : (Cond.methodLink RX4 129 yX4_isProduct) ∈ wn_all := wn_in4 _ (List.mem_of_getElem? (i := 33) rfl)
theorem wm_226 : (Cond.instanceMethod yX4_isProduct) ∈ wn_all := wn_in4 _ (List.mem_of_getElem? (i := 34) rfl)
theorem wm_227 : (Cond.selects RX4 yX4_isProduct yX4_isProduct) ∈ wn_all := wn_in4 _ (List.mem_of_getElem? (i := 35) rfl)
theorem wm_228 : (Cond.methodLink RX4 132 yX4_isInnerOf) ∈ wn_all := wn_in4 _ (List.mem_of_getElem? (i := 36) rfl)
theorem wm_229 : (Cond.instanceMethod yX4_isInnerOf) ∈ wn_all := wn_in4 _ (List.mem_of_getElem? (i := 37) rfl)
theorem wm_230 : (Cond.selects RX4 yX4_isInnerOf yX4_isInnerOf) ∈ wn_all := wn_in4 _ (List.mem_of_getElem? (i := 38) rfl)
theorem wm_231 : (Cond.code yX4_isClosed cX4_isClosed 3 (some .boolean)) ∈ wn_all := wn_in4 _ (List.mem_of_getElem? (i := 39) rfl)
theorem wm_232 : (Cond.code yX4_thingsOf cX4_thingsOf 5 (some .int)) ∈ wn_all := wn_in4 _ (List.mem_of_getElem? (i := 40) rfl)
theorem wm_233 : (Cond.methodLink RX4 136 yX6_at) ∈ wn_all := wn_in4 _ (List.mem_of_getElem? (i := 41) rfl)
theorem wm_234 : (Cond.code yX5_init cX5_init 1 none) ∈ wn_all := wn_in4 _ (List.mem_of_getElem? (i := 42) rfl)
theorem wm_235 : (Cond.methodLink RX5 3 objectInit) ∈ wn_all := wn_in4 _ (List.mem_of_getElem? (i := 43) rfl)
theorem wm_236 : (Cond.fieldLink RX5 9 "WaitingNets$Rounds" "visited" "[J") ∈ wn_all := wn_in4 _ (List.mem_of_getElem? (i := 44) rfl)
theorem wm_237 : (Cond.fieldLink RX5 15 "WaitingNets$Rounds" "kinds" "[I") ∈ wn_all := wn_in4 _ (List.mem_of_getElem? (i := 45) rfl)
theorem wm_238 : (Cond.fieldLink RX5 19 "WaitingNets$Rounds" "rates" "[I") ∈ wn_all := wn_in4 _ (List.mem_of_getElem? (i := 46) rfl)
theorem wm_239 : (Cond.fieldLink RX5 22 "WaitingNets$Rounds" "hands" "[I") ∈ wn_all := wn_in4 _ (List.mem_of_getElem? (i := 47) rfl)
theorem wm_240 : (Cond.fieldLink RX5 25 "WaitingNets$Rounds" "shares" "[J") ∈ wn_all := wn_in5 _ (List.mem_of_getElem? (i := 0) rfl)
theorem wm_241 : (Cond.classLink RX5 28 "[[I") ∈ wn_all := wn_in5 _ (List.mem_of_getElem? (i := 1) rfl)
theorem wm_242 : (Cond.fieldLink RX5 30 "WaitingNets$Rounds" "ways" "[[I") ∈ wn_all := wn_in5 _ (List.mem_of_getElem? (i := 2) rfl)
theorem wm_243 : (Cond.fieldLink RX5 33 "WaitingNets$Rounds" "state" "[I") ∈ wn_all := wn_in5 _ (List.mem_of_getElem? (i := 3) rfl)
theorem wm_244 : (Cond.fieldLink RX5 45 "WaitingNets$Net" "paths" "LWaitingNets$Chain;") ∈ wn_all := wn_in5 _ (List.mem_of_getElem? (i := 4) rfl)
theorem wm_245 : (Cond.fieldLink RX5 61 "WaitingNets$Net" "counters" "[LWaitingNets$Counter;") ∈ wn_all := wn_in5 _ (List.mem_of_getElem? (i := 5) rfl)
theorem wm_246 : (Cond.fieldLink RX5 65 "WaitingNets$Counter" "kind" "I") ∈ wn_all := wn_in5 _ (List.mem_of_getElem? (i := 6) rfl)
theorem wm_247 : (Cond.fieldLink RX5 71 "WaitingNets$Counter" "rate" "I") ∈ wn_all := wn_in5 _ (List.mem_of_getElem? (i := 7) rfl)
theorem wm_248 : (Cond.fieldLink RX5 74 "WaitingNets$Counter" "hands" "I") ∈ wn_all := wn_in5 _ (List.mem_of_getElem? (i := 8) rfl)
theorem wm_249 : (Cond.fieldLink RX5 79 "WaitingNets$Counter" "ways" "[I") ∈ wn_all := wn_in5 _ (List.mem_of_getElem? (i := 9) rfl)
theorem wm_250 : (Cond.methodLink RX5 36 yX4_loadPaths) ∈ wn_all := wn_in5 _ (List.mem_of_getElem? (i := 10) rfl)
theorem wm_251 : (Cond.methodLink RX5 41 yX4_bitsThere) ∈ wn_all := wn_in5 _ (List.mem_of_getElem? (i := 11) rfl)
theorem wm_252 : (Cond.methodLink RX5 49 yX0_weightOf) ∈ wn_all := wn_in5 _ (List.mem_of_getElem? (i := 12) rfl)
theorem wm_253 : (Cond.methodLink RX5 55 yX2_commonPart) ∈ wn_all := wn_in5 _ (List.mem_of_getElem? (i := 13) rfl)
theorem wm_254 : (Cond.methodLink RX5 76 yX1_daysOf) ∈ wn_all := wn_in5 _ (List.mem_of_getElem? (i := 14) rfl)
theorem wm_255 : (Cond.code yX5_load cX5_load 8 none) ∈ wn_all := wn_in5 _ (List.mem_of_getElem? (i := 15) rfl)
theorem wm_256 : (Cond.code yX5_beginStates cX5_beginStates 3 none) ∈ wn_all := wn_in5 _ (List.mem_of_getElem? (i := 16) rfl)
theorem wm_257 : (Cond.code yX5_nextState cX5_nextState 4 (some .boolean)) ∈ wn_all := wn_in5 _ (List.mem_of_getElem? (i := 17) rfl)
theorem wm_258 : (Cond.code yX5_busy cX5_busy 3 (some .int)) ∈ wn_all := wn_in5 _ (List.mem_of_getElem? (i := 18) rfl)
theorem wm_259 : (Cond.methodLink RX5 87 Lib.Math.min.name) ∈ wn_all := wn_in5 _ (List.mem_of_getElem? (i := 19) rfl)
theorem wm_260 : (Cond.code yX5_weight cX5_weight 7 (some .long)) ∈ wn_all := wn_in5 _ (List.mem_of_getElem? (i := 20) rfl)
theorem wm_261 : (Cond.constantLong RX5 85 (24)) ∈ wn_all := wn_in5 _ (List.mem_of_getElem? (i := 21) rfl)
theorem wm_262 : (Cond.methodLink RX5 81 yX5_busy) ∈ wn_all := wn_in5 _ (List.mem_of_getElem? (i := 22) rfl)
theorem wm_263 : (Cond.instanceMethod yX5_busy) ∈ wn_all := wn_in5 _ (List.mem_of_getElem? (i := 23) rfl)
theorem wm_264 : (Cond.selects RX5 yX5_busy yX5_busy) ∈ wn_all := wn_in5 _ (List.mem_of_getElem? (i := 24) rfl)
theorem wm_265 : (Cond.initialized RX5) ∈ wn_all := wn_in5 _ (List.mem_of_getElem? (i := 25) rfl)
theorem wm_266 : (Cond.methodLink RX5 92 yX5_beginStates) ∈ wn_all := wn_in5 _ (List.mem_of_getElem? (i := 26) rfl)
theorem wm_267 : (Cond.instanceMethod yX5_beginStates) ∈ wn_all := wn_in5 _ (List.mem_of_getElem? (i := 27) rfl)
theorem wm_268 : (Cond.selects RX5 yX5_beginStates yX5_beginStates) ∈ wn_all := wn_in5 _ (List.mem_of_getElem? (i := 28) rfl)
theorem wm_269 : (Cond.methodLink RX5 96 yX5_weight) ∈ wn_all := wn_in5 _ (List.mem_of_getElem? (i := 29) rfl)
theorem wm_270 : (Cond.instanceMethod yX5_weight) ∈ wn_all := wn_in5 _ (List.mem_of_getElem? (i := 30) rfl)
theorem wm_271 : (Cond.selects RX5 yX5_weight yX5_weight) ∈ wn_all := wn_in5 _ (List.mem_of_getElem? (i := 31) rfl)
theorem wm_272 : (Cond.methodLink RX5 100 yX5_nextState) ∈ wn_all := wn_in5 _ (List.mem_of_getElem? (i := 32) rfl)
theorem wm_273 : (Cond.instanceMethod yX5_nextState) ∈ wn_all := wn_in5 _ (List.mem_of_getElem? (i := 33) rfl)
theorem wm_274 : (Cond.selects RX5 yX5_nextState yX5_nextState) ∈ wn_all := wn_in5 _ (List.mem_of_getElem? (i := 34) rfl)
theorem wm_275 : (Cond.code yX5_weightOfAll cX5_weightOfAll 6 (some .long)) ∈ wn_all := wn_in5 _ (List.mem_of_getElem? (i := 35) rfl)
theorem wm_276 : (Cond.methodLink RX5 104 yX5_weightOfAll) ∈ wn_all := wn_in5 _ (List.mem_of_getElem? (i := 36) rfl)
theorem wm_277 : (Cond.instanceMethod yX5_weightOfAll) ∈ wn_all := wn_in5 _ (List.mem_of_getElem? (i := 37) rfl)
theorem wm_278 : (Cond.selects RX5 yX5_weightOfAll yX5_weightOfAll) ∈ wn_all := wn_in5 _ (List.mem_of_getElem? (i := 38) rfl)
theorem wm_279 : (Cond.methodLink RX5 108 yX6_at) ∈ wn_all := wn_in5 _ (List.mem_of_getElem? (i := 39) rfl)
theorem wm_280 : (Cond.methodLink RX5 114 yX2_set) ∈ wn_all := wn_in5 _ (List.mem_of_getElem? (i := 40) rfl)
theorem wm_281 : (Cond.code yX5_tellChance cX5_tellChance 7 none) ∈ wn_all := wn_in5 _ (List.mem_of_getElem? (i := 41) rfl)
theorem wm_282 : (Cond.constantLong RX5 118 (12)) ∈ wn_all := wn_in5 _ (List.mem_of_getElem? (i := 42) rfl)
theorem wm_283 : (Cond.code yX5_tellThrough cX5_tellThrough 4 none) ∈ wn_all := wn_in5 _ (List.mem_of_getElem? (i := 43) rfl)
theorem wm_284 : (Cond.code yX5_tellMeanOf cX5_tellMeanOf 12 none) ∈ wn_all := wn_in5 _ (List.mem_of_getElem? (i := 44) rfl)
theorem wm_285 : (Cond.code yX5_strain cX5_strain 3 (some .long)) ∈ wn_all := wn_in5 _ (List.mem_of_getElem? (i := 45) rfl)
theorem wm_286 : (Cond.code yX5_narrowest cX5_narrowest 4 (some .int)) ∈ wn_all := wn_in5 _ (List.mem_of_getElem? (i := 46) rfl)
theorem wm_287 : (Cond.methodLink RX5 120 yX5_strain) ∈ wn_all := wn_in5 _ (List.mem_of_getElem? (i := 47) rfl)
theorem wm_288 : (Cond.instanceMethod yX5_strain) ∈ wn_all := wn_in6 _ (List.mem_of_getElem? (i := 0) rfl)
theorem wm_289 : (Cond.selects RX5 yX5_strain yX5_strain) ∈ wn_all := wn_in6 _ (List.mem_of_getElem? (i := 1) rfl)
theorem wm_290 : (Cond.methodLink RX5 123 yX5_narrowest) ∈ wn_all := wn_in6 _ (List.mem_of_getElem? (i := 2) rfl)
theorem wm_291 : (Cond.instanceMethod yX5_narrowest) ∈ wn_all := wn_in6 _ (List.mem_of_getElem? (i := 3) rfl)
theorem wm_292 : (Cond.selects RX5 yX5_narrowest yX5_narrowest) ∈ wn_all := wn_in6 _ (List.mem_of_getElem? (i := 4) rfl)
theorem wm_293 : (Cond.code yX5_tellBound cX5_tellBound 11 none) ∈ wn_all := wn_in6 _ (List.mem_of_getElem? (i := 5) rfl)
theorem wm_294 : (Cond.code yX5_firstThere cX5_firstThere 2 (some .int)) ∈ wn_all := wn_in6 _ (List.mem_of_getElem? (i := 6) rfl)
theorem wm_295 : (Cond.methodLink RX5 126 yX2_isAbove) ∈ wn_all := wn_in6 _ (List.mem_of_getElem? (i := 7) rfl)
theorem wm_296 : (Cond.static yX2_isAbove) ∈ wn_all := wn_in6 _ (List.mem_of_getElem? (i := 8) rfl)
theorem wm_297 : (Cond.methodLink RX5 130 yX5_firstThere) ∈ wn_all := wn_in6 _ (List.mem_of_getElem? (i := 9) rfl)
theorem wm_298 : (Cond.instanceMethod yX5_firstThere) ∈ wn_all := wn_in6 _ (List.mem_of_getElem? (i := 10) rfl)
theorem wm_299 : (Cond.selects RX5 yX5_firstThere yX5_firstThere) ∈ wn_all := wn_in6 _ (List.mem_of_getElem? (i := 11) rfl)
theorem wm_300 : (Cond.code yX5_tellBest cX5_tellBest 13 (some .int)) ∈ wn_all := wn_in6 _ (List.mem_of_getElem? (i := 12) rfl)
theorem wm_301 : (Cond.code yX5_isState cX5_isState 2 (some .boolean)) ∈ wn_all := wn_in6 _ (List.mem_of_getElem? (i := 13) rfl)
theorem wm_302 : (Cond.code yX5_served cX5_served 2 (some .long)) ∈ wn_all := wn_in6 _ (List.mem_of_getElem? (i := 14) rfl)
theorem wm_303 : (Cond.code yX5_comingTo cX5_comingTo 5 (some .long)) ∈ wn_all := wn_in6 _ (List.mem_of_getElem? (i := 15) rfl)
theorem wm_304 : (Cond.methodLink RX5 142 yX5_served) ∈ wn_all := wn_in6 _ (List.mem_of_getElem? (i := 16) rfl)
theorem wm_305 : (Cond.instanceMethod yX5_served) ∈ wn_all := wn_in6 _ (List.mem_of_getElem? (i := 17) rfl)
theorem wm_306 : (Cond.selects RX5 yX5_served yX5_served) ∈ wn_all := wn_in6 _ (List.mem_of_getElem? (i := 18) rfl)
theorem wm_307 : (Cond.methodLink RX5 145 yX5_comingTo) ∈ wn_all := wn_in6 _ (List.mem_of_getElem? (i := 19) rfl)
theorem wm_308 : (Cond.instanceMethod yX5_comingTo) ∈ wn_all := wn_in6 _ (List.mem_of_getElem? (i := 20) rfl)
theorem wm_309 : (Cond.selects RX5 yX5_comingTo yX5_comingTo) ∈ wn_all := wn_in6 _ (List.mem_of_getElem? (i := 21) rfl)
theorem wm_310 : (Cond.code yX5_comingHere cX5_comingHere 4 (some .long)) ∈ wn_all := wn_in6 _ (List.mem_of_getElem? (i := 22) rfl)
theorem wm_311 : (Cond.code yX5_goingFromHere cX5_goingFromHere 5 (some .long)) ∈ wn_all := wn_in6 _ (List.mem_of_getElem? (i := 23) rfl)
theorem wm_312 : (Cond.methodLink RX5 133 yX5_isState) ∈ wn_all := wn_in6 _ (List.mem_of_getElem? (i := 24) rfl)
theorem wm_313 : (Cond.instanceMethod yX5_isState) ∈ wn_all := wn_in6 _ (List.mem_of_getElem? (i := 25) rfl)
theorem wm_314 : (Cond.selects RX5 yX5_isState yX5_isState) ∈ wn_all := wn_in6 _ (List.mem_of_getElem? (i := 26) rfl)
theorem wm_315 : (Cond.methodLink RX5 136 yX5_comingHere) ∈ wn_all := wn_in6 _ (List.mem_of_getElem? (i := 27) rfl)
theorem wm_316 : (Cond.instanceMethod yX5_comingHere) ∈ wn_all := wn_in6 _ (List.mem_of_getElem? (i := 28) rfl)
theorem wm_317 : (Cond.selects RX5 yX5_comingHere yX5_comingHere) ∈ wn_all := wn_in6 _ (List.mem_of_getElem? (i := 29) rfl)
theorem wm_318 : (Cond.methodLink RX5 139 yX5_goingFromHere) ∈ wn_all := wn_in6 _ (List.mem_of_getElem? (i := 30) rfl)
theorem wm_319 : (Cond.instanceMethod yX5_goingFromHere) ∈ wn_all := wn_in6 _ (List.mem_of_getElem? (i := 31) rfl)
theorem wm_320 : (Cond.selects RX5 yX5_goingFromHere yX5_goingFromHere) ∈ wn_all := wn_in6 _ (List.mem_of_getElem? (i := 32) rfl)
theorem wm_321 : (Cond.code yX5_balanced cX5_balanced 5 (some .int)) ∈ wn_all := wn_in6 _ (List.mem_of_getElem? (i := 33) rfl)
theorem wm_322 : (Cond.code yX6_init cX6_init 1 none) ∈ wn_all := wn_in6 _ (List.mem_of_getElem? (i := 34) rfl)
theorem wm_323 : (Cond.methodLink RX6 3 objectInit) ∈ wn_all := wn_in6 _ (List.mem_of_getElem? (i := 35) rfl)
theorem wm_324 : (Cond.code yX6_isThere cX6_isThere 1 (some .boolean)) ∈ wn_all := wn_in6 _ (List.mem_of_getElem? (i := 36) rfl)
theorem wm_325 : (Cond.code yX6_begin cX6_begin 3 none) ∈ wn_all := wn_in6 _ (List.mem_of_getElem? (i := 37) rfl)
theorem wm_326 : (Cond.methodLink RX6 19 Lib.Math.min.name) ∈ wn_all := wn_in6 _ (List.mem_of_getElem? (i := 38) rfl)
theorem wm_327 : (Cond.methodLink RX6 25 Lib.Math.max.name) ∈ wn_all := wn_in6 _ (List.mem_of_getElem? (i := 39) rfl)
theorem wm_328 : (Cond.code yX6_end cX6_end 1 none) ∈ wn_all := wn_in6 _ (List.mem_of_getElem? (i := 40) rfl)
theorem wm_329 : (Cond.code yX6_spans cX6_spans 3 (some .boolean)) ∈ wn_all := wn_in6 _ (List.mem_of_getElem? (i := 41) rfl)
theorem wm_330 : (Cond.code yX6_put cX6_put 3 none) ∈ wn_all := wn_in6 _ (List.mem_of_getElem? (i := 42) rfl)
theorem wm_331 : (Cond.code yX6_take cX6_take 5 none) ∈ wn_all := wn_in6 _ (List.mem_of_getElem? (i := 43) rfl)
theorem wm_332 : (Cond.methodLink RX6 36 arraycopyName) ∈ wn_all := wn_in6 _ (List.mem_of_getElem? (i := 44) rfl)
theorem wm_333 : (Cond.native arraycopyName) ∈ wn_all := wn_in6 _ (List.mem_of_getElem? (i := 45) rfl)
theorem wm_334 : (Cond.static arraycopyName) ∈ wn_all := wn_in6 _ (List.mem_of_getElem? (i := 46) rfl)
theorem wm_335 : (Cond.initialized "java/lang/System") ∈ wn_all := wn_in6 _ (List.mem_of_getElem? (i := 47) rfl)
theorem wm_336 : (Cond.methodLink RX6 32 yX6_spans) ∈ wn_all := wn_in7 _ (List.mem_of_getElem? (i := 0) rfl)
theorem wm_337 : (Cond.instanceMethod yX6_spans) ∈ wn_all := wn_in7 _ (List.mem_of_getElem? (i := 1) rfl)
theorem wm_338 : (Cond.selects RX6 yX6_spans yX6_spans) ∈ wn_all := wn_in7 _ (List.mem_of_getElem? (i := 2) rfl)
theorem wm_339 : (Cond.code yX6_sum cX6_sum 4 (some .long)) ∈ wn_all := wn_in7 _ (List.mem_of_getElem? (i := 3) rfl)
theorem wm_340 : (Cond.methodLink RX6 42 yX6_at) ∈ wn_all := wn_in7 _ (List.mem_of_getElem? (i := 4) rfl)
theorem wm_341 : (Cond.code yX6_isWithin cX6_isWithin 4 (some .boolean)) ∈ wn_all := wn_in7 _ (List.mem_of_getElem? (i := 5) rfl)
theorem wm_342 : (Cond.code yX6_isRising cX6_isRising 2 (some .boolean)) ∈ wn_all := wn_in7 _ (List.mem_of_getElem? (i := 6) rfl)
theorem wm_343 : (Cond.code yX6_holdsRates cX6_holdsRates 5 (some .boolean)) ∈ wn_all := wn_in7 _ (List.mem_of_getElem? (i := 7) rfl)
theorem wm_344 : (Cond.code yX6_mixInto cX6_mixInto 6 (some .long)) ∈ wn_all := wn_in7 _ (List.mem_of_getElem? (i := 8) rfl)
theorem wm_345 : (Cond.constantLong RX6 46 (31)) ∈ wn_all := wn_in7 _ (List.mem_of_getElem? (i := 9) rfl)
theorem wm_346 : (Cond.methodLink RX8 1 objectInit) ∈ wn_all := wn_in7 _ (List.mem_of_getElem? (i := 10) rfl)
theorem wm_347 : (Cond.classLink RX8 9 RX6) ∈ wn_all := wn_in7 _ (List.mem_of_getElem? (i := 11) rfl)
theorem wm_348 : (Cond.fieldLink RX8 11 "WaitingNets" "rows" "[LWaitingNets$Row;") ∈ wn_all := wn_in7 _ (List.mem_of_getElem? (i := 12) rfl)
theorem wm_349 : (Cond.classLink RX8 15 RX4) ∈ wn_all := wn_in7 _ (List.mem_of_getElem? (i := 13) rfl)
theorem wm_350 : (Cond.instantiable RX4 5) ∈ wn_all := wn_in7 _ (List.mem_of_getElem? (i := 14) rfl)
theorem wm_351 : (Cond.fieldLink RX8 18 "WaitingNets" "net" "LWaitingNets$Net;") ∈ wn_all := wn_in7 _ (List.mem_of_getElem? (i := 15) rfl)
theorem wm_352 : (Cond.classLink RX8 22 RX5) ∈ wn_all := wn_in7 _ (List.mem_of_getElem? (i := 16) rfl)
theorem wm_353 : (Cond.instantiable RX5 7) ∈ wn_all := wn_in7 _ (List.mem_of_getElem? (i := 17) rfl)
theorem wm_354 : (Cond.fieldLink RX8 25 "WaitingNets" "rounds" "LWaitingNets$Rounds;") ∈ wn_all := wn_in7 _ (List.mem_of_getElem? (i := 18) rfl)
theorem wm_355 : (Cond.classLink RX8 29 RX0) ∈ wn_all := wn_in7 _ (List.mem_of_getElem? (i := 19) rfl)
theorem wm_356 : (Cond.fieldLink RX8 32 "WaitingNets" "chain" "LWaitingNets$Chain;") ∈ wn_all := wn_in7 _ (List.mem_of_getElem? (i := 20) rfl)
theorem wm_357 : (Cond.classLink RX8 36 RX3) ∈ wn_all := wn_in7 _ (List.mem_of_getElem? (i := 21) rfl)
theorem wm_358 : (Cond.instantiable RX3 3) ∈ wn_all := wn_in7 _ (List.mem_of_getElem? (i := 22) rfl)
theorem wm_359 : (Cond.initialized RX3) ∈ wn_all := wn_in7 _ (List.mem_of_getElem? (i := 23) rfl)
theorem wm_360 : (Cond.fieldLink RX8 39 "WaitingNets" "line" "LWaitingNets$Line;") ∈ wn_all := wn_in7 _ (List.mem_of_getElem? (i := 24) rfl)
theorem wm_361 : (Cond.classLink RX8 43 RX2) ∈ wn_all := wn_in7 _ (List.mem_of_getElem? (i := 25) rfl)
theorem wm_362 : (Cond.fieldLink RX8 46 "WaitingNets" "fraction" "LWaitingNets$Fraction;") ∈ wn_all := wn_in7 _ (List.mem_of_getElem? (i := 26) rfl)
theorem wm_363 : (Cond.fieldLink RX8 50 "WaitingNets" "answered" "[I") ∈ wn_all := wn_in7 _ (List.mem_of_getElem? (i := 27) rfl)
theorem wm_364 : (Cond.fieldLink RX8 54 "WaitingNets" "latestFinding" "I") ∈ wn_all := wn_in7 _ (List.mem_of_getElem? (i := 28) rfl)
theorem wm_365 : (Cond.fieldLink RX8 58 "WaitingNets" "latestAsked" "I") ∈ wn_all := wn_in7 _ (List.mem_of_getElem? (i := 29) rfl)
theorem wm_366 : (Cond.instantiable RX6 2) ∈ wn_all := wn_in7 _ (List.mem_of_getElem? (i := 30) rfl)
theorem wm_367 : (Cond.methodLink RX8 17 yX4_init) ∈ wn_all := wn_in7 _ (List.mem_of_getElem? (i := 31) rfl)
theorem wm_368 : (Cond.instanceMethod yX4_init) ∈ wn_all := wn_in7 _ (List.mem_of_getElem? (i := 32) rfl)
theorem wm_369 : (Cond.instanceMethod yX5_init) ∈ wn_all := wn_in7 _ (List.mem_of_getElem? (i := 33) rfl)
theorem wm_370 : (Cond.instanceMethod yX3_init) ∈ wn_all := wn_in7 _ (List.mem_of_getElem? (i := 34) rfl)
theorem wm_371 : (Cond.instanceMethod yX6_init) ∈ wn_all := wn_in7 _ (List.mem_of_getElem? (i := 35) rfl)
theorem wm_372 : (Cond.code yX8_init cX8_init 2 none) ∈ wn_all := wn_in7 _ (List.mem_of_getElem? (i := 36) rfl)
theorem wm_373 : (Cond.code yX8_isRowNumber cX8_isRowNumber 1 (some .boolean)) ∈ wn_all := wn_in7 _ (List.mem_of_getElem? (i := 37) rfl)
theorem wm_374 : (Cond.code yX8_refuse cX8_refuse 2 (some .int)) ∈ wn_all := wn_in7 _ (List.mem_of_getElem? (i := 38) rfl)
theorem wm_375 : (Cond.methodLink RX8 62 yX8_isRowNumber) ∈ wn_all := wn_in7 _ (List.mem_of_getElem? (i := 39) rfl)
theorem wm_376 : (Cond.static yX8_isRowNumber) ∈ wn_all := wn_in7 _ (List.mem_of_getElem? (i := 40) rfl)
theorem wm_377 : (Cond.initialized RX8) ∈ wn_all := wn_in7 _ (List.mem_of_getElem? (i := 41) rfl)
theorem wm_378 : (Cond.methodLink RX8 66 yX8_refuse) ∈ wn_all := wn_in7 _ (List.mem_of_getElem? (i := 42) rfl)
theorem wm_379 : (Cond.instanceMethod yX8_refuse) ∈ wn_all := wn_in7 _ (List.mem_of_getElem? (i := 43) rfl)
theorem wm_380 : (Cond.selects RX8 yX8_refuse yX8_refuse) ∈ wn_all := wn_in7 _ (List.mem_of_getElem? (i := 44) rfl)
theorem wm_381 : (Cond.methodLink RX8 70 yX6_begin) ∈ wn_all := wn_in7 _ (List.mem_of_getElem? (i := 45) rfl)
theorem wm_382 : (Cond.instanceMethod yX6_begin) ∈ wn_all := wn_in7 _ (List.mem_of_getElem? (i := 46) rfl)
theorem wm_383 : (Cond.selects RX6 yX6_begin yX6_begin) ∈ wn_all := wn_in7 _ (List.mem_of_getElem? (i := 47) rfl)
theorem wm_384 : (Cond.code yX8_row cX8_row 3 (some .int)) ∈ wn_all := wn_in8 _ (List.mem_of_getElem? (i := 0) rfl)
theorem wm_385 : (Cond.methodLink RX8 74 yX6_isThere) ∈ wn_all := wn_in8 _ (List.mem_of_getElem? (i := 1) rfl)
theorem wm_386 : (Cond.instanceMethod yX6_isThere) ∈ wn_all := wn_in8 _ (List.mem_of_getElem? (i := 2) rfl)
theorem wm_387 : (Cond.selects RX6 yX6_isThere yX6_isThere) ∈ wn_all := wn_in8 _ (List.mem_of_getElem? (i := 3) rfl)
theorem wm_388 : (Cond.methodLink RX8 78 yX6_has) ∈ wn_all := wn_in8 _ (List.mem_of_getElem? (i := 4) rfl)
theorem wm_389 : (Cond.methodLink RX8 81 yX6_at) ∈ wn_all := wn_in8 _ (List.mem_of_getElem? (i := 5) rfl)
theorem wm_390 : (Cond.methodLink RX8 84 yX6_put) ∈ wn_all := wn_in8 _ (List.mem_of_getElem? (i := 6) rfl)
theorem wm_391 : (Cond.instanceMethod yX6_put) ∈ wn_all := wn_in8 _ (List.mem_of_getElem? (i := 7) rfl)
theorem wm_392 : (Cond.selects RX6 yX6_put yX6_put) ∈ wn_all := wn_in8 _ (List.mem_of_getElem? (i := 8) rfl)
theorem wm_393 : (Cond.code yX8_lay cX8_lay 4 (some .int)) ∈ wn_all := wn_in8 _ (List.mem_of_getElem? (i := 9) rfl)
theorem wm_394 : (Cond.code yX8_tear cX8_tear 2 (some .int)) ∈ wn_all := wn_in8 _ (List.mem_of_getElem? (i := 10) rfl)
theorem wm_395 : (Cond.methodLink RX8 88 yX6_end) ∈ wn_all := wn_in8 _ (List.mem_of_getElem? (i := 11) rfl)
theorem wm_396 : (Cond.instanceMethod yX6_end) ∈ wn_all := wn_in8 _ (List.mem_of_getElem? (i := 12) rfl)
theorem wm_397 : (Cond.selects RX6 yX6_end yX6_end) ∈ wn_all := wn_in8 _ (List.mem_of_getElem? (i := 13) rfl)
theorem wm_398 : (Cond.methodLink RX8 91 yX6_spans) ∈ wn_all := wn_in8 _ (List.mem_of_getElem? (i := 14) rfl)
theorem wm_399 : (Cond.methodLink RX8 95 yX6_take) ∈ wn_all := wn_in8 _ (List.mem_of_getElem? (i := 15) rfl)
theorem wm_400 : (Cond.instanceMethod yX6_take) ∈ wn_all := wn_in8 _ (List.mem_of_getElem? (i := 16) rfl)
theorem wm_401 : (Cond.selects RX6 yX6_take yX6_take) ∈ wn_all := wn_in8 _ (List.mem_of_getElem? (i := 17) rfl)
theorem wm_402 : (Cond.code yX8_copy cX8_copy 6 (some .int)) ∈ wn_all := wn_in8 _ (List.mem_of_getElem? (i := 18) rfl)
theorem wm_403 : (Cond.fieldLink RX8 99 "WaitingNets$Row" "size" "I") ∈ wn_all := wn_in8 _ (List.mem_of_getElem? (i := 19) rfl)
theorem wm_404 : (Cond.methodLink RX8 102 yX6_sum) ∈ wn_all := wn_in8 _ (List.mem_of_getElem? (i := 20) rfl)
theorem wm_405 : (Cond.instanceMethod yX6_sum) ∈ wn_all := wn_in8 _ (List.mem_of_getElem? (i := 21) rfl)
theorem wm_406 : (Cond.selects RX6 yX6_sum yX6_sum) ∈ wn_all := wn_in8 _ (List.mem_of_getElem? (i := 22) rfl)
theorem wm_407 : (Cond.code yX8_average cX8_average 3 (some .int)) ∈ wn_all := wn_in8 _ (List.mem_of_getElem? (i := 23) rfl)
theorem wm_408 : (Cond.code yX8_isCounterNumber cX8_isCounterNumber 1 (some .boolean)) ∈ wn_all := wn_in8 _ (List.mem_of_getElem? (i := 24) rfl)
theorem wm_409 : (Cond.methodLink RX8 106 yX8_isCounterNumber) ∈ wn_all := wn_in8 _ (List.mem_of_getElem? (i := 25) rfl)
theorem wm_410 : (Cond.static yX8_isCounterNumber) ∈ wn_all := wn_in8 _ (List.mem_of_getElem? (i := 26) rfl)
theorem wm_411 : (Cond.methodLink RX8 109 yX4_has) ∈ wn_all := wn_in8 _ (List.mem_of_getElem? (i := 27) rfl)
theorem wm_412 : (Cond.methodLink RX8 110 yX4_replace) ∈ wn_all := wn_in8 _ (List.mem_of_getElem? (i := 28) rfl)
theorem wm_413 : (Cond.instanceMethod yX4_replace) ∈ wn_all := wn_in8 _ (List.mem_of_getElem? (i := 29) rfl)
theorem wm_414 : (Cond.selects RX4 yX4_replace yX4_replace) ∈ wn_all := wn_in8 _ (List.mem_of_getElem? (i := 30) rfl)
theorem wm_415 : (Cond.code yX8_counter cX8_counter 4 (some .int)) ∈ wn_all := wn_in8 _ (List.mem_of_getElem? (i := 31) rfl)
theorem wm_416 : (Cond.code yX8_drop cX8_drop 2 (some .int)) ∈ wn_all := wn_in8 _ (List.mem_of_getElem? (i := 32) rfl)
theorem wm_417 : (Cond.code yX8_isRate cX8_isRate 1 (some .boolean)) ∈ wn_all := wn_in8 _ (List.mem_of_getElem? (i := 33) rfl)
theorem wm_418 : (Cond.fieldLink RX8 116 "WaitingNets$Net" "counters" "[LWaitingNets$Counter;") ∈ wn_all := wn_in8 _ (List.mem_of_getElem? (i := 34) rfl)
theorem wm_419 : (Cond.fieldLink RX8 120 "WaitingNets$Counter" "rate" "I") ∈ wn_all := wn_in8 _ (List.mem_of_getElem? (i := 35) rfl)
theorem wm_420 : (Cond.methodLink RX8 113 yX8_isRate) ∈ wn_all := wn_in8 _ (List.mem_of_getElem? (i := 36) rfl)
theorem wm_421 : (Cond.static yX8_isRate) ∈ wn_all := wn_in8 _ (List.mem_of_getElem? (i := 37) rfl)
theorem wm_422 : (Cond.code yX8_rate cX8_rate 4 (some .int)) ∈ wn_all := wn_in8 _ (List.mem_of_getElem? (i := 38) rfl)
theorem wm_423 : (Cond.fieldLink RX8 125 "WaitingNets$Counter" "kind" "I") ∈ wn_all := wn_in8 _ (List.mem_of_getElem? (i := 39) rfl)
theorem wm_424 : (Cond.fieldLink RX8 128 "WaitingNets$Counter" "hands" "I") ∈ wn_all := wn_in8 _ (List.mem_of_getElem? (i := 40) rfl)
theorem wm_425 : (Cond.code yX8_hands cX8_hands 4 (some .int)) ∈ wn_all := wn_in8 _ (List.mem_of_getElem? (i := 41) rfl)
theorem wm_426 : (Cond.fieldLink RX8 131 "WaitingNets$Counter" "room" "I") ∈ wn_all := wn_in8 _ (List.mem_of_getElem? (i := 42) rfl)
theorem wm_427 : (Cond.code yX8_room cX8_room 4 (some .int)) ∈ wn_all := wn_in8 _ (List.mem_of_getElem? (i := 43) rfl)
theorem wm_428 : (Cond.fieldLink RX8 134 "WaitingNets$Counter" "ways" "[I") ∈ wn_all := wn_in8 _ (List.mem_of_getElem? (i := 44) rfl)
theorem wm_429 : (Cond.methodLink RX8 137 yX1_leaving) ∈ wn_all := wn_in8 _ (List.mem_of_getElem? (i := 45) rfl)
theorem wm_430 : (Cond.code yX8_way cX8_way 5 (some .int)) ∈ wn_all := wn_in8 _ (List.mem_of_getElem? (i := 46) rfl)
theorem wm_431 : (Cond.fieldLink RX8 141 "WaitingNets$Counter" "comes" "I") ∈ wn_all := wn_in8 _ (List.mem_of_getElem? (i := 47) rfl)
theorem wm_432 : (Cond.code yX8_comes cX8_comes 4 (some .int)) ∈ wn_all := wn_in9 _ (List.mem_of_getElem? (i := 0) rfl)
theorem wm_433 : (Cond.methodLink RX8 144 yX1_fact) ∈ wn_all := wn_in9 _ (List.mem_of_getElem? (i := 1) rfl)
theorem wm_434 : (Cond.code yX8_told cX8_told 3 (some .int)) ∈ wn_all := wn_in9 _ (List.mem_of_getElem? (i := 2) rfl)
theorem wm_435 : (Cond.methodLink RX8 147 yX1_isOf) ∈ wn_all := wn_in9 _ (List.mem_of_getElem? (i := 3) rfl)
theorem wm_436 : (Cond.instanceMethod yX1_isOf) ∈ wn_all := wn_in9 _ (List.mem_of_getElem? (i := 4) rfl)
theorem wm_437 : (Cond.selects RX1 yX1_isOf yX1_isOf) ∈ wn_all := wn_in9 _ (List.mem_of_getElem? (i := 5) rfl)
theorem wm_438 : (Cond.methodLink RX8 150 yX4_leadingTo) ∈ wn_all := wn_in9 _ (List.mem_of_getElem? (i := 6) rfl)
theorem wm_439 : (Cond.methodLink RX8 153 yX1_markOf) ∈ wn_all := wn_in9 _ (List.mem_of_getElem? (i := 7) rfl)
theorem wm_440 : (Cond.instanceMethod yX1_markOf) ∈ wn_all := wn_in9 _ (List.mem_of_getElem? (i := 8) rfl)
theorem wm_441 : (Cond.selects RX1 yX1_markOf yX1_markOf) ∈ wn_all := wn_in9 _ (List.mem_of_getElem? (i := 9) rfl)
theorem wm_442 : (Cond.code yX8_mark cX8_mark 3 (some .int)) ∈ wn_all := wn_in9 _ (List.mem_of_getElem? (i := 10) rfl)
theorem wm_443 : (Cond.code yX8_product cX8_product 1 (some .int)) ∈ wn_all := wn_in9 _ (List.mem_of_getElem? (i := 11) rfl)
theorem wm_444 : (Cond.methodLink RX8 156 yX4_isProduct) ∈ wn_all := wn_in9 _ (List.mem_of_getElem? (i := 12) rfl)
theorem wm_445 : (Cond.methodLink RX8 159 yX4_keptBits) ∈ wn_all := wn_in9 _ (List.mem_of_getElem? (i := 13) rfl)
theorem wm_446 : (Cond.instanceMethod yX4_keptBits) ∈ wn_all := wn_in9 _ (List.mem_of_getElem? (i := 14) rfl)
theorem wm_447 : (Cond.selects RX4 yX4_keptBits yX4_keptBits) ∈ wn_all := wn_in9 _ (List.mem_of_getElem? (i := 15) rfl)
theorem wm_448 : (Cond.code yX8_kept cX8_kept 1 (some .int)) ∈ wn_all := wn_in9 _ (List.mem_of_getElem? (i := 16) rfl)
theorem wm_449 : (Cond.code yX8_judgeFlow cX8_judgeFlow 2 (some .int)) ∈ wn_all := wn_in9 _ (List.mem_of_getElem? (i := 17) rfl)
theorem wm_450 : (Cond.fieldLink RX8 168 "WaitingNets$Net" "flowThere" "LWaitingNets$Fraction;") ∈ wn_all := wn_in9 _ (List.mem_of_getElem? (i := 18) rfl)
theorem wm_451 : (Cond.methodLink RX8 162 yX8_judgeFlow) ∈ wn_all := wn_in9 _ (List.mem_of_getElem? (i := 19) rfl)
theorem wm_452 : (Cond.instanceMethod yX8_judgeFlow) ∈ wn_all := wn_in9 _ (List.mem_of_getElem? (i := 20) rfl)
theorem wm_453 : (Cond.selects RX8 yX8_judgeFlow yX8_judgeFlow) ∈ wn_all := wn_in9 _ (List.mem_of_getElem? (i := 21) rfl)
theorem wm_454 : (Cond.methodLink RX8 165 yX4_workOutFlow) ∈ wn_all := wn_in9 _ (List.mem_of_getElem? (i := 22) rfl)
theorem wm_455 : (Cond.instanceMethod yX4_workOutFlow) ∈ wn_all := wn_in9 _ (List.mem_of_getElem? (i := 23) rfl)
theorem wm_456 : (Cond.selects RX4 yX4_workOutFlow yX4_workOutFlow) ∈ wn_all := wn_in9 _ (List.mem_of_getElem? (i := 24) rfl)
theorem wm_457 : (Cond.methodLink RX8 171 yX2_take) ∈ wn_all := wn_in9 _ (List.mem_of_getElem? (i := 25) rfl)
theorem wm_458 : (Cond.instanceMethod yX2_take) ∈ wn_all := wn_in9 _ (List.mem_of_getElem? (i := 26) rfl)
theorem wm_459 : (Cond.selects RX2 yX2_take yX2_take) ∈ wn_all := wn_in9 _ (List.mem_of_getElem? (i := 27) rfl)
theorem wm_460 : (Cond.code yX8_flow cX8_flow 3 (some .int)) ∈ wn_all := wn_in9 _ (List.mem_of_getElem? (i := 28) rfl)
theorem wm_461 : (Cond.fieldLink RX8 174 "WaitingNets$Net" "useThere" "LWaitingNets$Fraction;") ∈ wn_all := wn_in9 _ (List.mem_of_getElem? (i := 29) rfl)
theorem wm_462 : (Cond.methodLink RX8 177 yX4_isOverfull) ∈ wn_all := wn_in9 _ (List.mem_of_getElem? (i := 30) rfl)
theorem wm_463 : (Cond.instanceMethod yX4_isOverfull) ∈ wn_all := wn_in9 _ (List.mem_of_getElem? (i := 31) rfl)
theorem wm_464 : (Cond.selects RX4 yX4_isOverfull yX4_isOverfull) ∈ wn_all := wn_in9 _ (List.mem_of_getElem? (i := 32) rfl)
theorem wm_465 : (Cond.code yX8_use cX8_use 3 (some .int)) ∈ wn_all := wn_in9 _ (List.mem_of_getElem? (i := 33) rfl)
theorem wm_466 : (Cond.fieldLink RX8 180 "WaitingNets$Fraction" "upper" "J") ∈ wn_all := wn_in9 _ (List.mem_of_getElem? (i := 34) rfl)
theorem wm_467 : (Cond.fieldLink RX8 188 "WaitingNets$Fraction" "lower" "J") ∈ wn_all := wn_in9 _ (List.mem_of_getElem? (i := 35) rfl)
theorem wm_468 : (Cond.methodLink RX8 184 yX4_workOutMean) ∈ wn_all := wn_in9 _ (List.mem_of_getElem? (i := 36) rfl)
theorem wm_469 : (Cond.instanceMethod yX4_workOutMean) ∈ wn_all := wn_in9 _ (List.mem_of_getElem? (i := 37) rfl)
theorem wm_470 : (Cond.selects RX4 yX4_workOutMean yX4_workOutMean) ∈ wn_all := wn_in9 _ (List.mem_of_getElem? (i := 38) rfl)
theorem wm_471 : (Cond.methodLink RX8 191 yX2_set) ∈ wn_all := wn_in9 _ (List.mem_of_getElem? (i := 39) rfl)
theorem wm_472 : (Cond.code yX8_mean cX8_mean 5 (some .int)) ∈ wn_all := wn_in9 _ (List.mem_of_getElem? (i := 40) rfl)
theorem wm_473 : (Cond.methodLink RX8 195 yX4_isClosed) ∈ wn_all := wn_in9 _ (List.mem_of_getElem? (i := 41) rfl)
theorem wm_474 : (Cond.instanceMethod yX4_isClosed) ∈ wn_all := wn_in9 _ (List.mem_of_getElem? (i := 42) rfl)
theorem wm_475 : (Cond.selects RX4 yX4_isClosed yX4_isClosed) ∈ wn_all := wn_in9 _ (List.mem_of_getElem? (i := 43) rfl)
theorem wm_476 : (Cond.code yX8_closed cX8_closed 1 (some .int)) ∈ wn_all := wn_in9 _ (List.mem_of_getElem? (i := 44) rfl)
theorem wm_477 : (Cond.code yX8_isThings cX8_isThings 1 (some .boolean)) ∈ wn_all := wn_in9 _ (List.mem_of_getElem? (i := 45) rfl)
theorem wm_478 : (Cond.methodLink RX8 231 yX8_isThings) ∈ wn_all := wn_in9 _ (List.mem_of_getElem? (i := 46) rfl)
theorem wm_479 : (Cond.static yX8_isThings) ∈ wn_all := wn_in9 _ (List.mem_of_getElem? (i := 47) rfl)
theorem wm_480 : (Cond.code yX8_judgeRound cX8_judgeRound 3 (some .int)) ∈ wn_all := wn_in10 _ (List.mem_of_getElem? (i := 0) rfl)
theorem wm_481 : (Cond.fieldLink RX8 206 "WaitingNets$Rounds" "visited" "[J") ∈ wn_all := wn_in10 _ (List.mem_of_getElem? (i := 1) rfl)
theorem wm_482 : (Cond.methodLink RX8 198 yX8_judgeRound) ∈ wn_all := wn_in10 _ (List.mem_of_getElem? (i := 2) rfl)
theorem wm_483 : (Cond.instanceMethod yX8_judgeRound) ∈ wn_all := wn_in10 _ (List.mem_of_getElem? (i := 3) rfl)
theorem wm_484 : (Cond.selects RX8 yX8_judgeRound yX8_judgeRound) ∈ wn_all := wn_in10 _ (List.mem_of_getElem? (i := 4) rfl)
theorem wm_485 : (Cond.methodLink RX8 202 yX5_load) ∈ wn_all := wn_in10 _ (List.mem_of_getElem? (i := 5) rfl)
theorem wm_486 : (Cond.instanceMethod yX5_load) ∈ wn_all := wn_in10 _ (List.mem_of_getElem? (i := 6) rfl)
theorem wm_487 : (Cond.selects RX5 yX5_load yX5_load) ∈ wn_all := wn_in10 _ (List.mem_of_getElem? (i := 7) rfl)
theorem wm_488 : (Cond.code yX8_visits cX8_visits 3 (some .int)) ∈ wn_all := wn_in10 _ (List.mem_of_getElem? (i := 8) rfl)
theorem wm_489 : (Cond.methodLink RX8 210 yX4_thingsOf) ∈ wn_all := wn_in10 _ (List.mem_of_getElem? (i := 9) rfl)
theorem wm_490 : (Cond.instanceMethod yX4_thingsOf) ∈ wn_all := wn_in10 _ (List.mem_of_getElem? (i := 10) rfl)
theorem wm_491 : (Cond.selects RX4 yX4_thingsOf yX4_thingsOf) ∈ wn_all := wn_in10 _ (List.mem_of_getElem? (i := 11) rfl)
theorem wm_492 : (Cond.methodLink RX8 214 yX5_tellChance) ∈ wn_all := wn_in10 _ (List.mem_of_getElem? (i := 12) rfl)
theorem wm_493 : (Cond.instanceMethod yX5_tellChance) ∈ wn_all := wn_in10 _ (List.mem_of_getElem? (i := 13) rfl)
theorem wm_494 : (Cond.selects RX5 yX5_tellChance yX5_tellChance) ∈ wn_all := wn_in10 _ (List.mem_of_getElem? (i := 14) rfl)
theorem wm_495 : (Cond.code yX8_chance cX8_chance 4 (some .int)) ∈ wn_all := wn_in10 _ (List.mem_of_getElem? (i := 15) rfl)
theorem wm_496 : (Cond.methodLink RX8 218 yX5_tellThrough) ∈ wn_all := wn_in10 _ (List.mem_of_getElem? (i := 16) rfl)
theorem wm_497 : (Cond.instanceMethod yX5_tellThrough) ∈ wn_all := wn_in10 _ (List.mem_of_getElem? (i := 17) rfl)
theorem wm_498 : (Cond.selects RX5 yX5_tellThrough yX5_tellThrough) ∈ wn_all := wn_in10 _ (List.mem_of_getElem? (i := 18) rfl)
theorem wm_499 : (Cond.code yX8_through cX8_through 4 (some .int)) ∈ wn_all := wn_in10 _ (List.mem_of_getElem? (i := 19) rfl)
theorem wm_500 : (Cond.methodLink RX8 222 yX5_tellMeanOf) ∈ wn_all := wn_in10 _ (List.mem_of_getElem? (i := 20) rfl)
theorem wm_501 : (Cond.instanceMethod yX5_tellMeanOf) ∈ wn_all := wn_in10 _ (List.mem_of_getElem? (i := 21) rfl)
theorem wm_502 : (Cond.selects RX5 yX5_tellMeanOf yX5_tellMeanOf) ∈ wn_all := wn_in10 _ (List.mem_of_getElem? (i := 22) rfl)
theorem wm_503 : (Cond.code yX8_meanOf cX8_meanOf 4 (some .int)) ∈ wn_all := wn_in10 _ (List.mem_of_getElem? (i := 23) rfl)
theorem wm_504 : (Cond.code yX8_round cX8_round 4 (some .int)) ∈ wn_all := wn_in10 _ (List.mem_of_getElem? (i := 24) rfl)
theorem wm_505 : (Cond.methodLink RX8 225 yX5_narrowest) ∈ wn_all := wn_in10 _ (List.mem_of_getElem? (i := 25) rfl)
theorem wm_506 : (Cond.code yX8_narrow cX8_narrow 1 (some .int)) ∈ wn_all := wn_in10 _ (List.mem_of_getElem? (i := 26) rfl)
theorem wm_507 : (Cond.methodLink RX8 228 yX5_tellBound) ∈ wn_all := wn_in10 _ (List.mem_of_getElem? (i := 27) rfl)
theorem wm_508 : (Cond.instanceMethod yX5_tellBound) ∈ wn_all := wn_in10 _ (List.mem_of_getElem? (i := 28) rfl)
theorem wm_509 : (Cond.selects RX5 yX5_tellBound yX5_tellBound) ∈ wn_all := wn_in10 _ (List.mem_of_getElem? (i := 29) rfl)
theorem wm_510 : (Cond.code yX8_bound cX8_bound 4 (some .int)) ∈ wn_all := wn_in10 _ (List.mem_of_getElem? (i := 30) rfl)
theorem wm_511 : (Cond.methodLink RX8 234 yX5_tellBest) ∈ wn_all := wn_in10 _ (List.mem_of_getElem? (i := 31) rfl)
theorem wm_512 : (Cond.instanceMethod yX5_tellBest) ∈ wn_all := wn_in10 _ (List.mem_of_getElem? (i := 32) rfl)
theorem wm_513 : (Cond.selects RX5 yX5_tellBest yX5_tellBest) ∈ wn_all := wn_in10 _ (List.mem_of_getElem? (i := 33) rfl)
theorem wm_514 : (Cond.code yX8_best cX8_best 2 (some .int)) ∈ wn_all := wn_in10 _ (List.mem_of_getElem? (i := 34) rfl)
theorem wm_515 : (Cond.methodLink RX8 238 yX5_balanced) ∈ wn_all := wn_in10 _ (List.mem_of_getElem? (i := 35) rfl)
theorem wm_516 : (Cond.instanceMethod yX5_balanced) ∈ wn_all := wn_in10 _ (List.mem_of_getElem? (i := 36) rfl)
theorem wm_517 : (Cond.selects RX5 yX5_balanced yX5_balanced) ∈ wn_all := wn_in10 _ (List.mem_of_getElem? (i := 37) rfl)
theorem wm_518 : (Cond.code yX8_balance cX8_balance 2 (some .int)) ∈ wn_all := wn_in10 _ (List.mem_of_getElem? (i := 38) rfl)
theorem wm_519 : (Cond.code yX8_isComing cX8_isComing 1 (some .boolean)) ∈ wn_all := wn_in10 _ (List.mem_of_getElem? (i := 39) rfl)
theorem wm_520 : (Cond.code yX8_tellBreakingIn cX8_tellBreakingIn 7 none) ∈ wn_all := wn_in10 _ (List.mem_of_getElem? (i := 40) rfl)
theorem wm_521 : (Cond.code yX8_tellWaitingTurn cX8_tellWaitingTurn 9 none) ∈ wn_all := wn_in10 _ (List.mem_of_getElem? (i := 41) rfl)
theorem wm_522 : (Cond.methodLink RX8 241 yX8_isComing) ∈ wn_all := wn_in10 _ (List.mem_of_getElem? (i := 42) rfl)
theorem wm_523 : (Cond.static yX8_isComing) ∈ wn_all := wn_in10 _ (List.mem_of_getElem? (i := 43) rfl)
theorem wm_524 : (Cond.methodLink RX8 244 yX8_tellBreakingIn) ∈ wn_all := wn_in10 _ (List.mem_of_getElem? (i := 44) rfl)
theorem wm_525 : (Cond.instanceMethod yX8_tellBreakingIn) ∈ wn_all := wn_in10 _ (List.mem_of_getElem? (i := 45) rfl)
theorem wm_526 : (Cond.selects RX8 yX8_tellBreakingIn yX8_tellBreakingIn) ∈ wn_all := wn_in10 _ (List.mem_of_getElem? (i := 46) rfl)
theorem wm_527 : (Cond.methodLink RX8 248 yX8_tellWaitingTurn) ∈ wn_all := wn_in10 _ (List.mem_of_getElem? (i := 47) rfl)
theorem wm_528 : (Cond.instanceMethod yX8_tellWaitingTurn) ∈ wn_all := wn_in11 _ (List.mem_of_getElem? (i := 0) rfl)
theorem wm_529 : (Cond.selects RX8 yX8_tellWaitingTurn yX8_tellWaitingTurn) ∈ wn_all := wn_in11 _ (List.mem_of_getElem? (i := 1) rfl)
theorem wm_530 : (Cond.code yX8_ranked cX8_ranked 7 (some .int)) ∈ wn_all := wn_in11 _ (List.mem_of_getElem? (i := 2) rfl)
theorem wm_531 : (Cond.methodLink RX8 251 yX1_roomWeight) ∈ wn_all := wn_in11 _ (List.mem_of_getElem? (i := 3) rfl)
theorem wm_532 : (Cond.instanceMethod yX1_roomWeight) ∈ wn_all := wn_in11 _ (List.mem_of_getElem? (i := 4) rfl)
theorem wm_533 : (Cond.selects RX1 yX1_roomWeight yX1_roomWeight) ∈ wn_all := wn_in11 _ (List.mem_of_getElem? (i := 5) rfl)
theorem wm_534 : (Cond.code yX8_roomed cX8_roomed 8 (some .int)) ∈ wn_all := wn_in11 _ (List.mem_of_getElem? (i := 6) rfl)
theorem wm_535 : (Cond.methodLink RX8 271 yX6_side) ∈ wn_all := wn_in11 _ (List.mem_of_getElem? (i := 7) rfl)
theorem wm_536 : (Cond.methodLink RX8 274 yX6_holdsRates) ∈ wn_all := wn_in11 _ (List.mem_of_getElem? (i := 8) rfl)
theorem wm_537 : (Cond.instanceMethod yX6_holdsRates) ∈ wn_all := wn_in11 _ (List.mem_of_getElem? (i := 9) rfl)
theorem wm_538 : (Cond.selects RX6 yX6_holdsRates yX6_holdsRates) ∈ wn_all := wn_in11 _ (List.mem_of_getElem? (i := 10) rfl)
theorem wm_539 : (Cond.code yX8_judgeChain cX8_judgeChain 3 (some .int)) ∈ wn_all := wn_in11 _ (List.mem_of_getElem? (i := 11) rfl)
theorem wm_540 : (Cond.fieldLink RX8 261 "WaitingNets$Chain" "size" "I") ∈ wn_all := wn_in11 _ (List.mem_of_getElem? (i := 12) rfl)
theorem wm_541 : (Cond.methodLink RX8 255 yX8_judgeChain) ∈ wn_all := wn_in11 _ (List.mem_of_getElem? (i := 13) rfl)
theorem wm_542 : (Cond.instanceMethod yX8_judgeChain) ∈ wn_all := wn_in11 _ (List.mem_of_getElem? (i := 14) rfl)
theorem wm_543 : (Cond.selects RX8 yX8_judgeChain yX8_judgeChain) ∈ wn_all := wn_in11 _ (List.mem_of_getElem? (i := 15) rfl)
theorem wm_544 : (Cond.methodLink RX8 258 yX0_load) ∈ wn_all := wn_in11 _ (List.mem_of_getElem? (i := 16) rfl)
theorem wm_545 : (Cond.instanceMethod yX0_load) ∈ wn_all := wn_in11 _ (List.mem_of_getElem? (i := 17) rfl)
theorem wm_546 : (Cond.selects RX0 yX0_load yX0_load) ∈ wn_all := wn_in11 _ (List.mem_of_getElem? (i := 18) rfl)
theorem wm_547 : (Cond.methodLink RX8 262 yX0_partsThere) ∈ wn_all := wn_in11 _ (List.mem_of_getElem? (i := 19) rfl)
theorem wm_548 : (Cond.instanceMethod yX0_partsThere) ∈ wn_all := wn_in11 _ (List.mem_of_getElem? (i := 20) rfl)
theorem wm_549 : (Cond.selects RX0 yX0_partsThere yX0_partsThere) ∈ wn_all := wn_in11 _ (List.mem_of_getElem? (i := 21) rfl)
theorem wm_550 : (Cond.methodLink RX8 265 yX0_tellLasting) ∈ wn_all := wn_in11 _ (List.mem_of_getElem? (i := 22) rfl)
theorem wm_551 : (Cond.instanceMethod yX0_tellLasting) ∈ wn_all := wn_in11 _ (List.mem_of_getElem? (i := 23) rfl)
theorem wm_552 : (Cond.selects RX0 yX0_tellLasting yX0_tellLasting) ∈ wn_all := wn_in11 _ (List.mem_of_getElem? (i := 24) rfl)
theorem wm_553 : (Cond.code yX8_lasting cX8_lasting 4 (some .int)) ∈ wn_all := wn_in11 _ (List.mem_of_getElem? (i := 25) rfl)
theorem wm_554 : (Cond.methodLink RX8 268 yX0_firstPart) ∈ wn_all := wn_in11 _ (List.mem_of_getElem? (i := 26) rfl)
theorem wm_555 : (Cond.code yX8_parts cX8_parts 3 (some .int)) ∈ wn_all := wn_in11 _ (List.mem_of_getElem? (i := 27) rfl)
theorem wm_556 : (Cond.constant RX8 277 (1000000)) ∈ wn_all := wn_in11 _ (List.mem_of_getElem? (i := 28) rfl)
theorem wm_557 : (Cond.methodLink RX8 278 yX6_isWithin) ∈ wn_all := wn_in11 _ (List.mem_of_getElem? (i := 29) rfl)
theorem wm_558 : (Cond.instanceMethod yX6_isWithin) ∈ wn_all := wn_in11 _ (List.mem_of_getElem? (i := 30) rfl)
theorem wm_559 : (Cond.selects RX6 yX6_isWithin yX6_isWithin) ∈ wn_all := wn_in11 _ (List.mem_of_getElem? (i := 31) rfl)
theorem wm_560 : (Cond.methodLink RX8 281 yX0_firstUneven) ∈ wn_all := wn_in11 _ (List.mem_of_getElem? (i := 32) rfl)
theorem wm_561 : (Cond.instanceMethod yX0_firstUneven) ∈ wn_all := wn_in11 _ (List.mem_of_getElem? (i := 33) rfl)
theorem wm_562 : (Cond.selects RX0 yX0_firstUneven yX0_firstUneven) ∈ wn_all := wn_in11 _ (List.mem_of_getElem? (i := 34) rfl)
theorem wm_563 : (Cond.code yX8_judge cX8_judge 6 (some .int)) ∈ wn_all := wn_in11 _ (List.mem_of_getElem? (i := 35) rfl)
theorem wm_564 : (Cond.constant RX8 316 (100000)) ∈ wn_all := wn_in11 _ (List.mem_of_getElem? (i := 36) rfl)
theorem wm_565 : (Cond.methodLink RX8 317 yX6_isRising) ∈ wn_all := wn_in11 _ (List.mem_of_getElem? (i := 37) rfl)
theorem wm_566 : (Cond.instanceMethod yX6_isRising) ∈ wn_all := wn_in11 _ (List.mem_of_getElem? (i := 38) rfl)
theorem wm_567 : (Cond.selects RX6 yX6_isRising yX6_isRising) ∈ wn_all := wn_in11 _ (List.mem_of_getElem? (i := 39) rfl)
theorem wm_568 : (Cond.code yX8_judgeRun cX8_judgeRun 5 (some .int)) ∈ wn_all := wn_in11 _ (List.mem_of_getElem? (i := 40) rfl)
theorem wm_569 : (Cond.methodLink RX8 284 yX8_judgeRun) ∈ wn_all := wn_in11 _ (List.mem_of_getElem? (i := 41) rfl)
theorem wm_570 : (Cond.instanceMethod yX8_judgeRun) ∈ wn_all := wn_in11 _ (List.mem_of_getElem? (i := 42) rfl)
theorem wm_571 : (Cond.selects RX8 yX8_judgeRun yX8_judgeRun) ∈ wn_all := wn_in11 _ (List.mem_of_getElem? (i := 43) rfl)
theorem wm_572 : (Cond.methodLink RX8 288 yX3_begin) ∈ wn_all := wn_in11 _ (List.mem_of_getElem? (i := 44) rfl)
theorem wm_573 : (Cond.instanceMethod yX3_begin) ∈ wn_all := wn_in11 _ (List.mem_of_getElem? (i := 45) rfl)
theorem wm_574 : (Cond.selects RX3 yX3_begin yX3_begin) ∈ wn_all := wn_in11 _ (List.mem_of_getElem? (i := 46) rfl)
theorem wm_575 : (Cond.methodLink RX8 289 yX3_serve) ∈ wn_all := wn_in11 _ (List.mem_of_getElem? (i := 47) rfl)
theorem wm_576 : (Cond.instanceMethod yX3_serve) ∈ wn_all := wn_in12 _ (List.mem_of_getElem? (i := 0) rfl)
theorem wm_577 : (Cond.selects RX3 yX3_serve yX3_serve) ∈ wn_all := wn_in12 _ (List.mem_of_getElem? (i := 1) rfl)
theorem wm_578 : (Cond.code yX8_waited cX8_waited 8 (some .int)) ∈ wn_all := wn_in12 _ (List.mem_of_getElem? (i := 2) rfl)
theorem wm_579 : (Cond.code yX8_seen cX8_seen 9 (some .int)) ∈ wn_all := wn_in12 _ (List.mem_of_getElem? (i := 3) rfl)
theorem wm_580 : (Cond.code yX8_asked cX8_asked 1 (some .int)) ∈ wn_all := wn_in12 _ (List.mem_of_getElem? (i := 4) rfl)
theorem wm_581 : (Cond.code yX8_upper cX8_upper 1 (some .long)) ∈ wn_all := wn_in12 _ (List.mem_of_getElem? (i := 5) rfl)
theorem wm_582 : (Cond.code yX8_lower cX8_lower 1 (some .long)) ∈ wn_all := wn_in12 _ (List.mem_of_getElem? (i := 6) rfl)
theorem wm_583 : (Cond.code yX8_rowsThere cX8_rowsThere 3 (some .int)) ∈ wn_all := wn_in12 _ (List.mem_of_getElem? (i := 7) rfl)
theorem wm_584 : (Cond.methodLink RX8 292 yX8_rowsThere) ∈ wn_all := wn_in12 _ (List.mem_of_getElem? (i := 8) rfl)
theorem wm_585 : (Cond.instanceMethod yX8_rowsThere) ∈ wn_all := wn_in12 _ (List.mem_of_getElem? (i := 9) rfl)
theorem wm_586 : (Cond.selects RX8 yX8_rowsThere yX8_rowsThere) ∈ wn_all := wn_in12 _ (List.mem_of_getElem? (i := 10) rfl)
theorem wm_587 : (Cond.methodLink RX8 295 yX4_bitsThere) ∈ wn_all := wn_in12 _ (List.mem_of_getElem? (i := 11) rfl)
theorem wm_588 : (Cond.methodLink RX8 298 yJ6_bitCount_0f7a4) ∈ wn_all := wn_in12 _ (List.mem_of_getElem? (i := 12) rfl)
theorem wm_589 : (Cond.methodLink RX8 303 yX4_handsThere) ∈ wn_all := wn_in12 _ (List.mem_of_getElem? (i := 13) rfl)
theorem wm_590 : (Cond.instanceMethod yX4_handsThere) ∈ wn_all := wn_in12 _ (List.mem_of_getElem? (i := 14) rfl)
theorem wm_591 : (Cond.selects RX4 yX4_handsThere yX4_handsThere) ∈ wn_all := wn_in12 _ (List.mem_of_getElem? (i := 15) rfl)
theorem wm_592 : (Cond.methodLink RX8 306 yX4_waysThere) ∈ wn_all := wn_in12 _ (List.mem_of_getElem? (i := 16) rfl)
theorem wm_593 : (Cond.instanceMethod yX4_waysThere) ∈ wn_all := wn_in12 _ (List.mem_of_getElem? (i := 17) rfl)
theorem wm_594 : (Cond.selects RX4 yX4_waysThere yX4_waysThere) ∈ wn_all := wn_in12 _ (List.mem_of_getElem? (i := 18) rfl)
theorem wm_595 : (Cond.code yX8_count cX8_count 2 (some .int)) ∈ wn_all := wn_in12 _ (List.mem_of_getElem? (i := 19) rfl)
theorem wm_596 : (Cond.code yX8_finding cX8_finding 1 (some .int)) ∈ wn_all := wn_in12 _ (List.mem_of_getElem? (i := 20) rfl)
theorem wm_597 : (Cond.code yX8_findings cX8_findings 2 (some .int)) ∈ wn_all := wn_in12 _ (List.mem_of_getElem? (i := 21) rfl)
theorem wm_598 : (Cond.constantLong RX8 309 (17)) ∈ wn_all := wn_in12 _ (List.mem_of_getElem? (i := 22) rfl)
theorem wm_599 : (Cond.methodLink RX8 311 yX1_mixInto) ∈ wn_all := wn_in12 _ (List.mem_of_getElem? (i := 23) rfl)
theorem wm_600 : (Cond.instanceMethod yX1_mixInto) ∈ wn_all := wn_in12 _ (List.mem_of_getElem? (i := 24) rfl)
theorem wm_601 : (Cond.selects RX1 yX1_mixInto yX1_mixInto) ∈ wn_all := wn_in12 _ (List.mem_of_getElem? (i := 25) rfl)
theorem wm_602 : (Cond.methodLink RX8 315 yX6_mixInto) ∈ wn_all := wn_in12 _ (List.mem_of_getElem? (i := 26) rfl)
theorem wm_603 : (Cond.instanceMethod yX6_mixInto) ∈ wn_all := wn_in12 _ (List.mem_of_getElem? (i := 27) rfl)
theorem wm_604 : (Cond.selects RX6 yX6_mixInto yX6_mixInto) ∈ wn_all := wn_in12 _ (List.mem_of_getElem? (i := 28) rfl)
theorem wm_605 : (Cond.code yX8_digest cX8_digest 4 (some .long)) ∈ wn_all := wn_in12 _ (List.mem_of_getElem? (i := 29) rfl)
theorem wm_606 : (Cond.code yX9_init cX9_init 2 none) ∈ wn_all := wn_in12 _ (List.mem_of_getElem? (i := 30) rfl)
theorem wm_607 : (Cond.methodLink RX9 1 objectInit) ∈ wn_all := wn_in12 _ (List.mem_of_getElem? (i := 31) rfl)
theorem wm_608 : (Cond.fieldLink RX9 7 "WaitingNetsModel" "findings" "[I") ∈ wn_all := wn_in12 _ (List.mem_of_getElem? (i := 32) rfl)
theorem wm_609 : (Cond.fieldLink RX9 13 "WaitingNetsModel" "lower" "J") ∈ wn_all := wn_in12 _ (List.mem_of_getElem? (i := 33) rfl)
theorem wm_610 : (Cond.fieldLink RX9 17 "WaitingNetsModel" "sizes" "[I") ∈ wn_all := wn_in12 _ (List.mem_of_getElem? (i := 34) rfl)
theorem wm_611 : (Cond.fieldLink RX9 20 "WaitingNetsModel" "rows" "[I") ∈ wn_all := wn_in12 _ (List.mem_of_getElem? (i := 35) rfl)
theorem wm_612 : (Cond.fieldLink RX9 23 "WaitingNetsModel" "moving" "[I") ∈ wn_all := wn_in12 _ (List.mem_of_getElem? (i := 36) rfl)
theorem wm_613 : (Cond.arrayClass .boolean) ∈ wn_all := wn_in12 _ (List.mem_of_getElem? (i := 37) rfl)
theorem wm_614 : (Cond.fieldLink RX9 26 "WaitingNetsModel" "isThere" "[Z") ∈ wn_all := wn_in12 _ (List.mem_of_getElem? (i := 38) rfl)
theorem wm_615 : (Cond.fieldLink RX9 30 "WaitingNetsModel" "kinds" "[I") ∈ wn_all := wn_in12 _ (List.mem_of_getElem? (i := 39) rfl)
theorem wm_616 : (Cond.fieldLink RX9 33 "WaitingNetsModel" "rates" "[I") ∈ wn_all := wn_in12 _ (List.mem_of_getElem? (i := 40) rfl)
theorem wm_617 : (Cond.fieldLink RX9 36 "WaitingNetsModel" "handsOf" "[I") ∈ wn_all := wn_in12 _ (List.mem_of_getElem? (i := 41) rfl)
theorem wm_618 : (Cond.fieldLink RX9 39 "WaitingNetsModel" "rooms" "[I") ∈ wn_all := wn_in12 _ (List.mem_of_getElem? (i := 42) rfl)
theorem wm_619 : (Cond.fieldLink RX9 42 "WaitingNetsModel" "coming" "[I") ∈ wn_all := wn_in12 _ (List.mem_of_getElem? (i := 43) rfl)
theorem wm_620 : (Cond.fieldLink RX9 45 "WaitingNetsModel" "ways" "[I") ∈ wn_all := wn_in12 _ (List.mem_of_getElem? (i := 44) rfl)
theorem wm_621 : (Cond.fieldLink RX9 48 "WaitingNetsModel" "square" "[J") ∈ wn_all := wn_in12 _ (List.mem_of_getElem? (i := 45) rfl)
theorem wm_622 : (Cond.fieldLink RX9 52 "WaitingNetsModel" "rowOf" "[I") ∈ wn_all := wn_in12 _ (List.mem_of_getElem? (i := 46) rfl)
theorem wm_623 : (Cond.fieldLink RX9 55 "WaitingNetsModel" "cleared" "[J") ∈ wn_all := wn_in12 _ (List.mem_of_getElem? (i := 47) rfl)
theorem wm_624 : (Cond.fieldLink RX9 58 "WaitingNetsModel" "visit" "[J") ∈ wn_all := wn_in13 _ (List.mem_of_getElem? (i := 0) rfl)
theorem wm_625 : (Cond.fieldLink RX9 61 "WaitingNetsModel" "state" "[I") ∈ wn_all := wn_in13 _ (List.mem_of_getElem? (i := 1) rfl)
theorem wm_626 : (Cond.fieldLink RX9 64 "WaitingNetsModel" "waits" "[I") ∈ wn_all := wn_in13 _ (List.mem_of_getElem? (i := 2) rfl)
theorem wm_627 : (Cond.code yX9_in cX9_in 3 (some .boolean)) ∈ wn_all := wn_in13 _ (List.mem_of_getElem? (i := 3) rfl)
theorem wm_628 : (Cond.code yX9_meets cX9_meets 2 (some .int)) ∈ wn_all := wn_in13 _ (List.mem_of_getElem? (i := 4) rfl)
theorem wm_629 : (Cond.fieldLink RX9 67 "WaitingNetsModel" "finding" "I") ∈ wn_all := wn_in13 _ (List.mem_of_getElem? (i := 5) rfl)
theorem wm_630 : (Cond.code yX9_ask cX9_ask 3 (some .int)) ∈ wn_all := wn_in13 _ (List.mem_of_getElem? (i := 6) rfl)
theorem wm_631 : (Cond.fieldLink RX9 71 "WaitingNetsModel" "asked" "I") ∈ wn_all := wn_in13 _ (List.mem_of_getElem? (i := 7) rfl)
theorem wm_632 : (Cond.code yX9_divisor cX9_divisor 10 (some .long)) ∈ wn_all := wn_in13 _ (List.mem_of_getElem? (i := 8) rfl)
theorem wm_633 : (Cond.code yX9_share cX9_share 8 (some .int)) ∈ wn_all := wn_in13 _ (List.mem_of_getElem? (i := 9) rfl)
theorem wm_634 : (Cond.fieldLink RX9 78 "WaitingNetsModel" "upper" "J") ∈ wn_all := wn_in13 _ (List.mem_of_getElem? (i := 10) rfl)
theorem wm_635 : (Cond.methodLink RX9 74 yX9_divisor) ∈ wn_all := wn_in13 _ (List.mem_of_getElem? (i := 11) rfl)
theorem wm_636 : (Cond.static yX9_divisor) ∈ wn_all := wn_in13 _ (List.mem_of_getElem? (i := 12) rfl)
theorem wm_637 : (Cond.initialized RX9) ∈ wn_all := wn_in13 _ (List.mem_of_getElem? (i := 13) rfl)
theorem wm_638 : (Cond.code yX9_isRow cX9_isRow 1 (some .boolean)) ∈ wn_all := wn_in13 _ (List.mem_of_getElem? (i := 14) rfl)
theorem wm_639 : (Cond.methodLink RX9 81 yX9_in) ∈ wn_all := wn_in13 _ (List.mem_of_getElem? (i := 15) rfl)
theorem wm_640 : (Cond.static yX9_in) ∈ wn_all := wn_in13 _ (List.mem_of_getElem? (i := 16) rfl)
theorem wm_641 : (Cond.code yX9_askedRow cX9_askedRow 2 (some .int)) ∈ wn_all := wn_in13 _ (List.mem_of_getElem? (i := 17) rfl)
theorem wm_642 : (Cond.methodLink RX9 85 yX9_isRow) ∈ wn_all := wn_in13 _ (List.mem_of_getElem? (i := 18) rfl)
theorem wm_643 : (Cond.static yX9_isRow) ∈ wn_all := wn_in13 _ (List.mem_of_getElem? (i := 19) rfl)
theorem wm_644 : (Cond.methodLink RX9 89 yX9_meets) ∈ wn_all := wn_in13 _ (List.mem_of_getElem? (i := 20) rfl)
theorem wm_645 : (Cond.instanceMethod yX9_meets) ∈ wn_all := wn_in13 _ (List.mem_of_getElem? (i := 21) rfl)
theorem wm_646 : (Cond.selects RX9 yX9_meets yX9_meets) ∈ wn_all := wn_in13 _ (List.mem_of_getElem? (i := 22) rfl)
theorem wm_647 : (Cond.code yX9_row cX9_row 4 (some .int)) ∈ wn_all := wn_in13 _ (List.mem_of_getElem? (i := 23) rfl)
theorem wm_648 : (Cond.code yX9_lay cX9_lay 5 (some .int)) ∈ wn_all := wn_in13 _ (List.mem_of_getElem? (i := 24) rfl)
theorem wm_649 : (Cond.methodLink RX9 93 yX9_askedRow) ∈ wn_all := wn_in13 _ (List.mem_of_getElem? (i := 25) rfl)
theorem wm_650 : (Cond.instanceMethod yX9_askedRow) ∈ wn_all := wn_in13 _ (List.mem_of_getElem? (i := 26) rfl)
theorem wm_651 : (Cond.selects RX9 yX9_askedRow yX9_askedRow) ∈ wn_all := wn_in13 _ (List.mem_of_getElem? (i := 27) rfl)
theorem wm_652 : (Cond.code yX9_tear cX9_tear 3 (some .int)) ∈ wn_all := wn_in13 _ (List.mem_of_getElem? (i := 28) rfl)
theorem wm_653 : (Cond.code yX9_copy cX9_copy 7 (some .int)) ∈ wn_all := wn_in13 _ (List.mem_of_getElem? (i := 29) rfl)
theorem wm_654 : (Cond.code yX9_average cX9_average 6 (some .int)) ∈ wn_all := wn_in13 _ (List.mem_of_getElem? (i := 30) rfl)
theorem wm_655 : (Cond.methodLink RX9 96 yX9_ask) ∈ wn_all := wn_in13 _ (List.mem_of_getElem? (i := 31) rfl)
theorem wm_656 : (Cond.instanceMethod yX9_ask) ∈ wn_all := wn_in13 _ (List.mem_of_getElem? (i := 32) rfl)
theorem wm_657 : (Cond.selects RX9 yX9_ask yX9_ask) ∈ wn_all := wn_in13 _ (List.mem_of_getElem? (i := 33) rfl)
theorem wm_658 : (Cond.code yX9_isCounter cX9_isCounter 1 (some .boolean)) ∈ wn_all := wn_in13 _ (List.mem_of_getElem? (i := 34) rfl)
theorem wm_659 : (Cond.code yX9_askedFor cX9_askedFor 2 (some .int)) ∈ wn_all := wn_in13 _ (List.mem_of_getElem? (i := 35) rfl)
theorem wm_660 : (Cond.methodLink RX9 100 yX9_isCounter) ∈ wn_all := wn_in13 _ (List.mem_of_getElem? (i := 36) rfl)
theorem wm_661 : (Cond.static yX9_isCounter) ∈ wn_all := wn_in13 _ (List.mem_of_getElem? (i := 37) rfl)
theorem wm_662 : (Cond.code yX9_empty cX9_empty 3 none) ∈ wn_all := wn_in13 _ (List.mem_of_getElem? (i := 38) rfl)
theorem wm_663 : (Cond.code yX9_counter cX9_counter 4 (some .int)) ∈ wn_all := wn_in13 _ (List.mem_of_getElem? (i := 39) rfl)
theorem wm_664 : (Cond.methodLink RX9 103 yX9_empty) ∈ wn_all := wn_in13 _ (List.mem_of_getElem? (i := 40) rfl)
theorem wm_665 : (Cond.instanceMethod yX9_empty) ∈ wn_all := wn_in13 _ (List.mem_of_getElem? (i := 41) rfl)
theorem wm_666 : (Cond.selects RX9 yX9_empty yX9_empty) ∈ wn_all := wn_in13 _ (List.mem_of_getElem? (i := 42) rfl)
theorem wm_667 : (Cond.code yX9_drop cX9_drop 3 (some .int)) ∈ wn_all := wn_in13 _ (List.mem_of_getElem? (i := 43) rfl)
theorem wm_668 : (Cond.methodLink RX9 107 yX9_askedFor) ∈ wn_all := wn_in13 _ (List.mem_of_getElem? (i := 44) rfl)
theorem wm_669 : (Cond.instanceMethod yX9_askedFor) ∈ wn_all := wn_in13 _ (List.mem_of_getElem? (i := 45) rfl)
theorem wm_670 : (Cond.selects RX9 yX9_askedFor yX9_askedFor) ∈ wn_all := wn_in13 _ (List.mem_of_getElem? (i := 46) rfl)
theorem wm_671 : (Cond.code yX9_rate cX9_rate 5 (some .int)) ∈ wn_all := wn_in13 _ (List.mem_of_getElem? (i := 47) rfl)
theorem wm_672 : (Cond.code yX9_hands cX9_hands 5 (some .int)) ∈ wn_all := wn_in14 _ (List.mem_of_getElem? (i := 0) rfl)
theorem wm_673 : (Cond.code yX9_room cX9_room 5 (some .int)) ∈ wn_all := wn_in14 _ (List.mem_of_getElem? (i := 1) rfl)
theorem wm_674 : (Cond.code yX9_outOf cX9_outOf 4 (some .int)) ∈ wn_all := wn_in14 _ (List.mem_of_getElem? (i := 2) rfl)
theorem wm_675 : (Cond.code yX9_way cX9_way 5 (some .int)) ∈ wn_all := wn_in14 _ (List.mem_of_getElem? (i := 3) rfl)
theorem wm_676 : (Cond.methodLink RX9 110 yX9_outOf) ∈ wn_all := wn_in14 _ (List.mem_of_getElem? (i := 4) rfl)
theorem wm_677 : (Cond.instanceMethod yX9_outOf) ∈ wn_all := wn_in14 _ (List.mem_of_getElem? (i := 5) rfl)
theorem wm_678 : (Cond.selects RX9 yX9_outOf yX9_outOf) ∈ wn_all := wn_in14 _ (List.mem_of_getElem? (i := 6) rfl)
theorem wm_679 : (Cond.code yX9_comes cX9_comes 5 (some .int)) ∈ wn_all := wn_in14 _ (List.mem_of_getElem? (i := 7) rfl)
theorem wm_680 : (Cond.code yX9_tells cX9_tells 3 (some .int)) ∈ wn_all := wn_in14 _ (List.mem_of_getElem? (i := 8) rfl)
theorem wm_681 : (Cond.methodLink RX9 113 yX9_tells) ∈ wn_all := wn_in14 _ (List.mem_of_getElem? (i := 9) rfl)
theorem wm_682 : (Cond.instanceMethod yX9_tells) ∈ wn_all := wn_in14 _ (List.mem_of_getElem? (i := 10) rfl)
theorem wm_683 : (Cond.selects RX9 yX9_tells yX9_tells) ∈ wn_all := wn_in14 _ (List.mem_of_getElem? (i := 11) rfl)
theorem wm_684 : (Cond.code yX9_told cX9_told 4 (some .int)) ∈ wn_all := wn_in14 _ (List.mem_of_getElem? (i := 12) rfl)
theorem wm_685 : (Cond.code yX9_mark cX9_mark 6 (some .int)) ∈ wn_all := wn_in14 _ (List.mem_of_getElem? (i := 13) rfl)
theorem wm_686 : (Cond.code yX9_isProduct cX9_isProduct 3 (some .boolean)) ∈ wn_all := wn_in14 _ (List.mem_of_getElem? (i := 14) rfl)
theorem wm_687 : (Cond.code yX9_product cX9_product 1 (some .int)) ∈ wn_all := wn_in14 _ (List.mem_of_getElem? (i := 15) rfl)
theorem wm_688 : (Cond.methodLink RX9 116 yX9_isProduct) ∈ wn_all := wn_in14 _ (List.mem_of_getElem? (i := 16) rfl)
theorem wm_689 : (Cond.instanceMethod yX9_isProduct) ∈ wn_all := wn_in14 _ (List.mem_of_getElem? (i := 17) rfl)
theorem wm_690 : (Cond.selects RX9 yX9_isProduct yX9_isProduct) ∈ wn_all := wn_in14 _ (List.mem_of_getElem? (i := 18) rfl)
theorem wm_691 : (Cond.code yX9_clear cX9_clear 10 (some .long)) ∈ wn_all := wn_in14 _ (List.mem_of_getElem? (i := 19) rfl)
theorem wm_692 : (Cond.code yX9_worth cX9_worth 6 (some .long)) ∈ wn_all := wn_in14 _ (List.mem_of_getElem? (i := 20) rfl)
theorem wm_693 : (Cond.methodLink RX9 120 yX9_clear) ∈ wn_all := wn_in14 _ (List.mem_of_getElem? (i := 21) rfl)
theorem wm_694 : (Cond.instanceMethod yX9_clear) ∈ wn_all := wn_in14 _ (List.mem_of_getElem? (i := 22) rfl)
theorem wm_695 : (Cond.selects RX9 yX9_clear yX9_clear) ∈ wn_all := wn_in14 _ (List.mem_of_getElem? (i := 23) rfl)
theorem wm_696 : (Cond.code yX9_reached cX9_reached 5 (some .int)) ∈ wn_all := wn_in14 _ (List.mem_of_getElem? (i := 24) rfl)
theorem wm_697 : (Cond.code yX9_keptOf cX9_keptOf 5 (some .int)) ∈ wn_all := wn_in14 _ (List.mem_of_getElem? (i := 25) rfl)
theorem wm_698 : (Cond.methodLink RX9 124 yX9_reached) ∈ wn_all := wn_in14 _ (List.mem_of_getElem? (i := 26) rfl)
theorem wm_699 : (Cond.instanceMethod yX9_reached) ∈ wn_all := wn_in14 _ (List.mem_of_getElem? (i := 27) rfl)
theorem wm_700 : (Cond.selects RX9 yX9_reached yX9_reached) ∈ wn_all := wn_in14 _ (List.mem_of_getElem? (i := 28) rfl)
theorem wm_701 : (Cond.code yX9_kept cX9_kept 1 (some .int)) ∈ wn_all := wn_in14 _ (List.mem_of_getElem? (i := 29) rfl)
theorem wm_702 : (Cond.methodLink RX9 128 yX9_keptOf) ∈ wn_all := wn_in14 _ (List.mem_of_getElem? (i := 30) rfl)
theorem wm_703 : (Cond.instanceMethod yX9_keptOf) ∈ wn_all := wn_in14 _ (List.mem_of_getElem? (i := 31) rfl)
theorem wm_704 : (Cond.selects RX9 yX9_keptOf yX9_keptOf) ∈ wn_all := wn_in14 _ (List.mem_of_getElem? (i := 32) rfl)
theorem wm_705 : (Cond.fieldLink RX9 131 "WaitingNetsModel" "flowUp" "J") ∈ wn_all := wn_in14 _ (List.mem_of_getElem? (i := 33) rfl)
theorem wm_706 : (Cond.fieldLink RX9 134 "WaitingNetsModel" "flowLow" "J") ∈ wn_all := wn_in14 _ (List.mem_of_getElem? (i := 34) rfl)
theorem wm_707 : (Cond.constantLong RX9 141 (4)) ∈ wn_all := wn_in14 _ (List.mem_of_getElem? (i := 35) rfl)
theorem wm_708 : (Cond.methodLink RX9 137 yX9_worth) ∈ wn_all := wn_in14 _ (List.mem_of_getElem? (i := 36) rfl)
theorem wm_709 : (Cond.instanceMethod yX9_worth) ∈ wn_all := wn_in14 _ (List.mem_of_getElem? (i := 37) rfl)
theorem wm_710 : (Cond.selects RX9 yX9_worth yX9_worth) ∈ wn_all := wn_in14 _ (List.mem_of_getElem? (i := 38) rfl)
theorem wm_711 : (Cond.code yX9_setFlow cX9_setFlow 9 none) ∈ wn_all := wn_in14 _ (List.mem_of_getElem? (i := 39) rfl)
theorem wm_712 : (Cond.methodLink RX9 143 yX9_setFlow) ∈ wn_all := wn_in14 _ (List.mem_of_getElem? (i := 40) rfl)
theorem wm_713 : (Cond.instanceMethod yX9_setFlow) ∈ wn_all := wn_in14 _ (List.mem_of_getElem? (i := 41) rfl)
theorem wm_714 : (Cond.selects RX9 yX9_setFlow yX9_setFlow) ∈ wn_all := wn_in14 _ (List.mem_of_getElem? (i := 42) rfl)
theorem wm_715 : (Cond.code yX9_askedFlow cX9_askedFlow 3 (some .int)) ∈ wn_all := wn_in14 _ (List.mem_of_getElem? (i := 43) rfl)
theorem wm_716 : (Cond.methodLink RX9 146 yX9_askedFlow) ∈ wn_all := wn_in14 _ (List.mem_of_getElem? (i := 44) rfl)
theorem wm_717 : (Cond.instanceMethod yX9_askedFlow) ∈ wn_all := wn_in14 _ (List.mem_of_getElem? (i := 45) rfl)
theorem wm_718 : (Cond.selects RX9 yX9_askedFlow yX9_askedFlow) ∈ wn_all := wn_in14 _ (List.mem_of_getElem? (i := 46) rfl)
theorem wm_719 : (Cond.methodLink RX9 149 yX9_share) ∈ wn_all := wn_in14 _ (List.mem_of_getElem? (i := 47) rfl)
theorem wm_720 : (Cond.instanceMethod yX9_share) ∈ wn_all := wn_in15 _ (List.mem_of_getElem? (i := 0) rfl)
theorem wm_721 : (Cond.selects RX9 yX9_share yX9_share) ∈ wn_all := wn_in15 _ (List.mem_of_getElem? (i := 1) rfl)
theorem wm_722 : (Cond.code yX9_flow cX9_flow 3 (some .int)) ∈ wn_all := wn_in15 _ (List.mem_of_getElem? (i := 2) rfl)
theorem wm_723 : (Cond.code yX9_bears cX9_bears 2 (some .int)) ∈ wn_all := wn_in15 _ (List.mem_of_getElem? (i := 3) rfl)
theorem wm_724 : (Cond.code yX9_isFull cX9_isFull 2 (some .boolean)) ∈ wn_all := wn_in15 _ (List.mem_of_getElem? (i := 4) rfl)
theorem wm_725 : (Cond.methodLink RX9 153 yX9_bears) ∈ wn_all := wn_in15 _ (List.mem_of_getElem? (i := 5) rfl)
theorem wm_726 : (Cond.instanceMethod yX9_bears) ∈ wn_all := wn_in15 _ (List.mem_of_getElem? (i := 6) rfl)
theorem wm_727 : (Cond.selects RX9 yX9_bears yX9_bears) ∈ wn_all := wn_in15 _ (List.mem_of_getElem? (i := 7) rfl)
theorem wm_728 : (Cond.methodLink RX9 156 yX9_isFull) ∈ wn_all := wn_in15 _ (List.mem_of_getElem? (i := 8) rfl)
theorem wm_729 : (Cond.instanceMethod yX9_isFull) ∈ wn_all := wn_in15 _ (List.mem_of_getElem? (i := 9) rfl)
theorem wm_730 : (Cond.selects RX9 yX9_isFull yX9_isFull) ∈ wn_all := wn_in15 _ (List.mem_of_getElem? (i := 10) rfl)
theorem wm_731 : (Cond.code yX9_use cX9_use 3 (some .int)) ∈ wn_all := wn_in15 _ (List.mem_of_getElem? (i := 11) rfl)
theorem wm_732 : (Cond.constantLong RX9 159 (2)) ∈ wn_all := wn_in15 _ (List.mem_of_getElem? (i := 12) rfl)
theorem wm_733 : (Cond.code yX9_mean cX9_mean 12 (some .int)) ∈ wn_all := wn_in15 _ (List.mem_of_getElem? (i := 13) rfl)
theorem wm_734 : (Cond.code yX9_leadsTo cX9_leadsTo 6 (some .int)) ∈ wn_all := wn_in15 _ (List.mem_of_getElem? (i := 14) rfl)
theorem wm_735 : (Cond.code yX9_isClosed cX9_isClosed 4 (some .boolean)) ∈ wn_all := wn_in15 _ (List.mem_of_getElem? (i := 15) rfl)
theorem wm_736 : (Cond.methodLink RX9 161 yX9_leadsTo) ∈ wn_all := wn_in15 _ (List.mem_of_getElem? (i := 16) rfl)
theorem wm_737 : (Cond.instanceMethod yX9_leadsTo) ∈ wn_all := wn_in15 _ (List.mem_of_getElem? (i := 17) rfl)
theorem wm_738 : (Cond.selects RX9 yX9_leadsTo yX9_leadsTo) ∈ wn_all := wn_in15 _ (List.mem_of_getElem? (i := 18) rfl)
theorem wm_739 : (Cond.code yX9_closed cX9_closed 1 (some .int)) ∈ wn_all := wn_in15 _ (List.mem_of_getElem? (i := 19) rfl)
theorem wm_740 : (Cond.methodLink RX9 164 yX9_isClosed) ∈ wn_all := wn_in15 _ (List.mem_of_getElem? (i := 20) rfl)
theorem wm_741 : (Cond.instanceMethod yX9_isClosed) ∈ wn_all := wn_in15 _ (List.mem_of_getElem? (i := 21) rfl)
theorem wm_742 : (Cond.selects RX9 yX9_isClosed yX9_isClosed) ∈ wn_all := wn_in15 _ (List.mem_of_getElem? (i := 22) rfl)
theorem wm_743 : (Cond.code yX9_setVisits cX9_setVisits 5 none) ∈ wn_all := wn_in15 _ (List.mem_of_getElem? (i := 23) rfl)
theorem wm_744 : (Cond.methodLink RX9 167 yX9_setVisits) ∈ wn_all := wn_in15 _ (List.mem_of_getElem? (i := 24) rfl)
theorem wm_745 : (Cond.instanceMethod yX9_setVisits) ∈ wn_all := wn_in15 _ (List.mem_of_getElem? (i := 25) rfl)
theorem wm_746 : (Cond.selects RX9 yX9_setVisits yX9_setVisits) ∈ wn_all := wn_in15 _ (List.mem_of_getElem? (i := 26) rfl)
theorem wm_747 : (Cond.code yX9_askedClosed cX9_askedClosed 3 (some .int)) ∈ wn_all := wn_in15 _ (List.mem_of_getElem? (i := 27) rfl)
theorem wm_748 : (Cond.methodLink RX9 170 yX9_askedClosed) ∈ wn_all := wn_in15 _ (List.mem_of_getElem? (i := 28) rfl)
theorem wm_749 : (Cond.instanceMethod yX9_askedClosed) ∈ wn_all := wn_in15 _ (List.mem_of_getElem? (i := 29) rfl)
theorem wm_750 : (Cond.selects RX9 yX9_askedClosed yX9_askedClosed) ∈ wn_all := wn_in15 _ (List.mem_of_getElem? (i := 30) rfl)
theorem wm_751 : (Cond.code yX9_visits cX9_visits 3 (some .int)) ∈ wn_all := wn_in15 _ (List.mem_of_getElem? (i := 31) rfl)
theorem wm_752 : (Cond.code yX9_part cX9_part 2 (some .long)) ∈ wn_all := wn_in15 _ (List.mem_of_getElem? (i := 32) rfl)
theorem wm_753 : (Cond.code yX9_weightAt cX9_weightAt 6 (some .long)) ∈ wn_all := wn_in15 _ (List.mem_of_getElem? (i := 33) rfl)
theorem wm_754 : (Cond.methodLink RX9 173 yX9_part) ∈ wn_all := wn_in15 _ (List.mem_of_getElem? (i := 34) rfl)
theorem wm_755 : (Cond.instanceMethod yX9_part) ∈ wn_all := wn_in15 _ (List.mem_of_getElem? (i := 35) rfl)
theorem wm_756 : (Cond.selects RX9 yX9_part yX9_part) ∈ wn_all := wn_in15 _ (List.mem_of_getElem? (i := 36) rfl)
theorem wm_757 : (Cond.code yX9_nextState cX9_nextState 5 (some .boolean)) ∈ wn_all := wn_in15 _ (List.mem_of_getElem? (i := 37) rfl)
theorem wm_758 : (Cond.fieldLink RX9 176 "WaitingNetsModel" "code" "I") ∈ wn_all := wn_in15 _ (List.mem_of_getElem? (i := 38) rfl)
theorem wm_759 : (Cond.code yX9_weight cX9_weight 4 (some .long)) ∈ wn_all := wn_in15 _ (List.mem_of_getElem? (i := 39) rfl)
theorem wm_760 : (Cond.methodLink RX9 179 yX9_weightAt) ∈ wn_all := wn_in15 _ (List.mem_of_getElem? (i := 40) rfl)
theorem wm_761 : (Cond.instanceMethod yX9_weightAt) ∈ wn_all := wn_in15 _ (List.mem_of_getElem? (i := 41) rfl)
theorem wm_762 : (Cond.selects RX9 yX9_weightAt yX9_weightAt) ∈ wn_all := wn_in15 _ (List.mem_of_getElem? (i := 42) rfl)
theorem wm_763 : (Cond.code yX9_sumOf cX9_sumOf 5 (some .long)) ∈ wn_all := wn_in15 _ (List.mem_of_getElem? (i := 43) rfl)
theorem wm_764 : (Cond.methodLink RX9 182 yX9_nextState) ∈ wn_all := wn_in15 _ (List.mem_of_getElem? (i := 44) rfl)
theorem wm_765 : (Cond.instanceMethod yX9_nextState) ∈ wn_all := wn_in15 _ (List.mem_of_getElem? (i := 45) rfl)
theorem wm_766 : (Cond.selects RX9 yX9_nextState yX9_nextState) ∈ wn_all := wn_in15 _ (List.mem_of_getElem? (i := 46) rfl)
theorem wm_767 : (Cond.methodLink RX9 185 yX9_weight) ∈ wn_all := wn_in15 _ (List.mem_of_getElem? (i := 47) rfl)
theorem wm_768 : (Cond.instanceMethod yX9_weight) ∈ wn_all := wn_in16 _ (List.mem_of_getElem? (i := 0) rfl)
theorem wm_769 : (Cond.selects RX9 yX9_weight yX9_weight) ∈ wn_all := wn_in16 _ (List.mem_of_getElem? (i := 1) rfl)
theorem wm_770 : (Cond.methodLink RX9 189 yX9_sumOf) ∈ wn_all := wn_in16 _ (List.mem_of_getElem? (i := 2) rfl)
theorem wm_771 : (Cond.instanceMethod yX9_sumOf) ∈ wn_all := wn_in16 _ (List.mem_of_getElem? (i := 3) rfl)
theorem wm_772 : (Cond.selects RX9 yX9_sumOf yX9_sumOf) ∈ wn_all := wn_in16 _ (List.mem_of_getElem? (i := 4) rfl)
theorem wm_773 : (Cond.code yX9_chance cX9_chance 7 (some .int)) ∈ wn_all := wn_in16 _ (List.mem_of_getElem? (i := 5) rfl)
theorem wm_774 : (Cond.code yX9_isMany cX9_isMany 1 (some .boolean)) ∈ wn_all := wn_in16 _ (List.mem_of_getElem? (i := 6) rfl)
theorem wm_775 : (Cond.constantLong RX9 195 (12)) ∈ wn_all := wn_in16 _ (List.mem_of_getElem? (i := 7) rfl)
theorem wm_776 : (Cond.methodLink RX9 192 yX9_isMany) ∈ wn_all := wn_in16 _ (List.mem_of_getElem? (i := 8) rfl)
theorem wm_777 : (Cond.static yX9_isMany) ∈ wn_all := wn_in16 _ (List.mem_of_getElem? (i := 9) rfl)
theorem wm_778 : (Cond.code yX9_through cX9_through 4 (some .int)) ∈ wn_all := wn_in16 _ (List.mem_of_getElem? (i := 10) rfl)
theorem wm_779 : (Cond.code yX9_meanOf cX9_meanOf 4 (some .int)) ∈ wn_all := wn_in16 _ (List.mem_of_getElem? (i := 11) rfl)
theorem wm_780 : (Cond.code yX9_round cX9_round 4 (some .int)) ∈ wn_all := wn_in16 _ (List.mem_of_getElem? (i := 12) rfl)
theorem wm_781 : (Cond.code yX9_narrowOf cX9_narrowOf 3 (some .int)) ∈ wn_all := wn_in16 _ (List.mem_of_getElem? (i := 13) rfl)
theorem wm_782 : (Cond.methodLink RX9 197 yX9_narrowOf) ∈ wn_all := wn_in16 _ (List.mem_of_getElem? (i := 14) rfl)
theorem wm_783 : (Cond.instanceMethod yX9_narrowOf) ∈ wn_all := wn_in16 _ (List.mem_of_getElem? (i := 15) rfl)
theorem wm_784 : (Cond.selects RX9 yX9_narrowOf yX9_narrowOf) ∈ wn_all := wn_in16 _ (List.mem_of_getElem? (i := 16) rfl)
theorem wm_785 : (Cond.code yX9_narrow cX9_narrow 1 (some .int)) ∈ wn_all := wn_in16 _ (List.mem_of_getElem? (i := 17) rfl)
theorem wm_786 : (Cond.code yX9_bound cX9_bound 13 (some .int)) ∈ wn_all := wn_in16 _ (List.mem_of_getElem? (i := 18) rfl)
theorem wm_787 : (Cond.code yX9_isAbove cX9_isAbove 23 (some .boolean)) ∈ wn_all := wn_in16 _ (List.mem_of_getElem? (i := 19) rfl)
theorem wm_788 : (Cond.methodLink RX9 200 yX9_isAbove) ∈ wn_all := wn_in16 _ (List.mem_of_getElem? (i := 20) rfl)
theorem wm_789 : (Cond.static yX9_isAbove) ∈ wn_all := wn_in16 _ (List.mem_of_getElem? (i := 21) rfl)
theorem wm_790 : (Cond.code yX9_best cX9_best 13 (some .int)) ∈ wn_all := wn_in16 _ (List.mem_of_getElem? (i := 22) rfl)
theorem wm_791 : (Cond.code yX9_sends cX9_sends 3 (some .int)) ∈ wn_all := wn_in16 _ (List.mem_of_getElem? (i := 23) rfl)
theorem wm_792 : (Cond.methodLink RX9 204 yX9_sends) ∈ wn_all := wn_in16 _ (List.mem_of_getElem? (i := 24) rfl)
theorem wm_793 : (Cond.instanceMethod yX9_sends) ∈ wn_all := wn_in16 _ (List.mem_of_getElem? (i := 25) rfl)
theorem wm_794 : (Cond.selects RX9 yX9_sends yX9_sends) ∈ wn_all := wn_in16 _ (List.mem_of_getElem? (i := 26) rfl)
theorem wm_795 : (Cond.code yX9_balance cX9_balance 9 (some .int)) ∈ wn_all := wn_in16 _ (List.mem_of_getElem? (i := 27) rfl)
theorem wm_796 : (Cond.code yX9_ranked cX9_ranked 12 (some .int)) ∈ wn_all := wn_in16 _ (List.mem_of_getElem? (i := 28) rfl)
theorem wm_797 : (Cond.code yX9_power cX9_power 6 (some .long)) ∈ wn_all := wn_in16 _ (List.mem_of_getElem? (i := 29) rfl)
theorem wm_798 : (Cond.methodLink RX9 207 yX9_power) ∈ wn_all := wn_in16 _ (List.mem_of_getElem? (i := 30) rfl)
theorem wm_799 : (Cond.static yX9_power) ∈ wn_all := wn_in16 _ (List.mem_of_getElem? (i := 31) rfl)
theorem wm_800 : (Cond.code yX9_roomed cX9_roomed 9 (some .int)) ∈ wn_all := wn_in16 _ (List.mem_of_getElem? (i := 32) rfl)
theorem wm_801 : (Cond.code yX9_askedChain cX9_askedChain 4 (some .int)) ∈ wn_all := wn_in16 _ (List.mem_of_getElem? (i := 33) rfl)
theorem wm_802 : (Cond.code yX9_areRates cX9_areRates 5 (some .boolean)) ∈ wn_all := wn_in16 _ (List.mem_of_getElem? (i := 34) rfl)
theorem wm_803 : (Cond.code yX9_rateOf cX9_rateOf 5 (some .int)) ∈ wn_all := wn_in16 _ (List.mem_of_getElem? (i := 35) rfl)
theorem wm_804 : (Cond.code yX9_comesTo cX9_comesTo 8 (some .int)) ∈ wn_all := wn_in16 _ (List.mem_of_getElem? (i := 36) rfl)
theorem wm_805 : (Cond.methodLink RX9 211 yX9_rateOf) ∈ wn_all := wn_in16 _ (List.mem_of_getElem? (i := 37) rfl)
theorem wm_806 : (Cond.instanceMethod yX9_rateOf) ∈ wn_all := wn_in16 _ (List.mem_of_getElem? (i := 38) rfl)
theorem wm_807 : (Cond.selects RX9 yX9_rateOf yX9_rateOf) ∈ wn_all := wn_in16 _ (List.mem_of_getElem? (i := 39) rfl)
theorem wm_808 : (Cond.code yX9_partsOf cX9_partsOf 9 (some .int)) ∈ wn_all := wn_in16 _ (List.mem_of_getElem? (i := 40) rfl)
theorem wm_809 : (Cond.fieldLink RX9 215 "WaitingNetsModel" "firstPart" "I") ∈ wn_all := wn_in16 _ (List.mem_of_getElem? (i := 41) rfl)
theorem wm_810 : (Cond.methodLink RX9 218 yX9_comesTo) ∈ wn_all := wn_in16 _ (List.mem_of_getElem? (i := 42) rfl)
theorem wm_811 : (Cond.instanceMethod yX9_comesTo) ∈ wn_all := wn_in16 _ (List.mem_of_getElem? (i := 43) rfl)
theorem wm_812 : (Cond.selects RX9 yX9_comesTo yX9_comesTo) ∈ wn_all := wn_in16 _ (List.mem_of_getElem? (i := 44) rfl)
theorem wm_813 : (Cond.methodLink RX9 222 yX9_askedChain) ∈ wn_all := wn_in16 _ (List.mem_of_getElem? (i := 45) rfl)
theorem wm_814 : (Cond.instanceMethod yX9_askedChain) ∈ wn_all := wn_in16 _ (List.mem_of_getElem? (i := 46) rfl)
theorem wm_815 : (Cond.selects RX9 yX9_askedChain yX9_askedChain) ∈ wn_all := wn_in16 _ (List.mem_of_getElem? (i := 47) rfl)
theorem wm_816 : (Cond.methodLink RX9 225 yX9_areRates) ∈ wn_all := wn_in17 _ (List.mem_of_getElem? (i := 0) rfl)
theorem wm_817 : (Cond.instanceMethod yX9_areRates) ∈ wn_all := wn_in17 _ (List.mem_of_getElem? (i := 1) rfl)
theorem wm_818 : (Cond.selects RX9 yX9_areRates yX9_areRates) ∈ wn_all := wn_in17 _ (List.mem_of_getElem? (i := 2) rfl)
theorem wm_819 : (Cond.methodLink RX9 229 yX9_partsOf) ∈ wn_all := wn_in17 _ (List.mem_of_getElem? (i := 3) rfl)
theorem wm_820 : (Cond.instanceMethod yX9_partsOf) ∈ wn_all := wn_in17 _ (List.mem_of_getElem? (i := 4) rfl)
theorem wm_821 : (Cond.selects RX9 yX9_partsOf yX9_partsOf) ∈ wn_all := wn_in17 _ (List.mem_of_getElem? (i := 5) rfl)
theorem wm_822 : (Cond.code yX9_lasting cX9_lasting 8 (some .int)) ∈ wn_all := wn_in17 _ (List.mem_of_getElem? (i := 6) rfl)
theorem wm_823 : (Cond.code yX9_parts cX9_parts 4 (some .int)) ∈ wn_all := wn_in17 _ (List.mem_of_getElem? (i := 7) rfl)
theorem wm_824 : (Cond.constant RX9 232 (1000000)) ∈ wn_all := wn_in17 _ (List.mem_of_getElem? (i := 8) rfl)
theorem wm_825 : (Cond.code yX9_judge cX9_judge 13 (some .int)) ∈ wn_all := wn_in17 _ (List.mem_of_getElem? (i := 9) rfl)
theorem wm_826 : (Cond.code yX9_askedRun cX9_askedRun 14 (some .int)) ∈ wn_all := wn_in17 _ (List.mem_of_getElem? (i := 10) rfl)
theorem wm_827 : (Cond.constant RX9 233 (100000)) ∈ wn_all := wn_in17 _ (List.mem_of_getElem? (i := 11) rfl)
theorem wm_828 : (Cond.methodLink RX9 234 yX9_askedRun) ∈ wn_all := wn_in17 _ (List.mem_of_getElem? (i := 12) rfl)
theorem wm_829 : (Cond.instanceMethod yX9_askedRun) ∈ wn_all := wn_in17 _ (List.mem_of_getElem? (i := 13) rfl)
theorem wm_830 : (Cond.selects RX9 yX9_askedRun yX9_askedRun) ∈ wn_all := wn_in17 _ (List.mem_of_getElem? (i := 14) rfl)
theorem wm_831 : (Cond.code yX9_waited cX9_waited 6 (some .int)) ∈ wn_all := wn_in17 _ (List.mem_of_getElem? (i := 15) rfl)
theorem wm_832 : (Cond.code yX9_seen cX9_seen 8 (some .int)) ∈ wn_all := wn_in17 _ (List.mem_of_getElem? (i := 16) rfl)
theorem wm_833 : (Cond.code yX9_asked cX9_asked 1 (some .int)) ∈ wn_all := wn_in17 _ (List.mem_of_getElem? (i := 17) rfl)
theorem wm_834 : (Cond.code yX9_upper cX9_upper 1 (some .long)) ∈ wn_all := wn_in17 _ (List.mem_of_getElem? (i := 18) rfl)
theorem wm_835 : (Cond.code yX9_lower cX9_lower 1 (some .long)) ∈ wn_all := wn_in17 _ (List.mem_of_getElem? (i := 19) rfl)
theorem wm_836 : (Cond.code yX9_count cX9_count 4 (some .int)) ∈ wn_all := wn_in17 _ (List.mem_of_getElem? (i := 20) rfl)
theorem wm_837 : (Cond.code yX9_finding cX9_finding 1 (some .int)) ∈ wn_all := wn_in17 _ (List.mem_of_getElem? (i := 21) rfl)
theorem wm_838 : (Cond.code yX9_findings cX9_findings 2 (some .int)) ∈ wn_all := wn_in17 _ (List.mem_of_getElem? (i := 22) rfl)
theorem wm_839 : (Cond.code yX9_mix cX9_mix 2 none) ∈ wn_all := wn_in17 _ (List.mem_of_getElem? (i := 23) rfl)
theorem wm_840 : (Cond.constantLong RX9 237 (31)) ∈ wn_all := wn_in17 _ (List.mem_of_getElem? (i := 24) rfl)
theorem wm_841 : (Cond.fieldLink RX9 239 "WaitingNetsModel" "h" "J") ∈ wn_all := wn_in17 _ (List.mem_of_getElem? (i := 25) rfl)
theorem wm_842 : (Cond.constantLong RX9 242 (17)) ∈ wn_all := wn_in17 _ (List.mem_of_getElem? (i := 26) rfl)
theorem wm_843 : (Cond.methodLink RX9 244 yX9_mix) ∈ wn_all := wn_in17 _ (List.mem_of_getElem? (i := 27) rfl)
theorem wm_844 : (Cond.instanceMethod yX9_mix) ∈ wn_all := wn_in17 _ (List.mem_of_getElem? (i := 28) rfl)
theorem wm_845 : (Cond.selects RX9 yX9_mix yX9_mix) ∈ wn_all := wn_in17 _ (List.mem_of_getElem? (i := 29) rfl)
theorem wm_846 : (Cond.code yX9_digest cX9_digest 3 (some .long)) ∈ wn_all := wn_in17 _ (List.mem_of_getElem? (i := 30) rfl)
theorem wm_847 : (Cond.code yJ9_abs_067f4 cJ9_abs_067f4 2 (some .long)) ∈ wn_all := wn_in17 _ (List.mem_of_getElem? (i := 31) rfl)
theorem wm_848 : (Cond.code yJ9_max_7cf53 cJ9_max_7cf53 2 (some .int)) ∈ wn_all := wn_in17 _ (List.mem_of_getElem? (i := 32) rfl)
theorem wm_849 : (Cond.code yJ9_min_7cf53 cJ9_min_7cf53 2 (some .int)) ∈ wn_all := wn_in17 _ (List.mem_of_getElem? (i := 33) rfl)
theorem wm_850 : (Cond.classLink RL 7 RX8) ∈ wn_all := wn_in17 _ (List.mem_of_getElem? (i := 34) rfl)
theorem wm_851 : (Cond.instantiable RX8 9) ∈ wn_all := wn_in17 _ (List.mem_of_getElem? (i := 35) rfl)
theorem wm_852 : (Cond.classLink RL 10 RX9) ∈ wn_all := wn_in17 _ (List.mem_of_getElem? (i := 36) rfl)
theorem wm_853 : (Cond.instantiable RX9 26) ∈ wn_all := wn_in17 _ (List.mem_of_getElem? (i := 37) rfl)
theorem wm_854 : (Cond.methodLink RL 9 yX8_init) ∈ wn_all := wn_in17 _ (List.mem_of_getElem? (i := 38) rfl)
theorem wm_855 : (Cond.instanceMethod yX8_init) ∈ wn_all := wn_in17 _ (List.mem_of_getElem? (i := 39) rfl)
theorem wm_856 : (Cond.methodLink RL 12 yX9_init) ∈ wn_all := wn_in17 _ (List.mem_of_getElem? (i := 40) rfl)
theorem wm_857 : (Cond.instanceMethod yX9_init) ∈ wn_all := wn_in17 _ (List.mem_of_getElem? (i := 41) rfl)
theorem wm_858 : (Cond.methodLink RL 13 yX8_row) ∈ wn_all := wn_in17 _ (List.mem_of_getElem? (i := 42) rfl)
theorem wm_859 : (Cond.instanceMethod yX8_row) ∈ wn_all := wn_in17 _ (List.mem_of_getElem? (i := 43) rfl)
theorem wm_860 : (Cond.selects RX8 yX8_row yX8_row) ∈ wn_all := wn_in17 _ (List.mem_of_getElem? (i := 44) rfl)
theorem wm_861 : (Cond.methodLink RL 17 yX9_row) ∈ wn_all := wn_in17 _ (List.mem_of_getElem? (i := 45) rfl)
theorem wm_862 : (Cond.instanceMethod yX9_row) ∈ wn_all := wn_in17 _ (List.mem_of_getElem? (i := 46) rfl)
theorem wm_863 : (Cond.selects RX9 yX9_row yX9_row) ∈ wn_all := wn_in17 _ (List.mem_of_getElem? (i := 47) rfl)
theorem wm_864 : (Cond.methodLink RL 18 yX8_lay) ∈ wn_all := wn_in18 _ (List.mem_of_getElem? (i := 0) rfl)
theorem wm_865 : (Cond.instanceMethod yX8_lay) ∈ wn_all := wn_in18 _ (List.mem_of_getElem? (i := 1) rfl)
theorem wm_866 : (Cond.selects RX8 yX8_lay yX8_lay) ∈ wn_all := wn_in18 _ (List.mem_of_getElem? (i := 2) rfl)
theorem wm_867 : (Cond.methodLink RL 22 yX9_lay) ∈ wn_all := wn_in18 _ (List.mem_of_getElem? (i := 3) rfl)
theorem wm_868 : (Cond.instanceMethod yX9_lay) ∈ wn_all := wn_in18 _ (List.mem_of_getElem? (i := 4) rfl)
theorem wm_869 : (Cond.selects RX9 yX9_lay yX9_lay) ∈ wn_all := wn_in18 _ (List.mem_of_getElem? (i := 5) rfl)
theorem wm_870 : (Cond.methodLink RL 23 yX8_tear) ∈ wn_all := wn_in18 _ (List.mem_of_getElem? (i := 6) rfl)
theorem wm_871 : (Cond.instanceMethod yX8_tear) ∈ wn_all := wn_in18 _ (List.mem_of_getElem? (i := 7) rfl)
theorem wm_872 : (Cond.selects RX8 yX8_tear yX8_tear) ∈ wn_all := wn_in18 _ (List.mem_of_getElem? (i := 8) rfl)
theorem wm_873 : (Cond.methodLink RL 27 yX9_tear) ∈ wn_all := wn_in18 _ (List.mem_of_getElem? (i := 9) rfl)
theorem wm_874 : (Cond.instanceMethod yX9_tear) ∈ wn_all := wn_in18 _ (List.mem_of_getElem? (i := 10) rfl)
theorem wm_875 : (Cond.selects RX9 yX9_tear yX9_tear) ∈ wn_all := wn_in18 _ (List.mem_of_getElem? (i := 11) rfl)
theorem wm_876 : (Cond.methodLink RL 28 yX8_copy) ∈ wn_all := wn_in18 _ (List.mem_of_getElem? (i := 12) rfl)
theorem wm_877 : (Cond.instanceMethod yX8_copy) ∈ wn_all := wn_in18 _ (List.mem_of_getElem? (i := 13) rfl)
theorem wm_878 : (Cond.selects RX8 yX8_copy yX8_copy) ∈ wn_all := wn_in18 _ (List.mem_of_getElem? (i := 14) rfl)
theorem wm_879 : (Cond.methodLink RL 32 yX9_copy) ∈ wn_all := wn_in18 _ (List.mem_of_getElem? (i := 15) rfl)
theorem wm_880 : (Cond.instanceMethod yX9_copy) ∈ wn_all := wn_in18 _ (List.mem_of_getElem? (i := 16) rfl)
theorem wm_881 : (Cond.selects RX9 yX9_copy yX9_copy) ∈ wn_all := wn_in18 _ (List.mem_of_getElem? (i := 17) rfl)
theorem wm_882 : (Cond.methodLink RL 33 yX8_average) ∈ wn_all := wn_in18 _ (List.mem_of_getElem? (i := 18) rfl)
theorem wm_883 : (Cond.instanceMethod yX8_average) ∈ wn_all := wn_in18 _ (List.mem_of_getElem? (i := 19) rfl)
theorem wm_884 : (Cond.selects RX8 yX8_average yX8_average) ∈ wn_all := wn_in18 _ (List.mem_of_getElem? (i := 20) rfl)
theorem wm_885 : (Cond.methodLink RL 36 yX9_average) ∈ wn_all := wn_in18 _ (List.mem_of_getElem? (i := 21) rfl)
theorem wm_886 : (Cond.instanceMethod yX9_average) ∈ wn_all := wn_in18 _ (List.mem_of_getElem? (i := 22) rfl)
theorem wm_887 : (Cond.selects RX9 yX9_average yX9_average) ∈ wn_all := wn_in18 _ (List.mem_of_getElem? (i := 23) rfl)
theorem wm_888 : (Cond.methodLink RL 37 yX8_counter) ∈ wn_all := wn_in18 _ (List.mem_of_getElem? (i := 24) rfl)
theorem wm_889 : (Cond.instanceMethod yX8_counter) ∈ wn_all := wn_in18 _ (List.mem_of_getElem? (i := 25) rfl)
theorem wm_890 : (Cond.selects RX8 yX8_counter yX8_counter) ∈ wn_all := wn_in18 _ (List.mem_of_getElem? (i := 26) rfl)
theorem wm_891 : (Cond.methodLink RL 40 yX9_counter) ∈ wn_all := wn_in18 _ (List.mem_of_getElem? (i := 27) rfl)
theorem wm_892 : (Cond.instanceMethod yX9_counter) ∈ wn_all := wn_in18 _ (List.mem_of_getElem? (i := 28) rfl)
theorem wm_893 : (Cond.selects RX9 yX9_counter yX9_counter) ∈ wn_all := wn_in18 _ (List.mem_of_getElem? (i := 29) rfl)
theorem wm_894 : (Cond.methodLink RL 41 yX8_drop) ∈ wn_all := wn_in18 _ (List.mem_of_getElem? (i := 30) rfl)
theorem wm_895 : (Cond.instanceMethod yX8_drop) ∈ wn_all := wn_in18 _ (List.mem_of_getElem? (i := 31) rfl)
theorem wm_896 : (Cond.selects RX8 yX8_drop yX8_drop) ∈ wn_all := wn_in18 _ (List.mem_of_getElem? (i := 32) rfl)
theorem wm_897 : (Cond.methodLink RL 44 yX9_drop) ∈ wn_all := wn_in18 _ (List.mem_of_getElem? (i := 33) rfl)
theorem wm_898 : (Cond.instanceMethod yX9_drop) ∈ wn_all := wn_in18 _ (List.mem_of_getElem? (i := 34) rfl)
theorem wm_899 : (Cond.selects RX9 yX9_drop yX9_drop) ∈ wn_all := wn_in18 _ (List.mem_of_getElem? (i := 35) rfl)
theorem wm_900 : (Cond.methodLink RL 45 yX8_rate) ∈ wn_all := wn_in18 _ (List.mem_of_getElem? (i := 36) rfl)
theorem wm_901 : (Cond.instanceMethod yX8_rate) ∈ wn_all := wn_in18 _ (List.mem_of_getElem? (i := 37) rfl)
theorem wm_902 : (Cond.selects RX8 yX8_rate yX8_rate) ∈ wn_all := wn_in18 _ (List.mem_of_getElem? (i := 38) rfl)
theorem wm_903 : (Cond.methodLink RL 48 yX9_rate) ∈ wn_all := wn_in18 _ (List.mem_of_getElem? (i := 39) rfl)
theorem wm_904 : (Cond.instanceMethod yX9_rate) ∈ wn_all := wn_in18 _ (List.mem_of_getElem? (i := 40) rfl)
theorem wm_905 : (Cond.selects RX9 yX9_rate yX9_rate) ∈ wn_all := wn_in18 _ (List.mem_of_getElem? (i := 41) rfl)
theorem wm_906 : (Cond.methodLink RL 49 yX8_hands) ∈ wn_all := wn_in18 _ (List.mem_of_getElem? (i := 42) rfl)
theorem wm_907 : (Cond.instanceMethod yX8_hands) ∈ wn_all := wn_in18 _ (List.mem_of_getElem? (i := 43) rfl)
theorem wm_908 : (Cond.selects RX8 yX8_hands yX8_hands) ∈ wn_all := wn_in18 _ (List.mem_of_getElem? (i := 44) rfl)
theorem wm_909 : (Cond.methodLink RL 52 yX9_hands) ∈ wn_all := wn_in18 _ (List.mem_of_getElem? (i := 45) rfl)
theorem wm_910 : (Cond.instanceMethod yX9_hands) ∈ wn_all := wn_in18 _ (List.mem_of_getElem? (i := 46) rfl)
theorem wm_911 : (Cond.selects RX9 yX9_hands yX9_hands) ∈ wn_all := wn_in18 _ (List.mem_of_getElem? (i := 47) rfl)
theorem wm_912 : (Cond.methodLink RL 53 yX8_room) ∈ wn_all := wn_in19 _ (List.mem_of_getElem? (i := 0) rfl)
theorem wm_913 : (Cond.instanceMethod yX8_room) ∈ wn_all := wn_in19 _ (List.mem_of_getElem? (i := 1) rfl)
theorem wm_914 : (Cond.selects RX8 yX8_room yX8_room) ∈ wn_all := wn_in19 _ (List.mem_of_getElem? (i := 2) rfl)
theorem wm_915 : (Cond.methodLink RL 56 yX9_room) ∈ wn_all := wn_in19 _ (List.mem_of_getElem? (i := 3) rfl)
theorem wm_916 : (Cond.instanceMethod yX9_room) ∈ wn_all := wn_in19 _ (List.mem_of_getElem? (i := 4) rfl)
theorem wm_917 : (Cond.selects RX9 yX9_room yX9_room) ∈ wn_all := wn_in19 _ (List.mem_of_getElem? (i := 5) rfl)
theorem wm_918 : (Cond.methodLink RL 57 yX8_way) ∈ wn_all := wn_in19 _ (List.mem_of_getElem? (i := 6) rfl)
theorem wm_919 : (Cond.instanceMethod yX8_way) ∈ wn_all := wn_in19 _ (List.mem_of_getElem? (i := 7) rfl)
theorem wm_920 : (Cond.selects RX8 yX8_way yX8_way) ∈ wn_all := wn_in19 _ (List.mem_of_getElem? (i := 8) rfl)
theorem wm_921 : (Cond.methodLink RL 60 yX9_way) ∈ wn_all := wn_in19 _ (List.mem_of_getElem? (i := 9) rfl)
theorem wm_922 : (Cond.instanceMethod yX9_way) ∈ wn_all := wn_in19 _ (List.mem_of_getElem? (i := 10) rfl)
theorem wm_923 : (Cond.selects RX9 yX9_way yX9_way) ∈ wn_all := wn_in19 _ (List.mem_of_getElem? (i := 11) rfl)
theorem wm_924 : (Cond.methodLink RL 61 yX8_comes) ∈ wn_all := wn_in19 _ (List.mem_of_getElem? (i := 12) rfl)
theorem wm_925 : (Cond.instanceMethod yX8_comes) ∈ wn_all := wn_in19 _ (List.mem_of_getElem? (i := 13) rfl)
theorem wm_926 : (Cond.selects RX8 yX8_comes yX8_comes) ∈ wn_all := wn_in19 _ (List.mem_of_getElem? (i := 14) rfl)
theorem wm_927 : (Cond.methodLink RL 64 yX9_comes) ∈ wn_all := wn_in19 _ (List.mem_of_getElem? (i := 15) rfl)
theorem wm_928 : (Cond.instanceMethod yX9_comes) ∈ wn_all := wn_in19 _ (List.mem_of_getElem? (i := 16) rfl)
theorem wm_929 : (Cond.selects RX9 yX9_comes yX9_comes) ∈ wn_all := wn_in19 _ (List.mem_of_getElem? (i := 17) rfl)
theorem wm_930 : (Cond.methodLink RL 65 yX8_told) ∈ wn_all := wn_in19 _ (List.mem_of_getElem? (i := 18) rfl)
theorem wm_931 : (Cond.instanceMethod yX8_told) ∈ wn_all := wn_in19 _ (List.mem_of_getElem? (i := 19) rfl)
theorem wm_932 : (Cond.selects RX8 yX8_told yX8_told) ∈ wn_all := wn_in19 _ (List.mem_of_getElem? (i := 20) rfl)
theorem wm_933 : (Cond.methodLink RL 68 yX9_told) ∈ wn_all := wn_in19 _ (List.mem_of_getElem? (i := 21) rfl)
theorem wm_934 : (Cond.instanceMethod yX9_told) ∈ wn_all := wn_in19 _ (List.mem_of_getElem? (i := 22) rfl)
theorem wm_935 : (Cond.selects RX9 yX9_told yX9_told) ∈ wn_all := wn_in19 _ (List.mem_of_getElem? (i := 23) rfl)
theorem wm_936 : (Cond.methodLink RL 69 yX8_mark) ∈ wn_all := wn_in19 _ (List.mem_of_getElem? (i := 24) rfl)
theorem wm_937 : (Cond.instanceMethod yX8_mark) ∈ wn_all := wn_in19 _ (List.mem_of_getElem? (i := 25) rfl)
theorem wm_938 : (Cond.selects RX8 yX8_mark yX8_mark) ∈ wn_all := wn_in19 _ (List.mem_of_getElem? (i := 26) rfl)
theorem wm_939 : (Cond.methodLink RL 72 yX9_mark) ∈ wn_all := wn_in19 _ (List.mem_of_getElem? (i := 27) rfl)
theorem wm_940 : (Cond.instanceMethod yX9_mark) ∈ wn_all := wn_in19 _ (List.mem_of_getElem? (i := 28) rfl)
theorem wm_941 : (Cond.selects RX9 yX9_mark yX9_mark) ∈ wn_all := wn_in19 _ (List.mem_of_getElem? (i := 29) rfl)
theorem wm_942 : (Cond.methodLink RL 73 yX8_product) ∈ wn_all := wn_in19 _ (List.mem_of_getElem? (i := 30) rfl)
theorem wm_943 : (Cond.instanceMethod yX8_product) ∈ wn_all := wn_in19 _ (List.mem_of_getElem? (i := 31) rfl)
theorem wm_944 : (Cond.selects RX8 yX8_product yX8_product) ∈ wn_all := wn_in19 _ (List.mem_of_getElem? (i := 32) rfl)
theorem wm_945 : (Cond.methodLink RL 77 yX9_product) ∈ wn_all := wn_in19 _ (List.mem_of_getElem? (i := 33) rfl)
theorem wm_946 : (Cond.instanceMethod yX9_product) ∈ wn_all := wn_in19 _ (List.mem_of_getElem? (i := 34) rfl)
theorem wm_947 : (Cond.selects RX9 yX9_product yX9_product) ∈ wn_all := wn_in19 _ (List.mem_of_getElem? (i := 35) rfl)
theorem wm_948 : (Cond.methodLink RL 78 yX8_kept) ∈ wn_all := wn_in19 _ (List.mem_of_getElem? (i := 36) rfl)
theorem wm_949 : (Cond.instanceMethod yX8_kept) ∈ wn_all := wn_in19 _ (List.mem_of_getElem? (i := 37) rfl)
theorem wm_950 : (Cond.selects RX8 yX8_kept yX8_kept) ∈ wn_all := wn_in19 _ (List.mem_of_getElem? (i := 38) rfl)
theorem wm_951 : (Cond.methodLink RL 81 yX9_kept) ∈ wn_all := wn_in19 _ (List.mem_of_getElem? (i := 39) rfl)
theorem wm_952 : (Cond.instanceMethod yX9_kept) ∈ wn_all := wn_in19 _ (List.mem_of_getElem? (i := 40) rfl)
theorem wm_953 : (Cond.selects RX9 yX9_kept yX9_kept) ∈ wn_all := wn_in19 _ (List.mem_of_getElem? (i := 41) rfl)
theorem wm_954 : (Cond.methodLink RL 82 yX8_flow) ∈ wn_all := wn_in19 _ (List.mem_of_getElem? (i := 42) rfl)
theorem wm_955 : (Cond.instanceMethod yX8_flow) ∈ wn_all := wn_in19 _ (List.mem_of_getElem? (i := 43) rfl)
theorem wm_956 : (Cond.selects RX8 yX8_flow yX8_flow) ∈ wn_all := wn_in19 _ (List.mem_of_getElem? (i := 44) rfl)
theorem wm_957 : (Cond.methodLink RL 85 yX9_flow) ∈ wn_all := wn_in19 _ (List.mem_of_getElem? (i := 45) rfl)
theorem wm_958 : (Cond.instanceMethod yX9_flow) ∈ wn_all := wn_in19 _ (List.mem_of_getElem? (i := 46) rfl)
theorem wm_959 : (Cond.selects RX9 yX9_flow yX9_flow) ∈ wn_all := wn_in19 _ (List.mem_of_getElem? (i := 47) rfl)
theorem wm_960 : (Cond.methodLink RL 86 yX8_use) ∈ wn_all := wn_in20 _ (List.mem_of_getElem? (i := 0) rfl)
theorem wm_961 : (Cond.instanceMethod yX8_use) ∈ wn_all := wn_in20 _ (List.mem_of_getElem? (i := 1) rfl)
theorem wm_962 : (Cond.selects RX8 yX8_use yX8_use) ∈ wn_all := wn_in20 _ (List.mem_of_getElem? (i := 2) rfl)
theorem wm_963 : (Cond.methodLink RL 89 yX9_use) ∈ wn_all := wn_in20 _ (List.mem_of_getElem? (i := 3) rfl)
theorem wm_964 : (Cond.instanceMethod yX9_use) ∈ wn_all := wn_in20 _ (List.mem_of_getElem? (i := 4) rfl)
theorem wm_965 : (Cond.selects RX9 yX9_use yX9_use) ∈ wn_all := wn_in20 _ (List.mem_of_getElem? (i := 5) rfl)
theorem wm_966 : (Cond.methodLink RL 90 yX8_mean) ∈ wn_all := wn_in20 _ (List.mem_of_getElem? (i := 6) rfl)
theorem wm_967 : (Cond.instanceMethod yX8_mean) ∈ wn_all := wn_in20 _ (List.mem_of_getElem? (i := 7) rfl)
theorem wm_968 : (Cond.selects RX8 yX8_mean yX8_mean) ∈ wn_all := wn_in20 _ (List.mem_of_getElem? (i := 8) rfl)
theorem wm_969 : (Cond.methodLink RL 94 yX9_mean) ∈ wn_all := wn_in20 _ (List.mem_of_getElem? (i := 9) rfl)
theorem wm_970 : (Cond.instanceMethod yX9_mean) ∈ wn_all := wn_in20 _ (List.mem_of_getElem? (i := 10) rfl)
theorem wm_971 : (Cond.selects RX9 yX9_mean yX9_mean) ∈ wn_all := wn_in20 _ (List.mem_of_getElem? (i := 11) rfl)
theorem wm_972 : (Cond.methodLink RL 95 yX8_closed) ∈ wn_all := wn_in20 _ (List.mem_of_getElem? (i := 12) rfl)
theorem wm_973 : (Cond.instanceMethod yX8_closed) ∈ wn_all := wn_in20 _ (List.mem_of_getElem? (i := 13) rfl)
theorem wm_974 : (Cond.selects RX8 yX8_closed yX8_closed) ∈ wn_all := wn_in20 _ (List.mem_of_getElem? (i := 14) rfl)
theorem wm_975 : (Cond.methodLink RL 98 yX9_closed) ∈ wn_all := wn_in20 _ (List.mem_of_getElem? (i := 15) rfl)
theorem wm_976 : (Cond.instanceMethod yX9_closed) ∈ wn_all := wn_in20 _ (List.mem_of_getElem? (i := 16) rfl)
theorem wm_977 : (Cond.selects RX9 yX9_closed yX9_closed) ∈ wn_all := wn_in20 _ (List.mem_of_getElem? (i := 17) rfl)
theorem wm_978 : (Cond.methodLink RL 99 yX8_visits) ∈ wn_all := wn_in20 _ (List.mem_of_getElem? (i := 18) rfl)
theorem wm_979 : (Cond.instanceMethod yX8_visits) ∈ wn_all := wn_in20 _ (List.mem_of_getElem? (i := 19) rfl)
theorem wm_980 : (Cond.selects RX8 yX8_visits yX8_visits) ∈ wn_all := wn_in20 _ (List.mem_of_getElem? (i := 20) rfl)
theorem wm_981 : (Cond.methodLink RL 102 yX9_visits) ∈ wn_all := wn_in20 _ (List.mem_of_getElem? (i := 21) rfl)
theorem wm_982 : (Cond.instanceMethod yX9_visits) ∈ wn_all := wn_in20 _ (List.mem_of_getElem? (i := 22) rfl)
theorem wm_983 : (Cond.selects RX9 yX9_visits yX9_visits) ∈ wn_all := wn_in20 _ (List.mem_of_getElem? (i := 23) rfl)
theorem wm_984 : (Cond.methodLink RL 103 yX8_chance) ∈ wn_all := wn_in20 _ (List.mem_of_getElem? (i := 24) rfl)
theorem wm_985 : (Cond.instanceMethod yX8_chance) ∈ wn_all := wn_in20 _ (List.mem_of_getElem? (i := 25) rfl)
theorem wm_986 : (Cond.selects RX8 yX8_chance yX8_chance) ∈ wn_all := wn_in20 _ (List.mem_of_getElem? (i := 26) rfl)
theorem wm_987 : (Cond.methodLink RL 106 yX9_chance) ∈ wn_all := wn_in20 _ (List.mem_of_getElem? (i := 27) rfl)
theorem wm_988 : (Cond.instanceMethod yX9_chance) ∈ wn_all := wn_in20 _ (List.mem_of_getElem? (i := 28) rfl)
theorem wm_989 : (Cond.selects RX9 yX9_chance yX9_chance) ∈ wn_all := wn_in20 _ (List.mem_of_getElem? (i := 29) rfl)
theorem wm_990 : (Cond.methodLink RL 107 yX8_through) ∈ wn_all := wn_in20 _ (List.mem_of_getElem? (i := 30) rfl)
theorem wm_991 : (Cond.instanceMethod yX8_through) ∈ wn_all := wn_in20 _ (List.mem_of_getElem? (i := 31) rfl)
theorem wm_992 : (Cond.selects RX8 yX8_through yX8_through) ∈ wn_all := wn_in20 _ (List.mem_of_getElem? (i := 32) rfl)
theorem wm_993 : (Cond.methodLink RL 110 yX9_through) ∈ wn_all := wn_in20 _ (List.mem_of_getElem? (i := 33) rfl)
theorem wm_994 : (Cond.instanceMethod yX9_through) ∈ wn_all := wn_in20 _ (List.mem_of_getElem? (i := 34) rfl)
theorem wm_995 : (Cond.selects RX9 yX9_through yX9_through) ∈ wn_all := wn_in20 _ (List.mem_of_getElem? (i := 35) rfl)
theorem wm_996 : (Cond.methodLink RL 111 yX8_meanOf) ∈ wn_all := wn_in20 _ (List.mem_of_getElem? (i := 36) rfl)
theorem wm_997 : (Cond.instanceMethod yX8_meanOf) ∈ wn_all := wn_in20 _ (List.mem_of_getElem? (i := 37) rfl)
theorem wm_998 : (Cond.selects RX8 yX8_meanOf yX8_meanOf) ∈ wn_all := wn_in20 _ (List.mem_of_getElem? (i := 38) rfl)
theorem wm_999 : (Cond.methodLink RL 114 yX9_meanOf) ∈ wn_all := wn_in20 _ (List.mem_of_getElem? (i := 39) rfl)
theorem wm_1000 : (Cond.instanceMethod yX9_meanOf) ∈ wn_all := wn_in20 _ (List.mem_of_getElem? (i := 40) rfl)
theorem wm_1001 : (Cond.selects RX9 yX9_meanOf yX9_meanOf) ∈ wn_all := wn_in20 _ (List.mem_of_getElem? (i := 41) rfl)
theorem wm_1002 : (Cond.methodLink RL 115 yX8_round) ∈ wn_all := wn_in20 _ (List.mem_of_getElem? (i := 42) rfl)
theorem wm_1003 : (Cond.instanceMethod yX8_round) ∈ wn_all := wn_in20 _ (List.mem_of_getElem? (i := 43) rfl)
theorem wm_1004 : (Cond.selects RX8 yX8_round yX8_round) ∈ wn_all := wn_in20 _ (List.mem_of_getElem? (i := 44) rfl)
theorem wm_1005 : (Cond.methodLink RL 118 yX9_round) ∈ wn_all := wn_in20 _ (List.mem_of_getElem? (i := 45) rfl)
theorem wm_1006 : (Cond.instanceMethod yX9_round) ∈ wn_all := wn_in20 _ (List.mem_of_getElem? (i := 46) rfl)
theorem wm_1007 : (Cond.selects RX9 yX9_round yX9_round) ∈ wn_all := wn_in20 _ (List.mem_of_getElem? (i := 47) rfl)
theorem wm_1008 : (Cond.methodLink RL 119 yX8_narrow) ∈ wn_all := wn_in21 _ (List.mem_of_getElem? (i := 0) rfl)
theorem wm_1009 : (Cond.instanceMethod yX8_narrow) ∈ wn_all := wn_in21 _ (List.mem_of_getElem? (i := 1) rfl)
theorem wm_1010 : (Cond.selects RX8 yX8_narrow yX8_narrow) ∈ wn_all := wn_in21 _ (List.mem_of_getElem? (i := 2) rfl)
theorem wm_1011 : (Cond.methodLink RL 122 yX9_narrow) ∈ wn_all := wn_in21 _ (List.mem_of_getElem? (i := 3) rfl)
theorem wm_1012 : (Cond.instanceMethod yX9_narrow) ∈ wn_all := wn_in21 _ (List.mem_of_getElem? (i := 4) rfl)
theorem wm_1013 : (Cond.selects RX9 yX9_narrow yX9_narrow) ∈ wn_all := wn_in21 _ (List.mem_of_getElem? (i := 5) rfl)
theorem wm_1014 : (Cond.methodLink RL 123 yX8_bound) ∈ wn_all := wn_in21 _ (List.mem_of_getElem? (i := 6) rfl)
theorem wm_1015 : (Cond.instanceMethod yX8_bound) ∈ wn_all := wn_in21 _ (List.mem_of_getElem? (i := 7) rfl)
theorem wm_1016 : (Cond.selects RX8 yX8_bound yX8_bound) ∈ wn_all := wn_in21 _ (List.mem_of_getElem? (i := 8) rfl)
theorem wm_1017 : (Cond.methodLink RL 126 yX9_bound) ∈ wn_all := wn_in21 _ (List.mem_of_getElem? (i := 9) rfl)
theorem wm_1018 : (Cond.instanceMethod yX9_bound) ∈ wn_all := wn_in21 _ (List.mem_of_getElem? (i := 10) rfl)
theorem wm_1019 : (Cond.selects RX9 yX9_bound yX9_bound) ∈ wn_all := wn_in21 _ (List.mem_of_getElem? (i := 11) rfl)
theorem wm_1020 : (Cond.methodLink RL 127 yX8_best) ∈ wn_all := wn_in21 _ (List.mem_of_getElem? (i := 12) rfl)
theorem wm_1021 : (Cond.instanceMethod yX8_best) ∈ wn_all := wn_in21 _ (List.mem_of_getElem? (i := 13) rfl)
theorem wm_1022 : (Cond.selects RX8 yX8_best yX8_best) ∈ wn_all := wn_in21 _ (List.mem_of_getElem? (i := 14) rfl)
theorem wm_1023 : (Cond.methodLink RL 130 yX9_best) ∈ wn_all := wn_in21 _ (List.mem_of_getElem? (i := 15) rfl)
theorem wm_1024 : (Cond.instanceMethod yX9_best) ∈ wn_all := wn_in21 _ (List.mem_of_getElem? (i := 16) rfl)
theorem wm_1025 : (Cond.selects RX9 yX9_best yX9_best) ∈ wn_all := wn_in21 _ (List.mem_of_getElem? (i := 17) rfl)
theorem wm_1026 : (Cond.methodLink RL 131 yX8_balance) ∈ wn_all := wn_in21 _ (List.mem_of_getElem? (i := 18) rfl)
theorem wm_1027 : (Cond.instanceMethod yX8_balance) ∈ wn_all := wn_in21 _ (List.mem_of_getElem? (i := 19) rfl)
theorem wm_1028 : (Cond.selects RX8 yX8_balance yX8_balance) ∈ wn_all := wn_in21 _ (List.mem_of_getElem? (i := 20) rfl)
theorem wm_1029 : (Cond.methodLink RL 134 yX9_balance) ∈ wn_all := wn_in21 _ (List.mem_of_getElem? (i := 21) rfl)
theorem wm_1030 : (Cond.instanceMethod yX9_balance) ∈ wn_all := wn_in21 _ (List.mem_of_getElem? (i := 22) rfl)
theorem wm_1031 : (Cond.selects RX9 yX9_balance yX9_balance) ∈ wn_all := wn_in21 _ (List.mem_of_getElem? (i := 23) rfl)
theorem wm_1032 : (Cond.methodLink RL 135 yX8_ranked) ∈ wn_all := wn_in21 _ (List.mem_of_getElem? (i := 24) rfl)
theorem wm_1033 : (Cond.instanceMethod yX8_ranked) ∈ wn_all := wn_in21 _ (List.mem_of_getElem? (i := 25) rfl)
theorem wm_1034 : (Cond.selects RX8 yX8_ranked yX8_ranked) ∈ wn_all := wn_in21 _ (List.mem_of_getElem? (i := 26) rfl)
theorem wm_1035 : (Cond.methodLink RL 139 yX9_ranked) ∈ wn_all := wn_in21 _ (List.mem_of_getElem? (i := 27) rfl)
theorem wm_1036 : (Cond.instanceMethod yX9_ranked) ∈ wn_all := wn_in21 _ (List.mem_of_getElem? (i := 28) rfl)
theorem wm_1037 : (Cond.selects RX9 yX9_ranked yX9_ranked) ∈ wn_all := wn_in21 _ (List.mem_of_getElem? (i := 29) rfl)
theorem wm_1038 : (Cond.methodLink RL 140 yX8_roomed) ∈ wn_all := wn_in21 _ (List.mem_of_getElem? (i := 30) rfl)
theorem wm_1039 : (Cond.instanceMethod yX8_roomed) ∈ wn_all := wn_in21 _ (List.mem_of_getElem? (i := 31) rfl)
theorem wm_1040 : (Cond.selects RX8 yX8_roomed yX8_roomed) ∈ wn_all := wn_in21 _ (List.mem_of_getElem? (i := 32) rfl)
theorem wm_1041 : (Cond.methodLink RL 143 yX9_roomed) ∈ wn_all := wn_in21 _ (List.mem_of_getElem? (i := 33) rfl)
theorem wm_1042 : (Cond.instanceMethod yX9_roomed) ∈ wn_all := wn_in21 _ (List.mem_of_getElem? (i := 34) rfl)
theorem wm_1043 : (Cond.selects RX9 yX9_roomed yX9_roomed) ∈ wn_all := wn_in21 _ (List.mem_of_getElem? (i := 35) rfl)
theorem wm_1044 : (Cond.methodLink RL 144 yX8_lasting) ∈ wn_all := wn_in21 _ (List.mem_of_getElem? (i := 36) rfl)
theorem wm_1045 : (Cond.instanceMethod yX8_lasting) ∈ wn_all := wn_in21 _ (List.mem_of_getElem? (i := 37) rfl)
theorem wm_1046 : (Cond.selects RX8 yX8_lasting yX8_lasting) ∈ wn_all := wn_in21 _ (List.mem_of_getElem? (i := 38) rfl)
theorem wm_1047 : (Cond.methodLink RL 147 yX9_lasting) ∈ wn_all := wn_in21 _ (List.mem_of_getElem? (i := 39) rfl)
theorem wm_1048 : (Cond.instanceMethod yX9_lasting) ∈ wn_all := wn_in21 _ (List.mem_of_getElem? (i := 40) rfl)
theorem wm_1049 : (Cond.selects RX9 yX9_lasting yX9_lasting) ∈ wn_all := wn_in21 _ (List.mem_of_getElem? (i := 41) rfl)
theorem wm_1050 : (Cond.methodLink RL 148 yX8_parts) ∈ wn_all := wn_in21 _ (List.mem_of_getElem? (i := 42) rfl)
theorem wm_1051 : (Cond.instanceMethod yX8_parts) ∈ wn_all := wn_in21 _ (List.mem_of_getElem? (i := 43) rfl)
theorem wm_1052 : (Cond.selects RX8 yX8_parts yX8_parts) ∈ wn_all := wn_in21 _ (List.mem_of_getElem? (i := 44) rfl)
theorem wm_1053 : (Cond.methodLink RL 151 yX9_parts) ∈ wn_all := wn_in21 _ (List.mem_of_getElem? (i := 45) rfl)
theorem wm_1054 : (Cond.instanceMethod yX9_parts) ∈ wn_all := wn_in21 _ (List.mem_of_getElem? (i := 46) rfl)
theorem wm_1055 : (Cond.selects RX9 yX9_parts yX9_parts) ∈ wn_all := wn_in21 _ (List.mem_of_getElem? (i := 47) rfl)
theorem wm_1056 : (Cond.methodLink RL 152 yX8_judge) ∈ wn_all := wn_in22 _ (List.mem_of_getElem? (i := 0) rfl)
theorem wm_1057 : (Cond.instanceMethod yX8_judge) ∈ wn_all := wn_in22 _ (List.mem_of_getElem? (i := 1) rfl)
theorem wm_1058 : (Cond.selects RX8 yX8_judge yX8_judge) ∈ wn_all := wn_in22 _ (List.mem_of_getElem? (i := 2) rfl)
theorem wm_1059 : (Cond.methodLink RL 155 yX9_judge) ∈ wn_all := wn_in22 _ (List.mem_of_getElem? (i := 3) rfl)
theorem wm_1060 : (Cond.instanceMethod yX9_judge) ∈ wn_all := wn_in22 _ (List.mem_of_getElem? (i := 4) rfl)
theorem wm_1061 : (Cond.selects RX9 yX9_judge yX9_judge) ∈ wn_all := wn_in22 _ (List.mem_of_getElem? (i := 5) rfl)
theorem wm_1062 : (Cond.methodLink RL 156 yX8_waited) ∈ wn_all := wn_in22 _ (List.mem_of_getElem? (i := 6) rfl)
theorem wm_1063 : (Cond.instanceMethod yX8_waited) ∈ wn_all := wn_in22 _ (List.mem_of_getElem? (i := 7) rfl)
theorem wm_1064 : (Cond.selects RX8 yX8_waited yX8_waited) ∈ wn_all := wn_in22 _ (List.mem_of_getElem? (i := 8) rfl)
theorem wm_1065 : (Cond.methodLink RL 160 yX9_waited) ∈ wn_all := wn_in22 _ (List.mem_of_getElem? (i := 9) rfl)
theorem wm_1066 : (Cond.instanceMethod yX9_waited) ∈ wn_all := wn_in22 _ (List.mem_of_getElem? (i := 10) rfl)
theorem wm_1067 : (Cond.selects RX9 yX9_waited yX9_waited) ∈ wn_all := wn_in22 _ (List.mem_of_getElem? (i := 11) rfl)
theorem wm_1068 : (Cond.methodLink RL 161 yX8_seen) ∈ wn_all := wn_in22 _ (List.mem_of_getElem? (i := 12) rfl)
theorem wm_1069 : (Cond.instanceMethod yX8_seen) ∈ wn_all := wn_in22 _ (List.mem_of_getElem? (i := 13) rfl)
theorem wm_1070 : (Cond.selects RX8 yX8_seen yX8_seen) ∈ wn_all := wn_in22 _ (List.mem_of_getElem? (i := 14) rfl)
theorem wm_1071 : (Cond.methodLink RL 164 yX9_seen) ∈ wn_all := wn_in22 _ (List.mem_of_getElem? (i := 15) rfl)
theorem wm_1072 : (Cond.instanceMethod yX9_seen) ∈ wn_all := wn_in22 _ (List.mem_of_getElem? (i := 16) rfl)
theorem wm_1073 : (Cond.selects RX9 yX9_seen yX9_seen) ∈ wn_all := wn_in22 _ (List.mem_of_getElem? (i := 17) rfl)
theorem wm_1074 : (Cond.methodLink RL 165 yX8_asked) ∈ wn_all := wn_in22 _ (List.mem_of_getElem? (i := 18) rfl)
theorem wm_1075 : (Cond.instanceMethod yX8_asked) ∈ wn_all := wn_in22 _ (List.mem_of_getElem? (i := 19) rfl)
theorem wm_1076 : (Cond.selects RX8 yX8_asked yX8_asked) ∈ wn_all := wn_in22 _ (List.mem_of_getElem? (i := 20) rfl)
theorem wm_1077 : (Cond.methodLink RL 168 yX9_asked) ∈ wn_all := wn_in22 _ (List.mem_of_getElem? (i := 21) rfl)
theorem wm_1078 : (Cond.instanceMethod yX9_asked) ∈ wn_all := wn_in22 _ (List.mem_of_getElem? (i := 22) rfl)
theorem wm_1079 : (Cond.selects RX9 yX9_asked yX9_asked) ∈ wn_all := wn_in22 _ (List.mem_of_getElem? (i := 23) rfl)
theorem wm_1080 : (Cond.methodLink RL 169 yX8_upper) ∈ wn_all := wn_in22 _ (List.mem_of_getElem? (i := 24) rfl)
theorem wm_1081 : (Cond.instanceMethod yX8_upper) ∈ wn_all := wn_in22 _ (List.mem_of_getElem? (i := 25) rfl)
theorem wm_1082 : (Cond.selects RX8 yX8_upper yX8_upper) ∈ wn_all := wn_in22 _ (List.mem_of_getElem? (i := 26) rfl)
theorem wm_1083 : (Cond.methodLink RL 173 yX9_upper) ∈ wn_all := wn_in22 _ (List.mem_of_getElem? (i := 27) rfl)
theorem wm_1084 : (Cond.instanceMethod yX9_upper) ∈ wn_all := wn_in22 _ (List.mem_of_getElem? (i := 28) rfl)
theorem wm_1085 : (Cond.selects RX9 yX9_upper yX9_upper) ∈ wn_all := wn_in22 _ (List.mem_of_getElem? (i := 29) rfl)
theorem wm_1086 : (Cond.methodLink RL 174 yX8_lower) ∈ wn_all := wn_in22 _ (List.mem_of_getElem? (i := 30) rfl)
theorem wm_1087 : (Cond.instanceMethod yX8_lower) ∈ wn_all := wn_in22 _ (List.mem_of_getElem? (i := 31) rfl)
theorem wm_1088 : (Cond.selects RX8 yX8_lower yX8_lower) ∈ wn_all := wn_in22 _ (List.mem_of_getElem? (i := 32) rfl)
theorem wm_1089 : (Cond.methodLink RL 177 yX9_lower) ∈ wn_all := wn_in22 _ (List.mem_of_getElem? (i := 33) rfl)
theorem wm_1090 : (Cond.instanceMethod yX9_lower) ∈ wn_all := wn_in22 _ (List.mem_of_getElem? (i := 34) rfl)
theorem wm_1091 : (Cond.selects RX9 yX9_lower yX9_lower) ∈ wn_all := wn_in22 _ (List.mem_of_getElem? (i := 35) rfl)
theorem wm_1092 : (Cond.methodLink RL 178 yX8_count) ∈ wn_all := wn_in22 _ (List.mem_of_getElem? (i := 36) rfl)
theorem wm_1093 : (Cond.instanceMethod yX8_count) ∈ wn_all := wn_in22 _ (List.mem_of_getElem? (i := 37) rfl)
theorem wm_1094 : (Cond.selects RX8 yX8_count yX8_count) ∈ wn_all := wn_in22 _ (List.mem_of_getElem? (i := 38) rfl)
theorem wm_1095 : (Cond.methodLink RL 181 yX9_count) ∈ wn_all := wn_in22 _ (List.mem_of_getElem? (i := 39) rfl)
theorem wm_1096 : (Cond.instanceMethod yX9_count) ∈ wn_all := wn_in22 _ (List.mem_of_getElem? (i := 40) rfl)
theorem wm_1097 : (Cond.selects RX9 yX9_count yX9_count) ∈ wn_all := wn_in22 _ (List.mem_of_getElem? (i := 41) rfl)
theorem wm_1098 : (Cond.methodLink RL 182 yX8_finding) ∈ wn_all := wn_in22 _ (List.mem_of_getElem? (i := 42) rfl)
theorem wm_1099 : (Cond.instanceMethod yX8_finding) ∈ wn_all := wn_in22 _ (List.mem_of_getElem? (i := 43) rfl)
theorem wm_1100 : (Cond.selects RX8 yX8_finding yX8_finding) ∈ wn_all := wn_in22 _ (List.mem_of_getElem? (i := 44) rfl)
theorem wm_1101 : (Cond.methodLink RL 185 yX9_finding) ∈ wn_all := wn_in22 _ (List.mem_of_getElem? (i := 45) rfl)
theorem wm_1102 : (Cond.instanceMethod yX9_finding) ∈ wn_all := wn_in22 _ (List.mem_of_getElem? (i := 46) rfl)
theorem wm_1103 : (Cond.selects RX9 yX9_finding yX9_finding) ∈ wn_all := wn_in22 _ (List.mem_of_getElem? (i := 47) rfl)
theorem wm_1104 : (Cond.methodLink RL 186 yX8_findings) ∈ wn_all := wn_in23 _ (List.mem_of_getElem? (i := 0) rfl)
theorem wm_1105 : (Cond.instanceMethod yX8_findings) ∈ wn_all := wn_in23 _ (List.mem_of_getElem? (i := 1) rfl)
theorem wm_1106 : (Cond.selects RX8 yX8_findings yX8_findings) ∈ wn_all := wn_in23 _ (List.mem_of_getElem? (i := 2) rfl)
theorem wm_1107 : (Cond.methodLink RL 189 yX9_findings) ∈ wn_all := wn_in23 _ (List.mem_of_getElem? (i := 3) rfl)
theorem wm_1108 : (Cond.instanceMethod yX9_findings) ∈ wn_all := wn_in23 _ (List.mem_of_getElem? (i := 4) rfl)
theorem wm_1109 : (Cond.selects RX9 yX9_findings yX9_findings) ∈ wn_all := wn_in23 _ (List.mem_of_getElem? (i := 5) rfl)
theorem wm_1110 : (Cond.methodLink RL 190 yX8_digest) ∈ wn_all := wn_in23 _ (List.mem_of_getElem? (i := 6) rfl)
theorem wm_1111 : (Cond.instanceMethod yX8_digest) ∈ wn_all := wn_in23 _ (List.mem_of_getElem? (i := 7) rfl)
theorem wm_1112 : (Cond.selects RX8 yX8_digest yX8_digest) ∈ wn_all := wn_in23 _ (List.mem_of_getElem? (i := 8) rfl)
theorem wm_1113 : (Cond.methodLink RL 193 yX9_digest) ∈ wn_all := wn_in23 _ (List.mem_of_getElem? (i := 9) rfl)
theorem wm_1114 : (Cond.instanceMethod yX9_digest) ∈ wn_all := wn_in23 _ (List.mem_of_getElem? (i := 10) rfl)
theorem wm_1115 : (Cond.selects RX9 yX9_digest yX9_digest) ∈ wn_all := wn_in23 _ (List.mem_of_getElem? (i := 11) rfl)
theorem wn_gd0 : wn_c0.all goodWord = true := by decide +kernel
theorem wn_gd1 : wn_c1.all goodWord = true := by decide +kernel
theorem wn_gd2 : wn_c2.all goodWord = true := by decide +kernel
theorem wn_gd3 : wn_c3.all goodWord = true := by decide +kernel
theorem wn_gd4 : wn_c4.all goodWord = true := by decide +kernel
theorem wn_gd5 : wn_c5.all goodWord = true := by decide +kernel
theorem wn_gd6 : wn_c6.all goodWord = true := by decide +kernel
theorem wn_gd7 : wn_c7.all goodWord = true := by decide +kernel
theorem wn_gd8 : wn_c8.all goodWord = true := by decide +kernel
theorem wn_gd9 : wn_c9.all goodWord = true := by decide +kernel
theorem wn_gd10 : wn_c10.all goodWord = true := by decide +kernel
theorem wn_gd11 : wn_c11.all goodWord = true := by decide +kernel
theorem wn_gd12 : wn_c12.all goodWord = true := by decide +kernel
theorem wn_gd13 : wn_c13.all goodWord = true := by decide +kernel
theorem wn_gd14 : wn_c14.all goodWord = true := by decide +kernel
theorem wn_gd15 : wn_c15.all goodWord = true := by decide +kernel
theorem wn_gd16 : wn_c16.all goodWord = true := by decide +kernel
theorem wn_gd17 : wn_c17.all goodWord = true := by decide +kernel
theorem wn_gd18 : wn_c18.all goodWord = true := by decide +kernel
theorem wn_gd19 : wn_c19.all goodWord = true := by decide +kernel
theorem wn_gd20 : wn_c20.all goodWord = true := by decide +kernel
theorem wn_gd21 : wn_c21.all goodWord = true := by decide +kernel
theorem wn_gd22 : wn_c22.all goodWord = true := by decide +kernel
theorem wn_gd23 : wn_c23.all goodWord = true := by decide +kernel
theorem wn_gd24 : wn_c24.all goodWord = true := by decide +kernel
theorem wn_good : ∀ w ∈ wn_all, goodWord w = true := by
  intro w h
  unfold wn_all at h
  rcases List.mem_append.mp h with h | h
  · exact List.all_eq_true.mp wn_gd0 w h
  rcases List.mem_append.mp h with h | h
  · exact List.all_eq_true.mp wn_gd1 w h
  rcases List.mem_append.mp h with h | h
  · exact List.all_eq_true.mp wn_gd2 w h
  rcases List.mem_append.mp h with h | h
  · exact List.all_eq_true.mp wn_gd3 w h
  rcases List.mem_append.mp h with h | h
  · exact List.all_eq_true.mp wn_gd4 w h
  rcases List.mem_append.mp h with h | h
  · exact List.all_eq_true.mp wn_gd5 w h
  rcases List.mem_append.mp h with h | h
  · exact List.all_eq_true.mp wn_gd6 w h
  rcases List.mem_append.mp h with h | h
  · exact List.all_eq_true.mp wn_gd7 w h
  rcases List.mem_append.mp h with h | h
  · exact List.all_eq_true.mp wn_gd8 w h
  rcases List.mem_append.mp h with h | h
  · exact List.all_eq_true.mp wn_gd9 w h
  rcases List.mem_append.mp h with h | h
  · exact List.all_eq_true.mp wn_gd10 w h
  rcases List.mem_append.mp h with h | h
  · exact List.all_eq_true.mp wn_gd11 w h
  rcases List.mem_append.mp h with h | h
  · exact List.all_eq_true.mp wn_gd12 w h
  rcases List.mem_append.mp h with h | h
  · exact List.all_eq_true.mp wn_gd13 w h
  rcases List.mem_append.mp h with h | h
  · exact List.all_eq_true.mp wn_gd14 w h
  rcases List.mem_append.mp h with h | h
  · exact List.all_eq_true.mp wn_gd15 w h
  rcases List.mem_append.mp h with h | h
  · exact List.all_eq_true.mp wn_gd16 w h
  rcases List.mem_append.mp h with h | h
  · exact List.all_eq_true.mp wn_gd17 w h
  rcases List.mem_append.mp h with h | h
  · exact List.all_eq_true.mp wn_gd18 w h
  rcases List.mem_append.mp h with h | h
  · exact List.all_eq_true.mp wn_gd19 w h
  rcases List.mem_append.mp h with h | h
  · exact List.all_eq_true.mp wn_gd20 w h
  rcases List.mem_append.mp h with h | h
  · exact List.all_eq_true.mp wn_gd21 w h
  rcases List.mem_append.mp h with h | h
  · exact List.all_eq_true.mp wn_gd22 w h
  rcases List.mem_append.mp h with h | h
  · exact List.all_eq_true.mp wn_gd23 w h
  exact List.all_eq_true.mp wn_gd24 w h
theorem wn_lay0 : ∀ w ∈ u_ws RX0 TX0 4, w ∈ wn_all := fun w h => wn_in24 w (List.mem_append_left _ (List.mem_append_left _ (List.mem_append_left _ (List.mem_append_left _ (List.mem_append_left _ (List.mem_append_left _ (List.mem_append_left _ (List.mem_append_left _ (List.mem_append_left _ (h))))))))))
theorem wn_lay1 : ∀ w ∈ u_ws RX1 TX1 6, w ∈ wn_all := fun w h => wn_in24 w (List.mem_append_left _ (List.mem_append_left _ (List.mem_append_left _ (List.mem_append_left _ (List.mem_append_left _ (List.mem_append_left _ (List.mem_append_left _ (List.mem_append_left _ (List.mem_append_right _ h)))))))))
theorem wn_lay2 : ∀ w ∈ u_ws RX2 TX2 2, w ∈ wn_all := fun w h => wn_in24 w (List.mem_append_left _ (List.mem_append_left _ (List.mem_append_left _ (List.mem_append_left _ (List.mem_append_left _ (List.mem_append_left _ (List.mem_append_left _ (List.mem_append_right _ h))))))))
theorem wn_lay3 : ∀ w ∈ u_ws RX3 TX3 3, w ∈ wn_all := fun w h => wn_in24 w (List.mem_append_left _ (List.mem_append_left _ (List.mem_append_left _ (List.mem_append_left _ (List.mem_append_left _ (List.mem_append_left _ (List.mem_append_right _ h)))))))
theorem wn_lay4 : ∀ w ∈ u_ws RX4 TX4 5, w ∈ wn_all := fun w h => wn_in24 w (List.mem_append_left _ (List.mem_append_left _ (List.mem_append_left _ (List.mem_append_left _ (List.mem_append_left _ (List.mem_append_right _ h))))))
theorem wn_lay5 : ∀ w ∈ u_ws RX5 TX5 7, w ∈ wn_all := fun w h => wn_in24 w (List.mem_append_left _ (List.mem_append_left _ (List.mem_append_left _ (List.mem_append_left _ (List.mem_append_right _ h)))))
theorem wn_lay6 : ∀ w ∈ u_ws RX6 TX6 2, w ∈ wn_all := fun w h => wn_in24 w (List.mem_append_left _ (List.mem_append_left _ (List.mem_append_left _ (List.mem_append_right _ h))))
theorem wn_lay7 : ∀ w ∈ u_ws RX7 TX7 2, w ∈ wn_all := fun w h => wn_in24 w (List.mem_append_left _ (List.mem_append_left _ (List.mem_append_right _ h)))
theorem wn_lay8 : ∀ w ∈ u_ws RX8 TX8 9, w ∈ wn_all := fun w h => wn_in24 w (List.mem_append_left _ (List.mem_append_right _ h))
theorem wn_lay9 : ∀ w ∈ u_ws RX9 TX9 26, w ∈ wn_all := fun w h => wn_in24 w (List.mem_append_right _ h)

-- ===== PART A: goes FIRST, ahead of the names: the tables' words, and 'selects' of the private methods out of them =====
/-- a private method of a class that the tables say can be made, by its rows of tables_1 -/
def lw_okq (q : MethodName × Nat) : Prop := (q.1.cls ≠ "java/lang/invoke/MethodHandle" ∧ q.1.cls ≠ "java/lang/invoke/VarHandle") ∧ Cond.instantiable q.1.cls q.2 ∈ tables_1 ∧ Cond.privateMethod q.1 ∈ tables_1 ∧ Cond.instanceMethod q.1 ∈ tables_1
theorem lw_p0 : lw_okq (⟨"RosetteGantry", "refuse", "(I)I"⟩, 8) := ⟨⟨by decide +kernel, by decide +kernel⟩, List.mem_of_getElem? (i := 12) (by decide +kernel), List.mem_of_getElem? (i := 319) (by decide +kernel), List.mem_of_getElem? (i := 320) (by decide +kernel)⟩
theorem lw_p1 : lw_okq (⟨"RosetteGantry$History", "dropOldest", "()V"⟩, 2) := ⟨⟨by decide +kernel, by decide +kernel⟩, List.mem_of_getElem? (i := 158) (by decide +kernel), List.mem_of_getElem? (i := 340) (by decide +kernel), List.mem_of_getElem? (i := 341) (by decide +kernel)⟩
theorem lw_p2 : lw_okq (⟨"RosetteGantry$Plan", "isAhead", "(LRosetteGantry$State;II)Z"⟩, 4) := ⟨⟨by decide +kernel, by decide +kernel⟩, List.mem_of_getElem? (i := 198) (by decide +kernel), List.mem_of_getElem? (i := 400) (by decide +kernel), List.mem_of_getElem? (i := 401) (by decide +kernel)⟩
theorem lw_p3 : lw_okq (⟨"RosetteGantry$Plan", "distance", "(LRosetteGantry$State;I)I"⟩, 4) := ⟨⟨by decide +kernel, by decide +kernel⟩, List.mem_of_getElem? (i := 198) (by decide +kernel), List.mem_of_getElem? (i := 405) (by decide +kernel), List.mem_of_getElem? (i := 406) (by decide +kernel)⟩
theorem lw_p4 : lw_okq (⟨"RosetteGantry", "doJob", "(I)V"⟩, 8) := ⟨⟨by decide +kernel, by decide +kernel⟩, List.mem_of_getElem? (i := 12) (by decide +kernel), List.mem_of_getElem? (i := 414) (by decide +kernel), List.mem_of_getElem? (i := 415) (by decide +kernel)⟩
theorem lw_p5 : lw_okq (⟨"RosetteGantry$Measure", "findStrains", "(LRosetteGantry$Rosette;)V"⟩, 15) := ⟨⟨by decide +kernel, by decide +kernel⟩, List.mem_of_getElem? (i := 220) (by decide +kernel), List.mem_of_getElem? (i := 433) (by decide +kernel), List.mem_of_getElem? (i := 434) (by decide +kernel)⟩
theorem lw_p6 : lw_okq (⟨"RosetteGantry$Measure", "findSignal", "(LRosetteGantry$Rosette;I)V"⟩, 15) := ⟨⟨by decide +kernel, by decide +kernel⟩, List.mem_of_getElem? (i := 220) (by decide +kernel), List.mem_of_getElem? (i := 437) (by decide +kernel), List.mem_of_getElem? (i := 438) (by decide +kernel)⟩
theorem lw_p7 : lw_okq (⟨"RosetteGantry$Measure", "findDeltaNumbers", "()V"⟩, 15) := ⟨⟨by decide +kernel, by decide +kernel⟩, List.mem_of_getElem? (i := 220) (by decide +kernel), List.mem_of_getElem? (i := 458) (by decide +kernel), List.mem_of_getElem? (i := 459) (by decide +kernel)⟩
theorem lw_p8 : lw_okq (⟨"RosetteGantry$Measure", "findRightNumbers", "()V"⟩, 15) := ⟨⟨by decide +kernel, by decide +kernel⟩, List.mem_of_getElem? (i := 220) (by decide +kernel), List.mem_of_getElem? (i := 464) (by decide +kernel), List.mem_of_getElem? (i := 465) (by decide +kernel)⟩
theorem lw_p9 : lw_okq (⟨"RosetteGantry$Measure", "findPrincipal", "()V"⟩, 15) := ⟨⟨by decide +kernel, by decide +kernel⟩, List.mem_of_getElem? (i := 220) (by decide +kernel), List.mem_of_getElem? (i := 468) (by decide +kernel), List.mem_of_getElem? (i := 469) (by decide +kernel)⟩
theorem lw_p10 : lw_okq (⟨"RosetteGantry", "reasonAgainst", "(ILRosetteGantry$Rosette;)I"⟩, 8) := ⟨⟨by decide +kernel, by decide +kernel⟩, List.mem_of_getElem? (i := 12) (by decide +kernel), List.mem_of_getElem? (i := 482) (by decide +kernel), List.mem_of_getElem? (i := 483) (by decide +kernel)⟩
theorem lw_p11 : lw_okq (⟨"RosetteGantry", "reasonAgainstBalance", "(LRosetteGantry$Rosette;)I"⟩, 8) := ⟨⟨by decide +kernel, by decide +kernel⟩, List.mem_of_getElem? (i := 12) (by decide +kernel), List.mem_of_getElem? (i := 486) (by decide +kernel), List.mem_of_getElem? (i := 487) (by decide +kernel)⟩
theorem lw_p12 : lw_okq (⟨"RosetteGantry", "reasonAgainstCheck", "()I"⟩, 8) := ⟨⟨by decide +kernel, by decide +kernel⟩, List.mem_of_getElem? (i := 12) (by decide +kernel), List.mem_of_getElem? (i := 491) (by decide +kernel), List.mem_of_getElem? (i := 492) (by decide +kernel)⟩
theorem lw_p13 : lw_okq (⟨"RosetteGantry", "perform", "(ILRosetteGantry$Rosette;)I"⟩, 8) := ⟨⟨by decide +kernel, by decide +kernel⟩, List.mem_of_getElem? (i := 12) (by decide +kernel), List.mem_of_getElem? (i := 495) (by decide +kernel), List.mem_of_getElem? (i := 496) (by decide +kernel)⟩
theorem lw_p14 : lw_okq (⟨"RosetteGantry", "setZeros", "(LRosetteGantry$Rosette;)I"⟩, 8) := ⟨⟨by decide +kernel, by decide +kernel⟩, List.mem_of_getElem? (i := 12) (by decide +kernel), List.mem_of_getElem? (i := 499) (by decide +kernel), List.mem_of_getElem? (i := 500) (by decide +kernel)⟩
theorem lw_p15 : lw_okq (⟨"RosetteGantry", "setGains", "(LRosetteGantry$Rosette;)I"⟩, 8) := ⟨⟨by decide +kernel, by decide +kernel⟩, List.mem_of_getElem? (i := 12) (by decide +kernel), List.mem_of_getElem? (i := 503) (by decide +kernel), List.mem_of_getElem? (i := 504) (by decide +kernel)⟩
def lw_privs_1 : List (MethodName × Nat) := [(⟨"RosetteGantry", "refuse", "(I)I"⟩, 8), (⟨"RosetteGantry$History", "dropOldest", "()V"⟩, 2), (⟨"RosetteGantry$Plan", "isAhead", "(LRosetteGantry$State;II)Z"⟩, 4), (⟨"RosetteGantry$Plan", "distance", "(LRosetteGantry$State;I)I"⟩, 4), (⟨"RosetteGantry", "doJob", "(I)V"⟩, 8), (⟨"RosetteGantry$Measure", "findStrains", "(LRosetteGantry$Rosette;)V"⟩, 15), (⟨"RosetteGantry$Measure", "findSignal", "(LRosetteGantry$Rosette;I)V"⟩, 15), (⟨"RosetteGantry$Measure", "findDeltaNumbers", "()V"⟩, 15), (⟨"RosetteGantry$Measure", "findRightNumbers", "()V"⟩, 15), (⟨"RosetteGantry$Measure", "findPrincipal", "()V"⟩, 15), (⟨"RosetteGantry", "reasonAgainst", "(ILRosetteGantry$Rosette;)I"⟩, 8), (⟨"RosetteGantry", "reasonAgainstBalance", "(LRosetteGantry$Rosette;)I"⟩, 8), (⟨"RosetteGantry", "reasonAgainstCheck", "()I"⟩, 8), (⟨"RosetteGantry", "perform", "(ILRosetteGantry$Rosette;)I"⟩, 8), (⟨"RosetteGantry", "setZeros", "(LRosetteGantry$Rosette;)I"⟩, 8), (⟨"RosetteGantry", "setGains", "(LRosetteGantry$Rosette;)I"⟩, 8)]
theorem lw_r1 : ∀ q ∈ lw_privs_1, lw_okq q := List.forall_mem_cons.mpr ⟨lw_p0, List.forall_mem_cons.mpr ⟨lw_p1, List.forall_mem_cons.mpr ⟨lw_p2, List.forall_mem_cons.mpr ⟨lw_p3, List.forall_mem_cons.mpr ⟨lw_p4, List.forall_mem_cons.mpr ⟨lw_p5, List.forall_mem_cons.mpr ⟨lw_p6, List.forall_mem_cons.mpr ⟨lw_p7, List.forall_mem_cons.mpr ⟨lw_p8, List.forall_mem_cons.mpr ⟨lw_p9, List.forall_mem_cons.mpr ⟨lw_p10, List.forall_mem_cons.mpr ⟨lw_p11, List.forall_mem_cons.mpr ⟨lw_p12, List.forall_mem_cons.mpr ⟨lw_p13, List.forall_mem_cons.mpr ⟨lw_p14, List.forall_mem_cons.mpr ⟨lw_p15, fun _ h => absurd h List.not_mem_nil⟩⟩⟩⟩⟩⟩⟩⟩⟩⟩⟩⟩⟩⟩⟩⟩
theorem lw_p16 : lw_okq (⟨"RosetteGantry$JobText", "take", "(II)I"⟩, 4) := ⟨⟨by decide +kernel, by decide +kernel⟩, List.mem_of_getElem? (i := 175) (by decide +kernel), List.mem_of_getElem? (i := 525) (by decide +kernel), List.mem_of_getElem? (i := 526) (by decide +kernel)⟩
theorem lw_p17 : lw_okq (⟨"RosetteGantry$JobText", "takeLetter", "(I)I"⟩, 4) := ⟨⟨by decide +kernel, by decide +kernel⟩, List.mem_of_getElem? (i := 175) (by decide +kernel), List.mem_of_getElem? (i := 529) (by decide +kernel), List.mem_of_getElem? (i := 530) (by decide +kernel)⟩
theorem lw_p18 : lw_okq (⟨"RosetteGantry$JobText", "takeRosette", "(I)I"⟩, 4) := ⟨⟨by decide +kernel, by decide +kernel⟩, List.mem_of_getElem? (i := 175) (by decide +kernel), List.mem_of_getElem? (i := 533) (by decide +kernel), List.mem_of_getElem? (i := 534) (by decide +kernel)⟩
theorem lw_p19 : lw_okq (⟨"RosetteGantry$JobText", "takeComma", "(I)I"⟩, 4) := ⟨⟨by decide +kernel, by decide +kernel⟩, List.mem_of_getElem? (i := 175) (by decide +kernel), List.mem_of_getElem? (i := 539) (by decide +kernel), List.mem_of_getElem? (i := 540) (by decide +kernel)⟩
theorem lw_p20 : lw_okq (⟨"RosetteGantry$JobText", "takeUrgency", "(I)I"⟩, 4) := ⟨⟨by decide +kernel, by decide +kernel⟩, List.mem_of_getElem? (i := 175) (by decide +kernel), List.mem_of_getElem? (i := 543) (by decide +kernel), List.mem_of_getElem? (i := 544) (by decide +kernel)⟩
def lw_privs_2 : List (MethodName × Nat) := [(⟨"RosetteGantry$JobText", "take", "(II)I"⟩, 4), (⟨"RosetteGantry$JobText", "takeLetter", "(I)I"⟩, 4), (⟨"RosetteGantry$JobText", "takeRosette", "(I)I"⟩, 4), (⟨"RosetteGantry$JobText", "takeComma", "(I)I"⟩, 4), (⟨"RosetteGantry$JobText", "takeUrgency", "(I)I"⟩, 4)]
theorem lw_r2 : ∀ q ∈ lw_privs_2, lw_okq q := List.forall_mem_cons.mpr ⟨lw_p16, List.forall_mem_cons.mpr ⟨lw_p17, List.forall_mem_cons.mpr ⟨lw_p18, List.forall_mem_cons.mpr ⟨lw_p19, List.forall_mem_cons.mpr ⟨lw_p20, fun _ h => absurd h List.not_mem_nil⟩⟩⟩⟩⟩
def lw_privs : List (MethodName × Nat) := lw_privs_1 ++ (lw_privs_2)
def lw_tbl : List Cond := k2_sels lw_privs ++ tables_1
theorem lw_privs_ok : ∀ q ∈ lw_privs, lw_okq q := by
  show ∀ q ∈ lw_privs_1 ++ (lw_privs_2), lw_okq q
  exact List.forall_mem_append.mpr ⟨lw_r1, lw_r2⟩

def RX0 : String := "RosetteGantry$History"
def TX0 : u_T := fun k => match k with
  | 0 => ("RosetteGantry$History", "states", "[LRosetteGantry$State;", true)
  | _ => ("RosetteGantry$History", "used", "I", false)
def tyX0 : Nat → FieldType := fun k => match k with
  | 0 => .array (.object "RosetteGantry$State")
  | _ => .int
abbrev wsX00 : List Cond := u_ws RX0 TX0 2
theorem nmX0 : ∀ a, a < 2 → ∀ b, b < 2 → a ≠ b → (TX0 a).2.1 ≠ (TX0 b).2.1 := by decide +kernel
theorem tyX0_ok : ∀ k, k < 2 → parseFieldDescriptor (TX0 k).2.2.1 = some (tyX0 k) := by decide +kernel
abbrev cX0_init : ByteArray := prog_2_method_1_code
def yX0_init : MethodName := ⟨RX0, "<init>", "()V"⟩
abbrev cX0_add : ByteArray := prog_2_method_2_code
def yX0_add : MethodName := ⟨RX0, "add", "(LRosetteGantry$State;)V"⟩
abbrev cX0_takeLatest : ByteArray := prog_2_method_3_code
def yX0_takeLatest : MethodName := ⟨RX0, "takeLatest", "()LRosetteGantry$State;"⟩
abbrev cX0_dropOldest : ByteArray := prog_2_method_4_code
def yX0_dropOldest : MethodName := ⟨RX0, "dropOldest", "()V"⟩
def RX1 : String := "RosetteGantry$JobText"
def TX1 : u_T := fun k => match k with
  | 0 => ("RosetteGantry$JobText", "signs", "[I", true)
  | 1 => ("RosetteGantry$JobText", "jobs", "LRosetteGantry$Rows;", true)
  | 2 => ("RosetteGantry$JobText", "length", "I", false)
  | _ => ("RosetteGantry$JobText", "kind", "I", false)
def tyX1 : Nat → FieldType := fun k => match k with
  | 0 => .array .int
  | 1 => .object "RosetteGantry$Rows"
  | 2 => .int
  | _ => .int
abbrev wsX10 : List Cond := u_ws RX1 TX1 4
theorem nmX1 : ∀ a, a < 4 → ∀ b, b < 4 → a ≠ b → (TX1 a).2.1 ≠ (TX1 b).2.1 := by decide +kernel
theorem tyX1_ok : ∀ k, k < 4 → parseFieldDescriptor (TX1 k).2.2.1 = some (tyX1 k) := by decide +kernel
abbrev cX1_init : ByteArray := prog_3_method_1_code
def yX1_init : MethodName := ⟨RX1, "<init>", "()V"⟩
abbrev cX1_findFault : ByteArray := prog_3_method_3_code
def yX1_findFault : MethodName := ⟨RX1, "findFault", "()I"⟩
abbrev cX1_take : ByteArray := prog_3_method_4_code
def yX1_take : MethodName := ⟨RX1, "take", "(II)I"⟩
abbrev cX1_takeLetter : ByteArray := prog_3_method_5_code
def yX1_takeLetter : MethodName := ⟨RX1, "takeLetter", "(I)I"⟩
abbrev cX1_takeRosette : ByteArray := prog_3_method_6_code
def yX1_takeRosette : MethodName := ⟨RX1, "takeRosette", "(I)I"⟩
abbrev cX1_takeUrgency : ByteArray := prog_3_method_7_code
def yX1_takeUrgency : MethodName := ⟨RX1, "takeUrgency", "(I)I"⟩
abbrev cX1_takeComma : ByteArray := prog_3_method_8_code
def yX1_takeComma : MethodName := ⟨RX1, "takeComma", "(I)I"⟩
def RX2 : String := "RosetteGantry$Measure"
def TX2 : u_T := fun k => match k with
  | 0 => ("RosetteGantry$Measure", "strain", "[I", true)
  | 1 => ("RosetteGantry$Measure", "signal", "[I", true)
  | 2 => ("RosetteGantry$Measure", "reading", "[I", true)
  | 3 => ("RosetteGantry$Measure", "heldReading", "[I", true)
  | 4 => ("RosetteGantry$Measure", "step", "[I", true)
  | 5 => ("RosetteGantry$Measure", "corrected", "[I", true)
  | 6 => ("RosetteGantry$Measure", "shuntValue", "I", false)
  | 7 => ("RosetteGantry$Measure", "overloads", "I", false)
  | 8 => ("RosetteGantry$Measure", "checkOverloads", "Z", false)
  | 9 => ("RosetteGantry$Measure", "x", "I", false)
  | 10 => ("RosetteGantry$Measure", "y", "I", false)
  | 11 => ("RosetteGantry$Measure", "g", "I", false)
  | 12 => ("RosetteGantry$Measure", "mean", "I", false)
  | 13 => ("RosetteGantry$Measure", "direction", "I", false)
  | _ => ("RosetteGantry$Measure", "radius", "I", false)
def tyX2 : Nat → FieldType := fun k => match k with
  | 0 => .array .int
  | 1 => .array .int
  | 2 => .array .int
  | 3 => .array .int
  | 4 => .array .int
  | 5 => .array .int
  | 6 => .int
  | 7 => .int
  | 8 => .boolean
  | 9 => .int
  | 10 => .int
  | 11 => .int
  | 12 => .int
  | 13 => .int
  | _ => .int
abbrev wsX20 : List Cond := u_ws RX2 TX2 15
theorem nmX2 : ∀ a, a < 15 → ∀ b, b < 15 → a ≠ b → (TX2 a).2.1 ≠ (TX2 b).2.1 := by decide +kernel
theorem tyX2_ok : ∀ k, k < 15 → parseFieldDescriptor (TX2 k).2.2.1 = some (tyX2 k) := by decide +kernel
abbrev cX2_init : ByteArray := prog_4_method_1_code
def yX2_init : MethodName := ⟨RX2, "<init>", "()V"⟩
abbrev cX2_take : ByteArray := prog_4_method_2_code
def yX2_take : MethodName := ⟨RX2, "take", "(LRosetteGantry$Rosette;I)V"⟩
abbrev cX2_holdReadings : ByteArray := prog_4_method_3_code
def yX2_holdReadings : MethodName := ⟨RX2, "holdReadings", "()V"⟩
abbrev cX2_readingsChanged : ByteArray := prog_4_method_4_code
def yX2_readingsChanged : MethodName := ⟨RX2, "readingsChanged", "()I"⟩
abbrev cX2_pullTo : ByteArray := prog_4_method_5_code
def yX2_pullTo : MethodName := ⟨RX2, "pullTo", "(I)J"⟩
abbrev cX2_findStrains : ByteArray := prog_4_method_6_code
def yX2_findStrains : MethodName := ⟨RX2, "findStrains", "(LRosetteGantry$Rosette;)V"⟩
abbrev cX2_findSignal : ByteArray := prog_4_method_7_code
def yX2_findSignal : MethodName := ⟨RX2, "findSignal", "(LRosetteGantry$Rosette;I)V"⟩
abbrev cX2_comesOut : ByteArray := prog_4_method_8_code
def yX2_comesOut : MethodName := ⟨RX2, "comesOut", "(LRosetteGantry$Rosette;I)I"⟩
abbrev cX2_limited : ByteArray := prog_4_method_9_code
def yX2_limited : MethodName := ⟨RX2, "limited", "(I)I"⟩
abbrev cX2_isBeyond : ByteArray := prog_4_method_10_code
def yX2_isBeyond : MethodName := ⟨RX2, "isBeyond", "(I)Z"⟩
abbrev cX2_findRightNumbers : ByteArray := prog_4_method_11_code
def yX2_findRightNumbers : MethodName := ⟨RX2, "findRightNumbers", "()V"⟩
abbrev cX2_findDeltaNumbers : ByteArray := prog_4_method_12_code
def yX2_findDeltaNumbers : MethodName := ⟨RX2, "findDeltaNumbers", "()V"⟩
abbrev cX2_findPrincipal : ByteArray := prog_4_method_13_code
def yX2_findPrincipal : MethodName := ⟨RX2, "findPrincipal", "()V"⟩
def RX3 : String := "RosetteGantry$Plan"
def TX3 : u_T := fun k => match k with
  | 0 => ("RosetteGantry$Plan", "passed", "[Z", true)
  | 1 => ("RosetteGantry$Plan", "row", "I", false)
  | 2 => ("RosetteGantry$Plan", "place", "I", false)
  | _ => ("RosetteGantry$Plan", "way", "I", false)
def tyX3 : Nat → FieldType := fun k => match k with
  | 0 => .array .boolean
  | 1 => .int
  | 2 => .int
  | _ => .int
abbrev wsX30 : List Cond := u_ws RX3 TX3 4
theorem nmX3 : ∀ a, a < 4 → ∀ b, b < 4 → a ≠ b → (TX3 a).2.1 ≠ (TX3 b).2.1 := by decide +kernel
theorem tyX3_ok : ∀ k, k < 4 → parseFieldDescriptor (TX3 k).2.2.1 = some (tyX3 k) := by decide +kernel
abbrev cX3_init : ByteArray := prog_5_method_1_code
def yX3_init : MethodName := ⟨RX3, "<init>", "()V"⟩
abbrev cX3_begin : ByteArray := prog_5_method_2_code
def yX3_begin : MethodName := ⟨RX3, "begin", "(LRosetteGantry$State;)V"⟩
abbrev cX3_goOn : ByteArray := prog_5_method_3_code
def yX3_goOn : MethodName := ⟨RX3, "goOn", "(LRosetteGantry$State;)V"⟩
abbrev cX3_isAhead : ByteArray := prog_5_method_4_code
def yX3_isAhead : MethodName := ⟨RX3, "isAhead", "(LRosetteGantry$State;II)Z"⟩
abbrev cX3_distance : ByteArray := prog_5_method_5_code
def yX3_distance : MethodName := ⟨RX3, "distance", "(LRosetteGantry$State;I)I"⟩
def RX4 : String := "RosetteGantry$Rosette"
def TX4 : u_T := fun k => match k with
  | 0 => ("RosetteGantry$Rosette", "place", "I", false)
  | 1 => ("RosetteGantry$Rosette", "delta", "Z", false)
  | 2 => ("RosetteGantry$Rosette", "resistance", "I", false)
  | 3 => ("RosetteGantry$Rosette", "factor", "I", false)
  | 4 => ("RosetteGantry$Rosette", "leads", "I", false)
  | 5 => ("RosetteGantry$Rosette", "x", "I", false)
  | 6 => ("RosetteGantry$Rosette", "y", "I", false)
  | 7 => ("RosetteGantry$Rosette", "g", "I", false)
  | 8 => ("RosetteGantry$Rosette", "shunt", "Z", false)
  | 9 => ("RosetteGantry$Rosette", "offset", "[I", true)
  | 10 => ("RosetteGantry$Rosette", "zero", "[I", true)
  | _ => ("RosetteGantry$Rosette", "gain", "[I", true)
def tyX4 : Nat → FieldType := fun k => match k with
  | 0 => .int
  | 1 => .boolean
  | 2 => .int
  | 3 => .int
  | 4 => .int
  | 5 => .int
  | 6 => .int
  | 7 => .int
  | 8 => .boolean
  | 9 => .array .int
  | 10 => .array .int
  | _ => .array .int
abbrev wsX40 : List Cond := u_ws RX4 TX4 12
theorem nmX4 : ∀ a, a < 12 → ∀ b, b < 12 → a ≠ b → (TX4 a).2.1 ≠ (TX4 b).2.1 := by decide +kernel
theorem tyX4_ok : ∀ k, k < 12 → parseFieldDescriptor (TX4 k).2.2.1 = some (tyX4 k) := by decide +kernel
abbrev cX4_init : ByteArray := prog_6_method_1_code
def yX4_init : MethodName := ⟨RX4, "<init>", "()V"⟩
abbrev cX4_begin : ByteArray := prog_6_method_2_code
def yX4_begin : MethodName := ⟨RX4, "begin", "(IZII)V"⟩
abbrev cX4_copyFrom : ByteArray := prog_6_method_3_code
def yX4_copyFrom : MethodName := ⟨RX4, "copyFrom", "(LRosetteGantry$Rosette;)V"⟩
def RX5 : String := "RosetteGantry$Rows"
def TX5 : u_T := fun k => match k with
  | 0 => ("RosetteGantry$Rows", "cells", "[I", true)
  | _ => ("RosetteGantry$Rows", "used", "I", false)
def tyX5 : Nat → FieldType := fun k => match k with
  | 0 => .array .int
  | _ => .int
abbrev wsX50 : List Cond := u_ws RX5 TX5 2
theorem nmX5 : ∀ a, a < 2 → ∀ b, b < 2 → a ≠ b → (TX5 a).2.1 ≠ (TX5 b).2.1 := by decide +kernel
theorem tyX5_ok : ∀ k, k < 2 → parseFieldDescriptor (TX5 k).2.2.1 = some (tyX5 k) := by decide +kernel
abbrev cX5_init : ByteArray := prog_7_method_1_code
def yX5_init : MethodName := ⟨RX5, "<init>", "(I)V"⟩
abbrev cX5_add : ByteArray := prog_7_method_2_code
def yX5_add : MethodName := ⟨RX5, "add", "(IIII)V"⟩
abbrev cX5_at : ByteArray := prog_7_method_3_code
def yX5_at : MethodName := ⟨RX5, "at", "(II)I"⟩
abbrev cX5_set : ByteArray := prog_7_method_4_code
def yX5_set : MethodName := ⟨RX5, "set", "(III)V"⟩
abbrev cX5_drop : ByteArray := prog_7_method_5_code
def yX5_drop : MethodName := ⟨RX5, "drop", "(I)V"⟩
abbrev cX5_copyFrom : ByteArray := prog_7_method_6_code
def yX5_copyFrom : MethodName := ⟨RX5, "copyFrom", "(LRosetteGantry$Rows;)V"⟩
def RX6 : String := "RosetteGantry$State"
def TX6 : u_T := fun k => match k with
  | 0 => ("RosetteGantry$State", "rosettes", "[LRosetteGantry$Rosette;", true)
  | 1 => ("RosetteGantry$State", "jobs", "LRosetteGantry$Rows;", true)
  | 2 => ("RosetteGantry$State", "records", "LRosetteGantry$Rows;", true)
  | 3 => ("RosetteGantry$State", "rosettesUsed", "I", false)
  | 4 => ("RosetteGantry$State", "size", "I", false)
  | 5 => ("RosetteGantry$State", "place", "I", false)
  | 6 => ("RosetteGantry$State", "way", "I", false)
  | 7 => ("RosetteGantry$State", "requests", "I", false)
  | 8 => ("RosetteGantry$State", "done", "I", false)
  | _ => ("RosetteGantry$State", "refused", "I", false)
def tyX6 : Nat → FieldType := fun k => match k with
  | 0 => .array (.object "RosetteGantry$Rosette")
  | 1 => .object "RosetteGantry$Rows"
  | 2 => .object "RosetteGantry$Rows"
  | 3 => .int
  | 4 => .int
  | 5 => .int
  | 6 => .int
  | 7 => .int
  | 8 => .int
  | _ => .int
abbrev wsX60 : List Cond := u_ws RX6 TX6 10
theorem nmX6 : ∀ a, a < 10 → ∀ b, b < 10 → a ≠ b → (TX6 a).2.1 ≠ (TX6 b).2.1 := by decide +kernel
theorem tyX6_ok : ∀ k, k < 10 → parseFieldDescriptor (TX6 k).2.2.1 = some (tyX6 k) := by decide +kernel
abbrev cX6_init : ByteArray := prog_8_method_1_code
def yX6_init : MethodName := ⟨RX6, "<init>", "()V"⟩
abbrev cX6_copyFrom : ByteArray := prog_8_method_2_code
def yX6_copyFrom : MethodName := ⟨RX6, "copyFrom", "(LRosetteGantry$State;)V"⟩
abbrev cX6_find : ByteArray := prog_8_method_3_code
def yX6_find : MethodName := ⟨RX6, "find", "(I)LRosetteGantry$Rosette;"⟩
abbrev cX6_placeOf : ByteArray := prog_8_method_4_code
def yX6_placeOf : MethodName := ⟨RX6, "placeOf", "(I)I"⟩
abbrev cX6_hasRosetteAt : ByteArray := prog_8_method_5_code
def yX6_hasRosetteAt : MethodName := ⟨RX6, "hasRosetteAt", "(I)Z"⟩
abbrev cX6_addJob : ByteArray := prog_8_method_6_code
def yX6_addJob : MethodName := ⟨RX6, "addJob", "(III)I"⟩
abbrev cX6_jobsFor : ByteArray := prog_8_method_7_code
def yX6_jobsFor : MethodName := ⟨RX6, "jobsFor", "(I)I"⟩
abbrev cX6_dropJobsFor : ByteArray := prog_8_method_8_code
def yX6_dropJobsFor : MethodName := ⟨RX6, "dropJobsFor", "(I)V"⟩
abbrev cX6_goTo : ByteArray := prog_8_method_9_code
def yX6_goTo : MethodName := ⟨RX6, "goTo", "(I)V"⟩
abbrev cX6_leaveRecord : ByteArray := prog_8_method_10_code
def yX6_leaveRecord : MethodName := ⟨RX6, "leaveRecord", "(IIII)V"⟩
def RX7 : String := "RosetteGantry"
def TX7 : u_T := fun k => match k with
  | 0 => ("RosetteGantry", "state", "LRosetteGantry$State;", true)
  | 1 => ("RosetteGantry", "snapshot", "LRosetteGantry$State;", true)
  | 2 => ("RosetteGantry", "hasSnapshot", "Z", false)
  | 3 => ("RosetteGantry", "history", "LRosetteGantry$History;", true)
  | 4 => ("RosetteGantry", "text", "LRosetteGantry$JobText;", true)
  | 5 => ("RosetteGantry", "reason", "I", false)
  | 6 => ("RosetteGantry", "plan", "LRosetteGantry$Plan;", true)
  | _ => ("RosetteGantry", "measure", "LRosetteGantry$Measure;", true)
def tyX7 : Nat → FieldType := fun k => match k with
  | 0 => .object "RosetteGantry$State"
  | 1 => .object "RosetteGantry$State"
  | 2 => .boolean
  | 3 => .object "RosetteGantry$History"
  | 4 => .object "RosetteGantry$JobText"
  | 5 => .int
  | 6 => .object "RosetteGantry$Plan"
  | _ => .object "RosetteGantry$Measure"
abbrev wsX70 : List Cond := u_ws RX7 TX7 8
theorem nmX7 : ∀ a, a < 8 → ∀ b, b < 8 → a ≠ b → (TX7 a).2.1 ≠ (TX7 b).2.1 := by decide +kernel
theorem tyX7_ok : ∀ k, k < 8 → parseFieldDescriptor (TX7 k).2.2.1 = some (tyX7 k) := by decide +kernel
abbrev cX7_init : ByteArray := prog_1_method_1_code
def yX7_init : MethodName := ⟨RX7, "<init>", "()V"⟩
abbrev cX7_addRosette : ByteArray := prog_1_method_2_code
def yX7_addRosette : MethodName := ⟨RX7, "addRosette", "(IZII)I"⟩
abbrev cX7_setStrain : ByteArray := prog_1_method_3_code
def yX7_setStrain : MethodName := ⟨RX7, "setStrain", "(IIII)I"⟩
abbrev cX7_setLeads : ByteArray := prog_1_method_4_code
def yX7_setLeads : MethodName := ⟨RX7, "setLeads", "(II)I"⟩
abbrev cX7_setOffset : ByteArray := prog_1_method_5_code
def yX7_setOffset : MethodName := ⟨RX7, "setOffset", "(III)I"⟩
abbrev cX7_setShunt : ByteArray := prog_1_method_6_code
def yX7_setShunt : MethodName := ⟨RX7, "setShunt", "(IZ)I"⟩
abbrev cX7_setSize : ByteArray := prog_1_method_7_code
def yX7_setSize : MethodName := ⟨RX7, "setSize", "(I)I"⟩
abbrev cX7_request : ByteArray := prog_1_method_8_code
def yX7_request : MethodName := ⟨RX7, "request", "(III)I"⟩
abbrev cX7_cancel : ByteArray := prog_1_method_9_code
def yX7_cancel : MethodName := ⟨RX7, "cancel", "(I)I"⟩
abbrev cX7_next : ByteArray := prog_1_method_10_code
def yX7_next : MethodName := ⟨RX7, "next", "()I"⟩
abbrev cX7_workOff : ByteArray := prog_1_method_11_code
def yX7_workOff : MethodName := ⟨RX7, "workOff", "()I"⟩
abbrev cX7_readJobs : ByteArray := prog_1_method_14_code
def yX7_readJobs : MethodName := ⟨RX7, "readJobs", "()I"⟩
abbrev cX7_undo : ByteArray := prog_1_method_15_code
def yX7_undo : MethodName := ⟨RX7, "undo", "()I"⟩
abbrev cX7_restore : ByteArray := prog_1_method_17_code
def yX7_restore : MethodName := ⟨RX7, "restore", "()I"⟩
abbrev cX7_rosette : ByteArray := prog_1_method_18_code
def yX7_rosette : MethodName := ⟨RX7, "rosette", "(II)I"⟩
abbrev cX7_gauge : ByteArray := prog_1_method_19_code
def yX7_gauge : MethodName := ⟨RX7, "gauge", "(III)I"⟩
abbrev cX7_principal : ByteArray := prog_1_method_20_code
def yX7_principal : MethodName := ⟨RX7, "principal", "(II)I"⟩
abbrev cX7_pull : ByteArray := prog_1_method_21_code
def yX7_pull : MethodName := ⟨RX7, "pull", "(II)I"⟩
abbrev cX7_job : ByteArray := prog_1_method_22_code
def yX7_job : MethodName := ⟨RX7, "job", "(II)I"⟩
abbrev cX7_record : ByteArray := prog_1_method_23_code
def yX7_record : MethodName := ⟨RX7, "record", "(II)I"⟩
abbrev cX7_neighbour : ByteArray := prog_1_method_24_code
def yX7_neighbour : MethodName := ⟨RX7, "neighbour", "(IZ)I"⟩
abbrev cX7_count : ByteArray := prog_1_method_25_code
def yX7_count : MethodName := ⟨RX7, "count", "(I)I"⟩
abbrev cX7_doJob : ByteArray := prog_1_method_26_code
def yX7_doJob : MethodName := ⟨RX7, "doJob", "(I)V"⟩
abbrev cX7_reasonAgainst : ByteArray := prog_1_method_27_code
def yX7_reasonAgainst : MethodName := ⟨RX7, "reasonAgainst", "(ILRosetteGantry$Rosette;)I"⟩
abbrev cX7_reasonAgainstBalance : ByteArray := prog_1_method_28_code
def yX7_reasonAgainstBalance : MethodName := ⟨RX7, "reasonAgainstBalance", "(LRosetteGantry$Rosette;)I"⟩
abbrev cX7_reasonAgainstCheck : ByteArray := prog_1_method_29_code
def yX7_reasonAgainstCheck : MethodName := ⟨RX7, "reasonAgainstCheck", "()I"⟩
abbrev cX7_perform : ByteArray := prog_1_method_30_code
def yX7_perform : MethodName := ⟨RX7, "perform", "(ILRosetteGantry$Rosette;)I"⟩
abbrev cX7_setZeros : ByteArray := prog_1_method_31_code
def yX7_setZeros : MethodName := ⟨RX7, "setZeros", "(LRosetteGantry$Rosette;)I"⟩
abbrev cX7_setGains : ByteArray := prog_1_method_32_code
def yX7_setGains : MethodName := ⟨RX7, "setGains", "(LRosetteGantry$Rosette;)I"⟩
abbrev cX7_refuse : ByteArray := prog_1_method_33_code
def yX7_refuse : MethodName := ⟨RX7, "refuse", "(I)I"⟩
abbrev cX7_isWithin : ByteArray := prog_1_method_34_code
def yX7_isWithin : MethodName := ⟨RX7, "isWithin", "(III)Z"⟩
abbrev cX7_isAround0 : ByteArray := prog_1_method_35_code
def yX7_isAround0 : MethodName := ⟨RX7, "isAround0", "(II)Z"⟩
abbrev cX7_quotient : ByteArray := prog_1_method_36_code
def yX7_quotient : MethodName := ⟨RX7, "quotient", "(JJ)J"⟩
def RX8 : String := "RosetteGantryModel"
def TX8 : u_T := fun k => match k with
  | _ => ("", "", "", false)
def tyX8 : Nat → FieldType := fun k => match k with
  | _ => .int
abbrev wsX80 : List Cond := u_ws RX8 TX8 0
theorem nmX8 : ∀ a, a < 0 → ∀ b, b < 0 → a ≠ b → (TX8 a).2.1 ≠ (TX8 b).2.1 := by decide +kernel
theorem tyX8_ok : ∀ k, k < 0 → parseFieldDescriptor (TX8 k).2.2.1 = some (tyX8 k) := by decide +kernel
def RJ9 : String := "java/lang/Math"
def TJ9 : u_T := fun k => match k with
  | _ => ("", "", "", false)
def tyJ9 : Nat → FieldType := fun k => match k with
  | _ => .int
abbrev wsJ90 : List Cond := u_ws RJ9 TJ9 0
theorem nmJ9 : ∀ a, a < 0 → ∀ b, b < 0 → a ≠ b → (TJ9 a).2.1 ≠ (TJ9 b).2.1 := by decide +kernel
theorem tyJ9_ok : ∀ k, k < 0 → parseFieldDescriptor (TJ9 k).2.2.1 = some (tyJ9 k) := by decide +kernel
abbrev cJ9_abs_0f7a4 : ByteArray := prog_11_method_59_code
def yJ9_abs_0f7a4 : MethodName := ⟨RJ9, "abs", "(I)I"⟩
abbrev cJ9_max_7cf53 : ByteArray := prog_11_method_65_code
def yJ9_max_7cf53 : MethodName := ⟨RJ9, "max", "(II)I"⟩
abbrev cJ9_min_7cf53 : ByteArray := prog_11_method_69_code
def yJ9_min_7cf53 : MethodName := ⟨RJ9, "min", "(II)I"⟩
def RJ10 : String := "java/lang/System"
def TJ10 : u_T := fun k => match k with
  | _ => ("", "", "", false)
def tyJ10 : Nat → FieldType := fun k => match k with
  | _ => .int
abbrev wsJ100 : List Cond := u_ws RJ10 TJ10 0
theorem nmJ10 : ∀ a, a < 0 → ∀ b, b < 0 → a ≠ b → (TJ10 a).2.1 ≠ (TJ10 b).2.1 := by decide +kernel
theorem tyJ10_ok : ∀ k, k < 0 → parseFieldDescriptor (TJ10 k).2.2.1 = some (tyJ10 k) := by decide +kernel
def RL : String := "RosetteGantryLaw"
abbrev cL_cell : ByteArray := method_2_code
def yL_cell : MethodName := ⟨RL, "cell", "([II)I"⟩
abbrev cL_low : ByteArray := method_3_code
def yL_low : MethodName := ⟨RL, "low", "(II)I"⟩
abbrev cL_size : ByteArray := method_4_code
def yL_size : MethodName := ⟨RL, "size", "(I)I"⟩
abbrev cL_digest : ByteArray := method_5_code
def yL_digest : MethodName := ⟨RL, "digest", "(LRosetteGantry;)J"⟩
abbrev cL_strains : ByteArray := method_6_code
def yL_strains : MethodName := ⟨RL, "strains", "(LRosetteGantry;I)Z"⟩
abbrev cL_gauges : ByteArray := method_7_code
def yL_gauges : MethodName := ⟨RL, "gauges", "(LRosetteGantry;I)Z"⟩
abbrev cL_lines : ByteArray := method_8_code
def yL_lines : MethodName := ⟨RL, "lines", "(LRosetteGantry;)Z"⟩
abbrev cL_rail : ByteArray := method_9_code
def yL_rail : MethodName := ⟨RL, "rail", "(LRosetteGantry;I)Z"⟩
abbrev cL_sound : ByteArray := method_10_code
def yL_sound : MethodName := ⟨RL, "sound", "(LRosetteGantry;II)Z"⟩
abbrev cL_did : ByteArray := method_11_code
def yL_did : MethodName := ⟨RL, "did", "(LRosetteGantry;)Z"⟩
abbrev cL_works : ByteArray := method_12_code
def yL_works : MethodName := ⟨RL, "works", "(LRosetteGantry;I)Z"⟩
abbrev cL_sets : ByteArray := method_13_code
def yL_sets : MethodName := ⟨RL, "sets", "(LRosetteGantry;III)Z"⟩
abbrev cL_asks : ByteArray := method_14_code
def yL_asks : MethodName := ⟨RL, "asks", "(LRosetteGantry;II)Z"⟩
abbrev cL_law : ByteArray := code
def yL_law : MethodName := ⟨RL, "law", "([I)Z"⟩

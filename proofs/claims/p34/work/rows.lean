section
-- ===== PART A: goes FIRST, ahead of the names: the tables' words, and 'selects' of the private methods out of them =====
/-- a private method of a class that the tables say can be made, by its rows of tables_1 -/
def lw_okq (q : MethodName × Nat) : Prop := (q.1.cls ≠ "java/lang/invoke/MethodHandle" ∧ q.1.cls ≠ "java/lang/invoke/VarHandle") ∧ Cond.instantiable q.1.cls q.2 ∈ tables_1 ∧ Cond.privateMethod q.1 ∈ tables_1 ∧ Cond.instanceMethod q.1 ∈ tables_1
theorem lw_p0 : lw_okq (⟨"BlessedPins", "reachedNow", "()I"⟩, 4) := ⟨⟨by decide +kernel, by decide +kernel⟩, List.mem_of_getElem? (i := 12) (by decide +kernel), List.mem_of_getElem? (i := 386) (by decide +kernel), List.mem_of_getElem? (i := 387) (by decide +kernel)⟩
theorem lw_p1 : lw_okq (⟨"BlessedPins", "isFaultOrNone", "(I)Z"⟩, 4) := ⟨⟨by decide +kernel, by decide +kernel⟩, List.mem_of_getElem? (i := 12) (by decide +kernel), List.mem_of_getElem? (i := 480) (by decide +kernel), List.mem_of_getElem? (i := 481) (by decide +kernel)⟩
def lw_privs_1 : List (MethodName × Nat) := [(⟨"BlessedPins", "reachedNow", "()I"⟩, 4), (⟨"BlessedPins", "isFaultOrNone", "(I)Z"⟩, 4)]
theorem lw_r1 : ∀ q ∈ lw_privs_1, lw_okq q := List.forall_mem_cons.mpr ⟨lw_p0, List.forall_mem_cons.mpr ⟨lw_p1, fun _ h => absurd h List.not_mem_nil⟩⟩
def lw_privs : List (MethodName × Nat) := lw_privs_1
def lw_tbl : List Cond := k2_sels lw_privs ++ tables_1
theorem lw_privs_ok : ∀ q ∈ lw_privs, lw_okq q := lw_r1
end
section
def RX0 : String := "BlessedPins$Board"
def TX0 : u_T := fun k => match k with
  | 0 => ("BlessedPins$Board", "nets", "[I", true)
  | 1 => ("BlessedPins$Board", "netOf", "[I", true)
  | 2 => ("BlessedPins$Board", "entries", "[I", true)
  | 3 => ("BlessedPins$Board", "exits", "[I", true)
  | 4 => ("BlessedPins$Board", "cells", "[I", true)
  | 5 => ("BlessedPins$Board", "kinds", "[I", true)
  | 6 => ("BlessedPins$Board", "places", "[I", true)
  | 7 => ("BlessedPins$Board", "seconds", "[I", true)
  | 8 => ("BlessedPins$Board", "blessed", "[I", true)
  | 9 => ("BlessedPins$Board", "netCount", "I", false)
  | 10 => ("BlessedPins$Board", "chipCount", "I", false)
  | 11 => ("BlessedPins$Board", "faultCount", "I", false)
  | 12 => ("BlessedPins$Board", "pinsInNets", "I", false)
  | _ => ("BlessedPins$Board", "pinsOfChips", "I", false)
def tyX0 : Nat → FieldType := fun k => match k with
  | 0 => .array .int
  | 1 => .array .int
  | 2 => .array .int
  | 3 => .array .int
  | 4 => .array .int
  | 5 => .array .int
  | 6 => .array .int
  | 7 => .array .int
  | 8 => .array .int
  | 9 => .int
  | 10 => .int
  | 11 => .int
  | 12 => .int
  | _ => .int
theorem nmX0 : ∀ a, a < 14 → ∀ b, b < 14 → a ≠ b → (TX0 a).2.1 ≠ (TX0 b).2.1 := by decide +kernel
theorem tyX0_ok : ∀ k, k < 14 → parseFieldDescriptor (TX0 k).2.2.1 = some (tyX0 k) := by decide +kernel
abbrev cX0_init : ByteArray := prog_2_method_1_code
def yX0_init : MethodName := ⟨RX0, "<init>", "()V"⟩
abbrev cX0_copyFrom : ByteArray := prog_2_method_2_code
def yX0_copyFrom : MethodName := ⟨RX0, "copyFrom", "(LBlessedPins$Board;)V"⟩
abbrev cX0_refusalOfNet : ByteArray := prog_2_method_3_code
def yX0_refusalOfNet : MethodName := ⟨RX0, "refusalOfNet", "(I)I"⟩
abbrev cX0_addNet : ByteArray := prog_2_method_4_code
def yX0_addNet : MethodName := ⟨RX0, "addNet", "(I)I"⟩
abbrev cX0_refusalOfChip : ByteArray := prog_2_method_5_code
def yX0_refusalOfChip : MethodName := ⟨RX0, "refusalOfChip", "(III)I"⟩
abbrev cX0_addChip : ByteArray := prog_2_method_6_code
def yX0_addChip : MethodName := ⟨RX0, "addChip", "(III)I"⟩
abbrev cX0_refusalOfFault : ByteArray := prog_2_method_7_code
def yX0_refusalOfFault : MethodName := ⟨RX0, "refusalOfFault", "(III)I"⟩
abbrev cX0_placesFor : ByteArray := prog_2_method_8_code
def yX0_placesFor : MethodName := ⟨RX0, "placesFor", "(I)I"⟩
abbrev cX0_addFault : ByteArray := prog_2_method_9_code
def yX0_addFault : MethodName := ⟨RX0, "addFault", "(III)I"⟩
abbrev cX0_setBlessing : ByteArray := prog_2_method_10_code
def yX0_setBlessing : MethodName := ⟨RX0, "setBlessing", "(II)I"⟩
abbrev cX0_blessedOn : ByteArray := prog_2_method_11_code
def yX0_blessedOn : MethodName := ⟨RX0, "blessedOn", "(I)I"⟩
abbrev cX0_chipWith : ByteArray := prog_2_method_12_code
def yX0_chipWith : MethodName := ⟨RX0, "chipWith", "(I)I"⟩
abbrev cX0_roleOf : ByteArray := prog_2_method_13_code
def yX0_roleOf : MethodName := ⟨RX0, "roleOf", "(I)I"⟩
abbrev cX0_isFault : ByteArray := prog_2_method_14_code
def yX0_isFault : MethodName := ⟨RX0, "isFault", "(I)Z"⟩
abbrev cX0_allSuspects : ByteArray := prog_2_method_15_code
def yX0_allSuspects : MethodName := ⟨RX0, "allSuspects", "()I"⟩
abbrev cX0_suffers : ByteArray := prog_2_method_16_code
def yX0_suffers : MethodName := ⟨RX0, "suffers", "(III)Z"⟩
abbrev cX0_shortedWith : ByteArray := prog_2_method_17_code
def yX0_shortedWith : MethodName := ⟨RX0, "shortedWith", "(II)I"⟩
def RX1 : String := "BlessedPins$History"
def TX1 : u_T := fun k => match k with
  | 0 => ("BlessedPins$History", "states", "[LBlessedPins$State;", true)
  | _ => ("BlessedPins$History", "size", "I", false)
def tyX1 : Nat → FieldType := fun k => match k with
  | 0 => .array (.object "BlessedPins$State")
  | _ => .int
theorem nmX1 : ∀ a, a < 2 → ∀ b, b < 2 → a ≠ b → (TX1 a).2.1 ≠ (TX1 b).2.1 := by decide +kernel
theorem tyX1_ok : ∀ k, k < 2 → parseFieldDescriptor (TX1 k).2.2.1 = some (tyX1 k) := by decide +kernel
abbrev cX1_init : ByteArray := prog_3_method_1_code
def yX1_init : MethodName := ⟨RX1, "<init>", "()V"⟩
abbrev cX1_keep : ByteArray := prog_3_method_2_code
def yX1_keep : MethodName := ⟨RX1, "keep", "(LBlessedPins$State;)V"⟩
abbrev cX1_dropOldest : ByteArray := prog_3_method_3_code
def yX1_dropOldest : MethodName := ⟨RX1, "dropOldest", "()V"⟩
abbrev cX1_restore : ByteArray := prog_3_method_4_code
def yX1_restore : MethodName := ⟨RX1, "restore", "(LBlessedPins$State;)V"⟩
def RX2 : String := "BlessedPins$Meter"
def TX2 : u_T := fun k => match k with
  | 0 => ("BlessedPins$Meter", "board", "LBlessedPins$Board;", true)
  | 1 => ("BlessedPins$Meter", "supposed", "[LBlessedPins$SuspectBoard;", true)
  | 2 => ("BlessedPins$Meter", "firstLike", "[[I", true)
  | 3 => ("BlessedPins$Meter", "daysWanted", "[I", true)
  | _ => ("BlessedPins$Meter", "daysWantedCount", "I", false)
def tyX2 : Nat → FieldType := fun k => match k with
  | 0 => .object "BlessedPins$Board"
  | 1 => .array (.object "BlessedPins$SuspectBoard")
  | 2 => .array (.array .int)
  | 3 => .array .int
  | _ => .int
theorem nmX2 : ∀ a, a < 5 → ∀ b, b < 5 → a ≠ b → (TX2 a).2.1 ≠ (TX2 b).2.1 := by decide +kernel
theorem tyX2_ok : ∀ k, k < 5 → parseFieldDescriptor (TX2 k).2.2.1 = some (tyX2 k) := by decide +kernel
abbrev cX2_init : ByteArray := prog_4_method_1_code
def yX2_init : MethodName := ⟨RX2, "<init>", "(LBlessedPins$Board;)V"⟩
abbrev cX2_suppose : ByteArray := prog_4_method_2_code
def yX2_suppose : MethodName := ⟨RX2, "suppose", "(I)LBlessedPins$SuspectBoard;"⟩
abbrev cX2_supposeAll : ByteArray := prog_4_method_3_code
def yX2_supposeAll : MethodName := ⟨RX2, "supposeAll", "(I)V"⟩
abbrev cX2_probeAll : ByteArray := prog_4_method_4_code
def yX2_probeAll : MethodName := ⟨RX2, "probeAll", "(II)V"⟩
abbrev cX2_probedLike : ByteArray := prog_4_method_5_code
def yX2_probedLike : MethodName := ⟨RX2, "probedLike", "(II)I"⟩
abbrev cX2_leftBy : ByteArray := prog_4_method_6_code
def yX2_leftBy : MethodName := ⟨RX2, "leftBy", "(III)I"⟩
def RX3 : String := "BlessedPins$Program"
def TX3 : u_T := fun k => match k with
  | 0 => ("BlessedPins$Program", "trial", "LBlessedPins$Board;", true)
  | 1 => ("BlessedPins$Program", "text", "[C", true)
  | 2 => ("BlessedPins$Program", "numbers", "[I", true)
  | 3 => ("BlessedPins$Program", "length", "I", false)
  | 4 => ("BlessedPins$Program", "word", "I", false)
  | 5 => ("BlessedPins$Program", "many", "I", false)
  | 6 => ("BlessedPins$Program", "commands", "I", false)
  | 7 => ("BlessedPins$Program", "faultAt", "I", false)
  | _ => ("BlessedPins$Program", "reason", "I", false)
def tyX3 : Nat → FieldType := fun k => match k with
  | 0 => .object "BlessedPins$Board"
  | 1 => .array .char
  | 2 => .array .int
  | 3 => .int
  | 4 => .int
  | 5 => .int
  | 6 => .int
  | 7 => .int
  | _ => .int
theorem nmX3 : ∀ a, a < 9 → ∀ b, b < 9 → a ≠ b → (TX3 a).2.1 ≠ (TX3 b).2.1 := by decide +kernel
theorem tyX3_ok : ∀ k, k < 9 → parseFieldDescriptor (TX3 k).2.2.1 = some (tyX3 k) := by decide +kernel
abbrev cX3_init : ByteArray := prog_5_method_1_code
def yX3_init : MethodName := ⟨RX3, "<init>", "()V"⟩
def RX4 : String := "BlessedPins$State"
def TX4 : u_T := fun k => match k with
  | 0 => ("BlessedPins$State", "board", "LBlessedPins$Board;", true)
  | 1 => ("BlessedPins$State", "drawers", "[I", true)
  | 2 => ("BlessedPins$State", "day", "I", false)
  | 3 => ("BlessedPins$State", "planted", "I", false)
  | 4 => ("BlessedPins$State", "suspected", "I", false)
  | 5 => ("BlessedPins$State", "vouchersLeft", "I", false)
  | 6 => ("BlessedPins$State", "vouched", "I", false)
  | _ => ("BlessedPins$State", "tests", "I", false)
def tyX4 : Nat → FieldType := fun k => match k with
  | 0 => .object "BlessedPins$Board"
  | 1 => .array .int
  | 2 => .int
  | 3 => .int
  | 4 => .int
  | 5 => .int
  | 6 => .int
  | _ => .int
theorem nmX4 : ∀ a, a < 8 → ∀ b, b < 8 → a ≠ b → (TX4 a).2.1 ≠ (TX4 b).2.1 := by decide +kernel
theorem tyX4_ok : ∀ k, k < 8 → parseFieldDescriptor (TX4 k).2.2.1 = some (tyX4 k) := by decide +kernel
abbrev cX4_init : ByteArray := prog_6_method_1_code
def yX4_init : MethodName := ⟨RX4, "<init>", "(LBlessedPins$Board;)V"⟩
abbrev cX4_copyFrom : ByteArray := prog_6_method_2_code
def yX4_copyFrom : MethodName := ⟨RX4, "copyFrom", "(LBlessedPins$State;)V"⟩
abbrev cX4_weekday : ByteArray := prog_6_method_3_code
def yX4_weekday : MethodName := ⟨RX4, "weekday", "()I"⟩
abbrev cX4_touchedNow : ByteArray := prog_6_method_4_code
def yX4_touchedNow : MethodName := ⟨RX4, "touchedNow", "()I"⟩
abbrev cX4_filedIn : ByteArray := prog_6_method_5_code
def yX4_filedIn : MethodName := ⟨RX4, "filedIn", "(I)I"⟩
def RX5 : String := "BlessedPins$SuspectBoard"
def TX5 : u_T := fun k => match k with
  | 0 => ("BlessedPins$SuspectBoard", "board", "LBlessedPins$Board;", true)
  | 1 => ("BlessedPins$SuspectBoard", "suspect", "I", true)
  | 2 => ("BlessedPins$SuspectBoard", "linking", "[I", true)
  | 3 => ("BlessedPins$SuspectBoard", "following", "[I", true)
  | 4 => ("BlessedPins$SuspectBoard", "steady", "I", false)
  | 5 => ("BlessedPins$SuspectBoard", "deadChips", "I", false)
  | _ => ("BlessedPins$SuspectBoard", "inReach", "I", false)
def tyX5 : Nat → FieldType := fun k => match k with
  | 0 => .object "BlessedPins$Board"
  | 1 => .int
  | 2 => .array .int
  | 3 => .array .int
  | 4 => .int
  | 5 => .int
  | _ => .int
theorem nmX5 : ∀ a, a < 7 → ∀ b, b < 7 → a ≠ b → (TX5 a).2.1 ≠ (TX5 b).2.1 := by decide +kernel
theorem tyX5_ok : ∀ k, k < 7 → parseFieldDescriptor (TX5 k).2.2.1 = some (tyX5 k) := by decide +kernel
abbrev cX5_init : ByteArray := prog_7_method_1_code
def yX5_init : MethodName := ⟨RX5, "<init>", "(LBlessedPins$Board;I)V"⟩
abbrev cX5_setUp : ByteArray := prog_7_method_2_code
def yX5_setUp : MethodName := ⟨RX5, "setUp", "()V"⟩
abbrev cX5_linkingNet : ByteArray := prog_7_method_3_code
def yX5_linkingNet : MethodName := ⟨RX5, "linkingNet", "(I)I"⟩
abbrev cX5_followers : ByteArray := prog_7_method_4_code
def yX5_followers : MethodName := ⟨RX5, "followers", "(I)I"⟩
abbrev cX5_scannedChips : ByteArray := prog_7_method_5_code
def yX5_scannedChips : MethodName := ⟨RX5, "scannedChips", "(I)I"⟩
abbrev cX5_spread : ByteArray := prog_7_method_6_code
def yX5_spread : MethodName := ⟨RX5, "spread", "(I[I[I)I"⟩
abbrev cX5_probe : ByteArray := prog_7_method_7_code
def yX5_probe : MethodName := ⟨RX5, "probe", "(I)V"⟩
abbrev cX5_pinsAtOne : ByteArray := prog_7_method_8_code
def yX5_pinsAtOne : MethodName := ⟨RX5, "pinsAtOne", "(II)I"⟩
abbrev cX5_sameOutcome : ByteArray := prog_7_method_9_code
def yX5_sameOutcome : MethodName := ⟨RX5, "sameOutcome", "(LBlessedPins$SuspectBoard;)Z"⟩
def RX6 : String := "BlessedPins"
def TX6 : u_T := fun k => match k with
  | 0 => ("BlessedPins", "state", "LBlessedPins$State;", true)
  | 1 => ("BlessedPins", "meter", "LBlessedPins$Meter;", true)
  | 2 => ("BlessedPins", "history", "LBlessedPins$History;", true)
  | _ => ("BlessedPins", "program", "LBlessedPins$Program;", true)
def tyX6 : Nat → FieldType := fun k => match k with
  | 0 => .object "BlessedPins$State"
  | 1 => .object "BlessedPins$Meter"
  | 2 => .object "BlessedPins$History"
  | _ => .object "BlessedPins$Program"
theorem nmX6 : ∀ a, a < 4 → ∀ b, b < 4 → a ≠ b → (TX6 a).2.1 ≠ (TX6 b).2.1 := by decide +kernel
theorem tyX6_ok : ∀ k, k < 4 → parseFieldDescriptor (TX6 k).2.2.1 = some (tyX6 k) := by decide +kernel
abbrev cX6_init : ByteArray := prog_1_method_1_code
def yX6_init : MethodName := ⟨RX6, "<init>", "()V"⟩
abbrev cX6_net : ByteArray := prog_1_method_2_code
def yX6_net : MethodName := ⟨RX6, "net", "(I)I"⟩
abbrev cX6_chip : ByteArray := prog_1_method_3_code
def yX6_chip : MethodName := ⟨RX6, "chip", "(III)I"⟩
abbrev cX6_fault : ByteArray := prog_1_method_4_code
def yX6_fault : MethodName := ⟨RX6, "fault", "(III)I"⟩
abbrev cX6_bless : ByteArray := prog_1_method_5_code
def yX6_bless : MethodName := ⟨RX6, "bless", "(II)I"⟩
abbrev cX6_pinOf : ByteArray := prog_1_method_6_code
def yX6_pinOf : MethodName := ⟨RX6, "pinOf", "(II)I"⟩
abbrev cX6_faultOf : ByteArray := prog_1_method_7_code
def yX6_faultOf : MethodName := ⟨RX6, "faultOf", "(II)I"⟩
abbrev cX6_plant : ByteArray := prog_1_method_19_code
def yX6_plant : MethodName := ⟨RX6, "plant", "(I)I"⟩
abbrev cX6_test : ByteArray := prog_1_method_20_code
def yX6_test : MethodName := ⟨RX6, "test", "()I"⟩
abbrev cX6_vouch : ByteArray := prog_1_method_21_code
def yX6_vouch : MethodName := ⟨RX6, "vouch", "(I)I"⟩
abbrev cX6_vouchers : ByteArray := prog_1_method_22_code
def yX6_vouchers : MethodName := ⟨RX6, "vouchers", "(I)I"⟩
abbrev cX6_pass : ByteArray := prog_1_method_23_code
def yX6_pass : MethodName := ⟨RX6, "pass", "(I)I"⟩
abbrev cX6_suspects : ByteArray := prog_1_method_24_code
def yX6_suspects : MethodName := ⟨RX6, "suspects", "()I"⟩
abbrev cX6_file : ByteArray := prog_1_method_26_code
def yX6_file : MethodName := ⟨RX6, "file", "(II)I"⟩
abbrev cX6_count : ByteArray := prog_1_method_27_code
def yX6_count : MethodName := ⟨RX6, "count", "(I)I"⟩
abbrev cX6_undo : ByteArray := prog_1_method_28_code
def yX6_undo : MethodName := ⟨RX6, "undo", "()I"⟩
abbrev cX6_reachedNow : ByteArray := prog_1_method_33_code
def yX6_reachedNow : MethodName := ⟨RX6, "reachedNow", "()I"⟩
abbrev cX6_isFaultOrNone : ByteArray := prog_1_method_34_code
def yX6_isFaultOrNone : MethodName := ⟨RX6, "isFaultOrNone", "(I)Z"⟩
abbrev cX6_suspectFor : ByteArray := prog_1_method_35_code
def yX6_suspectFor : MethodName := ⟨RX6, "suspectFor", "(I)I"⟩
abbrev cX6_foundOrNot : ByteArray := prog_1_method_36_code
def yX6_foundOrNot : MethodName := ⟨RX6, "foundOrNot", "(I)I"⟩
abbrev cX6_isPin : ByteArray := prog_1_method_38_code
def yX6_isPin : MethodName := ⟨RX6, "isPin", "(I)Z"⟩
abbrev cX6_hasBit : ByteArray := prog_1_method_41_code
def yX6_hasBit : MethodName := ⟨RX6, "hasBit", "(II)Z"⟩
def RX7 : String := "BlessedPinsModel"
def RJ6 : String := "java/lang/Integer"
abbrev cJ6_bitCount_0f7a4 : ByteArray := prog_10_method_49_code
def yJ6_bitCount_0f7a4 : MethodName := ⟨RJ6, "bitCount", "(I)I"⟩
def RJ10 : String := "java/lang/System"
def RJ7 : String := "java/util/Arrays"
abbrev cJ7_fill_53178 : ByteArray := prog_12_method_103_code
def yJ7_fill_53178 : MethodName := ⟨RJ7, "fill", "([II)V"⟩
def RL : String := "BlessedPinsLaw"
abbrev cL_cell : ByteArray := method_2_code
def yL_cell : MethodName := ⟨RL, "cell", "([II)I"⟩
abbrev cL_up : ByteArray := method_3_code
def yL_up : MethodName := ⟨RL, "up", "(II)I"⟩
abbrev cL_ones : ByteArray := method_4_code
def yL_ones : MethodName := ⟨RL, "ones", "(I)I"⟩
abbrev cL_view : ByteArray := method_5_code
def yL_view : MethodName := ⟨RL, "view", "(LBlessedPins;)J"⟩
abbrev cL_some : ByteArray := method_6_code
def yL_some : MethodName := ⟨RL, "some", "(I)I"⟩
abbrev cL_any : ByteArray := method_7_code
def yL_any : MethodName := ⟨RL, "any", "(LBlessedPins;II)I"⟩
abbrev cL_turn : ByteArray := method_8_code
def yL_turn : MethodName := ⟨RL, "turn", "(LBlessedPins;III)I"⟩
abbrev cL_isUndone : ByteArray := method_9_code
def yL_isUndone : MethodName := ⟨RL, "isUndone", "(LBlessedPins;IIIIJ)Z"⟩
abbrev cL_areRight : ByteArray := method_10_code
def yL_areRight : MethodName := ⟨RL, "areRight", "(LBlessedPins;IIII)Z"⟩
abbrev cL_law : ByteArray := code
def yL_law : MethodName := ⟨RL, "law", "([I)Z"⟩
abbrev vwCl : List vw_C := [(RX0, TX0, 14), (RX1, TX1, 2), (RX2, TX2, 5), (RX3, TX3, 9), (RX4, TX4, 8), (RX5, TX5, 7), (RX6, TX6, 4)]
end
section
theorem dX0_init_0 : decode cX0_init 0 = .ok (.aload_n 0, 1) := by decide +kernel
theorem dX0_init_1 : decode cX0_init 1 = .ok (.invokespecial 3, 3) := by decide +kernel
theorem dX0_init_4 : decode cX0_init 4 = .ok (.aload_n 0, 1) := by decide +kernel
theorem dX0_init_5 : decode cX0_init 5 = .ok (.bipush 8, 2) := by decide +kernel
theorem dX0_init_7 : decode cX0_init 7 = .ok (.newarray .int, 2) := by decide +kernel
theorem dX0_init_9 : decode cX0_init 9 = .ok (.putfield 9, 3) := by decide +kernel
theorem dX0_init_12 : decode cX0_init 12 = .ok (.aload_n 0, 1) := by decide +kernel
theorem dX0_init_13 : decode cX0_init 13 = .ok (.bipush 16, 2) := by decide +kernel
theorem dX0_init_15 : decode cX0_init 15 = .ok (.newarray .int, 2) := by decide +kernel
theorem dX0_init_17 : decode cX0_init 17 = .ok (.putfield 15, 3) := by decide +kernel
theorem dX0_init_20 : decode cX0_init 20 = .ok (.aload_n 0, 1) := by decide +kernel
theorem dX0_init_21 : decode cX0_init 21 = .ok (.iconst 5, 1) := by decide +kernel
theorem dX0_init_22 : decode cX0_init 22 = .ok (.newarray .int, 2) := by decide +kernel
theorem dX0_init_24 : decode cX0_init 24 = .ok (.putfield 18, 3) := by decide +kernel
theorem dX0_init_27 : decode cX0_init 27 = .ok (.aload_n 0, 1) := by decide +kernel
theorem dX0_init_28 : decode cX0_init 28 = .ok (.iconst 5, 1) := by decide +kernel
theorem dX0_init_29 : decode cX0_init 29 = .ok (.newarray .int, 2) := by decide +kernel
theorem dX0_init_31 : decode cX0_init 31 = .ok (.putfield 21, 3) := by decide +kernel
theorem dX0_init_34 : decode cX0_init 34 = .ok (.aload_n 0, 1) := by decide +kernel
theorem dX0_init_35 : decode cX0_init 35 = .ok (.iconst 5, 1) := by decide +kernel
theorem dX0_init_36 : decode cX0_init 36 = .ok (.newarray .int, 2) := by decide +kernel
theorem dX0_init_38 : decode cX0_init 38 = .ok (.putfield 24, 3) := by decide +kernel
theorem dX0_init_41 : decode cX0_init 41 = .ok (.aload_n 0, 1) := by decide +kernel
theorem dX0_init_42 : decode cX0_init 42 = .ok (.bipush 10, 2) := by decide +kernel
theorem dX0_init_44 : decode cX0_init 44 = .ok (.newarray .int, 2) := by decide +kernel
theorem dX0_init_46 : decode cX0_init 46 = .ok (.putfield 27, 3) := by decide +kernel
theorem dX0_init_49 : decode cX0_init 49 = .ok (.aload_n 0, 1) := by decide +kernel
theorem dX0_init_50 : decode cX0_init 50 = .ok (.bipush 10, 2) := by decide +kernel
theorem dX0_init_52 : decode cX0_init 52 = .ok (.newarray .int, 2) := by decide +kernel
theorem dX0_init_54 : decode cX0_init 54 = .ok (.putfield 30, 3) := by decide +kernel
theorem dX0_init_57 : decode cX0_init 57 = .ok (.aload_n 0, 1) := by decide +kernel
theorem dX0_init_58 : decode cX0_init 58 = .ok (.bipush 10, 2) := by decide +kernel
theorem dX0_init_60 : decode cX0_init 60 = .ok (.newarray .int, 2) := by decide +kernel
theorem dX0_init_62 : decode cX0_init 62 = .ok (.putfield 33, 3) := by decide +kernel
theorem dX0_init_65 : decode cX0_init 65 = .ok (.aload_n 0, 1) := by decide +kernel
theorem dX0_init_66 : decode cX0_init 66 = .ok (.bipush 16, 2) := by decide +kernel
theorem dX0_init_68 : decode cX0_init 68 = .ok (.newarray .int, 2) := by decide +kernel
theorem dX0_init_70 : decode cX0_init 70 = .ok (.putfield 36, 3) := by decide +kernel
theorem dX0_init_73 : decode cX0_init 73 = .ok (.aload_n 0, 1) := by decide +kernel
theorem dX0_init_74 : decode cX0_init 74 = .ok (.getfield 15, 3) := by decide +kernel
theorem dX0_init_77 : decode cX0_init 77 = .ok (.iconst (-1), 1) := by decide +kernel
theorem dX0_init_78 : decode cX0_init 78 = .ok (.invokestatic 39, 3) := by decide +kernel
theorem dX0_init_81 : decode cX0_init 81 = .ok (.return_, 1) := by decide +kernel
theorem dX0_copyFrom_0 : decode cX0_copyFrom 0 = .ok (.aload_n 1, 1) := by decide +kernel
theorem dX0_copyFrom_1 : decode cX0_copyFrom 1 = .ok (.getfield 9, 3) := by decide +kernel
theorem dX0_copyFrom_4 : decode cX0_copyFrom 4 = .ok (.iconst 0, 1) := by decide +kernel
theorem dX0_copyFrom_5 : decode cX0_copyFrom 5 = .ok (.aload_n 0, 1) := by decide +kernel
theorem dX0_copyFrom_6 : decode cX0_copyFrom 6 = .ok (.getfield 9, 3) := by decide +kernel
theorem dX0_copyFrom_9 : decode cX0_copyFrom 9 = .ok (.iconst 0, 1) := by decide +kernel
theorem dX0_copyFrom_10 : decode cX0_copyFrom 10 = .ok (.bipush 8, 2) := by decide +kernel
theorem dX0_copyFrom_12 : decode cX0_copyFrom 12 = .ok (.invokestatic 45, 3) := by decide +kernel
theorem dX0_copyFrom_15 : decode cX0_copyFrom 15 = .ok (.aload_n 1, 1) := by decide +kernel
theorem dX0_copyFrom_16 : decode cX0_copyFrom 16 = .ok (.getfield 15, 3) := by decide +kernel
theorem dX0_copyFrom_19 : decode cX0_copyFrom 19 = .ok (.iconst 0, 1) := by decide +kernel
theorem dX0_copyFrom_20 : decode cX0_copyFrom 20 = .ok (.aload_n 0, 1) := by decide +kernel
theorem dX0_copyFrom_21 : decode cX0_copyFrom 21 = .ok (.getfield 15, 3) := by decide +kernel
theorem dX0_copyFrom_24 : decode cX0_copyFrom 24 = .ok (.iconst 0, 1) := by decide +kernel
theorem dX0_copyFrom_25 : decode cX0_copyFrom 25 = .ok (.bipush 16, 2) := by decide +kernel
theorem dX0_copyFrom_27 : decode cX0_copyFrom 27 = .ok (.invokestatic 45, 3) := by decide +kernel
theorem dX0_copyFrom_30 : decode cX0_copyFrom 30 = .ok (.aload_n 1, 1) := by decide +kernel
theorem dX0_copyFrom_31 : decode cX0_copyFrom 31 = .ok (.getfield 18, 3) := by decide +kernel
theorem dX0_copyFrom_34 : decode cX0_copyFrom 34 = .ok (.iconst 0, 1) := by decide +kernel
theorem dX0_copyFrom_35 : decode cX0_copyFrom 35 = .ok (.aload_n 0, 1) := by decide +kernel
theorem dX0_copyFrom_36 : decode cX0_copyFrom 36 = .ok (.getfield 18, 3) := by decide +kernel
theorem dX0_copyFrom_39 : decode cX0_copyFrom 39 = .ok (.iconst 0, 1) := by decide +kernel
theorem dX0_copyFrom_40 : decode cX0_copyFrom 40 = .ok (.iconst 5, 1) := by decide +kernel
theorem dX0_copyFrom_41 : decode cX0_copyFrom 41 = .ok (.invokestatic 45, 3) := by decide +kernel
theorem dX0_copyFrom_44 : decode cX0_copyFrom 44 = .ok (.aload_n 1, 1) := by decide +kernel
theorem dX0_copyFrom_45 : decode cX0_copyFrom 45 = .ok (.getfield 21, 3) := by decide +kernel
theorem dX0_copyFrom_48 : decode cX0_copyFrom 48 = .ok (.iconst 0, 1) := by decide +kernel
theorem dX0_copyFrom_49 : decode cX0_copyFrom 49 = .ok (.aload_n 0, 1) := by decide +kernel
theorem dX0_copyFrom_50 : decode cX0_copyFrom 50 = .ok (.getfield 21, 3) := by decide +kernel
theorem dX0_copyFrom_53 : decode cX0_copyFrom 53 = .ok (.iconst 0, 1) := by decide +kernel
theorem dX0_copyFrom_54 : decode cX0_copyFrom 54 = .ok (.iconst 5, 1) := by decide +kernel
theorem dX0_copyFrom_55 : decode cX0_copyFrom 55 = .ok (.invokestatic 45, 3) := by decide +kernel
theorem dX0_copyFrom_58 : decode cX0_copyFrom 58 = .ok (.aload_n 1, 1) := by decide +kernel
theorem dX0_copyFrom_59 : decode cX0_copyFrom 59 = .ok (.getfield 24, 3) := by decide +kernel
theorem dX0_copyFrom_62 : decode cX0_copyFrom 62 = .ok (.iconst 0, 1) := by decide +kernel
theorem dX0_copyFrom_63 : decode cX0_copyFrom 63 = .ok (.aload_n 0, 1) := by decide +kernel
theorem dX0_copyFrom_64 : decode cX0_copyFrom 64 = .ok (.getfield 24, 3) := by decide +kernel
theorem dX0_copyFrom_67 : decode cX0_copyFrom 67 = .ok (.iconst 0, 1) := by decide +kernel
theorem dX0_copyFrom_68 : decode cX0_copyFrom 68 = .ok (.iconst 5, 1) := by decide +kernel
theorem dX0_copyFrom_69 : decode cX0_copyFrom 69 = .ok (.invokestatic 45, 3) := by decide +kernel
theorem dX0_copyFrom_72 : decode cX0_copyFrom 72 = .ok (.aload_n 1, 1) := by decide +kernel
theorem dX0_copyFrom_73 : decode cX0_copyFrom 73 = .ok (.getfield 27, 3) := by decide +kernel
theorem dX0_copyFrom_76 : decode cX0_copyFrom 76 = .ok (.iconst 0, 1) := by decide +kernel
theorem dX0_copyFrom_77 : decode cX0_copyFrom 77 = .ok (.aload_n 0, 1) := by decide +kernel
theorem dX0_copyFrom_78 : decode cX0_copyFrom 78 = .ok (.getfield 27, 3) := by decide +kernel
theorem dX0_copyFrom_81 : decode cX0_copyFrom 81 = .ok (.iconst 0, 1) := by decide +kernel
theorem dX0_copyFrom_82 : decode cX0_copyFrom 82 = .ok (.bipush 10, 2) := by decide +kernel
theorem dX0_copyFrom_84 : decode cX0_copyFrom 84 = .ok (.invokestatic 45, 3) := by decide +kernel
theorem dX0_copyFrom_87 : decode cX0_copyFrom 87 = .ok (.aload_n 1, 1) := by decide +kernel
theorem dX0_copyFrom_88 : decode cX0_copyFrom 88 = .ok (.getfield 30, 3) := by decide +kernel
theorem dX0_copyFrom_91 : decode cX0_copyFrom 91 = .ok (.iconst 0, 1) := by decide +kernel
theorem dX0_copyFrom_92 : decode cX0_copyFrom 92 = .ok (.aload_n 0, 1) := by decide +kernel
theorem dX0_copyFrom_93 : decode cX0_copyFrom 93 = .ok (.getfield 30, 3) := by decide +kernel
theorem dX0_copyFrom_96 : decode cX0_copyFrom 96 = .ok (.iconst 0, 1) := by decide +kernel
theorem dX0_copyFrom_97 : decode cX0_copyFrom 97 = .ok (.bipush 10, 2) := by decide +kernel
theorem dX0_copyFrom_99 : decode cX0_copyFrom 99 = .ok (.invokestatic 45, 3) := by decide +kernel
theorem dX0_copyFrom_102 : decode cX0_copyFrom 102 = .ok (.aload_n 1, 1) := by decide +kernel
theorem dX0_copyFrom_103 : decode cX0_copyFrom 103 = .ok (.getfield 33, 3) := by decide +kernel
theorem dX0_copyFrom_106 : decode cX0_copyFrom 106 = .ok (.iconst 0, 1) := by decide +kernel
theorem dX0_copyFrom_107 : decode cX0_copyFrom 107 = .ok (.aload_n 0, 1) := by decide +kernel
theorem dX0_copyFrom_108 : decode cX0_copyFrom 108 = .ok (.getfield 33, 3) := by decide +kernel
theorem dX0_copyFrom_111 : decode cX0_copyFrom 111 = .ok (.iconst 0, 1) := by decide +kernel
theorem dX0_copyFrom_112 : decode cX0_copyFrom 112 = .ok (.bipush 10, 2) := by decide +kernel
theorem dX0_copyFrom_114 : decode cX0_copyFrom 114 = .ok (.invokestatic 45, 3) := by decide +kernel
theorem dX0_copyFrom_117 : decode cX0_copyFrom 117 = .ok (.aload_n 1, 1) := by decide +kernel
theorem dX0_copyFrom_118 : decode cX0_copyFrom 118 = .ok (.getfield 36, 3) := by decide +kernel
theorem dX0_copyFrom_121 : decode cX0_copyFrom 121 = .ok (.iconst 0, 1) := by decide +kernel
theorem dX0_copyFrom_122 : decode cX0_copyFrom 122 = .ok (.aload_n 0, 1) := by decide +kernel
theorem dX0_copyFrom_123 : decode cX0_copyFrom 123 = .ok (.getfield 36, 3) := by decide +kernel
theorem dX0_copyFrom_126 : decode cX0_copyFrom 126 = .ok (.iconst 0, 1) := by decide +kernel
theorem dX0_copyFrom_127 : decode cX0_copyFrom 127 = .ok (.bipush 16, 2) := by decide +kernel
theorem dX0_copyFrom_129 : decode cX0_copyFrom 129 = .ok (.invokestatic 45, 3) := by decide +kernel
theorem dX0_copyFrom_132 : decode cX0_copyFrom 132 = .ok (.aload_n 0, 1) := by decide +kernel
theorem dX0_copyFrom_133 : decode cX0_copyFrom 133 = .ok (.aload_n 1, 1) := by decide +kernel
theorem dX0_copyFrom_134 : decode cX0_copyFrom 134 = .ok (.getfield 51, 3) := by decide +kernel
theorem dX0_copyFrom_137 : decode cX0_copyFrom 137 = .ok (.putfield 51, 3) := by decide +kernel
theorem dX0_copyFrom_140 : decode cX0_copyFrom 140 = .ok (.aload_n 0, 1) := by decide +kernel
theorem dX0_copyFrom_141 : decode cX0_copyFrom 141 = .ok (.aload_n 1, 1) := by decide +kernel
theorem dX0_copyFrom_142 : decode cX0_copyFrom 142 = .ok (.getfield 55, 3) := by decide +kernel
theorem dX0_copyFrom_145 : decode cX0_copyFrom 145 = .ok (.putfield 55, 3) := by decide +kernel
theorem dX0_copyFrom_148 : decode cX0_copyFrom 148 = .ok (.aload_n 0, 1) := by decide +kernel
theorem dX0_copyFrom_149 : decode cX0_copyFrom 149 = .ok (.aload_n 1, 1) := by decide +kernel
theorem dX0_copyFrom_150 : decode cX0_copyFrom 150 = .ok (.getfield 58, 3) := by decide +kernel
theorem dX0_copyFrom_153 : decode cX0_copyFrom 153 = .ok (.putfield 58, 3) := by decide +kernel
theorem dX0_copyFrom_156 : decode cX0_copyFrom 156 = .ok (.aload_n 0, 1) := by decide +kernel
theorem dX0_copyFrom_157 : decode cX0_copyFrom 157 = .ok (.aload_n 1, 1) := by decide +kernel
theorem dX0_copyFrom_158 : decode cX0_copyFrom 158 = .ok (.getfield 61, 3) := by decide +kernel
theorem dX0_copyFrom_161 : decode cX0_copyFrom 161 = .ok (.putfield 61, 3) := by decide +kernel
theorem dX0_copyFrom_164 : decode cX0_copyFrom 164 = .ok (.aload_n 0, 1) := by decide +kernel
theorem dX0_copyFrom_165 : decode cX0_copyFrom 165 = .ok (.aload_n 1, 1) := by decide +kernel
theorem dX0_copyFrom_166 : decode cX0_copyFrom 166 = .ok (.getfield 64, 3) := by decide +kernel
theorem dX0_copyFrom_169 : decode cX0_copyFrom 169 = .ok (.putfield 64, 3) := by decide +kernel
theorem dX0_copyFrom_172 : decode cX0_copyFrom 172 = .ok (.return_, 1) := by decide +kernel
theorem dX0_refusalOfNet_0 : decode cX0_refusalOfNet 0 = .ok (.iload_n 1, 1) := by decide +kernel
theorem dX0_refusalOfNet_1 : decode cX0_refusalOfNet 1 = .ok (.invokestatic 67, 3) := by decide +kernel
theorem dX0_refusalOfNet_4 : decode cX0_refusalOfNet 4 = .ok (.istore_n 2, 1) := by decide +kernel
theorem dX0_refusalOfNet_5 : decode cX0_refusalOfNet 5 = .ok (.iload_n 1, 1) := by decide +kernel
theorem dX0_refusalOfNet_6 : decode cX0_refusalOfNet 6 = .ok (.ldc 73, 2) := by decide +kernel
theorem dX0_refusalOfNet_8 : decode cX0_refusalOfNet 8 = .ok (.iand, 1) := by decide +kernel
theorem dX0_refusalOfNet_9 : decode cX0_refusalOfNet 9 = .ok (.ifCond .ne 13, 3) := by decide +kernel
theorem dX0_refusalOfNet_12 : decode cX0_refusalOfNet 12 = .ok (.iload_n 2, 1) := by decide +kernel
theorem dX0_refusalOfNet_13 : decode cX0_refusalOfNet 13 = .ok (.iconst 2, 1) := by decide +kernel
theorem dX0_refusalOfNet_14 : decode cX0_refusalOfNet 14 = .ok (.if_icmp .lt 8, 3) := by decide +kernel
theorem dX0_refusalOfNet_17 : decode cX0_refusalOfNet 17 = .ok (.iload_n 2, 1) := by decide +kernel
theorem dX0_refusalOfNet_18 : decode cX0_refusalOfNet 18 = .ok (.iconst 5, 1) := by decide +kernel
theorem dX0_refusalOfNet_19 : decode cX0_refusalOfNet 19 = .ok (.if_icmp .le 6, 3) := by decide +kernel
theorem dX0_refusalOfNet_22 : decode cX0_refusalOfNet 22 = .ok (.ldc 74, 2) := by decide +kernel
theorem dX0_refusalOfNet_24 : decode cX0_refusalOfNet 24 = .ok (.ireturn, 1) := by decide +kernel
theorem dX0_refusalOfNet_25 : decode cX0_refusalOfNet 25 = .ok (.iload_n 1, 1) := by decide +kernel
theorem dX0_refusalOfNet_26 : decode cX0_refusalOfNet 26 = .ok (.aload_n 0, 1) := by decide +kernel
theorem dX0_refusalOfNet_27 : decode cX0_refusalOfNet 27 = .ok (.getfield 61, 3) := by decide +kernel
theorem dX0_refusalOfNet_30 : decode cX0_refusalOfNet 30 = .ok (.iand, 1) := by decide +kernel
theorem dX0_refusalOfNet_31 : decode cX0_refusalOfNet 31 = .ok (.ifCond .eq 6, 3) := by decide +kernel
theorem dX0_refusalOfNet_34 : decode cX0_refusalOfNet 34 = .ok (.ldc 75, 2) := by decide +kernel
theorem dX0_refusalOfNet_36 : decode cX0_refusalOfNet 36 = .ok (.ireturn, 1) := by decide +kernel
theorem dX0_refusalOfNet_37 : decode cX0_refusalOfNet 37 = .ok (.aload_n 0, 1) := by decide +kernel
theorem dX0_refusalOfNet_38 : decode cX0_refusalOfNet 38 = .ok (.getfield 51, 3) := by decide +kernel
theorem dX0_refusalOfNet_41 : decode cX0_refusalOfNet 41 = .ok (.bipush 8, 2) := by decide +kernel
theorem dX0_refusalOfNet_43 : decode cX0_refusalOfNet 43 = .ok (.if_icmp .lt 8, 3) := by decide +kernel
theorem dX0_refusalOfNet_46 : decode cX0_refusalOfNet 46 = .ok (.ldc 76, 2) := by decide +kernel
theorem dX0_refusalOfNet_48 : decode cX0_refusalOfNet 48 = .ok (.goto 4, 3) := by decide +kernel
theorem dX0_refusalOfNet_51 : decode cX0_refusalOfNet 51 = .ok (.iconst 0, 1) := by decide +kernel
theorem dX0_refusalOfNet_52 : decode cX0_refusalOfNet 52 = .ok (.ireturn, 1) := by decide +kernel
theorem dX0_addNet_0 : decode cX0_addNet 0 = .ok (.aload_n 0, 1) := by decide +kernel
theorem dX0_addNet_1 : decode cX0_addNet 1 = .ok (.getfield 9, 3) := by decide +kernel
theorem dX0_addNet_4 : decode cX0_addNet 4 = .ok (.aload_n 0, 1) := by decide +kernel
theorem dX0_addNet_5 : decode cX0_addNet 5 = .ok (.getfield 51, 3) := by decide +kernel
theorem dX0_addNet_8 : decode cX0_addNet 8 = .ok (.iload_n 1, 1) := by decide +kernel
theorem dX0_addNet_9 : decode cX0_addNet 9 = .ok (.iastore, 1) := by decide +kernel
theorem dX0_addNet_10 : decode cX0_addNet 10 = .ok (.aload_n 0, 1) := by decide +kernel
theorem dX0_addNet_11 : decode cX0_addNet 11 = .ok (.dup, 1) := by decide +kernel
theorem dX0_addNet_12 : decode cX0_addNet 12 = .ok (.getfield 61, 3) := by decide +kernel
theorem dX0_addNet_15 : decode cX0_addNet 15 = .ok (.iload_n 1, 1) := by decide +kernel
theorem dX0_addNet_16 : decode cX0_addNet 16 = .ok (.ior, 1) := by decide +kernel
theorem dX0_addNet_17 : decode cX0_addNet 17 = .ok (.putfield 61, 3) := by decide +kernel
theorem dX0_addNet_20 : decode cX0_addNet 20 = .ok (.iconst 0, 1) := by decide +kernel
theorem dX0_addNet_21 : decode cX0_addNet 21 = .ok (.istore_n 2, 1) := by decide +kernel
theorem dX0_addNet_22 : decode cX0_addNet 22 = .ok (.iload_n 2, 1) := by decide +kernel
theorem dX0_addNet_23 : decode cX0_addNet 23 = .ok (.bipush 16, 2) := by decide +kernel
theorem dX0_addNet_25 : decode cX0_addNet 25 = .ok (.if_icmp .ge 27, 3) := by decide +kernel
theorem dX0_addNet_28 : decode cX0_addNet 28 = .ok (.iload_n 1, 1) := by decide +kernel
theorem dX0_addNet_29 : decode cX0_addNet 29 = .ok (.iload_n 2, 1) := by decide +kernel
theorem dX0_addNet_30 : decode cX0_addNet 30 = .ok (.invokestatic 77, 3) := by decide +kernel
theorem dX0_addNet_33 : decode cX0_addNet 33 = .ok (.ifCond .eq 13, 3) := by decide +kernel
theorem dX0_addNet_36 : decode cX0_addNet 36 = .ok (.aload_n 0, 1) := by decide +kernel
theorem dX0_addNet_37 : decode cX0_addNet 37 = .ok (.getfield 15, 3) := by decide +kernel
theorem dX0_addNet_40 : decode cX0_addNet 40 = .ok (.iload_n 2, 1) := by decide +kernel
theorem dX0_addNet_41 : decode cX0_addNet 41 = .ok (.aload_n 0, 1) := by decide +kernel
theorem dX0_addNet_42 : decode cX0_addNet 42 = .ok (.getfield 51, 3) := by decide +kernel
theorem dX0_addNet_45 : decode cX0_addNet 45 = .ok (.iastore, 1) := by decide +kernel
theorem dX0_addNet_46 : decode cX0_addNet 46 = .ok (.iinc 2 1, 3) := by decide +kernel
theorem dX0_addNet_49 : decode cX0_addNet 49 = .ok (.goto (-27), 3) := by decide +kernel
theorem dX0_addNet_52 : decode cX0_addNet 52 = .ok (.aload_n 0, 1) := by decide +kernel
theorem dX0_addNet_53 : decode cX0_addNet 53 = .ok (.dup, 1) := by decide +kernel
theorem dX0_addNet_54 : decode cX0_addNet 54 = .ok (.getfield 51, 3) := by decide +kernel
theorem dX0_addNet_57 : decode cX0_addNet 57 = .ok (.iconst 1, 1) := by decide +kernel
theorem dX0_addNet_58 : decode cX0_addNet 58 = .ok (.iadd, 1) := by decide +kernel
theorem dX0_addNet_59 : decode cX0_addNet 59 = .ok (.putfield 51, 3) := by decide +kernel
theorem dX0_addNet_62 : decode cX0_addNet 62 = .ok (.aload_n 0, 1) := by decide +kernel
theorem dX0_addNet_63 : decode cX0_addNet 63 = .ok (.getfield 51, 3) := by decide +kernel
theorem dX0_addNet_66 : decode cX0_addNet 66 = .ok (.iconst 1, 1) := by decide +kernel
theorem dX0_addNet_67 : decode cX0_addNet 67 = .ok (.isub, 1) := by decide +kernel
theorem dX0_addNet_68 : decode cX0_addNet 68 = .ok (.ireturn, 1) := by decide +kernel
theorem dX0_refusalOfChip_0 : decode cX0_refusalOfChip 0 = .ok (.iload_n 1, 1) := by decide +kernel
theorem dX0_refusalOfChip_1 : decode cX0_refusalOfChip 1 = .ok (.invokestatic 81, 3) := by decide +kernel
theorem dX0_refusalOfChip_4 : decode cX0_refusalOfChip 4 = .ok (.ifCond .eq 15, 3) := by decide +kernel
theorem dX0_refusalOfChip_7 : decode cX0_refusalOfChip 7 = .ok (.iload_n 2, 1) := by decide +kernel
theorem dX0_refusalOfChip_8 : decode cX0_refusalOfChip 8 = .ok (.invokestatic 81, 3) := by decide +kernel
theorem dX0_refusalOfChip_11 : decode cX0_refusalOfChip 11 = .ok (.ifCond .eq 8, 3) := by decide +kernel
theorem dX0_refusalOfChip_14 : decode cX0_refusalOfChip 14 = .ok (.iload_n 1, 1) := by decide +kernel
theorem dX0_refusalOfChip_15 : decode cX0_refusalOfChip 15 = .ok (.iload_n 2, 1) := by decide +kernel
theorem dX0_refusalOfChip_16 : decode cX0_refusalOfChip 16 = .ok (.if_icmp .ne 6, 3) := by decide +kernel
theorem dX0_refusalOfChip_19 : decode cX0_refusalOfChip 19 = .ok (.ldc 74, 2) := by decide +kernel
theorem dX0_refusalOfChip_21 : decode cX0_refusalOfChip 21 = .ok (.ireturn, 1) := by decide +kernel
theorem dX0_refusalOfChip_22 : decode cX0_refusalOfChip 22 = .ok (.iload_n 3, 1) := by decide +kernel
theorem dX0_refusalOfChip_23 : decode cX0_refusalOfChip 23 = .ok (.ldc 73, 2) := by decide +kernel
theorem dX0_refusalOfChip_25 : decode cX0_refusalOfChip 25 = .ok (.iand, 1) := by decide +kernel
theorem dX0_refusalOfChip_26 : decode cX0_refusalOfChip 26 = .ok (.ifCond .ne 27, 3) := by decide +kernel
theorem dX0_refusalOfChip_29 : decode cX0_refusalOfChip 29 = .ok (.iload_n 3, 1) := by decide +kernel
theorem dX0_refusalOfChip_30 : decode cX0_refusalOfChip 30 = .ok (.invokestatic 67, 3) := by decide +kernel
theorem dX0_refusalOfChip_33 : decode cX0_refusalOfChip 33 = .ok (.iconst 5, 1) := by decide +kernel
theorem dX0_refusalOfChip_34 : decode cX0_refusalOfChip 34 = .ok (.if_icmp .gt 19, 3) := by decide +kernel
theorem dX0_refusalOfChip_37 : decode cX0_refusalOfChip 37 = .ok (.iload_n 3, 1) := by decide +kernel
theorem dX0_refusalOfChip_38 : decode cX0_refusalOfChip 38 = .ok (.iload_n 1, 1) := by decide +kernel
theorem dX0_refusalOfChip_39 : decode cX0_refusalOfChip 39 = .ok (.invokestatic 77, 3) := by decide +kernel
theorem dX0_refusalOfChip_42 : decode cX0_refusalOfChip 42 = .ok (.ifCond .ne 11, 3) := by decide +kernel
theorem dX0_refusalOfChip_45 : decode cX0_refusalOfChip 45 = .ok (.iload_n 3, 1) := by decide +kernel
theorem dX0_refusalOfChip_46 : decode cX0_refusalOfChip 46 = .ok (.iload_n 2, 1) := by decide +kernel
theorem dX0_refusalOfChip_47 : decode cX0_refusalOfChip 47 = .ok (.invokestatic 77, 3) := by decide +kernel
theorem dX0_refusalOfChip_50 : decode cX0_refusalOfChip 50 = .ok (.ifCond .eq 6, 3) := by decide +kernel
theorem dX0_refusalOfChip_53 : decode cX0_refusalOfChip 53 = .ok (.ldc 74, 2) := by decide +kernel
theorem dX0_refusalOfChip_55 : decode cX0_refusalOfChip 55 = .ok (.ireturn, 1) := by decide +kernel
theorem dX0_refusalOfChip_56 : decode cX0_refusalOfChip 56 = .ok (.iconst 1, 1) := by decide +kernel
theorem dX0_refusalOfChip_57 : decode cX0_refusalOfChip 57 = .ok (.iload_n 1, 1) := by decide +kernel
theorem dX0_refusalOfChip_58 : decode cX0_refusalOfChip 58 = .ok (.ishl, 1) := by decide +kernel
theorem dX0_refusalOfChip_59 : decode cX0_refusalOfChip 59 = .ok (.iconst 1, 1) := by decide +kernel
theorem dX0_refusalOfChip_60 : decode cX0_refusalOfChip 60 = .ok (.iload_n 2, 1) := by decide +kernel
theorem dX0_refusalOfChip_61 : decode cX0_refusalOfChip 61 = .ok (.ishl, 1) := by decide +kernel
theorem dX0_refusalOfChip_62 : decode cX0_refusalOfChip 62 = .ok (.ior, 1) := by decide +kernel
theorem dX0_refusalOfChip_63 : decode cX0_refusalOfChip 63 = .ok (.iload_n 3, 1) := by decide +kernel
theorem dX0_refusalOfChip_64 : decode cX0_refusalOfChip 64 = .ok (.ior, 1) := by decide +kernel
theorem dX0_refusalOfChip_65 : decode cX0_refusalOfChip 65 = .ok (.aload_n 0, 1) := by decide +kernel
theorem dX0_refusalOfChip_66 : decode cX0_refusalOfChip 66 = .ok (.getfield 64, 3) := by decide +kernel
theorem dX0_refusalOfChip_69 : decode cX0_refusalOfChip 69 = .ok (.iand, 1) := by decide +kernel
theorem dX0_refusalOfChip_70 : decode cX0_refusalOfChip 70 = .ok (.ifCond .eq 6, 3) := by decide +kernel
theorem dX0_refusalOfChip_73 : decode cX0_refusalOfChip 73 = .ok (.ldc 75, 2) := by decide +kernel
theorem dX0_refusalOfChip_75 : decode cX0_refusalOfChip 75 = .ok (.ireturn, 1) := by decide +kernel
theorem dX0_refusalOfChip_76 : decode cX0_refusalOfChip 76 = .ok (.aload_n 0, 1) := by decide +kernel
theorem dX0_refusalOfChip_77 : decode cX0_refusalOfChip 77 = .ok (.getfield 55, 3) := by decide +kernel
theorem dX0_refusalOfChip_80 : decode cX0_refusalOfChip 80 = .ok (.iconst 5, 1) := by decide +kernel
theorem dX0_refusalOfChip_81 : decode cX0_refusalOfChip 81 = .ok (.if_icmp .lt 8, 3) := by decide +kernel
theorem dX0_refusalOfChip_84 : decode cX0_refusalOfChip 84 = .ok (.ldc 76, 2) := by decide +kernel
theorem dX0_refusalOfChip_86 : decode cX0_refusalOfChip 86 = .ok (.goto 4, 3) := by decide +kernel
theorem dX0_refusalOfChip_89 : decode cX0_refusalOfChip 89 = .ok (.iconst 0, 1) := by decide +kernel
theorem dX0_refusalOfChip_90 : decode cX0_refusalOfChip 90 = .ok (.ireturn, 1) := by decide +kernel
theorem dX0_addChip_0 : decode cX0_addChip 0 = .ok (.aload_n 0, 1) := by decide +kernel
theorem dX0_addChip_1 : decode cX0_addChip 1 = .ok (.getfield 18, 3) := by decide +kernel
theorem dX0_addChip_4 : decode cX0_addChip 4 = .ok (.aload_n 0, 1) := by decide +kernel
theorem dX0_addChip_5 : decode cX0_addChip 5 = .ok (.getfield 55, 3) := by decide +kernel
theorem dX0_addChip_8 : decode cX0_addChip 8 = .ok (.iload_n 1, 1) := by decide +kernel
theorem dX0_addChip_9 : decode cX0_addChip 9 = .ok (.iastore, 1) := by decide +kernel
theorem dX0_addChip_10 : decode cX0_addChip 10 = .ok (.aload_n 0, 1) := by decide +kernel
theorem dX0_addChip_11 : decode cX0_addChip 11 = .ok (.getfield 21, 3) := by decide +kernel
theorem dX0_addChip_14 : decode cX0_addChip 14 = .ok (.aload_n 0, 1) := by decide +kernel
theorem dX0_addChip_15 : decode cX0_addChip 15 = .ok (.getfield 55, 3) := by decide +kernel
theorem dX0_addChip_18 : decode cX0_addChip 18 = .ok (.iload_n 2, 1) := by decide +kernel
theorem dX0_addChip_19 : decode cX0_addChip 19 = .ok (.iastore, 1) := by decide +kernel
theorem dX0_addChip_20 : decode cX0_addChip 20 = .ok (.aload_n 0, 1) := by decide +kernel
theorem dX0_addChip_21 : decode cX0_addChip 21 = .ok (.getfield 24, 3) := by decide +kernel
theorem dX0_addChip_24 : decode cX0_addChip 24 = .ok (.aload_n 0, 1) := by decide +kernel
theorem dX0_addChip_25 : decode cX0_addChip 25 = .ok (.getfield 55, 3) := by decide +kernel
theorem dX0_addChip_28 : decode cX0_addChip 28 = .ok (.iload_n 3, 1) := by decide +kernel
theorem dX0_addChip_29 : decode cX0_addChip 29 = .ok (.iastore, 1) := by decide +kernel
theorem dX0_addChip_30 : decode cX0_addChip 30 = .ok (.aload_n 0, 1) := by decide +kernel
theorem dX0_addChip_31 : decode cX0_addChip 31 = .ok (.dup, 1) := by decide +kernel
theorem dX0_addChip_32 : decode cX0_addChip 32 = .ok (.getfield 64, 3) := by decide +kernel
theorem dX0_addChip_35 : decode cX0_addChip 35 = .ok (.iconst 1, 1) := by decide +kernel
theorem dX0_addChip_36 : decode cX0_addChip 36 = .ok (.iload_n 1, 1) := by decide +kernel
theorem dX0_addChip_37 : decode cX0_addChip 37 = .ok (.ishl, 1) := by decide +kernel
theorem dX0_addChip_38 : decode cX0_addChip 38 = .ok (.iconst 1, 1) := by decide +kernel
theorem dX0_addChip_39 : decode cX0_addChip 39 = .ok (.iload_n 2, 1) := by decide +kernel
theorem dX0_addChip_40 : decode cX0_addChip 40 = .ok (.ishl, 1) := by decide +kernel
theorem dX0_addChip_41 : decode cX0_addChip 41 = .ok (.ior, 1) := by decide +kernel
theorem dX0_addChip_42 : decode cX0_addChip 42 = .ok (.iload_n 3, 1) := by decide +kernel
theorem dX0_addChip_43 : decode cX0_addChip 43 = .ok (.ior, 1) := by decide +kernel
theorem dX0_addChip_44 : decode cX0_addChip 44 = .ok (.ior, 1) := by decide +kernel
theorem dX0_addChip_45 : decode cX0_addChip 45 = .ok (.putfield 64, 3) := by decide +kernel
theorem dX0_addChip_48 : decode cX0_addChip 48 = .ok (.aload_n 0, 1) := by decide +kernel
theorem dX0_addChip_49 : decode cX0_addChip 49 = .ok (.dup, 1) := by decide +kernel
theorem dX0_addChip_50 : decode cX0_addChip 50 = .ok (.getfield 55, 3) := by decide +kernel
theorem dX0_addChip_53 : decode cX0_addChip 53 = .ok (.iconst 1, 1) := by decide +kernel
theorem dX0_addChip_54 : decode cX0_addChip 54 = .ok (.iadd, 1) := by decide +kernel
theorem dX0_addChip_55 : decode cX0_addChip 55 = .ok (.putfield 55, 3) := by decide +kernel
theorem dX0_addChip_58 : decode cX0_addChip 58 = .ok (.aload_n 0, 1) := by decide +kernel
theorem dX0_addChip_59 : decode cX0_addChip 59 = .ok (.getfield 55, 3) := by decide +kernel
theorem dX0_addChip_62 : decode cX0_addChip 62 = .ok (.iconst 1, 1) := by decide +kernel
theorem dX0_addChip_63 : decode cX0_addChip 63 = .ok (.isub, 1) := by decide +kernel
theorem dX0_addChip_64 : decode cX0_addChip 64 = .ok (.ireturn, 1) := by decide +kernel
theorem dX0_refusalOfFault_0 : decode cX0_refusalOfFault 0 = .ok (.iload_n 1, 1) := by decide +kernel
theorem dX0_refusalOfFault_1 : decode cX0_refusalOfFault 1 = .ok (.ifCond .lt 21, 3) := by decide +kernel
theorem dX0_refusalOfFault_4 : decode cX0_refusalOfFault 4 = .ok (.iload_n 1, 1) := by decide +kernel
theorem dX0_refusalOfFault_5 : decode cX0_refusalOfFault 5 = .ok (.iconst 5, 1) := by decide +kernel
theorem dX0_refusalOfFault_6 : decode cX0_refusalOfFault 6 = .ok (.if_icmp .ge 16, 3) := by decide +kernel
theorem dX0_refusalOfFault_9 : decode cX0_refusalOfFault 9 = .ok (.iload_n 2, 1) := by decide +kernel
theorem dX0_refusalOfFault_10 : decode cX0_refusalOfFault 10 = .ok (.ifCond .lt 12, 3) := by decide +kernel
theorem dX0_refusalOfFault_13 : decode cX0_refusalOfFault 13 = .ok (.iload_n 2, 1) := by decide +kernel
theorem dX0_refusalOfFault_14 : decode cX0_refusalOfFault 14 = .ok (.aload_n 0, 1) := by decide +kernel
theorem dX0_refusalOfFault_15 : decode cX0_refusalOfFault 15 = .ok (.iload_n 1, 1) := by decide +kernel
theorem dX0_refusalOfFault_16 : decode cX0_refusalOfFault 16 = .ok (.invokevirtual 85, 3) := by decide +kernel
theorem dX0_refusalOfFault_19 : decode cX0_refusalOfFault 19 = .ok (.if_icmp .lt 6, 3) := by decide +kernel
theorem dX0_refusalOfFault_22 : decode cX0_refusalOfFault 22 = .ok (.ldc 74, 2) := by decide +kernel
theorem dX0_refusalOfFault_24 : decode cX0_refusalOfFault 24 = .ok (.ireturn, 1) := by decide +kernel
theorem dX0_refusalOfFault_25 : decode cX0_refusalOfFault 25 = .ok (.iload_n 1, 1) := by decide +kernel
theorem dX0_refusalOfFault_26 : decode cX0_refusalOfFault 26 = .ok (.iconst 1, 1) := by decide +kernel
theorem dX0_refusalOfFault_27 : decode cX0_refusalOfFault 27 = .ok (.if_icmp .ne 24, 3) := by decide +kernel
theorem dX0_refusalOfFault_30 : decode cX0_refusalOfFault 30 = .ok (.iload_n 3, 1) := by decide +kernel
theorem dX0_refusalOfFault_31 : decode cX0_refusalOfFault 31 = .ok (.iload_n 2, 1) := by decide +kernel
theorem dX0_refusalOfFault_32 : decode cX0_refusalOfFault 32 = .ok (.if_icmp .le 15, 3) := by decide +kernel
theorem dX0_refusalOfFault_35 : decode cX0_refusalOfFault 35 = .ok (.iload_n 3, 1) := by decide +kernel
theorem dX0_refusalOfFault_36 : decode cX0_refusalOfFault 36 = .ok (.aload_n 0, 1) := by decide +kernel
theorem dX0_refusalOfFault_37 : decode cX0_refusalOfFault 37 = .ok (.getfield 51, 3) := by decide +kernel
theorem dX0_refusalOfFault_40 : decode cX0_refusalOfFault 40 = .ok (.if_icmp .ge 7, 3) := by decide +kernel
theorem dX0_refusalOfFault_43 : decode cX0_refusalOfFault 43 = .ok (.iconst 1, 1) := by decide +kernel
theorem dX0_refusalOfFault_44 : decode cX0_refusalOfFault 44 = .ok (.goto 16, 3) := by decide +kernel
theorem dX0_refusalOfFault_47 : decode cX0_refusalOfFault 47 = .ok (.iconst 0, 1) := by decide +kernel
theorem dX0_refusalOfFault_48 : decode cX0_refusalOfFault 48 = .ok (.goto 12, 3) := by decide +kernel
theorem dX0_refusalOfFault_51 : decode cX0_refusalOfFault 51 = .ok (.iload_n 3, 1) := by decide +kernel
theorem dX0_refusalOfFault_52 : decode cX0_refusalOfFault 52 = .ok (.ifCond .ne 7, 3) := by decide +kernel
theorem dX0_refusalOfFault_55 : decode cX0_refusalOfFault 55 = .ok (.iconst 1, 1) := by decide +kernel
theorem dX0_refusalOfFault_56 : decode cX0_refusalOfFault 56 = .ok (.goto 4, 3) := by decide +kernel
theorem dX0_refusalOfFault_59 : decode cX0_refusalOfFault 59 = .ok (.iconst 0, 1) := by decide +kernel
theorem dX0_refusalOfFault_60 : decode cX0_refusalOfFault 60 = .ok (.istore 4, 2) := by decide +kernel
theorem dX0_refusalOfFault_62 : decode cX0_refusalOfFault 62 = .ok (.iload 4, 2) := by decide +kernel
theorem dX0_refusalOfFault_64 : decode cX0_refusalOfFault 64 = .ok (.ifCond .ne 6, 3) := by decide +kernel
theorem dX0_refusalOfFault_67 : decode cX0_refusalOfFault 67 = .ok (.ldc 74, 2) := by decide +kernel
theorem dX0_refusalOfFault_69 : decode cX0_refusalOfFault 69 = .ok (.ireturn, 1) := by decide +kernel
theorem dX0_refusalOfFault_70 : decode cX0_refusalOfFault 70 = .ok (.iconst 0, 1) := by decide +kernel
theorem dX0_refusalOfFault_71 : decode cX0_refusalOfFault 71 = .ok (.istore 5, 2) := by decide +kernel
theorem dX0_refusalOfFault_73 : decode cX0_refusalOfFault 73 = .ok (.iload 5, 2) := by decide +kernel
theorem dX0_refusalOfFault_75 : decode cX0_refusalOfFault 75 = .ok (.aload_n 0, 1) := by decide +kernel
theorem dX0_refusalOfFault_76 : decode cX0_refusalOfFault 76 = .ok (.getfield 58, 3) := by decide +kernel
theorem dX0_refusalOfFault_79 : decode cX0_refusalOfFault 79 = .ok (.if_icmp .ge 45, 3) := by decide +kernel
theorem dX0_refusalOfFault_82 : decode cX0_refusalOfFault 82 = .ok (.aload_n 0, 1) := by decide +kernel
theorem dX0_refusalOfFault_83 : decode cX0_refusalOfFault 83 = .ok (.getfield 27, 3) := by decide +kernel
theorem dX0_refusalOfFault_86 : decode cX0_refusalOfFault 86 = .ok (.iload 5, 2) := by decide +kernel
theorem dX0_refusalOfFault_88 : decode cX0_refusalOfFault 88 = .ok (.iaload, 1) := by decide +kernel
theorem dX0_refusalOfFault_89 : decode cX0_refusalOfFault 89 = .ok (.iload_n 1, 1) := by decide +kernel
theorem dX0_refusalOfFault_90 : decode cX0_refusalOfFault 90 = .ok (.if_icmp .ne 28, 3) := by decide +kernel
theorem dX0_refusalOfFault_93 : decode cX0_refusalOfFault 93 = .ok (.aload_n 0, 1) := by decide +kernel
theorem dX0_refusalOfFault_94 : decode cX0_refusalOfFault 94 = .ok (.getfield 30, 3) := by decide +kernel
theorem dX0_refusalOfFault_97 : decode cX0_refusalOfFault 97 = .ok (.iload 5, 2) := by decide +kernel
theorem dX0_refusalOfFault_99 : decode cX0_refusalOfFault 99 = .ok (.iaload, 1) := by decide +kernel
theorem dX0_refusalOfFault_100 : decode cX0_refusalOfFault 100 = .ok (.iload_n 2, 1) := by decide +kernel
theorem dX0_refusalOfFault_101 : decode cX0_refusalOfFault 101 = .ok (.if_icmp .ne 17, 3) := by decide +kernel
theorem dX0_refusalOfFault_104 : decode cX0_refusalOfFault 104 = .ok (.aload_n 0, 1) := by decide +kernel
theorem dX0_refusalOfFault_105 : decode cX0_refusalOfFault 105 = .ok (.getfield 33, 3) := by decide +kernel
theorem dX0_refusalOfFault_108 : decode cX0_refusalOfFault 108 = .ok (.iload 5, 2) := by decide +kernel
theorem dX0_refusalOfFault_110 : decode cX0_refusalOfFault 110 = .ok (.iaload, 1) := by decide +kernel
theorem dX0_refusalOfFault_111 : decode cX0_refusalOfFault 111 = .ok (.iload_n 3, 1) := by decide +kernel
theorem dX0_refusalOfFault_112 : decode cX0_refusalOfFault 112 = .ok (.if_icmp .ne 6, 3) := by decide +kernel
theorem dX0_refusalOfFault_115 : decode cX0_refusalOfFault 115 = .ok (.ldc 75, 2) := by decide +kernel
theorem dX0_refusalOfFault_117 : decode cX0_refusalOfFault 117 = .ok (.ireturn, 1) := by decide +kernel
theorem dX0_refusalOfFault_118 : decode cX0_refusalOfFault 118 = .ok (.iinc 5 1, 3) := by decide +kernel
theorem dX0_refusalOfFault_121 : decode cX0_refusalOfFault 121 = .ok (.goto (-48), 3) := by decide +kernel
theorem dX0_refusalOfFault_124 : decode cX0_refusalOfFault 124 = .ok (.aload_n 0, 1) := by decide +kernel
theorem dX0_refusalOfFault_125 : decode cX0_refusalOfFault 125 = .ok (.getfield 58, 3) := by decide +kernel
theorem dX0_refusalOfFault_128 : decode cX0_refusalOfFault 128 = .ok (.bipush 10, 2) := by decide +kernel
theorem dX0_refusalOfFault_130 : decode cX0_refusalOfFault 130 = .ok (.if_icmp .lt 8, 3) := by decide +kernel
theorem dX0_refusalOfFault_133 : decode cX0_refusalOfFault 133 = .ok (.ldc 76, 2) := by decide +kernel
theorem dX0_refusalOfFault_135 : decode cX0_refusalOfFault 135 = .ok (.goto 4, 3) := by decide +kernel
theorem dX0_refusalOfFault_138 : decode cX0_refusalOfFault 138 = .ok (.iconst 0, 1) := by decide +kernel
theorem dX0_refusalOfFault_139 : decode cX0_refusalOfFault 139 = .ok (.ireturn, 1) := by decide +kernel
theorem dX0_placesFor_0 : decode cX0_placesFor 0 = .ok (.iload_n 1, 1) := by decide +kernel
theorem dX0_placesFor_1 : decode cX0_placesFor 1 = .ok (.ifCond .ne 6, 3) := by decide +kernel
theorem dX0_placesFor_4 : decode cX0_placesFor 4 = .ok (.bipush 16, 2) := by decide +kernel
theorem dX0_placesFor_6 : decode cX0_placesFor 6 = .ok (.ireturn, 1) := by decide +kernel
theorem dX0_placesFor_7 : decode cX0_placesFor 7 = .ok (.iload_n 1, 1) := by decide +kernel
theorem dX0_placesFor_8 : decode cX0_placesFor 8 = .ok (.iconst 4, 1) := by decide +kernel
theorem dX0_placesFor_9 : decode cX0_placesFor 9 = .ok (.if_icmp .ne 10, 3) := by decide +kernel
theorem dX0_placesFor_12 : decode cX0_placesFor 12 = .ok (.aload_n 0, 1) := by decide +kernel
theorem dX0_placesFor_13 : decode cX0_placesFor 13 = .ok (.getfield 55, 3) := by decide +kernel
theorem dX0_placesFor_16 : decode cX0_placesFor 16 = .ok (.goto 7, 3) := by decide +kernel
theorem dX0_placesFor_19 : decode cX0_placesFor 19 = .ok (.aload_n 0, 1) := by decide +kernel
theorem dX0_placesFor_20 : decode cX0_placesFor 20 = .ok (.getfield 51, 3) := by decide +kernel
theorem dX0_placesFor_23 : decode cX0_placesFor 23 = .ok (.ireturn, 1) := by decide +kernel
theorem dX0_addFault_0 : decode cX0_addFault 0 = .ok (.aload_n 0, 1) := by decide +kernel
theorem dX0_addFault_1 : decode cX0_addFault 1 = .ok (.getfield 27, 3) := by decide +kernel
theorem dX0_addFault_4 : decode cX0_addFault 4 = .ok (.aload_n 0, 1) := by decide +kernel
theorem dX0_addFault_5 : decode cX0_addFault 5 = .ok (.getfield 58, 3) := by decide +kernel
theorem dX0_addFault_8 : decode cX0_addFault 8 = .ok (.iload_n 1, 1) := by decide +kernel
theorem dX0_addFault_9 : decode cX0_addFault 9 = .ok (.iastore, 1) := by decide +kernel
theorem dX0_addFault_10 : decode cX0_addFault 10 = .ok (.aload_n 0, 1) := by decide +kernel
theorem dX0_addFault_11 : decode cX0_addFault 11 = .ok (.getfield 30, 3) := by decide +kernel
theorem dX0_addFault_14 : decode cX0_addFault 14 = .ok (.aload_n 0, 1) := by decide +kernel
theorem dX0_addFault_15 : decode cX0_addFault 15 = .ok (.getfield 58, 3) := by decide +kernel
theorem dX0_addFault_18 : decode cX0_addFault 18 = .ok (.iload_n 2, 1) := by decide +kernel
theorem dX0_addFault_19 : decode cX0_addFault 19 = .ok (.iastore, 1) := by decide +kernel
theorem dX0_addFault_20 : decode cX0_addFault 20 = .ok (.aload_n 0, 1) := by decide +kernel
theorem dX0_addFault_21 : decode cX0_addFault 21 = .ok (.getfield 33, 3) := by decide +kernel
theorem dX0_addFault_24 : decode cX0_addFault 24 = .ok (.aload_n 0, 1) := by decide +kernel
theorem dX0_addFault_25 : decode cX0_addFault 25 = .ok (.getfield 58, 3) := by decide +kernel
theorem dX0_addFault_28 : decode cX0_addFault 28 = .ok (.iload_n 3, 1) := by decide +kernel
theorem dX0_addFault_29 : decode cX0_addFault 29 = .ok (.iastore, 1) := by decide +kernel
theorem dX0_addFault_30 : decode cX0_addFault 30 = .ok (.aload_n 0, 1) := by decide +kernel
theorem dX0_addFault_31 : decode cX0_addFault 31 = .ok (.dup, 1) := by decide +kernel
theorem dX0_addFault_32 : decode cX0_addFault 32 = .ok (.getfield 58, 3) := by decide +kernel
theorem dX0_addFault_35 : decode cX0_addFault 35 = .ok (.iconst 1, 1) := by decide +kernel
theorem dX0_addFault_36 : decode cX0_addFault 36 = .ok (.iadd, 1) := by decide +kernel
theorem dX0_addFault_37 : decode cX0_addFault 37 = .ok (.putfield 58, 3) := by decide +kernel
theorem dX0_addFault_40 : decode cX0_addFault 40 = .ok (.aload_n 0, 1) := by decide +kernel
theorem dX0_addFault_41 : decode cX0_addFault 41 = .ok (.getfield 58, 3) := by decide +kernel
theorem dX0_addFault_44 : decode cX0_addFault 44 = .ok (.iconst 1, 1) := by decide +kernel
theorem dX0_addFault_45 : decode cX0_addFault 45 = .ok (.isub, 1) := by decide +kernel
theorem dX0_addFault_46 : decode cX0_addFault 46 = .ok (.ireturn, 1) := by decide +kernel
theorem dX0_setBlessing_0 : decode cX0_setBlessing 0 = .ok (.aload_n 0, 1) := by decide +kernel
theorem dX0_setBlessing_1 : decode cX0_setBlessing 1 = .ok (.getfield 36, 3) := by decide +kernel
theorem dX0_setBlessing_4 : decode cX0_setBlessing 4 = .ok (.iload_n 1, 1) := by decide +kernel
theorem dX0_setBlessing_5 : decode cX0_setBlessing 5 = .ok (.iaload, 1) := by decide +kernel
theorem dX0_setBlessing_6 : decode cX0_setBlessing 6 = .ok (.istore_n 3, 1) := by decide +kernel
theorem dX0_setBlessing_7 : decode cX0_setBlessing 7 = .ok (.aload_n 0, 1) := by decide +kernel
theorem dX0_setBlessing_8 : decode cX0_setBlessing 8 = .ok (.getfield 36, 3) := by decide +kernel
theorem dX0_setBlessing_11 : decode cX0_setBlessing 11 = .ok (.iload_n 1, 1) := by decide +kernel
theorem dX0_setBlessing_12 : decode cX0_setBlessing 12 = .ok (.iload_n 2, 1) := by decide +kernel
theorem dX0_setBlessing_13 : decode cX0_setBlessing 13 = .ok (.iastore, 1) := by decide +kernel
theorem dX0_setBlessing_14 : decode cX0_setBlessing 14 = .ok (.iload_n 3, 1) := by decide +kernel
theorem dX0_setBlessing_15 : decode cX0_setBlessing 15 = .ok (.ireturn, 1) := by decide +kernel
theorem dX0_blessedOn_0 : decode cX0_blessedOn 0 = .ok (.iconst 0, 1) := by decide +kernel
theorem dX0_blessedOn_1 : decode cX0_blessedOn 1 = .ok (.istore_n 2, 1) := by decide +kernel
theorem dX0_blessedOn_2 : decode cX0_blessedOn 2 = .ok (.iconst 0, 1) := by decide +kernel
theorem dX0_blessedOn_3 : decode cX0_blessedOn 3 = .ok (.istore_n 3, 1) := by decide +kernel
theorem dX0_blessedOn_4 : decode cX0_blessedOn 4 = .ok (.iload_n 3, 1) := by decide +kernel
theorem dX0_blessedOn_5 : decode cX0_blessedOn 5 = .ok (.bipush 16, 2) := by decide +kernel
theorem dX0_blessedOn_7 : decode cX0_blessedOn 7 = .ok (.if_icmp .ge 28, 3) := by decide +kernel
theorem dX0_blessedOn_10 : decode cX0_blessedOn 10 = .ok (.aload_n 0, 1) := by decide +kernel
theorem dX0_blessedOn_11 : decode cX0_blessedOn 11 = .ok (.getfield 36, 3) := by decide +kernel
theorem dX0_blessedOn_14 : decode cX0_blessedOn 14 = .ok (.iload_n 3, 1) := by decide +kernel
theorem dX0_blessedOn_15 : decode cX0_blessedOn 15 = .ok (.iaload, 1) := by decide +kernel
theorem dX0_blessedOn_16 : decode cX0_blessedOn 16 = .ok (.iload_n 1, 1) := by decide +kernel
theorem dX0_blessedOn_17 : decode cX0_blessedOn 17 = .ok (.invokestatic 77, 3) := by decide +kernel
theorem dX0_blessedOn_20 : decode cX0_blessedOn 20 = .ok (.ifCond .eq 9, 3) := by decide +kernel
theorem dX0_blessedOn_23 : decode cX0_blessedOn 23 = .ok (.iload_n 2, 1) := by decide +kernel
theorem dX0_blessedOn_24 : decode cX0_blessedOn 24 = .ok (.iconst 1, 1) := by decide +kernel
theorem dX0_blessedOn_25 : decode cX0_blessedOn 25 = .ok (.iload_n 3, 1) := by decide +kernel
theorem dX0_blessedOn_26 : decode cX0_blessedOn 26 = .ok (.ishl, 1) := by decide +kernel
theorem dX0_blessedOn_27 : decode cX0_blessedOn 27 = .ok (.ior, 1) := by decide +kernel
theorem dX0_blessedOn_28 : decode cX0_blessedOn 28 = .ok (.istore_n 2, 1) := by decide +kernel
theorem dX0_blessedOn_29 : decode cX0_blessedOn 29 = .ok (.iinc 3 1, 3) := by decide +kernel
theorem dX0_blessedOn_32 : decode cX0_blessedOn 32 = .ok (.goto (-28), 3) := by decide +kernel
theorem dX0_blessedOn_35 : decode cX0_blessedOn 35 = .ok (.iload_n 2, 1) := by decide +kernel
theorem dX0_blessedOn_36 : decode cX0_blessedOn 36 = .ok (.ireturn, 1) := by decide +kernel
theorem dX0_chipWith_0 : decode cX0_chipWith 0 = .ok (.iconst 0, 1) := by decide +kernel
theorem dX0_chipWith_1 : decode cX0_chipWith 1 = .ok (.istore_n 2, 1) := by decide +kernel
theorem dX0_chipWith_2 : decode cX0_chipWith 2 = .ok (.iload_n 2, 1) := by decide +kernel
theorem dX0_chipWith_3 : decode cX0_chipWith 3 = .ok (.aload_n 0, 1) := by decide +kernel
theorem dX0_chipWith_4 : decode cX0_chipWith 4 = .ok (.getfield 55, 3) := by decide +kernel
theorem dX0_chipWith_7 : decode cX0_chipWith 7 = .ok (.if_icmp .ge 44, 3) := by decide +kernel
theorem dX0_chipWith_10 : decode cX0_chipWith 10 = .ok (.aload_n 0, 1) := by decide +kernel
theorem dX0_chipWith_11 : decode cX0_chipWith 11 = .ok (.getfield 18, 3) := by decide +kernel
theorem dX0_chipWith_14 : decode cX0_chipWith 14 = .ok (.iload_n 2, 1) := by decide +kernel
theorem dX0_chipWith_15 : decode cX0_chipWith 15 = .ok (.iaload, 1) := by decide +kernel
theorem dX0_chipWith_16 : decode cX0_chipWith 16 = .ok (.iload_n 1, 1) := by decide +kernel
theorem dX0_chipWith_17 : decode cX0_chipWith 17 = .ok (.if_icmp .eq 26, 3) := by decide +kernel
theorem dX0_chipWith_20 : decode cX0_chipWith 20 = .ok (.aload_n 0, 1) := by decide +kernel
theorem dX0_chipWith_21 : decode cX0_chipWith 21 = .ok (.getfield 21, 3) := by decide +kernel
theorem dX0_chipWith_24 : decode cX0_chipWith 24 = .ok (.iload_n 2, 1) := by decide +kernel
theorem dX0_chipWith_25 : decode cX0_chipWith 25 = .ok (.iaload, 1) := by decide +kernel
theorem dX0_chipWith_26 : decode cX0_chipWith 26 = .ok (.iload_n 1, 1) := by decide +kernel
theorem dX0_chipWith_27 : decode cX0_chipWith 27 = .ok (.if_icmp .eq 16, 3) := by decide +kernel
theorem dX0_chipWith_30 : decode cX0_chipWith 30 = .ok (.aload_n 0, 1) := by decide +kernel
theorem dX0_chipWith_31 : decode cX0_chipWith 31 = .ok (.getfield 24, 3) := by decide +kernel
theorem dX0_chipWith_34 : decode cX0_chipWith 34 = .ok (.iload_n 2, 1) := by decide +kernel
theorem dX0_chipWith_35 : decode cX0_chipWith 35 = .ok (.iaload, 1) := by decide +kernel
theorem dX0_chipWith_36 : decode cX0_chipWith 36 = .ok (.iload_n 1, 1) := by decide +kernel
theorem dX0_chipWith_37 : decode cX0_chipWith 37 = .ok (.invokestatic 77, 3) := by decide +kernel
theorem dX0_chipWith_40 : decode cX0_chipWith 40 = .ok (.ifCond .eq 5, 3) := by decide +kernel
theorem dX0_chipWith_43 : decode cX0_chipWith 43 = .ok (.iload_n 2, 1) := by decide +kernel
theorem dX0_chipWith_44 : decode cX0_chipWith 44 = .ok (.ireturn, 1) := by decide +kernel
theorem dX0_chipWith_45 : decode cX0_chipWith 45 = .ok (.iinc 2 1, 3) := by decide +kernel
theorem dX0_chipWith_48 : decode cX0_chipWith 48 = .ok (.goto (-46), 3) := by decide +kernel
theorem dX0_chipWith_51 : decode cX0_chipWith 51 = .ok (.iconst (-1), 1) := by decide +kernel
theorem dX0_chipWith_52 : decode cX0_chipWith 52 = .ok (.ireturn, 1) := by decide +kernel
theorem dX0_roleOf_0 : decode cX0_roleOf 0 = .ok (.aload_n 0, 1) := by decide +kernel
theorem dX0_roleOf_1 : decode cX0_roleOf 1 = .ok (.iload_n 1, 1) := by decide +kernel
theorem dX0_roleOf_2 : decode cX0_roleOf 2 = .ok (.invokevirtual 88, 3) := by decide +kernel
theorem dX0_roleOf_5 : decode cX0_roleOf 5 = .ok (.istore_n 2, 1) := by decide +kernel
theorem dX0_roleOf_6 : decode cX0_roleOf 6 = .ok (.iload_n 2, 1) := by decide +kernel
theorem dX0_roleOf_7 : decode cX0_roleOf 7 = .ok (.iconst (-1), 1) := by decide +kernel
theorem dX0_roleOf_8 : decode cX0_roleOf 8 = .ok (.if_icmp .ne 5, 3) := by decide +kernel
theorem dX0_roleOf_11 : decode cX0_roleOf 11 = .ok (.iconst (-1), 1) := by decide +kernel
theorem dX0_roleOf_12 : decode cX0_roleOf 12 = .ok (.ireturn, 1) := by decide +kernel
theorem dX0_roleOf_13 : decode cX0_roleOf 13 = .ok (.aload_n 0, 1) := by decide +kernel
theorem dX0_roleOf_14 : decode cX0_roleOf 14 = .ok (.getfield 18, 3) := by decide +kernel
theorem dX0_roleOf_17 : decode cX0_roleOf 17 = .ok (.iload_n 2, 1) := by decide +kernel
theorem dX0_roleOf_18 : decode cX0_roleOf 18 = .ok (.iaload, 1) := by decide +kernel
theorem dX0_roleOf_19 : decode cX0_roleOf 19 = .ok (.iload_n 1, 1) := by decide +kernel
theorem dX0_roleOf_20 : decode cX0_roleOf 20 = .ok (.if_icmp .ne 5, 3) := by decide +kernel
theorem dX0_roleOf_23 : decode cX0_roleOf 23 = .ok (.iconst 0, 1) := by decide +kernel
theorem dX0_roleOf_24 : decode cX0_roleOf 24 = .ok (.ireturn, 1) := by decide +kernel
theorem dX0_roleOf_25 : decode cX0_roleOf 25 = .ok (.aload_n 0, 1) := by decide +kernel
theorem dX0_roleOf_26 : decode cX0_roleOf 26 = .ok (.getfield 21, 3) := by decide +kernel
theorem dX0_roleOf_29 : decode cX0_roleOf 29 = .ok (.iload_n 2, 1) := by decide +kernel
theorem dX0_roleOf_30 : decode cX0_roleOf 30 = .ok (.iaload, 1) := by decide +kernel
theorem dX0_roleOf_31 : decode cX0_roleOf 31 = .ok (.iload_n 1, 1) := by decide +kernel
theorem dX0_roleOf_32 : decode cX0_roleOf 32 = .ok (.if_icmp .ne 7, 3) := by decide +kernel
theorem dX0_roleOf_35 : decode cX0_roleOf 35 = .ok (.iconst 1, 1) := by decide +kernel
theorem dX0_roleOf_36 : decode cX0_roleOf 36 = .ok (.goto 4, 3) := by decide +kernel
theorem dX0_roleOf_39 : decode cX0_roleOf 39 = .ok (.iconst 2, 1) := by decide +kernel
theorem dX0_roleOf_40 : decode cX0_roleOf 40 = .ok (.ireturn, 1) := by decide +kernel
theorem dX0_isFault_0 : decode cX0_isFault 0 = .ok (.iload_n 1, 1) := by decide +kernel
theorem dX0_isFault_1 : decode cX0_isFault 1 = .ok (.ifCond .lt 15, 3) := by decide +kernel
theorem dX0_isFault_4 : decode cX0_isFault 4 = .ok (.iload_n 1, 1) := by decide +kernel
theorem dX0_isFault_5 : decode cX0_isFault 5 = .ok (.aload_n 0, 1) := by decide +kernel
theorem dX0_isFault_6 : decode cX0_isFault 6 = .ok (.getfield 58, 3) := by decide +kernel
theorem dX0_isFault_9 : decode cX0_isFault 9 = .ok (.if_icmp .ge 7, 3) := by decide +kernel
theorem dX0_isFault_12 : decode cX0_isFault 12 = .ok (.iconst 1, 1) := by decide +kernel
theorem dX0_isFault_13 : decode cX0_isFault 13 = .ok (.goto 4, 3) := by decide +kernel
theorem dX0_isFault_16 : decode cX0_isFault 16 = .ok (.iconst 0, 1) := by decide +kernel
theorem dX0_isFault_17 : decode cX0_isFault 17 = .ok (.ireturn, 1) := by decide +kernel
theorem dX0_allSuspects_0 : decode cX0_allSuspects 0 = .ok (.sipush 1024, 3) := by decide +kernel
theorem dX0_allSuspects_3 : decode cX0_allSuspects 3 = .ok (.iconst 1, 1) := by decide +kernel
theorem dX0_allSuspects_4 : decode cX0_allSuspects 4 = .ok (.aload_n 0, 1) := by decide +kernel
theorem dX0_allSuspects_5 : decode cX0_allSuspects 5 = .ok (.getfield 58, 3) := by decide +kernel
theorem dX0_allSuspects_8 : decode cX0_allSuspects 8 = .ok (.ishl, 1) := by decide +kernel
theorem dX0_allSuspects_9 : decode cX0_allSuspects 9 = .ok (.iconst 1, 1) := by decide +kernel
theorem dX0_allSuspects_10 : decode cX0_allSuspects 10 = .ok (.isub, 1) := by decide +kernel
theorem dX0_allSuspects_11 : decode cX0_allSuspects 11 = .ok (.ior, 1) := by decide +kernel
theorem dX0_allSuspects_12 : decode cX0_allSuspects 12 = .ok (.ireturn, 1) := by decide +kernel
theorem dX0_suffers_0 : decode cX0_suffers 0 = .ok (.aload_n 0, 1) := by decide +kernel
theorem dX0_suffers_1 : decode cX0_suffers 1 = .ok (.iload_n 1, 1) := by decide +kernel
theorem dX0_suffers_2 : decode cX0_suffers 2 = .ok (.invokevirtual 91, 3) := by decide +kernel
theorem dX0_suffers_5 : decode cX0_suffers 5 = .ok (.ifCond .eq 27, 3) := by decide +kernel
theorem dX0_suffers_8 : decode cX0_suffers 8 = .ok (.aload_n 0, 1) := by decide +kernel
theorem dX0_suffers_9 : decode cX0_suffers 9 = .ok (.getfield 27, 3) := by decide +kernel
theorem dX0_suffers_12 : decode cX0_suffers 12 = .ok (.iload_n 1, 1) := by decide +kernel
theorem dX0_suffers_13 : decode cX0_suffers 13 = .ok (.iaload, 1) := by decide +kernel
theorem dX0_suffers_14 : decode cX0_suffers 14 = .ok (.iload_n 2, 1) := by decide +kernel
theorem dX0_suffers_15 : decode cX0_suffers 15 = .ok (.if_icmp .ne 17, 3) := by decide +kernel
theorem dX0_suffers_18 : decode cX0_suffers 18 = .ok (.aload_n 0, 1) := by decide +kernel
theorem dX0_suffers_19 : decode cX0_suffers 19 = .ok (.getfield 30, 3) := by decide +kernel
theorem dX0_suffers_22 : decode cX0_suffers 22 = .ok (.iload_n 1, 1) := by decide +kernel
theorem dX0_suffers_23 : decode cX0_suffers 23 = .ok (.iaload, 1) := by decide +kernel
theorem dX0_suffers_24 : decode cX0_suffers 24 = .ok (.iload_n 3, 1) := by decide +kernel
theorem dX0_suffers_25 : decode cX0_suffers 25 = .ok (.if_icmp .ne 7, 3) := by decide +kernel
theorem dX0_suffers_28 : decode cX0_suffers 28 = .ok (.iconst 1, 1) := by decide +kernel
theorem dX0_suffers_29 : decode cX0_suffers 29 = .ok (.goto 4, 3) := by decide +kernel
theorem dX0_suffers_32 : decode cX0_suffers 32 = .ok (.iconst 0, 1) := by decide +kernel
theorem dX0_suffers_33 : decode cX0_suffers 33 = .ok (.ireturn, 1) := by decide +kernel
theorem dX0_shortedWith_0 : decode cX0_shortedWith 0 = .ok (.aload_n 0, 1) := by decide +kernel
theorem dX0_shortedWith_1 : decode cX0_shortedWith 1 = .ok (.iload_n 1, 1) := by decide +kernel
theorem dX0_shortedWith_2 : decode cX0_shortedWith 2 = .ok (.invokevirtual 91, 3) := by decide +kernel
theorem dX0_shortedWith_5 : decode cX0_shortedWith 5 = .ok (.ifCond .eq 13, 3) := by decide +kernel
theorem dX0_shortedWith_8 : decode cX0_shortedWith 8 = .ok (.aload_n 0, 1) := by decide +kernel
theorem dX0_shortedWith_9 : decode cX0_shortedWith 9 = .ok (.getfield 27, 3) := by decide +kernel
theorem dX0_shortedWith_12 : decode cX0_shortedWith 12 = .ok (.iload_n 1, 1) := by decide +kernel
theorem dX0_shortedWith_13 : decode cX0_shortedWith 13 = .ok (.iaload, 1) := by decide +kernel
theorem dX0_shortedWith_14 : decode cX0_shortedWith 14 = .ok (.iconst 1, 1) := by decide +kernel
theorem dX0_shortedWith_15 : decode cX0_shortedWith 15 = .ok (.if_icmp .eq 5, 3) := by decide +kernel
theorem dX0_shortedWith_18 : decode cX0_shortedWith 18 = .ok (.iconst (-1), 1) := by decide +kernel
theorem dX0_shortedWith_19 : decode cX0_shortedWith 19 = .ok (.ireturn, 1) := by decide +kernel
theorem dX0_shortedWith_20 : decode cX0_shortedWith 20 = .ok (.aload_n 0, 1) := by decide +kernel
theorem dX0_shortedWith_21 : decode cX0_shortedWith 21 = .ok (.getfield 30, 3) := by decide +kernel
theorem dX0_shortedWith_24 : decode cX0_shortedWith 24 = .ok (.iload_n 1, 1) := by decide +kernel
theorem dX0_shortedWith_25 : decode cX0_shortedWith 25 = .ok (.iaload, 1) := by decide +kernel
theorem dX0_shortedWith_26 : decode cX0_shortedWith 26 = .ok (.iload_n 2, 1) := by decide +kernel
theorem dX0_shortedWith_27 : decode cX0_shortedWith 27 = .ok (.if_icmp .ne 10, 3) := by decide +kernel
theorem dX0_shortedWith_30 : decode cX0_shortedWith 30 = .ok (.aload_n 0, 1) := by decide +kernel
theorem dX0_shortedWith_31 : decode cX0_shortedWith 31 = .ok (.getfield 33, 3) := by decide +kernel
theorem dX0_shortedWith_34 : decode cX0_shortedWith 34 = .ok (.iload_n 1, 1) := by decide +kernel
theorem dX0_shortedWith_35 : decode cX0_shortedWith 35 = .ok (.iaload, 1) := by decide +kernel
theorem dX0_shortedWith_36 : decode cX0_shortedWith 36 = .ok (.ireturn, 1) := by decide +kernel
theorem dX0_shortedWith_37 : decode cX0_shortedWith 37 = .ok (.aload_n 0, 1) := by decide +kernel
theorem dX0_shortedWith_38 : decode cX0_shortedWith 38 = .ok (.getfield 33, 3) := by decide +kernel
theorem dX0_shortedWith_41 : decode cX0_shortedWith 41 = .ok (.iload_n 1, 1) := by decide +kernel
theorem dX0_shortedWith_42 : decode cX0_shortedWith 42 = .ok (.iaload, 1) := by decide +kernel
theorem dX0_shortedWith_43 : decode cX0_shortedWith 43 = .ok (.iload_n 2, 1) := by decide +kernel
theorem dX0_shortedWith_44 : decode cX0_shortedWith 44 = .ok (.if_icmp .ne 12, 3) := by decide +kernel
theorem dX0_shortedWith_47 : decode cX0_shortedWith 47 = .ok (.aload_n 0, 1) := by decide +kernel
theorem dX0_shortedWith_48 : decode cX0_shortedWith 48 = .ok (.getfield 30, 3) := by decide +kernel
theorem dX0_shortedWith_51 : decode cX0_shortedWith 51 = .ok (.iload_n 1, 1) := by decide +kernel
theorem dX0_shortedWith_52 : decode cX0_shortedWith 52 = .ok (.iaload, 1) := by decide +kernel
theorem dX0_shortedWith_53 : decode cX0_shortedWith 53 = .ok (.goto 4, 3) := by decide +kernel
theorem dX0_shortedWith_56 : decode cX0_shortedWith 56 = .ok (.iconst (-1), 1) := by decide +kernel
theorem dX0_shortedWith_57 : decode cX0_shortedWith 57 = .ok (.ireturn, 1) := by decide +kernel
theorem dX1_init_0 : decode cX1_init 0 = .ok (.aload_n 0, 1) := by decide +kernel
theorem dX1_init_1 : decode cX1_init 1 = .ok (.invokespecial 3, 3) := by decide +kernel
theorem dX1_init_4 : decode cX1_init 4 = .ok (.aload_n 0, 1) := by decide +kernel
theorem dX1_init_5 : decode cX1_init 5 = .ok (.iconst 4, 1) := by decide +kernel
theorem dX1_init_6 : decode cX1_init 6 = .ok (.anewarray 9, 3) := by decide +kernel
theorem dX1_init_9 : decode cX1_init 9 = .ok (.putfield 11, 3) := by decide +kernel
theorem dX1_init_12 : decode cX1_init 12 = .ok (.iconst 0, 1) := by decide +kernel
theorem dX1_init_13 : decode cX1_init 13 = .ok (.istore_n 1, 1) := by decide +kernel
theorem dX1_init_14 : decode cX1_init 14 = .ok (.iload_n 1, 1) := by decide +kernel
theorem dX1_init_15 : decode cX1_init 15 = .ok (.iconst 4, 1) := by decide +kernel
theorem dX1_init_16 : decode cX1_init 16 = .ok (.if_icmp .ge 29, 3) := by decide +kernel
theorem dX1_init_19 : decode cX1_init 19 = .ok (.aload_n 0, 1) := by decide +kernel
theorem dX1_init_20 : decode cX1_init 20 = .ok (.getfield 11, 3) := by decide +kernel
theorem dX1_init_23 : decode cX1_init 23 = .ok (.iload_n 1, 1) := by decide +kernel
theorem dX1_init_24 : decode cX1_init 24 = .ok (.new 9, 3) := by decide +kernel
theorem dX1_init_27 : decode cX1_init 27 = .ok (.dup, 1) := by decide +kernel
theorem dX1_init_28 : decode cX1_init 28 = .ok (.new 17, 3) := by decide +kernel
theorem dX1_init_31 : decode cX1_init 31 = .ok (.dup, 1) := by decide +kernel
theorem dX1_init_32 : decode cX1_init 32 = .ok (.invokespecial 19, 3) := by decide +kernel
theorem dX1_init_35 : decode cX1_init 35 = .ok (.invokespecial 20, 3) := by decide +kernel
theorem dX1_init_38 : decode cX1_init 38 = .ok (.aastore, 1) := by decide +kernel
theorem dX1_init_39 : decode cX1_init 39 = .ok (.iinc 1 1, 3) := by decide +kernel
theorem dX1_init_42 : decode cX1_init 42 = .ok (.goto (-28), 3) := by decide +kernel
theorem dX1_init_45 : decode cX1_init 45 = .ok (.return_, 1) := by decide +kernel
theorem dX1_keep_0 : decode cX1_keep 0 = .ok (.aload_n 0, 1) := by decide +kernel
theorem dX1_keep_1 : decode cX1_keep 1 = .ok (.getfield 23, 3) := by decide +kernel
theorem dX1_keep_4 : decode cX1_keep 4 = .ok (.iconst 4, 1) := by decide +kernel
theorem dX1_keep_5 : decode cX1_keep 5 = .ok (.if_icmp .lt 7, 3) := by decide +kernel
theorem dX1_keep_8 : decode cX1_keep 8 = .ok (.aload_n 0, 1) := by decide +kernel
theorem dX1_keep_9 : decode cX1_keep 9 = .ok (.invokevirtual 27, 3) := by decide +kernel
theorem dX1_keep_12 : decode cX1_keep 12 = .ok (.aload_n 0, 1) := by decide +kernel
theorem dX1_keep_13 : decode cX1_keep 13 = .ok (.getfield 11, 3) := by decide +kernel
theorem dX1_keep_16 : decode cX1_keep 16 = .ok (.aload_n 0, 1) := by decide +kernel
theorem dX1_keep_17 : decode cX1_keep 17 = .ok (.getfield 23, 3) := by decide +kernel
theorem dX1_keep_20 : decode cX1_keep 20 = .ok (.aaload, 1) := by decide +kernel
theorem dX1_keep_21 : decode cX1_keep 21 = .ok (.aload_n 1, 1) := by decide +kernel
theorem dX1_keep_22 : decode cX1_keep 22 = .ok (.invokevirtual 30, 3) := by decide +kernel
theorem dX1_keep_25 : decode cX1_keep 25 = .ok (.aload_n 0, 1) := by decide +kernel
theorem dX1_keep_26 : decode cX1_keep 26 = .ok (.dup, 1) := by decide +kernel
theorem dX1_keep_27 : decode cX1_keep 27 = .ok (.getfield 23, 3) := by decide +kernel
theorem dX1_keep_30 : decode cX1_keep 30 = .ok (.iconst 1, 1) := by decide +kernel
end
section
theorem dX1_keep_31 : decode cX1_keep 31 = .ok (.iadd, 1) := by decide +kernel
theorem dX1_keep_32 : decode cX1_keep 32 = .ok (.putfield 23, 3) := by decide +kernel
theorem dX1_keep_35 : decode cX1_keep 35 = .ok (.return_, 1) := by decide +kernel
theorem dX1_dropOldest_0 : decode cX1_dropOldest 0 = .ok (.aload_n 0, 1) := by decide +kernel
theorem dX1_dropOldest_1 : decode cX1_dropOldest 1 = .ok (.getfield 11, 3) := by decide +kernel
theorem dX1_dropOldest_4 : decode cX1_dropOldest 4 = .ok (.iconst 0, 1) := by decide +kernel
theorem dX1_dropOldest_5 : decode cX1_dropOldest 5 = .ok (.aaload, 1) := by decide +kernel
theorem dX1_dropOldest_6 : decode cX1_dropOldest 6 = .ok (.astore_n 1, 1) := by decide +kernel
theorem dX1_dropOldest_7 : decode cX1_dropOldest 7 = .ok (.iconst 1, 1) := by decide +kernel
theorem dX1_dropOldest_8 : decode cX1_dropOldest 8 = .ok (.istore_n 2, 1) := by decide +kernel
theorem dX1_dropOldest_9 : decode cX1_dropOldest 9 = .ok (.iload_n 2, 1) := by decide +kernel
theorem dX1_dropOldest_10 : decode cX1_dropOldest 10 = .ok (.iconst 4, 1) := by decide +kernel
theorem dX1_dropOldest_11 : decode cX1_dropOldest 11 = .ok (.if_icmp .ge 23, 3) := by decide +kernel
theorem dX1_dropOldest_14 : decode cX1_dropOldest 14 = .ok (.aload_n 0, 1) := by decide +kernel
theorem dX1_dropOldest_15 : decode cX1_dropOldest 15 = .ok (.getfield 11, 3) := by decide +kernel
theorem dX1_dropOldest_18 : decode cX1_dropOldest 18 = .ok (.iload_n 2, 1) := by decide +kernel
theorem dX1_dropOldest_19 : decode cX1_dropOldest 19 = .ok (.iconst 1, 1) := by decide +kernel
theorem dX1_dropOldest_20 : decode cX1_dropOldest 20 = .ok (.isub, 1) := by decide +kernel
theorem dX1_dropOldest_21 : decode cX1_dropOldest 21 = .ok (.aload_n 0, 1) := by decide +kernel
theorem dX1_dropOldest_22 : decode cX1_dropOldest 22 = .ok (.getfield 11, 3) := by decide +kernel
theorem dX1_dropOldest_25 : decode cX1_dropOldest 25 = .ok (.iload_n 2, 1) := by decide +kernel
theorem dX1_dropOldest_26 : decode cX1_dropOldest 26 = .ok (.aaload, 1) := by decide +kernel
theorem dX1_dropOldest_27 : decode cX1_dropOldest 27 = .ok (.aastore, 1) := by decide +kernel
theorem dX1_dropOldest_28 : decode cX1_dropOldest 28 = .ok (.iinc 2 1, 3) := by decide +kernel
theorem dX1_dropOldest_31 : decode cX1_dropOldest 31 = .ok (.goto (-22), 3) := by decide +kernel
theorem dX1_dropOldest_34 : decode cX1_dropOldest 34 = .ok (.aload_n 0, 1) := by decide +kernel
theorem dX1_dropOldest_35 : decode cX1_dropOldest 35 = .ok (.getfield 11, 3) := by decide +kernel
theorem dX1_dropOldest_38 : decode cX1_dropOldest 38 = .ok (.iconst 3, 1) := by decide +kernel
theorem dX1_dropOldest_39 : decode cX1_dropOldest 39 = .ok (.aload_n 1, 1) := by decide +kernel
theorem dX1_dropOldest_40 : decode cX1_dropOldest 40 = .ok (.aastore, 1) := by decide +kernel
theorem dX1_dropOldest_41 : decode cX1_dropOldest 41 = .ok (.aload_n 0, 1) := by decide +kernel
theorem dX1_dropOldest_42 : decode cX1_dropOldest 42 = .ok (.iconst 3, 1) := by decide +kernel
theorem dX1_dropOldest_43 : decode cX1_dropOldest 43 = .ok (.putfield 23, 3) := by decide +kernel
theorem dX1_dropOldest_46 : decode cX1_dropOldest 46 = .ok (.return_, 1) := by decide +kernel
theorem dX1_restore_0 : decode cX1_restore 0 = .ok (.aload_n 0, 1) := by decide +kernel
theorem dX1_restore_1 : decode cX1_restore 1 = .ok (.getfield 23, 3) := by decide +kernel
theorem dX1_restore_4 : decode cX1_restore 4 = .ok (.ifCond .le 26, 3) := by decide +kernel
theorem dX1_restore_7 : decode cX1_restore 7 = .ok (.aload_n 0, 1) := by decide +kernel
theorem dX1_restore_8 : decode cX1_restore 8 = .ok (.dup, 1) := by decide +kernel
theorem dX1_restore_9 : decode cX1_restore 9 = .ok (.getfield 23, 3) := by decide +kernel
theorem dX1_restore_12 : decode cX1_restore 12 = .ok (.iconst 1, 1) := by decide +kernel
theorem dX1_restore_13 : decode cX1_restore 13 = .ok (.isub, 1) := by decide +kernel
theorem dX1_restore_14 : decode cX1_restore 14 = .ok (.putfield 23, 3) := by decide +kernel
theorem dX1_restore_17 : decode cX1_restore 17 = .ok (.aload_n 1, 1) := by decide +kernel
theorem dX1_restore_18 : decode cX1_restore 18 = .ok (.aload_n 0, 1) := by decide +kernel
theorem dX1_restore_19 : decode cX1_restore 19 = .ok (.getfield 11, 3) := by decide +kernel
theorem dX1_restore_22 : decode cX1_restore 22 = .ok (.aload_n 0, 1) := by decide +kernel
theorem dX1_restore_23 : decode cX1_restore 23 = .ok (.getfield 23, 3) := by decide +kernel
theorem dX1_restore_26 : decode cX1_restore 26 = .ok (.aaload, 1) := by decide +kernel
theorem dX1_restore_27 : decode cX1_restore 27 = .ok (.invokevirtual 30, 3) := by decide +kernel
theorem dX1_restore_30 : decode cX1_restore 30 = .ok (.return_, 1) := by decide +kernel
theorem dX2_init_0 : decode cX2_init 0 = .ok (.aload_n 0, 1) := by decide +kernel
theorem dX2_init_1 : decode cX2_init 1 = .ok (.invokespecial 3, 3) := by decide +kernel
theorem dX2_init_4 : decode cX2_init 4 = .ok (.aload_n 0, 1) := by decide +kernel
theorem dX2_init_5 : decode cX2_init 5 = .ok (.bipush 11, 2) := by decide +kernel
theorem dX2_init_7 : decode cX2_init 7 = .ok (.anewarray 9, 3) := by decide +kernel
theorem dX2_init_10 : decode cX2_init 10 = .ok (.putfield 11, 3) := by decide +kernel
theorem dX2_init_13 : decode cX2_init 13 = .ok (.aload_n 0, 1) := by decide +kernel
theorem dX2_init_14 : decode cX2_init 14 = .ok (.bipush 7, 2) := by decide +kernel
theorem dX2_init_16 : decode cX2_init 16 = .ok (.bipush 11, 2) := by decide +kernel
theorem dX2_init_18 : decode cX2_init 18 = .ok (.multianewarray 17 2, 4) := by decide +kernel
theorem dX2_init_22 : decode cX2_init 22 = .ok (.putfield 19, 3) := by decide +kernel
theorem dX2_init_25 : decode cX2_init 25 = .ok (.aload_n 0, 1) := by decide +kernel
theorem dX2_init_26 : decode cX2_init 26 = .ok (.bipush 55, 2) := by decide +kernel
theorem dX2_init_28 : decode cX2_init 28 = .ok (.newarray .int, 2) := by decide +kernel
theorem dX2_init_30 : decode cX2_init 30 = .ok (.putfield 22, 3) := by decide +kernel
theorem dX2_init_33 : decode cX2_init 33 = .ok (.aload_n 0, 1) := by decide +kernel
theorem dX2_init_34 : decode cX2_init 34 = .ok (.aload_n 1, 1) := by decide +kernel
theorem dX2_init_35 : decode cX2_init 35 = .ok (.putfield 26, 3) := by decide +kernel
theorem dX2_init_38 : decode cX2_init 38 = .ok (.iconst 0, 1) := by decide +kernel
theorem dX2_init_39 : decode cX2_init 39 = .ok (.istore_n 2, 1) := by decide +kernel
theorem dX2_init_40 : decode cX2_init 40 = .ok (.iload_n 2, 1) := by decide +kernel
theorem dX2_init_41 : decode cX2_init 41 = .ok (.bipush 11, 2) := by decide +kernel
theorem dX2_init_43 : decode cX2_init 43 = .ok (.if_icmp .ge 24, 3) := by decide +kernel
theorem dX2_init_46 : decode cX2_init 46 = .ok (.aload_n 0, 1) := by decide +kernel
theorem dX2_init_47 : decode cX2_init 47 = .ok (.getfield 11, 3) := by decide +kernel
theorem dX2_init_50 : decode cX2_init 50 = .ok (.iload_n 2, 1) := by decide +kernel
theorem dX2_init_51 : decode cX2_init 51 = .ok (.new 9, 3) := by decide +kernel
theorem dX2_init_54 : decode cX2_init 54 = .ok (.dup, 1) := by decide +kernel
theorem dX2_init_55 : decode cX2_init 55 = .ok (.aload_n 1, 1) := by decide +kernel
theorem dX2_init_56 : decode cX2_init 56 = .ok (.iload_n 2, 1) := by decide +kernel
theorem dX2_init_57 : decode cX2_init 57 = .ok (.invokespecial 30, 3) := by decide +kernel
theorem dX2_init_60 : decode cX2_init 60 = .ok (.aastore, 1) := by decide +kernel
theorem dX2_init_61 : decode cX2_init 61 = .ok (.iinc 2 1, 3) := by decide +kernel
theorem dX2_init_64 : decode cX2_init 64 = .ok (.goto (-24), 3) := by decide +kernel
theorem dX2_init_67 : decode cX2_init 67 = .ok (.return_, 1) := by decide +kernel
theorem dX2_suppose_0 : decode cX2_suppose 0 = .ok (.aload_n 0, 1) := by decide +kernel
theorem dX2_suppose_1 : decode cX2_suppose 1 = .ok (.getfield 11, 3) := by decide +kernel
theorem dX2_suppose_4 : decode cX2_suppose 4 = .ok (.iload_n 1, 1) := by decide +kernel
theorem dX2_suppose_5 : decode cX2_suppose 5 = .ok (.aaload, 1) := by decide +kernel
theorem dX2_suppose_6 : decode cX2_suppose 6 = .ok (.invokevirtual 33, 3) := by decide +kernel
theorem dX2_suppose_9 : decode cX2_suppose 9 = .ok (.aload_n 0, 1) := by decide +kernel
theorem dX2_suppose_10 : decode cX2_suppose 10 = .ok (.getfield 11, 3) := by decide +kernel
theorem dX2_suppose_13 : decode cX2_suppose 13 = .ok (.iload_n 1, 1) := by decide +kernel
theorem dX2_suppose_14 : decode cX2_suppose 14 = .ok (.aaload, 1) := by decide +kernel
theorem dX2_suppose_15 : decode cX2_suppose 15 = .ok (.areturn, 1) := by decide +kernel
theorem dX2_supposeAll_0 : decode cX2_supposeAll 0 = .ok (.iconst 0, 1) := by decide +kernel
theorem dX2_supposeAll_1 : decode cX2_supposeAll 1 = .ok (.istore_n 2, 1) := by decide +kernel
theorem dX2_supposeAll_2 : decode cX2_supposeAll 2 = .ok (.iload_n 2, 1) := by decide +kernel
theorem dX2_supposeAll_3 : decode cX2_supposeAll 3 = .ok (.bipush 11, 2) := by decide +kernel
theorem dX2_supposeAll_5 : decode cX2_supposeAll 5 = .ok (.if_icmp .ge 26, 3) := by decide +kernel
theorem dX2_supposeAll_8 : decode cX2_supposeAll 8 = .ok (.iload_n 1, 1) := by decide +kernel
theorem dX2_supposeAll_9 : decode cX2_supposeAll 9 = .ok (.iload_n 2, 1) := by decide +kernel
theorem dX2_supposeAll_10 : decode cX2_supposeAll 10 = .ok (.invokestatic 36, 3) := by decide +kernel
theorem dX2_supposeAll_13 : decode cX2_supposeAll 13 = .ok (.ifCond .eq 12, 3) := by decide +kernel
theorem dX2_supposeAll_16 : decode cX2_supposeAll 16 = .ok (.aload_n 0, 1) := by decide +kernel
theorem dX2_supposeAll_17 : decode cX2_supposeAll 17 = .ok (.getfield 11, 3) := by decide +kernel
theorem dX2_supposeAll_20 : decode cX2_supposeAll 20 = .ok (.iload_n 2, 1) := by decide +kernel
theorem dX2_supposeAll_21 : decode cX2_supposeAll 21 = .ok (.aaload, 1) := by decide +kernel
theorem dX2_supposeAll_22 : decode cX2_supposeAll 22 = .ok (.invokevirtual 33, 3) := by decide +kernel
theorem dX2_supposeAll_25 : decode cX2_supposeAll 25 = .ok (.iinc 2 1, 3) := by decide +kernel
theorem dX2_supposeAll_28 : decode cX2_supposeAll 28 = .ok (.goto (-26), 3) := by decide +kernel
theorem dX2_supposeAll_31 : decode cX2_supposeAll 31 = .ok (.return_, 1) := by decide +kernel
theorem dX2_probeAll_0 : decode cX2_probeAll 0 = .ok (.iconst 0, 1) := by decide +kernel
theorem dX2_probeAll_1 : decode cX2_probeAll 1 = .ok (.istore_n 3, 1) := by decide +kernel
theorem dX2_probeAll_2 : decode cX2_probeAll 2 = .ok (.iload_n 3, 1) := by decide +kernel
theorem dX2_probeAll_3 : decode cX2_probeAll 3 = .ok (.bipush 11, 2) := by decide +kernel
theorem dX2_probeAll_5 : decode cX2_probeAll 5 = .ok (.if_icmp .ge 27, 3) := by decide +kernel
theorem dX2_probeAll_8 : decode cX2_probeAll 8 = .ok (.iload_n 1, 1) := by decide +kernel
theorem dX2_probeAll_9 : decode cX2_probeAll 9 = .ok (.iload_n 3, 1) := by decide +kernel
theorem dX2_probeAll_10 : decode cX2_probeAll 10 = .ok (.invokestatic 36, 3) := by decide +kernel
theorem dX2_probeAll_13 : decode cX2_probeAll 13 = .ok (.ifCond .eq 13, 3) := by decide +kernel
theorem dX2_probeAll_16 : decode cX2_probeAll 16 = .ok (.aload_n 0, 1) := by decide +kernel
theorem dX2_probeAll_17 : decode cX2_probeAll 17 = .ok (.getfield 11, 3) := by decide +kernel
theorem dX2_probeAll_20 : decode cX2_probeAll 20 = .ok (.iload_n 3, 1) := by decide +kernel
theorem dX2_probeAll_21 : decode cX2_probeAll 21 = .ok (.aaload, 1) := by decide +kernel
theorem dX2_probeAll_22 : decode cX2_probeAll 22 = .ok (.iload_n 2, 1) := by decide +kernel
theorem dX2_probeAll_23 : decode cX2_probeAll 23 = .ok (.invokevirtual 40, 3) := by decide +kernel
theorem dX2_probeAll_26 : decode cX2_probeAll 26 = .ok (.iinc 3 1, 3) := by decide +kernel
theorem dX2_probeAll_29 : decode cX2_probeAll 29 = .ok (.goto (-27), 3) := by decide +kernel
theorem dX2_probeAll_32 : decode cX2_probeAll 32 = .ok (.return_, 1) := by decide +kernel
theorem dX2_probedLike_0 : decode cX2_probedLike 0 = .ok (.iconst 0, 1) := by decide +kernel
theorem dX2_probedLike_1 : decode cX2_probedLike 1 = .ok (.istore_n 3, 1) := by decide +kernel
theorem dX2_probedLike_2 : decode cX2_probedLike 2 = .ok (.iconst 0, 1) := by decide +kernel
theorem dX2_probedLike_3 : decode cX2_probedLike 3 = .ok (.istore 4, 2) := by decide +kernel
theorem dX2_probedLike_5 : decode cX2_probedLike 5 = .ok (.iload 4, 2) := by decide +kernel
theorem dX2_probedLike_7 : decode cX2_probedLike 7 = .ok (.bipush 11, 2) := by decide +kernel
theorem dX2_probedLike_9 : decode cX2_probedLike 9 = .ok (.if_icmp .ge 44, 3) := by decide +kernel
theorem dX2_probedLike_12 : decode cX2_probedLike 12 = .ok (.iload_n 2, 1) := by decide +kernel
theorem dX2_probedLike_13 : decode cX2_probedLike 13 = .ok (.iload 4, 2) := by decide +kernel
theorem dX2_probedLike_15 : decode cX2_probedLike 15 = .ok (.invokestatic 36, 3) := by decide +kernel
theorem dX2_probedLike_18 : decode cX2_probedLike 18 = .ok (.ifCond .eq 29, 3) := by decide +kernel
theorem dX2_probedLike_21 : decode cX2_probedLike 21 = .ok (.aload_n 0, 1) := by decide +kernel
theorem dX2_probedLike_22 : decode cX2_probedLike 22 = .ok (.getfield 11, 3) := by decide +kernel
theorem dX2_probedLike_25 : decode cX2_probedLike 25 = .ok (.iload_n 1, 1) := by decide +kernel
theorem dX2_probedLike_26 : decode cX2_probedLike 26 = .ok (.aaload, 1) := by decide +kernel
theorem dX2_probedLike_27 : decode cX2_probedLike 27 = .ok (.aload_n 0, 1) := by decide +kernel
theorem dX2_probedLike_28 : decode cX2_probedLike 28 = .ok (.getfield 11, 3) := by decide +kernel
theorem dX2_probedLike_31 : decode cX2_probedLike 31 = .ok (.iload 4, 2) := by decide +kernel
theorem dX2_probedLike_33 : decode cX2_probedLike 33 = .ok (.aaload, 1) := by decide +kernel
theorem dX2_probedLike_34 : decode cX2_probedLike 34 = .ok (.invokevirtual 44, 3) := by decide +kernel
theorem dX2_probedLike_37 : decode cX2_probedLike 37 = .ok (.ifCond .eq 10, 3) := by decide +kernel
theorem dX2_probedLike_40 : decode cX2_probedLike 40 = .ok (.iload_n 3, 1) := by decide +kernel
theorem dX2_probedLike_41 : decode cX2_probedLike 41 = .ok (.iconst 1, 1) := by decide +kernel
theorem dX2_probedLike_42 : decode cX2_probedLike 42 = .ok (.iload 4, 2) := by decide +kernel
theorem dX2_probedLike_44 : decode cX2_probedLike 44 = .ok (.ishl, 1) := by decide +kernel
theorem dX2_probedLike_45 : decode cX2_probedLike 45 = .ok (.ior, 1) := by decide +kernel
theorem dX2_probedLike_46 : decode cX2_probedLike 46 = .ok (.istore_n 3, 1) := by decide +kernel
theorem dX2_probedLike_47 : decode cX2_probedLike 47 = .ok (.iinc 4 1, 3) := by decide +kernel
theorem dX2_probedLike_50 : decode cX2_probedLike 50 = .ok (.goto (-45), 3) := by decide +kernel
theorem dX2_probedLike_53 : decode cX2_probedLike 53 = .ok (.iload_n 3, 1) := by decide +kernel
theorem dX2_probedLike_54 : decode cX2_probedLike 54 = .ok (.ireturn, 1) := by decide +kernel
theorem dX2_leftBy_0 : decode cX2_leftBy 0 = .ok (.aload_n 0, 1) := by decide +kernel
theorem dX2_leftBy_1 : decode cX2_leftBy 1 = .ok (.iload_n 3, 1) := by decide +kernel
theorem dX2_leftBy_2 : decode cX2_leftBy 2 = .ok (.iconst 1, 1) := by decide +kernel
theorem dX2_leftBy_3 : decode cX2_leftBy 3 = .ok (.iload_n 2, 1) := by decide +kernel
theorem dX2_leftBy_4 : decode cX2_leftBy 4 = .ok (.ishl, 1) := by decide +kernel
theorem dX2_leftBy_5 : decode cX2_leftBy 5 = .ok (.ior, 1) := by decide +kernel
theorem dX2_leftBy_6 : decode cX2_leftBy 6 = .ok (.invokevirtual 48, 3) := by decide +kernel
theorem dX2_leftBy_9 : decode cX2_leftBy 9 = .ok (.aload_n 0, 1) := by decide +kernel
theorem dX2_leftBy_10 : decode cX2_leftBy 10 = .ok (.iload_n 3, 1) := by decide +kernel
theorem dX2_leftBy_11 : decode cX2_leftBy 11 = .ok (.iconst 1, 1) := by decide +kernel
theorem dX2_leftBy_12 : decode cX2_leftBy 12 = .ok (.iload_n 2, 1) := by decide +kernel
theorem dX2_leftBy_13 : decode cX2_leftBy 13 = .ok (.ishl, 1) := by decide +kernel
theorem dX2_leftBy_14 : decode cX2_leftBy 14 = .ok (.ior, 1) := by decide +kernel
theorem dX2_leftBy_15 : decode cX2_leftBy 15 = .ok (.iload_n 1, 1) := by decide +kernel
theorem dX2_leftBy_16 : decode cX2_leftBy 16 = .ok (.invokevirtual 51, 3) := by decide +kernel
theorem dX2_leftBy_19 : decode cX2_leftBy 19 = .ok (.aload_n 0, 1) := by decide +kernel
theorem dX2_leftBy_20 : decode cX2_leftBy 20 = .ok (.iload_n 2, 1) := by decide +kernel
theorem dX2_leftBy_21 : decode cX2_leftBy 21 = .ok (.iload_n 3, 1) := by decide +kernel
theorem dX2_leftBy_22 : decode cX2_leftBy 22 = .ok (.invokevirtual 55, 3) := by decide +kernel
theorem dX2_leftBy_25 : decode cX2_leftBy 25 = .ok (.ireturn, 1) := by decide +kernel
theorem dX3_init_0 : decode cX3_init 0 = .ok (.aload_n 0, 1) := by decide +kernel
theorem dX3_init_1 : decode cX3_init 1 = .ok (.invokespecial 3, 3) := by decide +kernel
theorem dX3_init_4 : decode cX3_init 4 = .ok (.aload_n 0, 1) := by decide +kernel
theorem dX3_init_5 : decode cX3_init 5 = .ok (.new 9, 3) := by decide +kernel
theorem dX3_init_8 : decode cX3_init 8 = .ok (.dup, 1) := by decide +kernel
theorem dX3_init_9 : decode cX3_init 9 = .ok (.invokespecial 11, 3) := by decide +kernel
theorem dX3_init_12 : decode cX3_init 12 = .ok (.putfield 12, 3) := by decide +kernel
theorem dX3_init_15 : decode cX3_init 15 = .ok (.aload_n 0, 1) := by decide +kernel
theorem dX3_init_16 : decode cX3_init 16 = .ok (.bipush 100, 2) := by decide +kernel
theorem dX3_init_18 : decode cX3_init 18 = .ok (.newarray .char, 2) := by decide +kernel
theorem dX3_init_20 : decode cX3_init 20 = .ok (.putfield 18, 3) := by decide +kernel
theorem dX3_init_23 : decode cX3_init 23 = .ok (.aload_n 0, 1) := by decide +kernel
theorem dX3_init_24 : decode cX3_init 24 = .ok (.bipush 8, 2) := by decide +kernel
theorem dX3_init_26 : decode cX3_init 26 = .ok (.newarray .int, 2) := by decide +kernel
theorem dX3_init_28 : decode cX3_init 28 = .ok (.putfield 22, 3) := by decide +kernel
theorem dX3_init_31 : decode cX3_init 31 = .ok (.return_, 1) := by decide +kernel
theorem dX4_init_0 : decode cX4_init 0 = .ok (.aload_n 0, 1) := by decide +kernel
theorem dX4_init_1 : decode cX4_init 1 = .ok (.invokespecial 3, 3) := by decide +kernel
theorem dX4_init_4 : decode cX4_init 4 = .ok (.aload_n 0, 1) := by decide +kernel
theorem dX4_init_5 : decode cX4_init 5 = .ok (.bipush 10, 2) := by decide +kernel
theorem dX4_init_7 : decode cX4_init 7 = .ok (.newarray .int, 2) := by decide +kernel
theorem dX4_init_9 : decode cX4_init 9 = .ok (.putfield 9, 3) := by decide +kernel
theorem dX4_init_12 : decode cX4_init 12 = .ok (.aload_n 0, 1) := by decide +kernel
theorem dX4_init_13 : decode cX4_init 13 = .ok (.bipush 10, 2) := by decide +kernel
theorem dX4_init_15 : decode cX4_init 15 = .ok (.putfield 15, 3) := by decide +kernel
theorem dX4_init_18 : decode cX4_init 18 = .ok (.aload_n 0, 1) := by decide +kernel
theorem dX4_init_19 : decode cX4_init 19 = .ok (.sipush 1024, 3) := by decide +kernel
theorem dX4_init_22 : decode cX4_init 22 = .ok (.putfield 19, 3) := by decide +kernel
theorem dX4_init_25 : decode cX4_init 25 = .ok (.aload_n 0, 1) := by decide +kernel
theorem dX4_init_26 : decode cX4_init 26 = .ok (.iconst 3, 1) := by decide +kernel
theorem dX4_init_27 : decode cX4_init 27 = .ok (.putfield 22, 3) := by decide +kernel
theorem dX4_init_30 : decode cX4_init 30 = .ok (.aload_n 0, 1) := by decide +kernel
theorem dX4_init_31 : decode cX4_init 31 = .ok (.aload_n 1, 1) := by decide +kernel
theorem dX4_init_32 : decode cX4_init 32 = .ok (.putfield 25, 3) := by decide +kernel
theorem dX4_init_35 : decode cX4_init 35 = .ok (.aload_n 0, 1) := by decide +kernel
theorem dX4_init_36 : decode cX4_init 36 = .ok (.getfield 9, 3) := by decide +kernel
theorem dX4_init_39 : decode cX4_init 39 = .ok (.iconst (-1), 1) := by decide +kernel
theorem dX4_init_40 : decode cX4_init 40 = .ok (.invokestatic 29, 3) := by decide +kernel
theorem dX4_init_43 : decode cX4_init 43 = .ok (.return_, 1) := by decide +kernel
theorem dX4_copyFrom_0 : decode cX4_copyFrom 0 = .ok (.aload_n 0, 1) := by decide +kernel
theorem dX4_copyFrom_1 : decode cX4_copyFrom 1 = .ok (.getfield 25, 3) := by decide +kernel
theorem dX4_copyFrom_4 : decode cX4_copyFrom 4 = .ok (.aload_n 1, 1) := by decide +kernel
theorem dX4_copyFrom_5 : decode cX4_copyFrom 5 = .ok (.getfield 25, 3) := by decide +kernel
theorem dX4_copyFrom_8 : decode cX4_copyFrom 8 = .ok (.invokevirtual 35, 3) := by decide +kernel
theorem dX4_copyFrom_11 : decode cX4_copyFrom 11 = .ok (.aload_n 1, 1) := by decide +kernel
theorem dX4_copyFrom_12 : decode cX4_copyFrom 12 = .ok (.getfield 9, 3) := by decide +kernel
theorem dX4_copyFrom_15 : decode cX4_copyFrom 15 = .ok (.iconst 0, 1) := by decide +kernel
theorem dX4_copyFrom_16 : decode cX4_copyFrom 16 = .ok (.aload_n 0, 1) := by decide +kernel
theorem dX4_copyFrom_17 : decode cX4_copyFrom 17 = .ok (.getfield 9, 3) := by decide +kernel
theorem dX4_copyFrom_20 : decode cX4_copyFrom 20 = .ok (.iconst 0, 1) := by decide +kernel
theorem dX4_copyFrom_21 : decode cX4_copyFrom 21 = .ok (.bipush 10, 2) := by decide +kernel
theorem dX4_copyFrom_23 : decode cX4_copyFrom 23 = .ok (.invokestatic 41, 3) := by decide +kernel
theorem dX4_copyFrom_26 : decode cX4_copyFrom 26 = .ok (.aload_n 0, 1) := by decide +kernel
theorem dX4_copyFrom_27 : decode cX4_copyFrom 27 = .ok (.aload_n 1, 1) := by decide +kernel
theorem dX4_copyFrom_28 : decode cX4_copyFrom 28 = .ok (.getfield 47, 3) := by decide +kernel
theorem dX4_copyFrom_31 : decode cX4_copyFrom 31 = .ok (.putfield 47, 3) := by decide +kernel
theorem dX4_copyFrom_34 : decode cX4_copyFrom 34 = .ok (.aload_n 0, 1) := by decide +kernel
theorem dX4_copyFrom_35 : decode cX4_copyFrom 35 = .ok (.aload_n 1, 1) := by decide +kernel
theorem dX4_copyFrom_36 : decode cX4_copyFrom 36 = .ok (.getfield 15, 3) := by decide +kernel
theorem dX4_copyFrom_39 : decode cX4_copyFrom 39 = .ok (.putfield 15, 3) := by decide +kernel
theorem dX4_copyFrom_42 : decode cX4_copyFrom 42 = .ok (.aload_n 0, 1) := by decide +kernel
theorem dX4_copyFrom_43 : decode cX4_copyFrom 43 = .ok (.aload_n 1, 1) := by decide +kernel
theorem dX4_copyFrom_44 : decode cX4_copyFrom 44 = .ok (.getfield 19, 3) := by decide +kernel
theorem dX4_copyFrom_47 : decode cX4_copyFrom 47 = .ok (.putfield 19, 3) := by decide +kernel
theorem dX4_copyFrom_50 : decode cX4_copyFrom 50 = .ok (.aload_n 0, 1) := by decide +kernel
theorem dX4_copyFrom_51 : decode cX4_copyFrom 51 = .ok (.aload_n 1, 1) := by decide +kernel
theorem dX4_copyFrom_52 : decode cX4_copyFrom 52 = .ok (.getfield 22, 3) := by decide +kernel
theorem dX4_copyFrom_55 : decode cX4_copyFrom 55 = .ok (.putfield 22, 3) := by decide +kernel
theorem dX4_copyFrom_58 : decode cX4_copyFrom 58 = .ok (.aload_n 0, 1) := by decide +kernel
theorem dX4_copyFrom_59 : decode cX4_copyFrom 59 = .ok (.aload_n 1, 1) := by decide +kernel
theorem dX4_copyFrom_60 : decode cX4_copyFrom 60 = .ok (.getfield 50, 3) := by decide +kernel
theorem dX4_copyFrom_63 : decode cX4_copyFrom 63 = .ok (.putfield 50, 3) := by decide +kernel
theorem dX4_copyFrom_66 : decode cX4_copyFrom 66 = .ok (.aload_n 0, 1) := by decide +kernel
theorem dX4_copyFrom_67 : decode cX4_copyFrom 67 = .ok (.aload_n 1, 1) := by decide +kernel
theorem dX4_copyFrom_68 : decode cX4_copyFrom 68 = .ok (.getfield 53, 3) := by decide +kernel
theorem dX4_copyFrom_71 : decode cX4_copyFrom 71 = .ok (.putfield 53, 3) := by decide +kernel
theorem dX4_copyFrom_74 : decode cX4_copyFrom 74 = .ok (.return_, 1) := by decide +kernel
theorem dX4_weekday_0 : decode cX4_weekday 0 = .ok (.aload_n 0, 1) := by decide +kernel
theorem dX4_weekday_1 : decode cX4_weekday 1 = .ok (.getfield 47, 3) := by decide +kernel
theorem dX4_weekday_4 : decode cX4_weekday 4 = .ok (.bipush 7, 2) := by decide +kernel
theorem dX4_weekday_6 : decode cX4_weekday 6 = .ok (.irem, 1) := by decide +kernel
theorem dX4_weekday_7 : decode cX4_weekday 7 = .ok (.ireturn, 1) := by decide +kernel
theorem dX4_touchedNow_0 : decode cX4_touchedNow 0 = .ok (.aload_n 0, 1) := by decide +kernel
theorem dX4_touchedNow_1 : decode cX4_touchedNow 1 = .ok (.getfield 25, 3) := by decide +kernel
theorem dX4_touchedNow_4 : decode cX4_touchedNow 4 = .ok (.aload_n 0, 1) := by decide +kernel
theorem dX4_touchedNow_5 : decode cX4_touchedNow 5 = .ok (.invokevirtual 56, 3) := by decide +kernel
theorem dX4_touchedNow_8 : decode cX4_touchedNow 8 = .ok (.invokevirtual 60, 3) := by decide +kernel
theorem dX4_touchedNow_11 : decode cX4_touchedNow 11 = .ok (.aload_n 0, 1) := by decide +kernel
theorem dX4_touchedNow_12 : decode cX4_touchedNow 12 = .ok (.getfield 50, 3) := by decide +kernel
theorem dX4_touchedNow_15 : decode cX4_touchedNow 15 = .ok (.ior, 1) := by decide +kernel
theorem dX4_touchedNow_16 : decode cX4_touchedNow 16 = .ok (.ireturn, 1) := by decide +kernel
theorem dX4_filedIn_0 : decode cX4_filedIn 0 = .ok (.iconst 0, 1) := by decide +kernel
theorem dX4_filedIn_1 : decode cX4_filedIn 1 = .ok (.istore_n 2, 1) := by decide +kernel
theorem dX4_filedIn_2 : decode cX4_filedIn 2 = .ok (.iconst 0, 1) := by decide +kernel
theorem dX4_filedIn_3 : decode cX4_filedIn 3 = .ok (.istore_n 3, 1) := by decide +kernel
theorem dX4_filedIn_4 : decode cX4_filedIn 4 = .ok (.iload_n 3, 1) := by decide +kernel
theorem dX4_filedIn_5 : decode cX4_filedIn 5 = .ok (.aload_n 0, 1) := by decide +kernel
theorem dX4_filedIn_6 : decode cX4_filedIn 6 = .ok (.getfield 25, 3) := by decide +kernel
theorem dX4_filedIn_9 : decode cX4_filedIn 9 = .ok (.getfield 64, 3) := by decide +kernel
theorem dX4_filedIn_12 : decode cX4_filedIn 12 = .ok (.if_icmp .ge 22, 3) := by decide +kernel
theorem dX4_filedIn_15 : decode cX4_filedIn 15 = .ok (.aload_n 0, 1) := by decide +kernel
theorem dX4_filedIn_16 : decode cX4_filedIn 16 = .ok (.getfield 9, 3) := by decide +kernel
theorem dX4_filedIn_19 : decode cX4_filedIn 19 = .ok (.iload_n 3, 1) := by decide +kernel
theorem dX4_filedIn_20 : decode cX4_filedIn 20 = .ok (.iaload, 1) := by decide +kernel
theorem dX4_filedIn_21 : decode cX4_filedIn 21 = .ok (.iload_n 1, 1) := by decide +kernel
theorem dX4_filedIn_22 : decode cX4_filedIn 22 = .ok (.if_icmp .ne 6, 3) := by decide +kernel
theorem dX4_filedIn_25 : decode cX4_filedIn 25 = .ok (.iinc 2 1, 3) := by decide +kernel
theorem dX4_filedIn_28 : decode cX4_filedIn 28 = .ok (.iinc 3 1, 3) := by decide +kernel
theorem dX4_filedIn_31 : decode cX4_filedIn 31 = .ok (.goto (-27), 3) := by decide +kernel
theorem dX4_filedIn_34 : decode cX4_filedIn 34 = .ok (.iload_n 2, 1) := by decide +kernel
theorem dX4_filedIn_35 : decode cX4_filedIn 35 = .ok (.ireturn, 1) := by decide +kernel
theorem dX5_init_0 : decode cX5_init 0 = .ok (.aload_n 0, 1) := by decide +kernel
theorem dX5_init_1 : decode cX5_init 1 = .ok (.invokespecial 3, 3) := by decide +kernel
theorem dX5_init_4 : decode cX5_init 4 = .ok (.aload_n 0, 1) := by decide +kernel
theorem dX5_init_5 : decode cX5_init 5 = .ok (.bipush 16, 2) := by decide +kernel
theorem dX5_init_7 : decode cX5_init 7 = .ok (.newarray .int, 2) := by decide +kernel
theorem dX5_init_9 : decode cX5_init 9 = .ok (.putfield 9, 3) := by decide +kernel
theorem dX5_init_12 : decode cX5_init 12 = .ok (.aload_n 0, 1) := by decide +kernel
theorem dX5_init_13 : decode cX5_init 13 = .ok (.bipush 16, 2) := by decide +kernel
theorem dX5_init_15 : decode cX5_init 15 = .ok (.newarray .int, 2) := by decide +kernel
theorem dX5_init_17 : decode cX5_init 17 = .ok (.putfield 15, 3) := by decide +kernel
theorem dX5_init_20 : decode cX5_init 20 = .ok (.aload_n 0, 1) := by decide +kernel
theorem dX5_init_21 : decode cX5_init 21 = .ok (.aload_n 1, 1) := by decide +kernel
theorem dX5_init_22 : decode cX5_init 22 = .ok (.putfield 18, 3) := by decide +kernel
theorem dX5_init_25 : decode cX5_init 25 = .ok (.aload_n 0, 1) := by decide +kernel
theorem dX5_init_26 : decode cX5_init 26 = .ok (.iload_n 2, 1) := by decide +kernel
theorem dX5_init_27 : decode cX5_init 27 = .ok (.putfield 22, 3) := by decide +kernel
theorem dX5_init_30 : decode cX5_init 30 = .ok (.return_, 1) := by decide +kernel
theorem dX5_setUp_0 : decode cX5_setUp 0 = .ok (.aload_n 0, 1) := by decide +kernel
theorem dX5_setUp_1 : decode cX5_setUp 1 = .ok (.getfield 18, 3) := by decide +kernel
theorem dX5_setUp_4 : decode cX5_setUp 4 = .ok (.aload_n 0, 1) := by decide +kernel
theorem dX5_setUp_5 : decode cX5_setUp 5 = .ok (.getfield 22, 3) := by decide +kernel
theorem dX5_setUp_8 : decode cX5_setUp 8 = .ok (.invokevirtual 26, 3) := by decide +kernel
theorem dX5_setUp_11 : decode cX5_setUp 11 = .ok (.istore_n 1, 1) := by decide +kernel
theorem dX5_setUp_12 : decode cX5_setUp 12 = .ok (.iload_n 1, 1) := by decide +kernel
theorem dX5_setUp_13 : decode cX5_setUp 13 = .ok (.ifCond .eq 23, 3) := by decide +kernel
theorem dX5_setUp_16 : decode cX5_setUp 16 = .ok (.aload_n 0, 1) := by decide +kernel
theorem dX5_setUp_17 : decode cX5_setUp 17 = .ok (.getfield 18, 3) := by decide +kernel
theorem dX5_setUp_20 : decode cX5_setUp 20 = .ok (.getfield 32, 3) := by decide +kernel
theorem dX5_setUp_23 : decode cX5_setUp 23 = .ok (.aload_n 0, 1) := by decide +kernel
theorem dX5_setUp_24 : decode cX5_setUp 24 = .ok (.getfield 22, 3) := by decide +kernel
theorem dX5_setUp_27 : decode cX5_setUp 27 = .ok (.iaload, 1) := by decide +kernel
theorem dX5_setUp_28 : decode cX5_setUp 28 = .ok (.iconst 3, 1) := by decide +kernel
theorem dX5_setUp_29 : decode cX5_setUp 29 = .ok (.if_icmp .ne 7, 3) := by decide +kernel
theorem dX5_setUp_32 : decode cX5_setUp 32 = .ok (.iconst 1, 1) := by decide +kernel
theorem dX5_setUp_33 : decode cX5_setUp 33 = .ok (.goto 4, 3) := by decide +kernel
theorem dX5_setUp_36 : decode cX5_setUp 36 = .ok (.iconst 0, 1) := by decide +kernel
theorem dX5_setUp_37 : decode cX5_setUp 37 = .ok (.istore_n 2, 1) := by decide +kernel
theorem dX5_setUp_38 : decode cX5_setUp 38 = .ok (.iload_n 1, 1) := by decide +kernel
theorem dX5_setUp_39 : decode cX5_setUp 39 = .ok (.ifCond .eq 23, 3) := by decide +kernel
theorem dX5_setUp_42 : decode cX5_setUp 42 = .ok (.aload_n 0, 1) := by decide +kernel
theorem dX5_setUp_43 : decode cX5_setUp 43 = .ok (.getfield 18, 3) := by decide +kernel
theorem dX5_setUp_46 : decode cX5_setUp 46 = .ok (.getfield 32, 3) := by decide +kernel
theorem dX5_setUp_49 : decode cX5_setUp 49 = .ok (.aload_n 0, 1) := by decide +kernel
theorem dX5_setUp_50 : decode cX5_setUp 50 = .ok (.getfield 22, 3) := by decide +kernel
theorem dX5_setUp_53 : decode cX5_setUp 53 = .ok (.iaload, 1) := by decide +kernel
theorem dX5_setUp_54 : decode cX5_setUp 54 = .ok (.iconst 4, 1) := by decide +kernel
theorem dX5_setUp_55 : decode cX5_setUp 55 = .ok (.if_icmp .ne 7, 3) := by decide +kernel
theorem dX5_setUp_58 : decode cX5_setUp 58 = .ok (.iconst 1, 1) := by decide +kernel
theorem dX5_setUp_59 : decode cX5_setUp 59 = .ok (.goto 4, 3) := by decide +kernel
theorem dX5_setUp_62 : decode cX5_setUp 62 = .ok (.iconst 0, 1) := by decide +kernel
theorem dX5_setUp_63 : decode cX5_setUp 63 = .ok (.istore_n 3, 1) := by decide +kernel
theorem dX5_setUp_64 : decode cX5_setUp 64 = .ok (.aload_n 0, 1) := by decide +kernel
theorem dX5_setUp_65 : decode cX5_setUp 65 = .ok (.iload_n 2, 1) := by decide +kernel
theorem dX5_setUp_66 : decode cX5_setUp 66 = .ok (.ifCond .eq 26, 3) := by decide +kernel
theorem dX5_setUp_69 : decode cX5_setUp 69 = .ok (.aload_n 0, 1) := by decide +kernel
theorem dX5_setUp_70 : decode cX5_setUp 70 = .ok (.getfield 18, 3) := by decide +kernel
theorem dX5_setUp_73 : decode cX5_setUp 73 = .ok (.getfield 35, 3) := by decide +kernel
theorem dX5_setUp_76 : decode cX5_setUp 76 = .ok (.aload_n 0, 1) := by decide +kernel
theorem dX5_setUp_77 : decode cX5_setUp 77 = .ok (.getfield 18, 3) := by decide +kernel
theorem dX5_setUp_80 : decode cX5_setUp 80 = .ok (.getfield 38, 3) := by decide +kernel
theorem dX5_setUp_83 : decode cX5_setUp 83 = .ok (.aload_n 0, 1) := by decide +kernel
theorem dX5_setUp_84 : decode cX5_setUp 84 = .ok (.getfield 22, 3) := by decide +kernel
theorem dX5_setUp_87 : decode cX5_setUp 87 = .ok (.iaload, 1) := by decide +kernel
theorem dX5_setUp_88 : decode cX5_setUp 88 = .ok (.iaload, 1) := by decide +kernel
theorem dX5_setUp_89 : decode cX5_setUp 89 = .ok (.goto 4, 3) := by decide +kernel
theorem dX5_setUp_92 : decode cX5_setUp 92 = .ok (.iconst 0, 1) := by decide +kernel
theorem dX5_setUp_93 : decode cX5_setUp 93 = .ok (.putfield 41, 3) := by decide +kernel
theorem dX5_setUp_96 : decode cX5_setUp 96 = .ok (.aload_n 0, 1) := by decide +kernel
theorem dX5_setUp_97 : decode cX5_setUp 97 = .ok (.iload_n 3, 1) := by decide +kernel
theorem dX5_setUp_98 : decode cX5_setUp 98 = .ok (.ifCond .eq 20, 3) := by decide +kernel
theorem dX5_setUp_101 : decode cX5_setUp 101 = .ok (.iconst 1, 1) := by decide +kernel
theorem dX5_setUp_102 : decode cX5_setUp 102 = .ok (.aload_n 0, 1) := by decide +kernel
theorem dX5_setUp_103 : decode cX5_setUp 103 = .ok (.getfield 18, 3) := by decide +kernel
theorem dX5_setUp_106 : decode cX5_setUp 106 = .ok (.getfield 38, 3) := by decide +kernel
theorem dX5_setUp_109 : decode cX5_setUp 109 = .ok (.aload_n 0, 1) := by decide +kernel
theorem dX5_setUp_110 : decode cX5_setUp 110 = .ok (.getfield 22, 3) := by decide +kernel
theorem dX5_setUp_113 : decode cX5_setUp 113 = .ok (.iaload, 1) := by decide +kernel
theorem dX5_setUp_114 : decode cX5_setUp 114 = .ok (.ishl, 1) := by decide +kernel
theorem dX5_setUp_115 : decode cX5_setUp 115 = .ok (.goto 4, 3) := by decide +kernel
theorem dX5_setUp_118 : decode cX5_setUp 118 = .ok (.iconst 0, 1) := by decide +kernel
theorem dX5_setUp_119 : decode cX5_setUp 119 = .ok (.putfield 44, 3) := by decide +kernel
theorem dX5_setUp_122 : decode cX5_setUp 122 = .ok (.iconst 0, 1) := by decide +kernel
theorem dX5_setUp_123 : decode cX5_setUp 123 = .ok (.istore 4, 2) := by decide +kernel
theorem dX5_setUp_125 : decode cX5_setUp 125 = .ok (.iload 4, 2) := by decide +kernel
theorem dX5_setUp_127 : decode cX5_setUp 127 = .ok (.bipush 16, 2) := by decide +kernel
theorem dX5_setUp_129 : decode cX5_setUp 129 = .ok (.if_icmp .ge 35, 3) := by decide +kernel
theorem dX5_setUp_132 : decode cX5_setUp 132 = .ok (.aload_n 0, 1) := by decide +kernel
theorem dX5_setUp_133 : decode cX5_setUp 133 = .ok (.getfield 9, 3) := by decide +kernel
theorem dX5_setUp_136 : decode cX5_setUp 136 = .ok (.iload 4, 2) := by decide +kernel
theorem dX5_setUp_138 : decode cX5_setUp 138 = .ok (.aload_n 0, 1) := by decide +kernel
theorem dX5_setUp_139 : decode cX5_setUp 139 = .ok (.iload 4, 2) := by decide +kernel
theorem dX5_setUp_141 : decode cX5_setUp 141 = .ok (.invokevirtual 47, 3) := by decide +kernel
theorem dX5_setUp_144 : decode cX5_setUp 144 = .ok (.iastore, 1) := by decide +kernel
theorem dX5_setUp_145 : decode cX5_setUp 145 = .ok (.aload_n 0, 1) := by decide +kernel
theorem dX5_setUp_146 : decode cX5_setUp 146 = .ok (.getfield 15, 3) := by decide +kernel
theorem dX5_setUp_149 : decode cX5_setUp 149 = .ok (.iload 4, 2) := by decide +kernel
theorem dX5_setUp_151 : decode cX5_setUp 151 = .ok (.aload_n 0, 1) := by decide +kernel
theorem dX5_setUp_152 : decode cX5_setUp 152 = .ok (.iload 4, 2) := by decide +kernel
theorem dX5_setUp_154 : decode cX5_setUp 154 = .ok (.invokevirtual 51, 3) := by decide +kernel
theorem dX5_setUp_157 : decode cX5_setUp 157 = .ok (.iastore, 1) := by decide +kernel
theorem dX5_setUp_158 : decode cX5_setUp 158 = .ok (.iinc 4 1, 3) := by decide +kernel
theorem dX5_setUp_161 : decode cX5_setUp 161 = .ok (.goto (-36), 3) := by decide +kernel
theorem dX5_setUp_164 : decode cX5_setUp 164 = .ok (.return_, 1) := by decide +kernel
theorem dX5_linkingNet_0 : decode cX5_linkingNet 0 = .ok (.aload_n 0, 1) := by decide +kernel
theorem dX5_linkingNet_1 : decode cX5_linkingNet 1 = .ok (.getfield 18, 3) := by decide +kernel
theorem dX5_linkingNet_4 : decode cX5_linkingNet 4 = .ok (.getfield 54, 3) := by decide +kernel
theorem dX5_linkingNet_7 : decode cX5_linkingNet 7 = .ok (.iload_n 1, 1) := by decide +kernel
theorem dX5_linkingNet_8 : decode cX5_linkingNet 8 = .ok (.iaload, 1) := by decide +kernel
theorem dX5_linkingNet_9 : decode cX5_linkingNet 9 = .ok (.istore_n 2, 1) := by decide +kernel
theorem dX5_linkingNet_10 : decode cX5_linkingNet 10 = .ok (.iload_n 2, 1) := by decide +kernel
theorem dX5_linkingNet_11 : decode cX5_linkingNet 11 = .ok (.iconst (-1), 1) := by decide +kernel
theorem dX5_linkingNet_12 : decode cX5_linkingNet 12 = .ok (.if_icmp .eq 51, 3) := by decide +kernel
theorem dX5_linkingNet_15 : decode cX5_linkingNet 15 = .ok (.aload_n 0, 1) := by decide +kernel
theorem dX5_linkingNet_16 : decode cX5_linkingNet 16 = .ok (.getfield 18, 3) := by decide +kernel
theorem dX5_linkingNet_19 : decode cX5_linkingNet 19 = .ok (.aload_n 0, 1) := by decide +kernel
theorem dX5_linkingNet_20 : decode cX5_linkingNet 20 = .ok (.getfield 22, 3) := by decide +kernel
theorem dX5_linkingNet_23 : decode cX5_linkingNet 23 = .ok (.iconst 0, 1) := by decide +kernel
theorem dX5_linkingNet_24 : decode cX5_linkingNet 24 = .ok (.iload_n 1, 1) := by decide +kernel
theorem dX5_linkingNet_25 : decode cX5_linkingNet 25 = .ok (.invokevirtual 57, 3) := by decide +kernel
theorem dX5_linkingNet_28 : decode cX5_linkingNet 28 = .ok (.ifCond .ne 35, 3) := by decide +kernel
theorem dX5_linkingNet_31 : decode cX5_linkingNet 31 = .ok (.aload_n 0, 1) := by decide +kernel
theorem dX5_linkingNet_32 : decode cX5_linkingNet 32 = .ok (.getfield 18, 3) := by decide +kernel
theorem dX5_linkingNet_35 : decode cX5_linkingNet 35 = .ok (.aload_n 0, 1) := by decide +kernel
theorem dX5_linkingNet_36 : decode cX5_linkingNet 36 = .ok (.getfield 22, 3) := by decide +kernel
theorem dX5_linkingNet_39 : decode cX5_linkingNet 39 = .ok (.iconst 2, 1) := by decide +kernel
theorem dX5_linkingNet_40 : decode cX5_linkingNet 40 = .ok (.iload_n 2, 1) := by decide +kernel
theorem dX5_linkingNet_41 : decode cX5_linkingNet 41 = .ok (.invokevirtual 57, 3) := by decide +kernel
theorem dX5_linkingNet_44 : decode cX5_linkingNet 44 = .ok (.ifCond .ne 19, 3) := by decide +kernel
theorem dX5_linkingNet_47 : decode cX5_linkingNet 47 = .ok (.aload_n 0, 1) := by decide +kernel
theorem dX5_linkingNet_48 : decode cX5_linkingNet 48 = .ok (.getfield 18, 3) := by decide +kernel
theorem dX5_linkingNet_51 : decode cX5_linkingNet 51 = .ok (.aload_n 0, 1) := by decide +kernel
theorem dX5_linkingNet_52 : decode cX5_linkingNet 52 = .ok (.getfield 22, 3) := by decide +kernel
theorem dX5_linkingNet_55 : decode cX5_linkingNet 55 = .ok (.iconst 3, 1) := by decide +kernel
theorem dX5_linkingNet_56 : decode cX5_linkingNet 56 = .ok (.iload_n 2, 1) := by decide +kernel
theorem dX5_linkingNet_57 : decode cX5_linkingNet 57 = .ok (.invokevirtual 57, 3) := by decide +kernel
theorem dX5_linkingNet_60 : decode cX5_linkingNet 60 = .ok (.ifCond .eq 5, 3) := by decide +kernel
theorem dX5_linkingNet_63 : decode cX5_linkingNet 63 = .ok (.iconst 0, 1) := by decide +kernel
theorem dX5_linkingNet_64 : decode cX5_linkingNet 64 = .ok (.ireturn, 1) := by decide +kernel
theorem dX5_linkingNet_65 : decode cX5_linkingNet 65 = .ok (.iconst 1, 1) := by decide +kernel
theorem dX5_linkingNet_66 : decode cX5_linkingNet 66 = .ok (.iload_n 2, 1) := by decide +kernel
theorem dX5_linkingNet_67 : decode cX5_linkingNet 67 = .ok (.ishl, 1) := by decide +kernel
theorem dX5_linkingNet_68 : decode cX5_linkingNet 68 = .ok (.ireturn, 1) := by decide +kernel
theorem dX5_followers_0 : decode cX5_followers 0 = .ok (.aload_n 0, 1) := by decide +kernel
theorem dX5_followers_1 : decode cX5_followers 1 = .ok (.getfield 18, 3) := by decide +kernel
theorem dX5_followers_4 : decode cX5_followers 4 = .ok (.getfield 54, 3) := by decide +kernel
theorem dX5_followers_7 : decode cX5_followers 7 = .ok (.iload_n 1, 1) := by decide +kernel
theorem dX5_followers_8 : decode cX5_followers 8 = .ok (.iaload, 1) := by decide +kernel
theorem dX5_followers_9 : decode cX5_followers 9 = .ok (.istore_n 2, 1) := by decide +kernel
theorem dX5_followers_10 : decode cX5_followers 10 = .ok (.iload_n 2, 1) := by decide +kernel
theorem dX5_followers_11 : decode cX5_followers 11 = .ok (.iconst (-1), 1) := by decide +kernel
theorem dX5_followers_12 : decode cX5_followers 12 = .ok (.if_icmp .eq 19, 3) := by decide +kernel
theorem dX5_followers_15 : decode cX5_followers 15 = .ok (.aload_n 0, 1) := by decide +kernel
theorem dX5_followers_16 : decode cX5_followers 16 = .ok (.getfield 18, 3) := by decide +kernel
theorem dX5_followers_19 : decode cX5_followers 19 = .ok (.aload_n 0, 1) := by decide +kernel
theorem dX5_followers_20 : decode cX5_followers 20 = .ok (.getfield 22, 3) := by decide +kernel
theorem dX5_followers_23 : decode cX5_followers 23 = .ok (.iconst 0, 1) := by decide +kernel
theorem dX5_followers_24 : decode cX5_followers 24 = .ok (.iload_n 1, 1) := by decide +kernel
theorem dX5_followers_25 : decode cX5_followers 25 = .ok (.invokevirtual 57, 3) := by decide +kernel
theorem dX5_followers_28 : decode cX5_followers 28 = .ok (.ifCond .eq 7, 3) := by decide +kernel
theorem dX5_followers_31 : decode cX5_followers 31 = .ok (.iconst 1, 1) := by decide +kernel
theorem dX5_followers_32 : decode cX5_followers 32 = .ok (.iload_n 1, 1) := by decide +kernel
theorem dX5_followers_33 : decode cX5_followers 33 = .ok (.ishl, 1) := by decide +kernel
theorem dX5_followers_34 : decode cX5_followers 34 = .ok (.ireturn, 1) := by decide +kernel
theorem dX5_followers_35 : decode cX5_followers 35 = .ok (.aload_n 0, 1) := by decide +kernel
theorem dX5_followers_36 : decode cX5_followers 36 = .ok (.getfield 18, 3) := by decide +kernel
theorem dX5_followers_39 : decode cX5_followers 39 = .ok (.aload_n 0, 1) := by decide +kernel
theorem dX5_followers_40 : decode cX5_followers 40 = .ok (.getfield 22, 3) := by decide +kernel
theorem dX5_followers_43 : decode cX5_followers 43 = .ok (.iconst 2, 1) := by decide +kernel
theorem dX5_followers_44 : decode cX5_followers 44 = .ok (.iload_n 2, 1) := by decide +kernel
theorem dX5_followers_45 : decode cX5_followers 45 = .ok (.invokevirtual 57, 3) := by decide +kernel
theorem dX5_followers_48 : decode cX5_followers 48 = .ok (.ifCond .eq 5, 3) := by decide +kernel
theorem dX5_followers_51 : decode cX5_followers 51 = .ok (.iconst 0, 1) := by decide +kernel
theorem dX5_followers_52 : decode cX5_followers 52 = .ok (.ireturn, 1) := by decide +kernel
theorem dX5_followers_53 : decode cX5_followers 53 = .ok (.aload_n 0, 1) := by decide +kernel
theorem dX5_followers_54 : decode cX5_followers 54 = .ok (.getfield 18, 3) := by decide +kernel
theorem dX5_followers_57 : decode cX5_followers 57 = .ok (.aload_n 0, 1) := by decide +kernel
theorem dX5_followers_58 : decode cX5_followers 58 = .ok (.getfield 22, 3) := by decide +kernel
theorem dX5_followers_61 : decode cX5_followers 61 = .ok (.iload_n 2, 1) := by decide +kernel
theorem dX5_followers_62 : decode cX5_followers 62 = .ok (.invokevirtual 61, 3) := by decide +kernel
theorem dX5_followers_65 : decode cX5_followers 65 = .ok (.istore_n 3, 1) := by decide +kernel
theorem dX5_followers_66 : decode cX5_followers 66 = .ok (.iload_n 3, 1) := by decide +kernel
theorem dX5_followers_67 : decode cX5_followers 67 = .ok (.iconst (-1), 1) := by decide +kernel
theorem dX5_followers_68 : decode cX5_followers 68 = .ok (.if_icmp .ne 15, 3) := by decide +kernel
theorem dX5_followers_71 : decode cX5_followers 71 = .ok (.aload_n 0, 1) := by decide +kernel
theorem dX5_followers_72 : decode cX5_followers 72 = .ok (.getfield 18, 3) := by decide +kernel
theorem dX5_followers_75 : decode cX5_followers 75 = .ok (.getfield 35, 3) := by decide +kernel
theorem dX5_followers_78 : decode cX5_followers 78 = .ok (.iload_n 2, 1) := by decide +kernel
theorem dX5_followers_79 : decode cX5_followers 79 = .ok (.iaload, 1) := by decide +kernel
theorem dX5_followers_80 : decode cX5_followers 80 = .ok (.goto 22, 3) := by decide +kernel
theorem dX5_followers_83 : decode cX5_followers 83 = .ok (.aload_n 0, 1) := by decide +kernel
theorem dX5_followers_84 : decode cX5_followers 84 = .ok (.getfield 18, 3) := by decide +kernel
theorem dX5_followers_87 : decode cX5_followers 87 = .ok (.getfield 35, 3) := by decide +kernel
theorem dX5_followers_90 : decode cX5_followers 90 = .ok (.iload_n 2, 1) := by decide +kernel
theorem dX5_followers_91 : decode cX5_followers 91 = .ok (.iaload, 1) := by decide +kernel
theorem dX5_followers_92 : decode cX5_followers 92 = .ok (.aload_n 0, 1) := by decide +kernel
theorem dX5_followers_93 : decode cX5_followers 93 = .ok (.getfield 18, 3) := by decide +kernel
theorem dX5_followers_96 : decode cX5_followers 96 = .ok (.getfield 35, 3) := by decide +kernel
theorem dX5_followers_99 : decode cX5_followers 99 = .ok (.iload_n 3, 1) := by decide +kernel
theorem dX5_followers_100 : decode cX5_followers 100 = .ok (.iaload, 1) := by decide +kernel
theorem dX5_followers_101 : decode cX5_followers 101 = .ok (.ior, 1) := by decide +kernel
theorem dX5_followers_102 : decode cX5_followers 102 = .ok (.istore 4, 2) := by decide +kernel
theorem dX5_followers_104 : decode cX5_followers 104 = .ok (.aload_n 0, 1) := by decide +kernel
theorem dX5_followers_105 : decode cX5_followers 105 = .ok (.getfield 18, 3) := by decide +kernel
theorem dX5_followers_108 : decode cX5_followers 108 = .ok (.aload_n 0, 1) := by decide +kernel
theorem dX5_followers_109 : decode cX5_followers 109 = .ok (.getfield 22, 3) := by decide +kernel
theorem dX5_followers_112 : decode cX5_followers 112 = .ok (.invokevirtual 26, 3) := by decide +kernel
theorem dX5_followers_115 : decode cX5_followers 115 = .ok (.ifCond .eq 39, 3) := by decide +kernel
theorem dX5_followers_118 : decode cX5_followers 118 = .ok (.aload_n 0, 1) := by decide +kernel
theorem dX5_followers_119 : decode cX5_followers 119 = .ok (.getfield 18, 3) := by decide +kernel
theorem dX5_followers_122 : decode cX5_followers 122 = .ok (.getfield 32, 3) := by decide +kernel
theorem dX5_followers_125 : decode cX5_followers 125 = .ok (.aload_n 0, 1) := by decide +kernel
theorem dX5_followers_126 : decode cX5_followers 126 = .ok (.getfield 22, 3) := by decide +kernel
theorem dX5_followers_129 : decode cX5_followers 129 = .ok (.iaload, 1) := by decide +kernel
theorem dX5_followers_130 : decode cX5_followers 130 = .ok (.ifCond .ne 24, 3) := by decide +kernel
theorem dX5_followers_133 : decode cX5_followers 133 = .ok (.iload 4, 2) := by decide +kernel
theorem dX5_followers_135 : decode cX5_followers 135 = .ok (.iconst 1, 1) := by decide +kernel
theorem dX5_followers_136 : decode cX5_followers 136 = .ok (.aload_n 0, 1) := by decide +kernel
theorem dX5_followers_137 : decode cX5_followers 137 = .ok (.getfield 18, 3) := by decide +kernel
theorem dX5_followers_140 : decode cX5_followers 140 = .ok (.getfield 38, 3) := by decide +kernel
theorem dX5_followers_143 : decode cX5_followers 143 = .ok (.aload_n 0, 1) := by decide +kernel
theorem dX5_followers_144 : decode cX5_followers 144 = .ok (.getfield 22, 3) := by decide +kernel
theorem dX5_followers_147 : decode cX5_followers 147 = .ok (.iaload, 1) := by decide +kernel
theorem dX5_followers_148 : decode cX5_followers 148 = .ok (.ishl, 1) := by decide +kernel
theorem dX5_followers_149 : decode cX5_followers 149 = .ok (.iconst (-1), 1) := by decide +kernel
theorem dX5_followers_150 : decode cX5_followers 150 = .ok (.ixor, 1) := by decide +kernel
theorem dX5_followers_151 : decode cX5_followers 151 = .ok (.iand, 1) := by decide +kernel
theorem dX5_followers_152 : decode cX5_followers 152 = .ok (.istore 4, 2) := by decide +kernel
theorem dX5_followers_154 : decode cX5_followers 154 = .ok (.iload 4, 2) := by decide +kernel
theorem dX5_followers_156 : decode cX5_followers 156 = .ok (.ireturn, 1) := by decide +kernel
theorem dX5_scannedChips_0 : decode cX5_scannedChips 0 = .ok (.aload_n 0, 1) := by decide +kernel
theorem dX5_scannedChips_1 : decode cX5_scannedChips 1 = .ok (.iload_n 1, 1) := by decide +kernel
theorem dX5_scannedChips_2 : decode cX5_scannedChips 2 = .ok (.aload_n 0, 1) := by decide +kernel
theorem dX5_scannedChips_3 : decode cX5_scannedChips 3 = .ok (.getfield 18, 3) := by decide +kernel
theorem dX5_scannedChips_6 : decode cX5_scannedChips 6 = .ok (.getfield 65, 3) := by decide +kernel
theorem dX5_scannedChips_9 : decode cX5_scannedChips 9 = .ok (.aload_n 0, 1) := by decide +kernel
theorem dX5_scannedChips_10 : decode cX5_scannedChips 10 = .ok (.getfield 18, 3) := by decide +kernel
theorem dX5_scannedChips_13 : decode cX5_scannedChips 13 = .ok (.getfield 68, 3) := by decide +kernel
theorem dX5_scannedChips_16 : decode cX5_scannedChips 16 = .ok (.invokevirtual 71, 3) := by decide +kernel
theorem dX5_scannedChips_19 : decode cX5_scannedChips 19 = .ok (.istore_n 2, 1) := by decide +kernel
theorem dX5_scannedChips_20 : decode cX5_scannedChips 20 = .ok (.aload_n 0, 1) := by decide +kernel
theorem dX5_scannedChips_21 : decode cX5_scannedChips 21 = .ok (.iload_n 1, 1) := by decide +kernel
theorem dX5_scannedChips_22 : decode cX5_scannedChips 22 = .ok (.aload_n 0, 1) := by decide +kernel
theorem dX5_scannedChips_23 : decode cX5_scannedChips 23 = .ok (.getfield 18, 3) := by decide +kernel
theorem dX5_scannedChips_26 : decode cX5_scannedChips 26 = .ok (.getfield 68, 3) := by decide +kernel
theorem dX5_scannedChips_29 : decode cX5_scannedChips 29 = .ok (.aload_n 0, 1) := by decide +kernel
theorem dX5_scannedChips_30 : decode cX5_scannedChips 30 = .ok (.getfield 18, 3) := by decide +kernel
theorem dX5_scannedChips_33 : decode cX5_scannedChips 33 = .ok (.getfield 65, 3) := by decide +kernel
theorem dX5_scannedChips_36 : decode cX5_scannedChips 36 = .ok (.invokevirtual 71, 3) := by decide +kernel
theorem dX5_scannedChips_39 : decode cX5_scannedChips 39 = .ok (.istore_n 3, 1) := by decide +kernel
theorem dX5_scannedChips_40 : decode cX5_scannedChips 40 = .ok (.iload_n 2, 1) := by decide +kernel
theorem dX5_scannedChips_41 : decode cX5_scannedChips 41 = .ok (.iload_n 3, 1) := by decide +kernel
theorem dX5_scannedChips_42 : decode cX5_scannedChips 42 = .ok (.iand, 1) := by decide +kernel
theorem dX5_scannedChips_43 : decode cX5_scannedChips 43 = .ok (.ireturn, 1) := by decide +kernel
theorem dX5_spread_0 : decode cX5_spread 0 = .ok (.iconst 0, 1) := by decide +kernel
theorem dX5_spread_1 : decode cX5_spread 1 = .ok (.istore 4, 2) := by decide +kernel
theorem dX5_spread_3 : decode cX5_spread 3 = .ok (.iconst 0, 1) := by decide +kernel
theorem dX5_spread_4 : decode cX5_spread 4 = .ok (.istore 5, 2) := by decide +kernel
theorem dX5_spread_6 : decode cX5_spread 6 = .ok (.iconst 0, 1) := by decide +kernel
theorem dX5_spread_7 : decode cX5_spread 7 = .ok (.istore 6, 2) := by decide +kernel
theorem dX5_spread_9 : decode cX5_spread 9 = .ok (.iload 6, 2) := by decide +kernel
theorem dX5_spread_11 : decode cX5_spread 11 = .ok (.aload_n 0, 1) := by decide +kernel
theorem dX5_spread_12 : decode cX5_spread 12 = .ok (.getfield 18, 3) := by decide +kernel
theorem dX5_spread_15 : decode cX5_spread 15 = .ok (.getfield 75, 3) := by decide +kernel
theorem dX5_spread_18 : decode cX5_spread 18 = .ok (.if_icmp .ge 103, 3) := by decide +kernel
theorem dX5_spread_21 : decode cX5_spread 21 = .ok (.iconst 0, 1) := by decide +kernel
theorem dX5_spread_22 : decode cX5_spread 22 = .ok (.istore 7, 2) := by decide +kernel
theorem dX5_spread_24 : decode cX5_spread 24 = .ok (.iload 7, 2) := by decide +kernel
theorem dX5_spread_26 : decode cX5_spread 26 = .ok (.aload_n 0, 1) := by decide +kernel
theorem dX5_spread_27 : decode cX5_spread 27 = .ok (.getfield 18, 3) := by decide +kernel
theorem dX5_spread_30 : decode cX5_spread 30 = .ok (.getfield 75, 3) := by decide +kernel
theorem dX5_spread_33 : decode cX5_spread 33 = .ok (.if_icmp .ge 82, 3) := by decide +kernel
theorem dX5_spread_36 : decode cX5_spread 36 = .ok (.iload_n 1, 1) := by decide +kernel
theorem dX5_spread_37 : decode cX5_spread 37 = .ok (.aload_n 2, 1) := by decide +kernel
theorem dX5_spread_38 : decode cX5_spread 38 = .ok (.iload 7, 2) := by decide +kernel
theorem dX5_spread_40 : decode cX5_spread 40 = .ok (.iaload, 1) := by decide +kernel
theorem dX5_spread_41 : decode cX5_spread 41 = .ok (.invokestatic 78, 3) := by decide +kernel
theorem dX5_spread_44 : decode cX5_spread 44 = .ok (.ifCond .ne 18, 3) := by decide +kernel
theorem dX5_spread_47 : decode cX5_spread 47 = .ok (.aload_n 0, 1) := by decide +kernel
theorem dX5_spread_48 : decode cX5_spread 48 = .ok (.getfield 9, 3) := by decide +kernel
theorem dX5_spread_51 : decode cX5_spread 51 = .ok (.aload_n 2, 1) := by decide +kernel
theorem dX5_spread_52 : decode cX5_spread 52 = .ok (.iload 7, 2) := by decide +kernel
theorem dX5_spread_54 : decode cX5_spread 54 = .ok (.iaload, 1) := by decide +kernel
theorem dX5_spread_55 : decode cX5_spread 55 = .ok (.iaload, 1) := by decide +kernel
theorem dX5_spread_56 : decode cX5_spread 56 = .ok (.iload 5, 2) := by decide +kernel
theorem dX5_spread_58 : decode cX5_spread 58 = .ok (.iand, 1) := by decide +kernel
theorem dX5_spread_59 : decode cX5_spread 59 = .ok (.ifCond .eq 7, 3) := by decide +kernel
theorem dX5_spread_62 : decode cX5_spread 62 = .ok (.iconst 1, 1) := by decide +kernel
theorem dX5_spread_63 : decode cX5_spread 63 = .ok (.goto 4, 3) := by decide +kernel
theorem dX5_spread_66 : decode cX5_spread 66 = .ok (.iconst 0, 1) := by decide +kernel
theorem dX5_spread_67 : decode cX5_spread 67 = .ok (.istore 8, 2) := by decide +kernel
theorem dX5_spread_69 : decode cX5_spread 69 = .ok (.iload 8, 2) := by decide +kernel
theorem dX5_spread_71 : decode cX5_spread 71 = .ok (.ifCond .eq 38, 3) := by decide +kernel
theorem dX5_spread_74 : decode cX5_spread 74 = .ok (.aload_n 0, 1) := by decide +kernel
theorem dX5_spread_75 : decode cX5_spread 75 = .ok (.getfield 44, 3) := by decide +kernel
theorem dX5_spread_78 : decode cX5_spread 78 = .ok (.iload 7, 2) := by decide +kernel
theorem dX5_spread_80 : decode cX5_spread 80 = .ok (.invokestatic 78, 3) := by decide +kernel
theorem dX5_spread_83 : decode cX5_spread 83 = .ok (.ifCond .ne 26, 3) := by decide +kernel
theorem dX5_spread_86 : decode cX5_spread 86 = .ok (.iload 4, 2) := by decide +kernel
theorem dX5_spread_88 : decode cX5_spread 88 = .ok (.iconst 1, 1) := by decide +kernel
theorem dX5_spread_89 : decode cX5_spread 89 = .ok (.iload 7, 2) := by decide +kernel
theorem dX5_spread_91 : decode cX5_spread 91 = .ok (.ishl, 1) := by decide +kernel
theorem dX5_spread_92 : decode cX5_spread 92 = .ok (.ior, 1) := by decide +kernel
theorem dX5_spread_93 : decode cX5_spread 93 = .ok (.istore 4, 2) := by decide +kernel
theorem dX5_spread_95 : decode cX5_spread 95 = .ok (.iload 5, 2) := by decide +kernel
theorem dX5_spread_97 : decode cX5_spread 97 = .ok (.aload_n 0, 1) := by decide +kernel
theorem dX5_spread_98 : decode cX5_spread 98 = .ok (.getfield 9, 3) := by decide +kernel
theorem dX5_spread_101 : decode cX5_spread 101 = .ok (.aload_n 3, 1) := by decide +kernel
theorem dX5_spread_102 : decode cX5_spread 102 = .ok (.iload 7, 2) := by decide +kernel
theorem dX5_spread_104 : decode cX5_spread 104 = .ok (.iaload, 1) := by decide +kernel
theorem dX5_spread_105 : decode cX5_spread 105 = .ok (.iaload, 1) := by decide +kernel
theorem dX5_spread_106 : decode cX5_spread 106 = .ok (.ior, 1) := by decide +kernel
theorem dX5_spread_107 : decode cX5_spread 107 = .ok (.istore 5, 2) := by decide +kernel
theorem dX5_spread_109 : decode cX5_spread 109 = .ok (.iinc 7 1, 3) := by decide +kernel
theorem dX5_spread_112 : decode cX5_spread 112 = .ok (.goto (-88), 3) := by decide +kernel
theorem dX5_spread_115 : decode cX5_spread 115 = .ok (.iinc 6 1, 3) := by decide +kernel
theorem dX5_spread_118 : decode cX5_spread 118 = .ok (.goto (-109), 3) := by decide +kernel
theorem dX5_spread_121 : decode cX5_spread 121 = .ok (.iload 4, 2) := by decide +kernel
theorem dX5_spread_123 : decode cX5_spread 123 = .ok (.ireturn, 1) := by decide +kernel
theorem dX5_probe_0 : decode cX5_probe 0 = .ok (.aload_n 0, 1) := by decide +kernel
theorem dX5_probe_1 : decode cX5_probe 1 = .ok (.iload_n 1, 1) := by decide +kernel
theorem dX5_probe_2 : decode cX5_probe 2 = .ok (.invokevirtual 82, 3) := by decide +kernel
theorem dX5_probe_5 : decode cX5_probe 5 = .ok (.istore_n 2, 1) := by decide +kernel
theorem dX5_probe_6 : decode cX5_probe 6 = .ok (.aload_n 0, 1) := by decide +kernel
theorem dX5_probe_7 : decode cX5_probe 7 = .ok (.iload_n 1, 1) := by decide +kernel
theorem dX5_probe_8 : decode cX5_probe 8 = .ok (.putfield 85, 3) := by decide +kernel
theorem dX5_probe_11 : decode cX5_probe 11 = .ok (.iconst 0, 1) := by decide +kernel
theorem dX5_probe_12 : decode cX5_probe 12 = .ok (.istore_n 3, 1) := by decide +kernel
theorem dX5_probe_13 : decode cX5_probe 13 = .ok (.iload_n 3, 1) := by decide +kernel
theorem dX5_probe_14 : decode cX5_probe 14 = .ok (.aload_n 0, 1) := by decide +kernel
theorem dX5_probe_15 : decode cX5_probe 15 = .ok (.getfield 18, 3) := by decide +kernel
theorem dX5_probe_18 : decode cX5_probe 18 = .ok (.getfield 75, 3) := by decide +kernel
theorem dX5_probe_21 : decode cX5_probe 21 = .ok (.if_icmp .ge 35, 3) := by decide +kernel
theorem dX5_probe_24 : decode cX5_probe 24 = .ok (.iload_n 2, 1) := by decide +kernel
theorem dX5_probe_25 : decode cX5_probe 25 = .ok (.iload_n 3, 1) := by decide +kernel
end
section
theorem dX5_probe_26 : decode cX5_probe 26 = .ok (.invokestatic 78, 3) := by decide +kernel
theorem dX5_probe_29 : decode cX5_probe 29 = .ok (.ifCond .eq 21, 3) := by decide +kernel
theorem dX5_probe_32 : decode cX5_probe 32 = .ok (.aload_n 0, 1) := by decide +kernel
theorem dX5_probe_33 : decode cX5_probe 33 = .ok (.dup, 1) := by decide +kernel
theorem dX5_probe_34 : decode cX5_probe 34 = .ok (.getfield 85, 3) := by decide +kernel
theorem dX5_probe_37 : decode cX5_probe 37 = .ok (.aload_n 0, 1) := by decide +kernel
theorem dX5_probe_38 : decode cX5_probe 38 = .ok (.getfield 18, 3) := by decide +kernel
theorem dX5_probe_41 : decode cX5_probe 41 = .ok (.getfield 88, 3) := by decide +kernel
theorem dX5_probe_44 : decode cX5_probe 44 = .ok (.iload_n 3, 1) := by decide +kernel
theorem dX5_probe_45 : decode cX5_probe 45 = .ok (.iaload, 1) := by decide +kernel
theorem dX5_probe_46 : decode cX5_probe 46 = .ok (.ior, 1) := by decide +kernel
theorem dX5_probe_47 : decode cX5_probe 47 = .ok (.putfield 85, 3) := by decide +kernel
theorem dX5_probe_50 : decode cX5_probe 50 = .ok (.iinc 3 1, 3) := by decide +kernel
theorem dX5_probe_53 : decode cX5_probe 53 = .ok (.goto (-40), 3) := by decide +kernel
theorem dX5_probe_56 : decode cX5_probe 56 = .ok (.return_, 1) := by decide +kernel
theorem dX5_pinsAtOne_0 : decode cX5_pinsAtOne 0 = .ok (.iload_n 2, 1) := by decide +kernel
theorem dX5_pinsAtOne_1 : decode cX5_pinsAtOne 1 = .ok (.iconst 1, 1) := by decide +kernel
theorem dX5_pinsAtOne_2 : decode cX5_pinsAtOne 2 = .ok (.if_icmp .ne 17, 3) := by decide +kernel
theorem dX5_pinsAtOne_5 : decode cX5_pinsAtOne 5 = .ok (.aload_n 0, 1) := by decide +kernel
theorem dX5_pinsAtOne_6 : decode cX5_pinsAtOne 6 = .ok (.getfield 15, 3) := by decide +kernel
theorem dX5_pinsAtOne_9 : decode cX5_pinsAtOne 9 = .ok (.iload_n 1, 1) := by decide +kernel
theorem dX5_pinsAtOne_10 : decode cX5_pinsAtOne 10 = .ok (.iaload, 1) := by decide +kernel
theorem dX5_pinsAtOne_11 : decode cX5_pinsAtOne 11 = .ok (.aload_n 0, 1) := by decide +kernel
theorem dX5_pinsAtOne_12 : decode cX5_pinsAtOne 12 = .ok (.getfield 41, 3) := by decide +kernel
theorem dX5_pinsAtOne_15 : decode cX5_pinsAtOne 15 = .ok (.ior, 1) := by decide +kernel
theorem dX5_pinsAtOne_16 : decode cX5_pinsAtOne 16 = .ok (.goto 7, 3) := by decide +kernel
theorem dX5_pinsAtOne_19 : decode cX5_pinsAtOne 19 = .ok (.aload_n 0, 1) := by decide +kernel
theorem dX5_pinsAtOne_20 : decode cX5_pinsAtOne 20 = .ok (.getfield 41, 3) := by decide +kernel
theorem dX5_pinsAtOne_23 : decode cX5_pinsAtOne 23 = .ok (.istore_n 3, 1) := by decide +kernel
theorem dX5_pinsAtOne_24 : decode cX5_pinsAtOne 24 = .ok (.iload_n 3, 1) := by decide +kernel
theorem dX5_pinsAtOne_25 : decode cX5_pinsAtOne 25 = .ok (.aload_n 0, 1) := by decide +kernel
theorem dX5_pinsAtOne_26 : decode cX5_pinsAtOne 26 = .ok (.getfield 85, 3) := by decide +kernel
theorem dX5_pinsAtOne_29 : decode cX5_pinsAtOne 29 = .ok (.iand, 1) := by decide +kernel
theorem dX5_pinsAtOne_30 : decode cX5_pinsAtOne 30 = .ok (.ireturn, 1) := by decide +kernel
theorem dX5_sameOutcome_0 : decode cX5_sameOutcome 0 = .ok (.aload_n 0, 1) := by decide +kernel
theorem dX5_sameOutcome_1 : decode cX5_sameOutcome 1 = .ok (.getfield 85, 3) := by decide +kernel
theorem dX5_sameOutcome_4 : decode cX5_sameOutcome 4 = .ok (.aload_n 1, 1) := by decide +kernel
theorem dX5_sameOutcome_5 : decode cX5_sameOutcome 5 = .ok (.getfield 85, 3) := by decide +kernel
theorem dX5_sameOutcome_8 : decode cX5_sameOutcome 8 = .ok (.if_icmp .ne 24, 3) := by decide +kernel
theorem dX5_sameOutcome_11 : decode cX5_sameOutcome 11 = .ok (.aload_n 0, 1) := by decide +kernel
theorem dX5_sameOutcome_12 : decode cX5_sameOutcome 12 = .ok (.getfield 41, 3) := by decide +kernel
theorem dX5_sameOutcome_15 : decode cX5_sameOutcome 15 = .ok (.aload_n 0, 1) := by decide +kernel
theorem dX5_sameOutcome_16 : decode cX5_sameOutcome 16 = .ok (.getfield 85, 3) := by decide +kernel
theorem dX5_sameOutcome_19 : decode cX5_sameOutcome 19 = .ok (.iand, 1) := by decide +kernel
theorem dX5_sameOutcome_20 : decode cX5_sameOutcome 20 = .ok (.aload_n 1, 1) := by decide +kernel
theorem dX5_sameOutcome_21 : decode cX5_sameOutcome 21 = .ok (.getfield 41, 3) := by decide +kernel
theorem dX5_sameOutcome_24 : decode cX5_sameOutcome 24 = .ok (.aload_n 0, 1) := by decide +kernel
theorem dX5_sameOutcome_25 : decode cX5_sameOutcome 25 = .ok (.getfield 85, 3) := by decide +kernel
theorem dX5_sameOutcome_28 : decode cX5_sameOutcome 28 = .ok (.iand, 1) := by decide +kernel
theorem dX5_sameOutcome_29 : decode cX5_sameOutcome 29 = .ok (.if_icmp .eq 5, 3) := by decide +kernel
theorem dX5_sameOutcome_32 : decode cX5_sameOutcome 32 = .ok (.iconst 0, 1) := by decide +kernel
theorem dX5_sameOutcome_33 : decode cX5_sameOutcome 33 = .ok (.ireturn, 1) := by decide +kernel
theorem dX5_sameOutcome_34 : decode cX5_sameOutcome 34 = .ok (.iconst 0, 1) := by decide +kernel
theorem dX5_sameOutcome_35 : decode cX5_sameOutcome 35 = .ok (.istore_n 2, 1) := by decide +kernel
theorem dX5_sameOutcome_36 : decode cX5_sameOutcome 36 = .ok (.iload_n 2, 1) := by decide +kernel
theorem dX5_sameOutcome_37 : decode cX5_sameOutcome 37 = .ok (.bipush 16, 2) := by decide +kernel
theorem dX5_sameOutcome_39 : decode cX5_sameOutcome 39 = .ok (.if_icmp .ge 37, 3) := by decide +kernel
theorem dX5_sameOutcome_42 : decode cX5_sameOutcome 42 = .ok (.aload_n 0, 1) := by decide +kernel
theorem dX5_sameOutcome_43 : decode cX5_sameOutcome 43 = .ok (.getfield 85, 3) := by decide +kernel
theorem dX5_sameOutcome_46 : decode cX5_sameOutcome 46 = .ok (.iload_n 2, 1) := by decide +kernel
theorem dX5_sameOutcome_47 : decode cX5_sameOutcome 47 = .ok (.invokestatic 78, 3) := by decide +kernel
theorem dX5_sameOutcome_50 : decode cX5_sameOutcome 50 = .ok (.ifCond .eq 20, 3) := by decide +kernel
theorem dX5_sameOutcome_53 : decode cX5_sameOutcome 53 = .ok (.aload_n 0, 1) := by decide +kernel
theorem dX5_sameOutcome_54 : decode cX5_sameOutcome 54 = .ok (.iload_n 2, 1) := by decide +kernel
theorem dX5_sameOutcome_55 : decode cX5_sameOutcome 55 = .ok (.iconst 1, 1) := by decide +kernel
theorem dX5_sameOutcome_56 : decode cX5_sameOutcome 56 = .ok (.invokevirtual 91, 3) := by decide +kernel
theorem dX5_sameOutcome_59 : decode cX5_sameOutcome 59 = .ok (.aload_n 1, 1) := by decide +kernel
theorem dX5_sameOutcome_60 : decode cX5_sameOutcome 60 = .ok (.iload_n 2, 1) := by decide +kernel
theorem dX5_sameOutcome_61 : decode cX5_sameOutcome 61 = .ok (.iconst 1, 1) := by decide +kernel
theorem dX5_sameOutcome_62 : decode cX5_sameOutcome 62 = .ok (.invokevirtual 91, 3) := by decide +kernel
theorem dX5_sameOutcome_65 : decode cX5_sameOutcome 65 = .ok (.if_icmp .eq 5, 3) := by decide +kernel
theorem dX5_sameOutcome_68 : decode cX5_sameOutcome 68 = .ok (.iconst 0, 1) := by decide +kernel
theorem dX5_sameOutcome_69 : decode cX5_sameOutcome 69 = .ok (.ireturn, 1) := by decide +kernel
theorem dX5_sameOutcome_70 : decode cX5_sameOutcome 70 = .ok (.iinc 2 1, 3) := by decide +kernel
theorem dX5_sameOutcome_73 : decode cX5_sameOutcome 73 = .ok (.goto (-37), 3) := by decide +kernel
theorem dX5_sameOutcome_76 : decode cX5_sameOutcome 76 = .ok (.iconst 1, 1) := by decide +kernel
theorem dX5_sameOutcome_77 : decode cX5_sameOutcome 77 = .ok (.ireturn, 1) := by decide +kernel
theorem dX6_init_0 : decode cX6_init 0 = .ok (.aload_n 0, 1) := by decide +kernel
theorem dX6_init_1 : decode cX6_init 1 = .ok (.invokespecial 3, 3) := by decide +kernel
theorem dX6_init_4 : decode cX6_init 4 = .ok (.aload_n 0, 1) := by decide +kernel
theorem dX6_init_5 : decode cX6_init 5 = .ok (.new 9, 3) := by decide +kernel
theorem dX6_init_8 : decode cX6_init 8 = .ok (.dup, 1) := by decide +kernel
theorem dX6_init_9 : decode cX6_init 9 = .ok (.invokespecial 11, 3) := by decide +kernel
theorem dX6_init_12 : decode cX6_init 12 = .ok (.putfield 12, 3) := by decide +kernel
theorem dX6_init_15 : decode cX6_init 15 = .ok (.aload_n 0, 1) := by decide +kernel
theorem dX6_init_16 : decode cX6_init 16 = .ok (.new 16, 3) := by decide +kernel
theorem dX6_init_19 : decode cX6_init 19 = .ok (.dup, 1) := by decide +kernel
theorem dX6_init_20 : decode cX6_init 20 = .ok (.invokespecial 18, 3) := by decide +kernel
theorem dX6_init_23 : decode cX6_init 23 = .ok (.putfield 19, 3) := by decide +kernel
theorem dX6_init_26 : decode cX6_init 26 = .ok (.new 23, 3) := by decide +kernel
theorem dX6_init_29 : decode cX6_init 29 = .ok (.dup, 1) := by decide +kernel
theorem dX6_init_30 : decode cX6_init 30 = .ok (.invokespecial 25, 3) := by decide +kernel
theorem dX6_init_33 : decode cX6_init 33 = .ok (.astore_n 1, 1) := by decide +kernel
theorem dX6_init_34 : decode cX6_init 34 = .ok (.aload_n 0, 1) := by decide +kernel
theorem dX6_init_35 : decode cX6_init 35 = .ok (.new 26, 3) := by decide +kernel
theorem dX6_init_38 : decode cX6_init 38 = .ok (.dup, 1) := by decide +kernel
theorem dX6_init_39 : decode cX6_init 39 = .ok (.aload_n 1, 1) := by decide +kernel
theorem dX6_init_40 : decode cX6_init 40 = .ok (.invokespecial 28, 3) := by decide +kernel
theorem dX6_init_43 : decode cX6_init 43 = .ok (.putfield 31, 3) := by decide +kernel
theorem dX6_init_46 : decode cX6_init 46 = .ok (.aload_n 0, 1) := by decide +kernel
theorem dX6_init_47 : decode cX6_init 47 = .ok (.new 35, 3) := by decide +kernel
theorem dX6_init_50 : decode cX6_init 50 = .ok (.dup, 1) := by decide +kernel
theorem dX6_init_51 : decode cX6_init 51 = .ok (.aload_n 1, 1) := by decide +kernel
theorem dX6_init_52 : decode cX6_init 52 = .ok (.invokespecial 37, 3) := by decide +kernel
theorem dX6_init_55 : decode cX6_init 55 = .ok (.putfield 38, 3) := by decide +kernel
theorem dX6_init_58 : decode cX6_init 58 = .ok (.return_, 1) := by decide +kernel
theorem dX6_net_0 : decode cX6_net 0 = .ok (.aload_n 0, 1) := by decide +kernel
theorem dX6_net_1 : decode cX6_net 1 = .ok (.getfield 31, 3) := by decide +kernel
theorem dX6_net_4 : decode cX6_net 4 = .ok (.getfield 42, 3) := by decide +kernel
theorem dX6_net_7 : decode cX6_net 7 = .ok (.iload_n 1, 1) := by decide +kernel
theorem dX6_net_8 : decode cX6_net 8 = .ok (.invokevirtual 46, 3) := by decide +kernel
theorem dX6_net_11 : decode cX6_net 11 = .ok (.istore_n 2, 1) := by decide +kernel
theorem dX6_net_12 : decode cX6_net 12 = .ok (.iload_n 2, 1) := by decide +kernel
theorem dX6_net_13 : decode cX6_net 13 = .ok (.ifCond .eq 5, 3) := by decide +kernel
theorem dX6_net_16 : decode cX6_net 16 = .ok (.iload_n 2, 1) := by decide +kernel
theorem dX6_net_17 : decode cX6_net 17 = .ok (.ireturn, 1) := by decide +kernel
theorem dX6_net_18 : decode cX6_net 18 = .ok (.aload_n 0, 1) := by decide +kernel
theorem dX6_net_19 : decode cX6_net 19 = .ok (.getfield 12, 3) := by decide +kernel
theorem dX6_net_22 : decode cX6_net 22 = .ok (.aload_n 0, 1) := by decide +kernel
theorem dX6_net_23 : decode cX6_net 23 = .ok (.getfield 31, 3) := by decide +kernel
theorem dX6_net_26 : decode cX6_net 26 = .ok (.invokevirtual 50, 3) := by decide +kernel
theorem dX6_net_29 : decode cX6_net 29 = .ok (.aload_n 0, 1) := by decide +kernel
theorem dX6_net_30 : decode cX6_net 30 = .ok (.getfield 31, 3) := by decide +kernel
theorem dX6_net_33 : decode cX6_net 33 = .ok (.getfield 42, 3) := by decide +kernel
theorem dX6_net_36 : decode cX6_net 36 = .ok (.iload_n 1, 1) := by decide +kernel
theorem dX6_net_37 : decode cX6_net 37 = .ok (.invokevirtual 54, 3) := by decide +kernel
theorem dX6_net_40 : decode cX6_net 40 = .ok (.ireturn, 1) := by decide +kernel
theorem dX6_chip_0 : decode cX6_chip 0 = .ok (.aload_n 0, 1) := by decide +kernel
theorem dX6_chip_1 : decode cX6_chip 1 = .ok (.getfield 31, 3) := by decide +kernel
theorem dX6_chip_4 : decode cX6_chip 4 = .ok (.getfield 42, 3) := by decide +kernel
theorem dX6_chip_7 : decode cX6_chip 7 = .ok (.iload_n 1, 1) := by decide +kernel
theorem dX6_chip_8 : decode cX6_chip 8 = .ok (.iload_n 2, 1) := by decide +kernel
theorem dX6_chip_9 : decode cX6_chip 9 = .ok (.iload_n 3, 1) := by decide +kernel
theorem dX6_chip_10 : decode cX6_chip 10 = .ok (.invokevirtual 57, 3) := by decide +kernel
theorem dX6_chip_13 : decode cX6_chip 13 = .ok (.istore 4, 2) := by decide +kernel
theorem dX6_chip_15 : decode cX6_chip 15 = .ok (.iload 4, 2) := by decide +kernel
theorem dX6_chip_17 : decode cX6_chip 17 = .ok (.ifCond .eq 6, 3) := by decide +kernel
theorem dX6_chip_20 : decode cX6_chip 20 = .ok (.iload 4, 2) := by decide +kernel
theorem dX6_chip_22 : decode cX6_chip 22 = .ok (.ireturn, 1) := by decide +kernel
theorem dX6_chip_23 : decode cX6_chip 23 = .ok (.aload_n 0, 1) := by decide +kernel
theorem dX6_chip_24 : decode cX6_chip 24 = .ok (.getfield 12, 3) := by decide +kernel
theorem dX6_chip_27 : decode cX6_chip 27 = .ok (.aload_n 0, 1) := by decide +kernel
theorem dX6_chip_28 : decode cX6_chip 28 = .ok (.getfield 31, 3) := by decide +kernel
theorem dX6_chip_31 : decode cX6_chip 31 = .ok (.invokevirtual 50, 3) := by decide +kernel
theorem dX6_chip_34 : decode cX6_chip 34 = .ok (.aload_n 0, 1) := by decide +kernel
theorem dX6_chip_35 : decode cX6_chip 35 = .ok (.getfield 31, 3) := by decide +kernel
theorem dX6_chip_38 : decode cX6_chip 38 = .ok (.getfield 42, 3) := by decide +kernel
theorem dX6_chip_41 : decode cX6_chip 41 = .ok (.iload_n 1, 1) := by decide +kernel
theorem dX6_chip_42 : decode cX6_chip 42 = .ok (.iload_n 2, 1) := by decide +kernel
theorem dX6_chip_43 : decode cX6_chip 43 = .ok (.iload_n 3, 1) := by decide +kernel
theorem dX6_chip_44 : decode cX6_chip 44 = .ok (.invokevirtual 61, 3) := by decide +kernel
theorem dX6_chip_47 : decode cX6_chip 47 = .ok (.ireturn, 1) := by decide +kernel
theorem dX6_fault_0 : decode cX6_fault 0 = .ok (.aload_n 0, 1) := by decide +kernel
theorem dX6_fault_1 : decode cX6_fault 1 = .ok (.getfield 31, 3) := by decide +kernel
theorem dX6_fault_4 : decode cX6_fault 4 = .ok (.getfield 42, 3) := by decide +kernel
theorem dX6_fault_7 : decode cX6_fault 7 = .ok (.iload_n 1, 1) := by decide +kernel
theorem dX6_fault_8 : decode cX6_fault 8 = .ok (.iload_n 2, 1) := by decide +kernel
theorem dX6_fault_9 : decode cX6_fault 9 = .ok (.iload_n 3, 1) := by decide +kernel
theorem dX6_fault_10 : decode cX6_fault 10 = .ok (.invokevirtual 64, 3) := by decide +kernel
theorem dX6_fault_13 : decode cX6_fault 13 = .ok (.istore 4, 2) := by decide +kernel
theorem dX6_fault_15 : decode cX6_fault 15 = .ok (.iload 4, 2) := by decide +kernel
theorem dX6_fault_17 : decode cX6_fault 17 = .ok (.ifCond .eq 6, 3) := by decide +kernel
theorem dX6_fault_20 : decode cX6_fault 20 = .ok (.iload 4, 2) := by decide +kernel
theorem dX6_fault_22 : decode cX6_fault 22 = .ok (.ireturn, 1) := by decide +kernel
theorem dX6_fault_23 : decode cX6_fault 23 = .ok (.aload_n 0, 1) := by decide +kernel
theorem dX6_fault_24 : decode cX6_fault 24 = .ok (.getfield 12, 3) := by decide +kernel
theorem dX6_fault_27 : decode cX6_fault 27 = .ok (.aload_n 0, 1) := by decide +kernel
theorem dX6_fault_28 : decode cX6_fault 28 = .ok (.getfield 31, 3) := by decide +kernel
theorem dX6_fault_31 : decode cX6_fault 31 = .ok (.invokevirtual 50, 3) := by decide +kernel
theorem dX6_fault_34 : decode cX6_fault 34 = .ok (.aload_n 0, 1) := by decide +kernel
theorem dX6_fault_35 : decode cX6_fault 35 = .ok (.getfield 31, 3) := by decide +kernel
theorem dX6_fault_38 : decode cX6_fault 38 = .ok (.getfield 42, 3) := by decide +kernel
theorem dX6_fault_41 : decode cX6_fault 41 = .ok (.iload_n 1, 1) := by decide +kernel
theorem dX6_fault_42 : decode cX6_fault 42 = .ok (.iload_n 2, 1) := by decide +kernel
theorem dX6_fault_43 : decode cX6_fault 43 = .ok (.iload_n 3, 1) := by decide +kernel
theorem dX6_fault_44 : decode cX6_fault 44 = .ok (.invokevirtual 67, 3) := by decide +kernel
theorem dX6_fault_47 : decode cX6_fault 47 = .ok (.ireturn, 1) := by decide +kernel
theorem dX6_bless_0 : decode cX6_bless 0 = .ok (.iload_n 1, 1) := by decide +kernel
theorem dX6_bless_1 : decode cX6_bless 1 = .ok (.invokestatic 70, 3) := by decide +kernel
theorem dX6_bless_4 : decode cX6_bless 4 = .ok (.ifCond .eq 10, 3) := by decide +kernel
theorem dX6_bless_7 : decode cX6_bless 7 = .ok (.iload_n 2, 1) := by decide +kernel
theorem dX6_bless_8 : decode cX6_bless 8 = .ok (.bipush (-128), 2) := by decide +kernel
theorem dX6_bless_10 : decode cX6_bless 10 = .ok (.iand, 1) := by decide +kernel
theorem dX6_bless_11 : decode cX6_bless 11 = .ok (.ifCond .eq 6, 3) := by decide +kernel
theorem dX6_bless_14 : decode cX6_bless 14 = .ok (.ldc 74, 2) := by decide +kernel
theorem dX6_bless_16 : decode cX6_bless 16 = .ok (.ireturn, 1) := by decide +kernel
theorem dX6_bless_17 : decode cX6_bless 17 = .ok (.aload_n 0, 1) := by decide +kernel
theorem dX6_bless_18 : decode cX6_bless 18 = .ok (.getfield 12, 3) := by decide +kernel
theorem dX6_bless_21 : decode cX6_bless 21 = .ok (.aload_n 0, 1) := by decide +kernel
theorem dX6_bless_22 : decode cX6_bless 22 = .ok (.getfield 31, 3) := by decide +kernel
theorem dX6_bless_25 : decode cX6_bless 25 = .ok (.invokevirtual 50, 3) := by decide +kernel
theorem dX6_bless_28 : decode cX6_bless 28 = .ok (.aload_n 0, 1) := by decide +kernel
theorem dX6_bless_29 : decode cX6_bless 29 = .ok (.getfield 31, 3) := by decide +kernel
theorem dX6_bless_32 : decode cX6_bless 32 = .ok (.getfield 42, 3) := by decide +kernel
theorem dX6_bless_35 : decode cX6_bless 35 = .ok (.iload_n 1, 1) := by decide +kernel
theorem dX6_bless_36 : decode cX6_bless 36 = .ok (.iload_n 2, 1) := by decide +kernel
theorem dX6_bless_37 : decode cX6_bless 37 = .ok (.invokevirtual 75, 3) := by decide +kernel
theorem dX6_bless_40 : decode cX6_bless 40 = .ok (.ireturn, 1) := by decide +kernel
theorem dX6_pinOf_0 : decode cX6_pinOf 0 = .ok (.iload_n 1, 1) := by decide +kernel
theorem dX6_pinOf_1 : decode cX6_pinOf 1 = .ok (.invokestatic 70, 3) := by decide +kernel
theorem dX6_pinOf_4 : decode cX6_pinOf 4 = .ok (.ifCond .ne 6, 3) := by decide +kernel
theorem dX6_pinOf_7 : decode cX6_pinOf 7 = .ok (.ldc 74, 2) := by decide +kernel
theorem dX6_pinOf_9 : decode cX6_pinOf 9 = .ok (.ireturn, 1) := by decide +kernel
theorem dX6_pinOf_10 : decode cX6_pinOf 10 = .ok (.aload_n 0, 1) := by decide +kernel
theorem dX6_pinOf_11 : decode cX6_pinOf 11 = .ok (.getfield 31, 3) := by decide +kernel
theorem dX6_pinOf_14 : decode cX6_pinOf 14 = .ok (.getfield 42, 3) := by decide +kernel
theorem dX6_pinOf_17 : decode cX6_pinOf 17 = .ok (.astore_n 3, 1) := by decide +kernel
theorem dX6_pinOf_18 : decode cX6_pinOf 18 = .ok (.iload_n 2, 1) := by decide +kernel
theorem dX6_pinOf_19 : decode cX6_pinOf 19 = .ok (.tableswitch 88 0 4 #[33, 43, 52, 61, 68], 33) := by decide +kernel
theorem dX6_pinOf_52 : decode cX6_pinOf 52 = .ok (.aload_n 3, 1) := by decide +kernel
theorem dX6_pinOf_53 : decode cX6_pinOf 53 = .ok (.getfield 79, 3) := by decide +kernel
theorem dX6_pinOf_56 : decode cX6_pinOf 56 = .ok (.iload_n 1, 1) := by decide +kernel
theorem dX6_pinOf_57 : decode cX6_pinOf 57 = .ok (.iaload, 1) := by decide +kernel
theorem dX6_pinOf_58 : decode cX6_pinOf 58 = .ok (.invokestatic 83, 3) := by decide +kernel
theorem dX6_pinOf_61 : decode cX6_pinOf 61 = .ok (.ireturn, 1) := by decide +kernel
theorem dX6_pinOf_62 : decode cX6_pinOf 62 = .ok (.aload_n 3, 1) := by decide +kernel
theorem dX6_pinOf_63 : decode cX6_pinOf 63 = .ok (.iload_n 1, 1) := by decide +kernel
theorem dX6_pinOf_64 : decode cX6_pinOf 64 = .ok (.invokevirtual 86, 3) := by decide +kernel
theorem dX6_pinOf_67 : decode cX6_pinOf 67 = .ok (.invokestatic 83, 3) := by decide +kernel
theorem dX6_pinOf_70 : decode cX6_pinOf 70 = .ok (.ireturn, 1) := by decide +kernel
theorem dX6_pinOf_71 : decode cX6_pinOf 71 = .ok (.aload_n 3, 1) := by decide +kernel
theorem dX6_pinOf_72 : decode cX6_pinOf 72 = .ok (.iload_n 1, 1) := by decide +kernel
theorem dX6_pinOf_73 : decode cX6_pinOf 73 = .ok (.invokevirtual 89, 3) := by decide +kernel
theorem dX6_pinOf_76 : decode cX6_pinOf 76 = .ok (.invokestatic 83, 3) := by decide +kernel
theorem dX6_pinOf_79 : decode cX6_pinOf 79 = .ok (.ireturn, 1) := by decide +kernel
theorem dX6_pinOf_80 : decode cX6_pinOf 80 = .ok (.aload_n 3, 1) := by decide +kernel
theorem dX6_pinOf_81 : decode cX6_pinOf 81 = .ok (.getfield 92, 3) := by decide +kernel
theorem dX6_pinOf_84 : decode cX6_pinOf 84 = .ok (.iload_n 1, 1) := by decide +kernel
theorem dX6_pinOf_85 : decode cX6_pinOf 85 = .ok (.iaload, 1) := by decide +kernel
theorem dX6_pinOf_86 : decode cX6_pinOf 86 = .ok (.ireturn, 1) := by decide +kernel
theorem dX6_pinOf_87 : decode cX6_pinOf 87 = .ok (.aload_n 0, 1) := by decide +kernel
theorem dX6_pinOf_88 : decode cX6_pinOf 88 = .ok (.getfield 31, 3) := by decide +kernel
theorem dX6_pinOf_91 : decode cX6_pinOf 91 = .ok (.invokevirtual 95, 3) := by decide +kernel
theorem dX6_pinOf_94 : decode cX6_pinOf 94 = .ok (.iload_n 1, 1) := by decide +kernel
theorem dX6_pinOf_95 : decode cX6_pinOf 95 = .ok (.invokestatic 99, 3) := by decide +kernel
theorem dX6_pinOf_98 : decode cX6_pinOf 98 = .ok (.ifCond .eq 7, 3) := by decide +kernel
theorem dX6_pinOf_101 : decode cX6_pinOf 101 = .ok (.iconst 1, 1) := by decide +kernel
theorem dX6_pinOf_102 : decode cX6_pinOf 102 = .ok (.goto 4, 3) := by decide +kernel
theorem dX6_pinOf_105 : decode cX6_pinOf 105 = .ok (.iconst 0, 1) := by decide +kernel
theorem dX6_pinOf_106 : decode cX6_pinOf 106 = .ok (.ireturn, 1) := by decide +kernel
theorem dX6_pinOf_107 : decode cX6_pinOf 107 = .ok (.ldc 74, 2) := by decide +kernel
theorem dX6_pinOf_109 : decode cX6_pinOf 109 = .ok (.ireturn, 1) := by decide +kernel
theorem dX6_faultOf_0 : decode cX6_faultOf 0 = .ok (.aload_n 0, 1) := by decide +kernel
theorem dX6_faultOf_1 : decode cX6_faultOf 1 = .ok (.getfield 31, 3) := by decide +kernel
theorem dX6_faultOf_4 : decode cX6_faultOf 4 = .ok (.getfield 42, 3) := by decide +kernel
theorem dX6_faultOf_7 : decode cX6_faultOf 7 = .ok (.astore_n 3, 1) := by decide +kernel
theorem dX6_faultOf_8 : decode cX6_faultOf 8 = .ok (.aload_n 3, 1) := by decide +kernel
theorem dX6_faultOf_9 : decode cX6_faultOf 9 = .ok (.iload_n 1, 1) := by decide +kernel
theorem dX6_faultOf_10 : decode cX6_faultOf 10 = .ok (.invokevirtual 103, 3) := by decide +kernel
theorem dX6_faultOf_13 : decode cX6_faultOf 13 = .ok (.ifCond .ne 6, 3) := by decide +kernel
theorem dX6_faultOf_16 : decode cX6_faultOf 16 = .ok (.ldc 74, 2) := by decide +kernel
theorem dX6_faultOf_18 : decode cX6_faultOf 18 = .ok (.ireturn, 1) := by decide +kernel
theorem dX6_faultOf_19 : decode cX6_faultOf 19 = .ok (.iload_n 2, 1) := by decide +kernel
theorem dX6_faultOf_20 : decode cX6_faultOf 20 = .ok (.tableswitch 81 0 3 #[32, 39, 46, 68], 32) := by decide +kernel
theorem dX6_faultOf_52 : decode cX6_faultOf 52 = .ok (.aload_n 3, 1) := by decide +kernel
theorem dX6_faultOf_53 : decode cX6_faultOf 53 = .ok (.getfield 106, 3) := by decide +kernel
theorem dX6_faultOf_56 : decode cX6_faultOf 56 = .ok (.iload_n 1, 1) := by decide +kernel
theorem dX6_faultOf_57 : decode cX6_faultOf 57 = .ok (.iaload, 1) := by decide +kernel
theorem dX6_faultOf_58 : decode cX6_faultOf 58 = .ok (.ireturn, 1) := by decide +kernel
theorem dX6_faultOf_59 : decode cX6_faultOf 59 = .ok (.aload_n 3, 1) := by decide +kernel
theorem dX6_faultOf_60 : decode cX6_faultOf 60 = .ok (.getfield 109, 3) := by decide +kernel
theorem dX6_faultOf_63 : decode cX6_faultOf 63 = .ok (.iload_n 1, 1) := by decide +kernel
theorem dX6_faultOf_64 : decode cX6_faultOf 64 = .ok (.iaload, 1) := by decide +kernel
theorem dX6_faultOf_65 : decode cX6_faultOf 65 = .ok (.ireturn, 1) := by decide +kernel
theorem dX6_faultOf_66 : decode cX6_faultOf 66 = .ok (.aload_n 3, 1) := by decide +kernel
theorem dX6_faultOf_67 : decode cX6_faultOf 67 = .ok (.getfield 106, 3) := by decide +kernel
theorem dX6_faultOf_70 : decode cX6_faultOf 70 = .ok (.iload_n 1, 1) := by decide +kernel
theorem dX6_faultOf_71 : decode cX6_faultOf 71 = .ok (.iaload, 1) := by decide +kernel
theorem dX6_faultOf_72 : decode cX6_faultOf 72 = .ok (.iconst 1, 1) := by decide +kernel
theorem dX6_faultOf_73 : decode cX6_faultOf 73 = .ok (.if_icmp .ne 12, 3) := by decide +kernel
theorem dX6_faultOf_76 : decode cX6_faultOf 76 = .ok (.aload_n 3, 1) := by decide +kernel
theorem dX6_faultOf_77 : decode cX6_faultOf 77 = .ok (.getfield 112, 3) := by decide +kernel
theorem dX6_faultOf_80 : decode cX6_faultOf 80 = .ok (.iload_n 1, 1) := by decide +kernel
theorem dX6_faultOf_81 : decode cX6_faultOf 81 = .ok (.iaload, 1) := by decide +kernel
theorem dX6_faultOf_82 : decode cX6_faultOf 82 = .ok (.goto 5, 3) := by decide +kernel
theorem dX6_faultOf_85 : decode cX6_faultOf 85 = .ok (.ldc 115, 2) := by decide +kernel
theorem dX6_faultOf_87 : decode cX6_faultOf 87 = .ok (.ireturn, 1) := by decide +kernel
theorem dX6_faultOf_88 : decode cX6_faultOf 88 = .ok (.aload_n 0, 1) := by decide +kernel
theorem dX6_faultOf_89 : decode cX6_faultOf 89 = .ok (.getfield 31, 3) := by decide +kernel
theorem dX6_faultOf_92 : decode cX6_faultOf 92 = .ok (.getfield 116, 3) := by decide +kernel
theorem dX6_faultOf_95 : decode cX6_faultOf 95 = .ok (.iload_n 1, 1) := by decide +kernel
theorem dX6_faultOf_96 : decode cX6_faultOf 96 = .ok (.iaload, 1) := by decide +kernel
theorem dX6_faultOf_97 : decode cX6_faultOf 97 = .ok (.invokestatic 83, 3) := by decide +kernel
theorem dX6_faultOf_100 : decode cX6_faultOf 100 = .ok (.ireturn, 1) := by decide +kernel
theorem dX6_faultOf_101 : decode cX6_faultOf 101 = .ok (.ldc 74, 2) := by decide +kernel
theorem dX6_faultOf_103 : decode cX6_faultOf 103 = .ok (.ireturn, 1) := by decide +kernel
theorem dX6_plant_0 : decode cX6_plant 0 = .ok (.aload_n 0, 1) := by decide +kernel
theorem dX6_plant_1 : decode cX6_plant 1 = .ok (.iload_n 1, 1) := by decide +kernel
theorem dX6_plant_2 : decode cX6_plant 2 = .ok (.invokevirtual 122, 3) := by decide +kernel
theorem dX6_plant_5 : decode cX6_plant 5 = .ok (.ifCond .ne 6, 3) := by decide +kernel
theorem dX6_plant_8 : decode cX6_plant 8 = .ok (.ldc 74, 2) := by decide +kernel
theorem dX6_plant_10 : decode cX6_plant 10 = .ok (.ireturn, 1) := by decide +kernel
theorem dX6_plant_11 : decode cX6_plant 11 = .ok (.aload_n 0, 1) := by decide +kernel
theorem dX6_plant_12 : decode cX6_plant 12 = .ok (.getfield 12, 3) := by decide +kernel
theorem dX6_plant_15 : decode cX6_plant 15 = .ok (.aload_n 0, 1) := by decide +kernel
theorem dX6_plant_16 : decode cX6_plant 16 = .ok (.getfield 31, 3) := by decide +kernel
theorem dX6_plant_19 : decode cX6_plant 19 = .ok (.invokevirtual 50, 3) := by decide +kernel
theorem dX6_plant_22 : decode cX6_plant 22 = .ok (.aload_n 0, 1) := by decide +kernel
theorem dX6_plant_23 : decode cX6_plant 23 = .ok (.getfield 31, 3) := by decide +kernel
theorem dX6_plant_26 : decode cX6_plant 26 = .ok (.iload_n 1, 1) := by decide +kernel
theorem dX6_plant_27 : decode cX6_plant 27 = .ok (.invokestatic 125, 3) := by decide +kernel
theorem dX6_plant_30 : decode cX6_plant 30 = .ok (.putfield 191, 3) := by decide +kernel
theorem dX6_plant_33 : decode cX6_plant 33 = .ok (.aload_n 0, 1) := by decide +kernel
theorem dX6_plant_34 : decode cX6_plant 34 = .ok (.getfield 31, 3) := by decide +kernel
theorem dX6_plant_37 : decode cX6_plant 37 = .ok (.aload_n 0, 1) := by decide +kernel
theorem dX6_plant_38 : decode cX6_plant 38 = .ok (.getfield 31, 3) := by decide +kernel
theorem dX6_plant_41 : decode cX6_plant 41 = .ok (.getfield 42, 3) := by decide +kernel
theorem dX6_plant_44 : decode cX6_plant 44 = .ok (.invokevirtual 194, 3) := by decide +kernel
theorem dX6_plant_47 : decode cX6_plant 47 = .ok (.putfield 197, 3) := by decide +kernel
theorem dX6_plant_50 : decode cX6_plant 50 = .ok (.aload_n 0, 1) := by decide +kernel
theorem dX6_plant_51 : decode cX6_plant 51 = .ok (.getfield 31, 3) := by decide +kernel
theorem dX6_plant_54 : decode cX6_plant 54 = .ok (.getfield 197, 3) := by decide +kernel
theorem dX6_plant_57 : decode cX6_plant 57 = .ok (.invokestatic 186, 3) := by decide +kernel
theorem dX6_plant_60 : decode cX6_plant 60 = .ok (.ireturn, 1) := by decide +kernel
theorem dX6_test_0 : decode cX6_test 0 = .ok (.aload_n 0, 1) := by decide +kernel
theorem dX6_test_1 : decode cX6_test 1 = .ok (.getfield 12, 3) := by decide +kernel
theorem dX6_test_4 : decode cX6_test 4 = .ok (.aload_n 0, 1) := by decide +kernel
theorem dX6_test_5 : decode cX6_test 5 = .ok (.getfield 31, 3) := by decide +kernel
theorem dX6_test_8 : decode cX6_test 8 = .ok (.invokevirtual 50, 3) := by decide +kernel
theorem dX6_test_11 : decode cX6_test 11 = .ok (.aload_n 0, 1) := by decide +kernel
theorem dX6_test_12 : decode cX6_test 12 = .ok (.getfield 31, 3) := by decide +kernel
theorem dX6_test_15 : decode cX6_test 15 = .ok (.dup, 1) := by decide +kernel
theorem dX6_test_16 : decode cX6_test 16 = .ok (.getfield 200, 3) := by decide +kernel
theorem dX6_test_19 : decode cX6_test 19 = .ok (.iconst 1, 1) := by decide +kernel
theorem dX6_test_20 : decode cX6_test 20 = .ok (.iadd, 1) := by decide +kernel
theorem dX6_test_21 : decode cX6_test 21 = .ok (.putfield 200, 3) := by decide +kernel
theorem dX6_test_24 : decode cX6_test 24 = .ok (.aload_n 0, 1) := by decide +kernel
theorem dX6_test_25 : decode cX6_test 25 = .ok (.getfield 31, 3) := by decide +kernel
theorem dX6_test_28 : decode cX6_test 28 = .ok (.aload_n 0, 1) := by decide +kernel
theorem dX6_test_29 : decode cX6_test 29 = .ok (.getfield 38, 3) := by decide +kernel
theorem dX6_test_32 : decode cX6_test 32 = .ok (.aload_n 0, 1) := by decide +kernel
theorem dX6_test_33 : decode cX6_test 33 = .ok (.getfield 31, 3) := by decide +kernel
theorem dX6_test_36 : decode cX6_test 36 = .ok (.invokevirtual 95, 3) := by decide +kernel
theorem dX6_test_39 : decode cX6_test 39 = .ok (.aload_n 0, 1) := by decide +kernel
theorem dX6_test_40 : decode cX6_test 40 = .ok (.getfield 31, 3) := by decide +kernel
theorem dX6_test_43 : decode cX6_test 43 = .ok (.getfield 191, 3) := by decide +kernel
theorem dX6_test_46 : decode cX6_test 46 = .ok (.aload_n 0, 1) := by decide +kernel
theorem dX6_test_47 : decode cX6_test 47 = .ok (.getfield 31, 3) := by decide +kernel
theorem dX6_test_50 : decode cX6_test 50 = .ok (.getfield 197, 3) := by decide +kernel
theorem dX6_test_53 : decode cX6_test 53 = .ok (.invokevirtual 203, 3) := by decide +kernel
theorem dX6_test_56 : decode cX6_test 56 = .ok (.putfield 197, 3) := by decide +kernel
theorem dX6_test_59 : decode cX6_test 59 = .ok (.aload_n 0, 1) := by decide +kernel
theorem dX6_test_60 : decode cX6_test 60 = .ok (.getfield 31, 3) := by decide +kernel
theorem dX6_test_63 : decode cX6_test 63 = .ok (.getfield 197, 3) := by decide +kernel
theorem dX6_test_66 : decode cX6_test 66 = .ok (.invokestatic 186, 3) := by decide +kernel
theorem dX6_test_69 : decode cX6_test 69 = .ok (.ireturn, 1) := by decide +kernel
theorem dX6_vouch_0 : decode cX6_vouch 0 = .ok (.iload_n 1, 1) := by decide +kernel
theorem dX6_vouch_1 : decode cX6_vouch 1 = .ok (.invokestatic 70, 3) := by decide +kernel
theorem dX6_vouch_4 : decode cX6_vouch 4 = .ok (.ifCond .ne 6, 3) := by decide +kernel
theorem dX6_vouch_7 : decode cX6_vouch 7 = .ok (.ldc 74, 2) := by decide +kernel
theorem dX6_vouch_9 : decode cX6_vouch 9 = .ok (.ireturn, 1) := by decide +kernel
theorem dX6_vouch_10 : decode cX6_vouch 10 = .ok (.aload_n 0, 1) := by decide +kernel
theorem dX6_vouch_11 : decode cX6_vouch 11 = .ok (.getfield 31, 3) := by decide +kernel
theorem dX6_vouch_14 : decode cX6_vouch 14 = .ok (.invokevirtual 95, 3) := by decide +kernel
theorem dX6_vouch_17 : decode cX6_vouch 17 = .ok (.iload_n 1, 1) := by decide +kernel
theorem dX6_vouch_18 : decode cX6_vouch 18 = .ok (.invokestatic 99, 3) := by decide +kernel
theorem dX6_vouch_21 : decode cX6_vouch 21 = .ok (.ifCond .eq 6, 3) := by decide +kernel
theorem dX6_vouch_24 : decode cX6_vouch 24 = .ok (.ldc 206, 2) := by decide +kernel
theorem dX6_vouch_26 : decode cX6_vouch 26 = .ok (.ireturn, 1) := by decide +kernel
theorem dX6_vouch_27 : decode cX6_vouch 27 = .ok (.aload_n 0, 1) := by decide +kernel
theorem dX6_vouch_28 : decode cX6_vouch 28 = .ok (.getfield 31, 3) := by decide +kernel
theorem dX6_vouch_31 : decode cX6_vouch 31 = .ok (.getfield 207, 3) := by decide +kernel
theorem dX6_vouch_34 : decode cX6_vouch 34 = .ok (.ifCond .ne 6, 3) := by decide +kernel
theorem dX6_vouch_37 : decode cX6_vouch 37 = .ok (.ldc 210, 2) := by decide +kernel
theorem dX6_vouch_39 : decode cX6_vouch 39 = .ok (.ireturn, 1) := by decide +kernel
theorem dX6_vouch_40 : decode cX6_vouch 40 = .ok (.aload_n 0, 1) := by decide +kernel
theorem dX6_vouch_41 : decode cX6_vouch 41 = .ok (.getfield 12, 3) := by decide +kernel
theorem dX6_vouch_44 : decode cX6_vouch 44 = .ok (.aload_n 0, 1) := by decide +kernel
theorem dX6_vouch_45 : decode cX6_vouch 45 = .ok (.getfield 31, 3) := by decide +kernel
theorem dX6_vouch_48 : decode cX6_vouch 48 = .ok (.invokevirtual 50, 3) := by decide +kernel
theorem dX6_vouch_51 : decode cX6_vouch 51 = .ok (.aload_n 0, 1) := by decide +kernel
theorem dX6_vouch_52 : decode cX6_vouch 52 = .ok (.getfield 31, 3) := by decide +kernel
theorem dX6_vouch_55 : decode cX6_vouch 55 = .ok (.dup, 1) := by decide +kernel
theorem dX6_vouch_56 : decode cX6_vouch 56 = .ok (.getfield 211, 3) := by decide +kernel
theorem dX6_vouch_59 : decode cX6_vouch 59 = .ok (.iconst 1, 1) := by decide +kernel
theorem dX6_vouch_60 : decode cX6_vouch 60 = .ok (.iload_n 1, 1) := by decide +kernel
theorem dX6_vouch_61 : decode cX6_vouch 61 = .ok (.ishl, 1) := by decide +kernel
theorem dX6_vouch_62 : decode cX6_vouch 62 = .ok (.ior, 1) := by decide +kernel
theorem dX6_vouch_63 : decode cX6_vouch 63 = .ok (.putfield 211, 3) := by decide +kernel
theorem dX6_vouch_66 : decode cX6_vouch 66 = .ok (.aload_n 0, 1) := by decide +kernel
theorem dX6_vouch_67 : decode cX6_vouch 67 = .ok (.getfield 31, 3) := by decide +kernel
theorem dX6_vouch_70 : decode cX6_vouch 70 = .ok (.dup, 1) := by decide +kernel
theorem dX6_vouch_71 : decode cX6_vouch 71 = .ok (.getfield 207, 3) := by decide +kernel
theorem dX6_vouch_74 : decode cX6_vouch 74 = .ok (.iconst 1, 1) := by decide +kernel
theorem dX6_vouch_75 : decode cX6_vouch 75 = .ok (.isub, 1) := by decide +kernel
theorem dX6_vouch_76 : decode cX6_vouch 76 = .ok (.putfield 207, 3) := by decide +kernel
theorem dX6_vouch_79 : decode cX6_vouch 79 = .ok (.aload_n 0, 1) := by decide +kernel
theorem dX6_vouch_80 : decode cX6_vouch 80 = .ok (.getfield 31, 3) := by decide +kernel
theorem dX6_vouch_83 : decode cX6_vouch 83 = .ok (.getfield 207, 3) := by decide +kernel
theorem dX6_vouch_86 : decode cX6_vouch 86 = .ok (.ireturn, 1) := by decide +kernel
theorem dX6_vouchers_0 : decode cX6_vouchers 0 = .ok (.iload_n 1, 1) := by decide +kernel
theorem dX6_vouchers_1 : decode cX6_vouchers 1 = .ok (.ifCond .lt 9, 3) := by decide +kernel
theorem dX6_vouchers_4 : decode cX6_vouchers 4 = .ok (.iload_n 1, 1) := by decide +kernel
theorem dX6_vouchers_5 : decode cX6_vouchers 5 = .ok (.bipush 20, 2) := by decide +kernel
theorem dX6_vouchers_7 : decode cX6_vouchers 7 = .ok (.if_icmp .le 6, 3) := by decide +kernel
theorem dX6_vouchers_10 : decode cX6_vouchers 10 = .ok (.ldc 74, 2) := by decide +kernel
theorem dX6_vouchers_12 : decode cX6_vouchers 12 = .ok (.ireturn, 1) := by decide +kernel
theorem dX6_vouchers_13 : decode cX6_vouchers 13 = .ok (.aload_n 0, 1) := by decide +kernel
theorem dX6_vouchers_14 : decode cX6_vouchers 14 = .ok (.getfield 12, 3) := by decide +kernel
theorem dX6_vouchers_17 : decode cX6_vouchers 17 = .ok (.aload_n 0, 1) := by decide +kernel
theorem dX6_vouchers_18 : decode cX6_vouchers 18 = .ok (.getfield 31, 3) := by decide +kernel
theorem dX6_vouchers_21 : decode cX6_vouchers 21 = .ok (.invokevirtual 50, 3) := by decide +kernel
theorem dX6_vouchers_24 : decode cX6_vouchers 24 = .ok (.aload_n 0, 1) := by decide +kernel
theorem dX6_vouchers_25 : decode cX6_vouchers 25 = .ok (.getfield 31, 3) := by decide +kernel
theorem dX6_vouchers_28 : decode cX6_vouchers 28 = .ok (.getfield 207, 3) := by decide +kernel
theorem dX6_vouchers_31 : decode cX6_vouchers 31 = .ok (.istore_n 2, 1) := by decide +kernel
theorem dX6_vouchers_32 : decode cX6_vouchers 32 = .ok (.aload_n 0, 1) := by decide +kernel
theorem dX6_vouchers_33 : decode cX6_vouchers 33 = .ok (.getfield 31, 3) := by decide +kernel
theorem dX6_vouchers_36 : decode cX6_vouchers 36 = .ok (.iload_n 1, 1) := by decide +kernel
theorem dX6_vouchers_37 : decode cX6_vouchers 37 = .ok (.putfield 207, 3) := by decide +kernel
theorem dX6_vouchers_40 : decode cX6_vouchers 40 = .ok (.iload_n 2, 1) := by decide +kernel
theorem dX6_vouchers_41 : decode cX6_vouchers 41 = .ok (.ireturn, 1) := by decide +kernel
theorem dX6_pass_0 : decode cX6_pass 0 = .ok (.iload_n 1, 1) := by decide +kernel
theorem dX6_pass_1 : decode cX6_pass 1 = .ok (.iconst 1, 1) := by decide +kernel
theorem dX6_pass_2 : decode cX6_pass 2 = .ok (.if_icmp .lt 9, 3) := by decide +kernel
theorem dX6_pass_5 : decode cX6_pass 5 = .ok (.iload_n 1, 1) := by decide +kernel
theorem dX6_pass_6 : decode cX6_pass 6 = .ok (.bipush 60, 2) := by decide +kernel
theorem dX6_pass_8 : decode cX6_pass 8 = .ok (.if_icmp .le 6, 3) := by decide +kernel
theorem dX6_pass_11 : decode cX6_pass 11 = .ok (.ldc 74, 2) := by decide +kernel
theorem dX6_pass_13 : decode cX6_pass 13 = .ok (.ireturn, 1) := by decide +kernel
theorem dX6_pass_14 : decode cX6_pass 14 = .ok (.aload_n 0, 1) := by decide +kernel
theorem dX6_pass_15 : decode cX6_pass 15 = .ok (.getfield 31, 3) := by decide +kernel
theorem dX6_pass_18 : decode cX6_pass 18 = .ok (.getfield 214, 3) := by decide +kernel
theorem dX6_pass_21 : decode cX6_pass 21 = .ok (.iload_n 1, 1) := by decide +kernel
theorem dX6_pass_22 : decode cX6_pass 22 = .ok (.iadd, 1) := by decide +kernel
theorem dX6_pass_23 : decode cX6_pass 23 = .ok (.sipush 10000, 3) := by decide +kernel
theorem dX6_pass_26 : decode cX6_pass 26 = .ok (.if_icmp .le 6, 3) := by decide +kernel
theorem dX6_pass_29 : decode cX6_pass 29 = .ok (.ldc 210, 2) := by decide +kernel
theorem dX6_pass_31 : decode cX6_pass 31 = .ok (.ireturn, 1) := by decide +kernel
theorem dX6_pass_32 : decode cX6_pass 32 = .ok (.aload_n 0, 1) := by decide +kernel
theorem dX6_pass_33 : decode cX6_pass 33 = .ok (.getfield 12, 3) := by decide +kernel
theorem dX6_pass_36 : decode cX6_pass 36 = .ok (.aload_n 0, 1) := by decide +kernel
theorem dX6_pass_37 : decode cX6_pass 37 = .ok (.getfield 31, 3) := by decide +kernel
theorem dX6_pass_40 : decode cX6_pass 40 = .ok (.invokevirtual 50, 3) := by decide +kernel
theorem dX6_pass_43 : decode cX6_pass 43 = .ok (.aload_n 0, 1) := by decide +kernel
theorem dX6_pass_44 : decode cX6_pass 44 = .ok (.getfield 31, 3) := by decide +kernel
theorem dX6_pass_47 : decode cX6_pass 47 = .ok (.dup, 1) := by decide +kernel
theorem dX6_pass_48 : decode cX6_pass 48 = .ok (.getfield 214, 3) := by decide +kernel
theorem dX6_pass_51 : decode cX6_pass 51 = .ok (.iload_n 1, 1) := by decide +kernel
theorem dX6_pass_52 : decode cX6_pass 52 = .ok (.iadd, 1) := by decide +kernel
theorem dX6_pass_53 : decode cX6_pass 53 = .ok (.putfield 214, 3) := by decide +kernel
theorem dX6_pass_56 : decode cX6_pass 56 = .ok (.aload_n 0, 1) := by decide +kernel
theorem dX6_pass_57 : decode cX6_pass 57 = .ok (.getfield 31, 3) := by decide +kernel
theorem dX6_pass_60 : decode cX6_pass 60 = .ok (.iconst 0, 1) := by decide +kernel
theorem dX6_pass_61 : decode cX6_pass 61 = .ok (.putfield 211, 3) := by decide +kernel
theorem dX6_pass_64 : decode cX6_pass 64 = .ok (.aload_n 0, 1) := by decide +kernel
theorem dX6_pass_65 : decode cX6_pass 65 = .ok (.getfield 31, 3) := by decide +kernel
theorem dX6_pass_68 : decode cX6_pass 68 = .ok (.invokevirtual 217, 3) := by decide +kernel
theorem dX6_pass_71 : decode cX6_pass 71 = .ok (.ireturn, 1) := by decide +kernel
theorem dX6_suspects_0 : decode cX6_suspects 0 = .ok (.aload_n 0, 1) := by decide +kernel
theorem dX6_suspects_1 : decode cX6_suspects 1 = .ok (.getfield 31, 3) := by decide +kernel
theorem dX6_suspects_4 : decode cX6_suspects 4 = .ok (.getfield 197, 3) := by decide +kernel
theorem dX6_suspects_7 : decode cX6_suspects 7 = .ok (.ireturn, 1) := by decide +kernel
theorem dX6_file_0 : decode cX6_file 0 = .ok (.aload_n 0, 1) := by decide +kernel
theorem dX6_file_1 : decode cX6_file 1 = .ok (.getfield 31, 3) := by decide +kernel
theorem dX6_file_4 : decode cX6_file 4 = .ok (.getfield 42, 3) := by decide +kernel
theorem dX6_file_7 : decode cX6_file 7 = .ok (.iload_n 1, 1) := by decide +kernel
theorem dX6_file_8 : decode cX6_file 8 = .ok (.invokevirtual 103, 3) := by decide +kernel
theorem dX6_file_11 : decode cX6_file 11 = .ok (.ifCond .eq 12, 3) := by decide +kernel
theorem dX6_file_14 : decode cX6_file 14 = .ok (.iload_n 2, 1) := by decide +kernel
theorem dX6_file_15 : decode cX6_file 15 = .ok (.ifCond .lt 8, 3) := by decide +kernel
theorem dX6_file_18 : decode cX6_file 18 = .ok (.iload_n 2, 1) := by decide +kernel
theorem dX6_file_19 : decode cX6_file 19 = .ok (.iconst 5, 1) := by decide +kernel
theorem dX6_file_20 : decode cX6_file 20 = .ok (.if_icmp .lt 6, 3) := by decide +kernel
theorem dX6_file_23 : decode cX6_file 23 = .ok (.ldc 74, 2) := by decide +kernel
theorem dX6_file_25 : decode cX6_file 25 = .ok (.ireturn, 1) := by decide +kernel
theorem dX6_file_26 : decode cX6_file 26 = .ok (.aload_n 0, 1) := by decide +kernel
theorem dX6_file_27 : decode cX6_file 27 = .ok (.getfield 31, 3) := by decide +kernel
theorem dX6_file_30 : decode cX6_file 30 = .ok (.getfield 116, 3) := by decide +kernel
theorem dX6_file_33 : decode cX6_file 33 = .ok (.iload_n 1, 1) := by decide +kernel
theorem dX6_file_34 : decode cX6_file 34 = .ok (.iaload, 1) := by decide +kernel
theorem dX6_file_35 : decode cX6_file 35 = .ok (.iconst (-1), 1) := by decide +kernel
theorem dX6_file_36 : decode cX6_file 36 = .ok (.if_icmp .ne 19, 3) := by decide +kernel
theorem dX6_file_39 : decode cX6_file 39 = .ok (.aload_n 0, 1) := by decide +kernel
theorem dX6_file_40 : decode cX6_file 40 = .ok (.getfield 31, 3) := by decide +kernel
theorem dX6_file_43 : decode cX6_file 43 = .ok (.getfield 42, 3) := by decide +kernel
theorem dX6_file_46 : decode cX6_file 46 = .ok (.getfield 106, 3) := by decide +kernel
theorem dX6_file_49 : decode cX6_file 49 = .ok (.iload_n 1, 1) := by decide +kernel
theorem dX6_file_50 : decode cX6_file 50 = .ok (.iaload, 1) := by decide +kernel
theorem dX6_file_51 : decode cX6_file 51 = .ok (.iload_n 2, 1) := by decide +kernel
theorem dX6_file_52 : decode cX6_file 52 = .ok (.if_icmp .eq 6, 3) := by decide +kernel
theorem dX6_file_55 : decode cX6_file 55 = .ok (.ldc 206, 2) := by decide +kernel
theorem dX6_file_57 : decode cX6_file 57 = .ok (.ireturn, 1) := by decide +kernel
theorem dX6_file_58 : decode cX6_file 58 = .ok (.aload_n 0, 1) := by decide +kernel
theorem dX6_file_59 : decode cX6_file 59 = .ok (.getfield 31, 3) := by decide +kernel
theorem dX6_file_62 : decode cX6_file 62 = .ok (.iload_n 2, 1) := by decide +kernel
theorem dX6_file_63 : decode cX6_file 63 = .ok (.invokevirtual 223, 3) := by decide +kernel
theorem dX6_file_66 : decode cX6_file 66 = .ok (.iconst 3, 1) := by decide +kernel
theorem dX6_file_67 : decode cX6_file 67 = .ok (.if_icmp .lt 6, 3) := by decide +kernel
theorem dX6_file_70 : decode cX6_file 70 = .ok (.ldc 210, 2) := by decide +kernel
theorem dX6_file_72 : decode cX6_file 72 = .ok (.ireturn, 1) := by decide +kernel
theorem dX6_file_73 : decode cX6_file 73 = .ok (.aload_n 0, 1) := by decide +kernel
theorem dX6_file_74 : decode cX6_file 74 = .ok (.getfield 12, 3) := by decide +kernel
theorem dX6_file_77 : decode cX6_file 77 = .ok (.aload_n 0, 1) := by decide +kernel
theorem dX6_file_78 : decode cX6_file 78 = .ok (.getfield 31, 3) := by decide +kernel
theorem dX6_file_81 : decode cX6_file 81 = .ok (.invokevirtual 50, 3) := by decide +kernel
theorem dX6_file_84 : decode cX6_file 84 = .ok (.aload_n 0, 1) := by decide +kernel
theorem dX6_file_85 : decode cX6_file 85 = .ok (.getfield 31, 3) := by decide +kernel
theorem dX6_file_88 : decode cX6_file 88 = .ok (.getfield 116, 3) := by decide +kernel
theorem dX6_file_91 : decode cX6_file 91 = .ok (.iload_n 1, 1) := by decide +kernel
theorem dX6_file_92 : decode cX6_file 92 = .ok (.iload_n 2, 1) := by decide +kernel
theorem dX6_file_93 : decode cX6_file 93 = .ok (.iastore, 1) := by decide +kernel
theorem dX6_file_94 : decode cX6_file 94 = .ok (.aload_n 0, 1) := by decide +kernel
theorem dX6_file_95 : decode cX6_file 95 = .ok (.getfield 31, 3) := by decide +kernel
theorem dX6_file_98 : decode cX6_file 98 = .ok (.iload_n 2, 1) := by decide +kernel
theorem dX6_file_99 : decode cX6_file 99 = .ok (.invokevirtual 223, 3) := by decide +kernel
theorem dX6_file_102 : decode cX6_file 102 = .ok (.ireturn, 1) := by decide +kernel
theorem dX6_count_0 : decode cX6_count 0 = .ok (.iload_n 1, 1) := by decide +kernel
theorem dX6_count_1 : decode cX6_count 1 = .ok (.tableswitch 188 0 15 #[79, 90, 101, 112, 120, 128, 136, 147, 152, 160, 168, 176, 176, 176, 176, 176], 79) := by decide +kernel
theorem dX6_count_80 : decode cX6_count 80 = .ok (.aload_n 0, 1) := by decide +kernel
theorem dX6_count_81 : decode cX6_count 81 = .ok (.getfield 31, 3) := by decide +kernel
theorem dX6_count_84 : decode cX6_count 84 = .ok (.getfield 42, 3) := by decide +kernel
theorem dX6_count_87 : decode cX6_count 87 = .ok (.getfield 226, 3) := by decide +kernel
theorem dX6_count_90 : decode cX6_count 90 = .ok (.ireturn, 1) := by decide +kernel
theorem dX6_count_91 : decode cX6_count 91 = .ok (.aload_n 0, 1) := by decide +kernel
theorem dX6_count_92 : decode cX6_count 92 = .ok (.getfield 31, 3) := by decide +kernel
theorem dX6_count_95 : decode cX6_count 95 = .ok (.getfield 42, 3) := by decide +kernel
theorem dX6_count_98 : decode cX6_count 98 = .ok (.getfield 229, 3) := by decide +kernel
theorem dX6_count_101 : decode cX6_count 101 = .ok (.ireturn, 1) := by decide +kernel
theorem dX6_count_102 : decode cX6_count 102 = .ok (.aload_n 0, 1) := by decide +kernel
theorem dX6_count_103 : decode cX6_count 103 = .ok (.getfield 31, 3) := by decide +kernel
theorem dX6_count_106 : decode cX6_count 106 = .ok (.getfield 42, 3) := by decide +kernel
theorem dX6_count_109 : decode cX6_count 109 = .ok (.getfield 163, 3) := by decide +kernel
theorem dX6_count_112 : decode cX6_count 112 = .ok (.ireturn, 1) := by decide +kernel
theorem dX6_count_113 : decode cX6_count 113 = .ok (.aload_n 0, 1) := by decide +kernel
theorem dX6_count_114 : decode cX6_count 114 = .ok (.getfield 31, 3) := by decide +kernel
theorem dX6_count_117 : decode cX6_count 117 = .ok (.getfield 214, 3) := by decide +kernel
theorem dX6_count_120 : decode cX6_count 120 = .ok (.ireturn, 1) := by decide +kernel
theorem dX6_count_121 : decode cX6_count 121 = .ok (.aload_n 0, 1) := by decide +kernel
theorem dX6_count_122 : decode cX6_count 122 = .ok (.getfield 31, 3) := by decide +kernel
theorem dX6_count_125 : decode cX6_count 125 = .ok (.invokevirtual 217, 3) := by decide +kernel
theorem dX6_count_128 : decode cX6_count 128 = .ok (.ireturn, 1) := by decide +kernel
theorem dX6_count_129 : decode cX6_count 129 = .ok (.aload_n 0, 1) := by decide +kernel
theorem dX6_count_130 : decode cX6_count 130 = .ok (.getfield 31, 3) := by decide +kernel
theorem dX6_count_133 : decode cX6_count 133 = .ok (.getfield 207, 3) := by decide +kernel
theorem dX6_count_136 : decode cX6_count 136 = .ok (.ireturn, 1) := by decide +kernel
theorem dX6_count_137 : decode cX6_count 137 = .ok (.aload_n 0, 1) := by decide +kernel
theorem dX6_count_138 : decode cX6_count 138 = .ok (.getfield 31, 3) := by decide +kernel
theorem dX6_count_141 : decode cX6_count 141 = .ok (.invokevirtual 95, 3) := by decide +kernel
theorem dX6_count_144 : decode cX6_count 144 = .ok (.invokestatic 186, 3) := by decide +kernel
theorem dX6_count_147 : decode cX6_count 147 = .ok (.ireturn, 1) := by decide +kernel
theorem dX6_count_148 : decode cX6_count 148 = .ok (.aload_n 0, 1) := by decide +kernel
theorem dX6_count_149 : decode cX6_count 149 = .ok (.invokevirtual 232, 3) := by decide +kernel
theorem dX6_count_152 : decode cX6_count 152 = .ok (.ireturn, 1) := by decide +kernel
theorem dX6_count_153 : decode cX6_count 153 = .ok (.aload_n 0, 1) := by decide +kernel
theorem dX6_count_154 : decode cX6_count 154 = .ok (.getfield 31, 3) := by decide +kernel
theorem dX6_count_157 : decode cX6_count 157 = .ok (.getfield 200, 3) := by decide +kernel
theorem dX6_count_160 : decode cX6_count 160 = .ok (.ireturn, 1) := by decide +kernel
theorem dX6_count_161 : decode cX6_count 161 = .ok (.aload_n 0, 1) := by decide +kernel
theorem dX6_count_162 : decode cX6_count 162 = .ok (.getfield 12, 3) := by decide +kernel
theorem dX6_count_165 : decode cX6_count 165 = .ok (.getfield 235, 3) := by decide +kernel
theorem dX6_count_168 : decode cX6_count 168 = .ok (.ireturn, 1) := by decide +kernel
theorem dX6_count_169 : decode cX6_count 169 = .ok (.aload_n 0, 1) := by decide +kernel
theorem dX6_count_170 : decode cX6_count 170 = .ok (.getfield 19, 3) := by decide +kernel
theorem dX6_count_173 : decode cX6_count 173 = .ok (.getfield 238, 3) := by decide +kernel
theorem dX6_count_176 : decode cX6_count 176 = .ok (.ireturn, 1) := by decide +kernel
theorem dX6_count_177 : decode cX6_count 177 = .ok (.aload_n 0, 1) := by decide +kernel
theorem dX6_count_178 : decode cX6_count 178 = .ok (.getfield 31, 3) := by decide +kernel
theorem dX6_count_181 : decode cX6_count 181 = .ok (.iload_n 1, 1) := by decide +kernel
theorem dX6_count_182 : decode cX6_count 182 = .ok (.bipush 11, 2) := by decide +kernel
theorem dX6_count_184 : decode cX6_count 184 = .ok (.isub, 1) := by decide +kernel
theorem dX6_count_185 : decode cX6_count 185 = .ok (.invokevirtual 223, 3) := by decide +kernel
theorem dX6_count_188 : decode cX6_count 188 = .ok (.ireturn, 1) := by decide +kernel
theorem dX6_count_189 : decode cX6_count 189 = .ok (.ldc 74, 2) := by decide +kernel
theorem dX6_count_191 : decode cX6_count 191 = .ok (.ireturn, 1) := by decide +kernel
theorem dX6_undo_0 : decode cX6_undo 0 = .ok (.aload_n 0, 1) := by decide +kernel
theorem dX6_undo_1 : decode cX6_undo 1 = .ok (.getfield 12, 3) := by decide +kernel
theorem dX6_undo_4 : decode cX6_undo 4 = .ok (.getfield 235, 3) := by decide +kernel
theorem dX6_undo_7 : decode cX6_undo 7 = .ok (.ifCond .ne 6, 3) := by decide +kernel
theorem dX6_undo_10 : decode cX6_undo 10 = .ok (.ldc 206, 2) := by decide +kernel
theorem dX6_undo_12 : decode cX6_undo 12 = .ok (.ireturn, 1) := by decide +kernel
theorem dX6_undo_13 : decode cX6_undo 13 = .ok (.aload_n 0, 1) := by decide +kernel
theorem dX6_undo_14 : decode cX6_undo 14 = .ok (.getfield 12, 3) := by decide +kernel
theorem dX6_undo_17 : decode cX6_undo 17 = .ok (.aload_n 0, 1) := by decide +kernel
theorem dX6_undo_18 : decode cX6_undo 18 = .ok (.getfield 31, 3) := by decide +kernel
theorem dX6_undo_21 : decode cX6_undo 21 = .ok (.invokevirtual 241, 3) := by decide +kernel
theorem dX6_undo_24 : decode cX6_undo 24 = .ok (.aload_n 0, 1) := by decide +kernel
theorem dX6_undo_25 : decode cX6_undo 25 = .ok (.getfield 12, 3) := by decide +kernel
theorem dX6_undo_28 : decode cX6_undo 28 = .ok (.getfield 235, 3) := by decide +kernel
theorem dX6_undo_31 : decode cX6_undo 31 = .ok (.ireturn, 1) := by decide +kernel
theorem dX6_reachedNow_0 : decode cX6_reachedNow 0 = .ok (.aload_n 0, 1) := by decide +kernel
theorem dX6_reachedNow_1 : decode cX6_reachedNow 1 = .ok (.getfield 38, 3) := by decide +kernel
theorem dX6_reachedNow_4 : decode cX6_reachedNow 4 = .ok (.bipush 10, 2) := by decide +kernel
theorem dX6_reachedNow_6 : decode cX6_reachedNow 6 = .ok (.invokevirtual 128, 3) := by decide +kernel
theorem dX6_reachedNow_9 : decode cX6_reachedNow 9 = .ok (.astore_n 1, 1) := by decide +kernel
theorem dX6_reachedNow_10 : decode cX6_reachedNow 10 = .ok (.aload_n 1, 1) := by decide +kernel
theorem dX6_reachedNow_11 : decode cX6_reachedNow 11 = .ok (.aload_n 0, 1) := by decide +kernel
theorem dX6_reachedNow_12 : decode cX6_reachedNow 12 = .ok (.getfield 31, 3) := by decide +kernel
theorem dX6_reachedNow_15 : decode cX6_reachedNow 15 = .ok (.invokevirtual 95, 3) := by decide +kernel
theorem dX6_reachedNow_18 : decode cX6_reachedNow 18 = .ok (.invokevirtual 135, 3) := by decide +kernel
theorem dX6_reachedNow_21 : decode cX6_reachedNow 21 = .ok (.aload_n 1, 1) := by decide +kernel
theorem dX6_reachedNow_22 : decode cX6_reachedNow 22 = .ok (.getfield 141, 3) := by decide +kernel
theorem dX6_reachedNow_25 : decode cX6_reachedNow 25 = .ok (.invokestatic 186, 3) := by decide +kernel
theorem dX6_reachedNow_28 : decode cX6_reachedNow 28 = .ok (.ireturn, 1) := by decide +kernel
theorem dX6_isFaultOrNone_0 : decode cX6_isFaultOrNone 0 = .ok (.iload_n 1, 1) := by decide +kernel
theorem dX6_isFaultOrNone_1 : decode cX6_isFaultOrNone 1 = .ok (.iconst (-1), 1) := by decide +kernel
theorem dX6_isFaultOrNone_2 : decode cX6_isFaultOrNone 2 = .ok (.if_icmp .eq 17, 3) := by decide +kernel
theorem dX6_isFaultOrNone_5 : decode cX6_isFaultOrNone 5 = .ok (.aload_n 0, 1) := by decide +kernel
theorem dX6_isFaultOrNone_6 : decode cX6_isFaultOrNone 6 = .ok (.getfield 31, 3) := by decide +kernel
theorem dX6_isFaultOrNone_9 : decode cX6_isFaultOrNone 9 = .ok (.getfield 42, 3) := by decide +kernel
theorem dX6_isFaultOrNone_12 : decode cX6_isFaultOrNone 12 = .ok (.iload_n 1, 1) := by decide +kernel
theorem dX6_isFaultOrNone_13 : decode cX6_isFaultOrNone 13 = .ok (.invokevirtual 103, 3) := by decide +kernel
theorem dX6_isFaultOrNone_16 : decode cX6_isFaultOrNone 16 = .ok (.ifCond .eq 7, 3) := by decide +kernel
theorem dX6_isFaultOrNone_19 : decode cX6_isFaultOrNone 19 = .ok (.iconst 1, 1) := by decide +kernel
theorem dX6_isFaultOrNone_20 : decode cX6_isFaultOrNone 20 = .ok (.goto 4, 3) := by decide +kernel
theorem dX6_isFaultOrNone_23 : decode cX6_isFaultOrNone 23 = .ok (.iconst 0, 1) := by decide +kernel
theorem dX6_isFaultOrNone_24 : decode cX6_isFaultOrNone 24 = .ok (.ireturn, 1) := by decide +kernel
theorem dX6_suspectFor_0 : decode cX6_suspectFor 0 = .ok (.iload_n 0, 1) := by decide +kernel
theorem dX6_suspectFor_1 : decode cX6_suspectFor 1 = .ok (.iconst (-1), 1) := by decide +kernel
theorem dX6_suspectFor_2 : decode cX6_suspectFor 2 = .ok (.if_icmp .ne 8, 3) := by decide +kernel
theorem dX6_suspectFor_5 : decode cX6_suspectFor 5 = .ok (.bipush 10, 2) := by decide +kernel
theorem dX6_suspectFor_7 : decode cX6_suspectFor 7 = .ok (.goto 4, 3) := by decide +kernel
theorem dX6_suspectFor_10 : decode cX6_suspectFor 10 = .ok (.iload_n 0, 1) := by decide +kernel
theorem dX6_suspectFor_11 : decode cX6_suspectFor 11 = .ok (.ireturn, 1) := by decide +kernel
theorem dX6_foundOrNot_0 : decode cX6_foundOrNot 0 = .ok (.iload_n 0, 1) := by decide +kernel
theorem dX6_foundOrNot_1 : decode cX6_foundOrNot 1 = .ok (.iconst (-1), 1) := by decide +kernel
theorem dX6_foundOrNot_2 : decode cX6_foundOrNot 2 = .ok (.if_icmp .ne 8, 3) := by decide +kernel
theorem dX6_foundOrNot_5 : decode cX6_foundOrNot 5 = .ok (.ldc 115, 2) := by decide +kernel
theorem dX6_foundOrNot_7 : decode cX6_foundOrNot 7 = .ok (.goto 4, 3) := by decide +kernel
theorem dX6_foundOrNot_10 : decode cX6_foundOrNot 10 = .ok (.iload_n 0, 1) := by decide +kernel
theorem dX6_foundOrNot_11 : decode cX6_foundOrNot 11 = .ok (.ireturn, 1) := by decide +kernel
theorem dX6_isPin_0 : decode cX6_isPin 0 = .ok (.iload_n 0, 1) := by decide +kernel
theorem dX6_isPin_1 : decode cX6_isPin 1 = .ok (.ifCond .lt 13, 3) := by decide +kernel
theorem dX6_isPin_4 : decode cX6_isPin 4 = .ok (.iload_n 0, 1) := by decide +kernel
theorem dX6_isPin_5 : decode cX6_isPin 5 = .ok (.bipush 16, 2) := by decide +kernel
theorem dX6_isPin_7 : decode cX6_isPin 7 = .ok (.if_icmp .ge 7, 3) := by decide +kernel
theorem dX6_isPin_10 : decode cX6_isPin 10 = .ok (.iconst 1, 1) := by decide +kernel
end
section
theorem dX6_isPin_11 : decode cX6_isPin 11 = .ok (.goto 4, 3) := by decide +kernel
theorem dX6_isPin_14 : decode cX6_isPin 14 = .ok (.iconst 0, 1) := by decide +kernel
theorem dX6_isPin_15 : decode cX6_isPin 15 = .ok (.ireturn, 1) := by decide +kernel
theorem dX6_hasBit_0 : decode cX6_hasBit 0 = .ok (.iload_n 0, 1) := by decide +kernel
theorem dX6_hasBit_1 : decode cX6_hasBit 1 = .ok (.iload_n 1, 1) := by decide +kernel
theorem dX6_hasBit_2 : decode cX6_hasBit 2 = .ok (.ishr, 1) := by decide +kernel
theorem dX6_hasBit_3 : decode cX6_hasBit 3 = .ok (.iconst 1, 1) := by decide +kernel
theorem dX6_hasBit_4 : decode cX6_hasBit 4 = .ok (.iand, 1) := by decide +kernel
theorem dX6_hasBit_5 : decode cX6_hasBit 5 = .ok (.iconst 1, 1) := by decide +kernel
theorem dX6_hasBit_6 : decode cX6_hasBit 6 = .ok (.if_icmp .ne 7, 3) := by decide +kernel
theorem dX6_hasBit_9 : decode cX6_hasBit 9 = .ok (.iconst 1, 1) := by decide +kernel
theorem dX6_hasBit_10 : decode cX6_hasBit 10 = .ok (.goto 4, 3) := by decide +kernel
theorem dX6_hasBit_13 : decode cX6_hasBit 13 = .ok (.iconst 0, 1) := by decide +kernel
theorem dX6_hasBit_14 : decode cX6_hasBit 14 = .ok (.ireturn, 1) := by decide +kernel
theorem dJ6_bitCount_0f7a4_0 : decode cJ6_bitCount_0f7a4 0 = .ok (.iload_n 0, 1) := by decide +kernel
theorem dJ6_bitCount_0f7a4_1 : decode cJ6_bitCount_0f7a4 1 = .ok (.iload_n 0, 1) := by decide +kernel
theorem dJ6_bitCount_0f7a4_2 : decode cJ6_bitCount_0f7a4 2 = .ok (.iconst 1, 1) := by decide +kernel
theorem dJ6_bitCount_0f7a4_3 : decode cJ6_bitCount_0f7a4 3 = .ok (.iushr, 1) := by decide +kernel
theorem dJ6_bitCount_0f7a4_4 : decode cJ6_bitCount_0f7a4 4 = .ok (.ldc_w 265, 3) := by decide +kernel
theorem dJ6_bitCount_0f7a4_7 : decode cJ6_bitCount_0f7a4 7 = .ok (.iand, 1) := by decide +kernel
theorem dJ6_bitCount_0f7a4_8 : decode cJ6_bitCount_0f7a4 8 = .ok (.isub, 1) := by decide +kernel
theorem dJ6_bitCount_0f7a4_9 : decode cJ6_bitCount_0f7a4 9 = .ok (.istore_n 0, 1) := by decide +kernel
theorem dJ6_bitCount_0f7a4_10 : decode cJ6_bitCount_0f7a4 10 = .ok (.iload_n 0, 1) := by decide +kernel
theorem dJ6_bitCount_0f7a4_11 : decode cJ6_bitCount_0f7a4 11 = .ok (.ldc_w 266, 3) := by decide +kernel
theorem dJ6_bitCount_0f7a4_14 : decode cJ6_bitCount_0f7a4 14 = .ok (.iand, 1) := by decide +kernel
theorem dJ6_bitCount_0f7a4_15 : decode cJ6_bitCount_0f7a4 15 = .ok (.iload_n 0, 1) := by decide +kernel
theorem dJ6_bitCount_0f7a4_16 : decode cJ6_bitCount_0f7a4 16 = .ok (.iconst 2, 1) := by decide +kernel
theorem dJ6_bitCount_0f7a4_17 : decode cJ6_bitCount_0f7a4 17 = .ok (.iushr, 1) := by decide +kernel
theorem dJ6_bitCount_0f7a4_18 : decode cJ6_bitCount_0f7a4 18 = .ok (.ldc_w 266, 3) := by decide +kernel
theorem dJ6_bitCount_0f7a4_21 : decode cJ6_bitCount_0f7a4 21 = .ok (.iand, 1) := by decide +kernel
theorem dJ6_bitCount_0f7a4_22 : decode cJ6_bitCount_0f7a4 22 = .ok (.iadd, 1) := by decide +kernel
theorem dJ6_bitCount_0f7a4_23 : decode cJ6_bitCount_0f7a4 23 = .ok (.istore_n 0, 1) := by decide +kernel
theorem dJ6_bitCount_0f7a4_24 : decode cJ6_bitCount_0f7a4 24 = .ok (.iload_n 0, 1) := by decide +kernel
theorem dJ6_bitCount_0f7a4_25 : decode cJ6_bitCount_0f7a4 25 = .ok (.iload_n 0, 1) := by decide +kernel
theorem dJ6_bitCount_0f7a4_26 : decode cJ6_bitCount_0f7a4 26 = .ok (.iconst 4, 1) := by decide +kernel
theorem dJ6_bitCount_0f7a4_27 : decode cJ6_bitCount_0f7a4 27 = .ok (.iushr, 1) := by decide +kernel
theorem dJ6_bitCount_0f7a4_28 : decode cJ6_bitCount_0f7a4 28 = .ok (.iadd, 1) := by decide +kernel
theorem dJ6_bitCount_0f7a4_29 : decode cJ6_bitCount_0f7a4 29 = .ok (.ldc_w 267, 3) := by decide +kernel
theorem dJ6_bitCount_0f7a4_32 : decode cJ6_bitCount_0f7a4 32 = .ok (.iand, 1) := by decide +kernel
theorem dJ6_bitCount_0f7a4_33 : decode cJ6_bitCount_0f7a4 33 = .ok (.istore_n 0, 1) := by decide +kernel
theorem dJ6_bitCount_0f7a4_34 : decode cJ6_bitCount_0f7a4 34 = .ok (.iload_n 0, 1) := by decide +kernel
theorem dJ6_bitCount_0f7a4_35 : decode cJ6_bitCount_0f7a4 35 = .ok (.iload_n 0, 1) := by decide +kernel
theorem dJ6_bitCount_0f7a4_36 : decode cJ6_bitCount_0f7a4 36 = .ok (.bipush 8, 2) := by decide +kernel
theorem dJ6_bitCount_0f7a4_38 : decode cJ6_bitCount_0f7a4 38 = .ok (.iushr, 1) := by decide +kernel
theorem dJ6_bitCount_0f7a4_39 : decode cJ6_bitCount_0f7a4 39 = .ok (.iadd, 1) := by decide +kernel
theorem dJ6_bitCount_0f7a4_40 : decode cJ6_bitCount_0f7a4 40 = .ok (.istore_n 0, 1) := by decide +kernel
theorem dJ6_bitCount_0f7a4_41 : decode cJ6_bitCount_0f7a4 41 = .ok (.iload_n 0, 1) := by decide +kernel
theorem dJ6_bitCount_0f7a4_42 : decode cJ6_bitCount_0f7a4 42 = .ok (.iload_n 0, 1) := by decide +kernel
theorem dJ6_bitCount_0f7a4_43 : decode cJ6_bitCount_0f7a4 43 = .ok (.bipush 16, 2) := by decide +kernel
theorem dJ6_bitCount_0f7a4_45 : decode cJ6_bitCount_0f7a4 45 = .ok (.iushr, 1) := by decide +kernel
theorem dJ6_bitCount_0f7a4_46 : decode cJ6_bitCount_0f7a4 46 = .ok (.iadd, 1) := by decide +kernel
theorem dJ6_bitCount_0f7a4_47 : decode cJ6_bitCount_0f7a4 47 = .ok (.istore_n 0, 1) := by decide +kernel
theorem dJ6_bitCount_0f7a4_48 : decode cJ6_bitCount_0f7a4 48 = .ok (.iload_n 0, 1) := by decide +kernel
theorem dJ6_bitCount_0f7a4_49 : decode cJ6_bitCount_0f7a4 49 = .ok (.bipush 63, 2) := by decide +kernel
theorem dJ6_bitCount_0f7a4_51 : decode cJ6_bitCount_0f7a4 51 = .ok (.iand, 1) := by decide +kernel
theorem dJ6_bitCount_0f7a4_52 : decode cJ6_bitCount_0f7a4 52 = .ok (.ireturn, 1) := by decide +kernel
theorem dJ7_fill_53178_0 : decode cJ7_fill_53178 0 = .ok (.iconst 0, 1) := by decide +kernel
theorem dJ7_fill_53178_1 : decode cJ7_fill_53178 1 = .ok (.istore_n 2, 1) := by decide +kernel
theorem dJ7_fill_53178_2 : decode cJ7_fill_53178 2 = .ok (.aload_n 0, 1) := by decide +kernel
theorem dJ7_fill_53178_3 : decode cJ7_fill_53178 3 = .ok (.arraylength, 1) := by decide +kernel
theorem dJ7_fill_53178_4 : decode cJ7_fill_53178 4 = .ok (.istore_n 3, 1) := by decide +kernel
theorem dJ7_fill_53178_5 : decode cJ7_fill_53178 5 = .ok (.iload_n 2, 1) := by decide +kernel
theorem dJ7_fill_53178_6 : decode cJ7_fill_53178 6 = .ok (.iload_n 3, 1) := by decide +kernel
theorem dJ7_fill_53178_7 : decode cJ7_fill_53178 7 = .ok (.if_icmp .ge 13, 3) := by decide +kernel
theorem dJ7_fill_53178_10 : decode cJ7_fill_53178 10 = .ok (.aload_n 0, 1) := by decide +kernel
theorem dJ7_fill_53178_11 : decode cJ7_fill_53178 11 = .ok (.iload_n 2, 1) := by decide +kernel
theorem dJ7_fill_53178_12 : decode cJ7_fill_53178 12 = .ok (.iload_n 1, 1) := by decide +kernel
theorem dJ7_fill_53178_13 : decode cJ7_fill_53178 13 = .ok (.iastore, 1) := by decide +kernel
theorem dJ7_fill_53178_14 : decode cJ7_fill_53178 14 = .ok (.iinc 2 1, 3) := by decide +kernel
theorem dJ7_fill_53178_17 : decode cJ7_fill_53178 17 = .ok (.goto (-12), 3) := by decide +kernel
theorem dJ7_fill_53178_20 : decode cJ7_fill_53178 20 = .ok (.return_, 1) := by decide +kernel
theorem dL_cell_0 : decode cL_cell 0 = .ok (.iload_n 1, 1) := by decide +kernel
theorem dL_cell_1 : decode cL_cell 1 = .ok (.aload_n 0, 1) := by decide +kernel
theorem dL_cell_2 : decode cL_cell 2 = .ok (.arraylength, 1) := by decide +kernel
theorem dL_cell_3 : decode cL_cell 3 = .ok (.if_icmp .ge 9, 3) := by decide +kernel
theorem dL_cell_6 : decode cL_cell 6 = .ok (.aload_n 0, 1) := by decide +kernel
theorem dL_cell_7 : decode cL_cell 7 = .ok (.iload_n 1, 1) := by decide +kernel
theorem dL_cell_8 : decode cL_cell 8 = .ok (.iaload, 1) := by decide +kernel
theorem dL_cell_9 : decode cL_cell 9 = .ok (.goto 9, 3) := by decide +kernel
theorem dL_cell_12 : decode cL_cell 12 = .ok (.ldc 7, 2) := by decide +kernel
theorem dL_cell_14 : decode cL_cell 14 = .ok (.iload_n 1, 1) := by decide +kernel
theorem dL_cell_15 : decode cL_cell 15 = .ok (.iconst 3, 1) := by decide +kernel
theorem dL_cell_16 : decode cL_cell 16 = .ok (.iadd, 1) := by decide +kernel
theorem dL_cell_17 : decode cL_cell 17 = .ok (.imul, 1) := by decide +kernel
theorem dL_cell_18 : decode cL_cell 18 = .ok (.ireturn, 1) := by decide +kernel
theorem dL_up_0 : decode cL_up 0 = .ok (.iload_n 0, 1) := by decide +kernel
theorem dL_up_1 : decode cL_up 1 = .ok (.ldc 8, 2) := by decide +kernel
theorem dL_up_3 : decode cL_up 3 = .ok (.iand, 1) := by decide +kernel
theorem dL_up_4 : decode cL_up 4 = .ok (.iload_n 1, 1) := by decide +kernel
theorem dL_up_5 : decode cL_up 5 = .ok (.irem, 1) := by decide +kernel
theorem dL_up_6 : decode cL_up 6 = .ok (.ireturn, 1) := by decide +kernel
theorem dL_ones_0 : decode cL_ones 0 = .ok (.iconst 0, 1) := by decide +kernel
theorem dL_ones_1 : decode cL_ones 1 = .ok (.istore_n 1, 1) := by decide +kernel
theorem dL_ones_2 : decode cL_ones 2 = .ok (.iconst 0, 1) := by decide +kernel
theorem dL_ones_3 : decode cL_ones 3 = .ok (.istore_n 2, 1) := by decide +kernel
theorem dL_ones_4 : decode cL_ones 4 = .ok (.iload_n 2, 1) := by decide +kernel
theorem dL_ones_5 : decode cL_ones 5 = .ok (.bipush 11, 2) := by decide +kernel
theorem dL_ones_7 : decode cL_ones 7 = .ok (.if_icmp .ge 17, 3) := by decide +kernel
theorem dL_ones_10 : decode cL_ones 10 = .ok (.iload_n 1, 1) := by decide +kernel
theorem dL_ones_11 : decode cL_ones 11 = .ok (.iload_n 0, 1) := by decide +kernel
theorem dL_ones_12 : decode cL_ones 12 = .ok (.iload_n 2, 1) := by decide +kernel
theorem dL_ones_13 : decode cL_ones 13 = .ok (.ishr, 1) := by decide +kernel
theorem dL_ones_14 : decode cL_ones 14 = .ok (.iconst 1, 1) := by decide +kernel
theorem dL_ones_15 : decode cL_ones 15 = .ok (.iand, 1) := by decide +kernel
theorem dL_ones_16 : decode cL_ones 16 = .ok (.iadd, 1) := by decide +kernel
theorem dL_ones_17 : decode cL_ones 17 = .ok (.istore_n 1, 1) := by decide +kernel
theorem dL_ones_18 : decode cL_ones 18 = .ok (.iinc 2 1, 3) := by decide +kernel
theorem dL_ones_21 : decode cL_ones 21 = .ok (.goto (-17), 3) := by decide +kernel
theorem dL_ones_24 : decode cL_ones 24 = .ok (.iload_n 1, 1) := by decide +kernel
theorem dL_ones_25 : decode cL_ones 25 = .ok (.ireturn, 1) := by decide +kernel
theorem dL_view_0 : decode cL_view 0 = .ok (.aload_n 0, 1) := by decide +kernel
theorem dL_view_1 : decode cL_view 1 = .ok (.invokevirtual 9, 3) := by decide +kernel
theorem dL_view_4 : decode cL_view 4 = .ok (.i2l, 1) := by decide +kernel
theorem dL_view_5 : decode cL_view 5 = .ok (.lstore_n 1, 1) := by decide +kernel
theorem dL_view_6 : decode cL_view 6 = .ok (.iconst 0, 1) := by decide +kernel
theorem dL_view_7 : decode cL_view 7 = .ok (.istore_n 3, 1) := by decide +kernel
theorem dL_view_8 : decode cL_view 8 = .ok (.iload_n 3, 1) := by decide +kernel
theorem dL_view_9 : decode cL_view 9 = .ok (.bipush 16, 2) := by decide +kernel
theorem dL_view_11 : decode cL_view 11 = .ok (.if_icmp .ge 38, 3) := by decide +kernel
theorem dL_view_14 : decode cL_view 14 = .ok (.iload_n 3, 1) := by decide +kernel
theorem dL_view_15 : decode cL_view 15 = .ok (.bipush 9, 2) := by decide +kernel
theorem dL_view_17 : decode cL_view 17 = .ok (.if_icmp .eq 9, 3) := by decide +kernel
theorem dL_view_20 : decode cL_view 20 = .ok (.iload_n 3, 1) := by decide +kernel
theorem dL_view_21 : decode cL_view 21 = .ok (.bipush 10, 2) := by decide +kernel
theorem dL_view_23 : decode cL_view 23 = .ok (.if_icmp .ne 7, 3) := by decide +kernel
theorem dL_view_26 : decode cL_view 26 = .ok (.lload_n 1, 1) := by decide +kernel
theorem dL_view_27 : decode cL_view 27 = .ok (.goto 15, 3) := by decide +kernel
theorem dL_view_30 : decode cL_view 30 = .ok (.ldc2_w 15, 3) := by decide +kernel
theorem dL_view_33 : decode cL_view 33 = .ok (.lload_n 1, 1) := by decide +kernel
theorem dL_view_34 : decode cL_view 34 = .ok (.lmul, 1) := by decide +kernel
theorem dL_view_35 : decode cL_view 35 = .ok (.aload_n 0, 1) := by decide +kernel
theorem dL_view_36 : decode cL_view 36 = .ok (.iload_n 3, 1) := by decide +kernel
theorem dL_view_37 : decode cL_view 37 = .ok (.invokevirtual 17, 3) := by decide +kernel
theorem dL_view_40 : decode cL_view 40 = .ok (.i2l, 1) := by decide +kernel
theorem dL_view_41 : decode cL_view 41 = .ok (.ladd, 1) := by decide +kernel
theorem dL_view_42 : decode cL_view 42 = .ok (.lstore_n 1, 1) := by decide +kernel
theorem dL_view_43 : decode cL_view 43 = .ok (.iinc 3 1, 3) := by decide +kernel
theorem dL_view_46 : decode cL_view 46 = .ok (.goto (-38), 3) := by decide +kernel
theorem dL_view_49 : decode cL_view 49 = .ok (.iconst 0, 1) := by decide +kernel
theorem dL_view_50 : decode cL_view 50 = .ok (.istore_n 3, 1) := by decide +kernel
theorem dL_view_51 : decode cL_view 51 = .ok (.iload_n 3, 1) := by decide +kernel
theorem dL_view_52 : decode cL_view 52 = .ok (.bipush 16, 2) := by decide +kernel
theorem dL_view_54 : decode cL_view 54 = .ok (.if_icmp .ge 39, 3) := by decide +kernel
theorem dL_view_57 : decode cL_view 57 = .ok (.iconst 0, 1) := by decide +kernel
theorem dL_view_58 : decode cL_view 58 = .ok (.istore 4, 2) := by decide +kernel
theorem dL_view_60 : decode cL_view 60 = .ok (.iload 4, 2) := by decide +kernel
theorem dL_view_62 : decode cL_view 62 = .ok (.iconst 5, 1) := by decide +kernel
theorem dL_view_63 : decode cL_view 63 = .ok (.if_icmp .ge 24, 3) := by decide +kernel
theorem dL_view_66 : decode cL_view 66 = .ok (.ldc2_w 15, 3) := by decide +kernel
theorem dL_view_69 : decode cL_view 69 = .ok (.lload_n 1, 1) := by decide +kernel
theorem dL_view_70 : decode cL_view 70 = .ok (.lmul, 1) := by decide +kernel
theorem dL_view_71 : decode cL_view 71 = .ok (.aload_n 0, 1) := by decide +kernel
theorem dL_view_72 : decode cL_view 72 = .ok (.iload_n 3, 1) := by decide +kernel
theorem dL_view_73 : decode cL_view 73 = .ok (.iload 4, 2) := by decide +kernel
theorem dL_view_75 : decode cL_view 75 = .ok (.invokevirtual 21, 3) := by decide +kernel
theorem dL_view_78 : decode cL_view 78 = .ok (.i2l, 1) := by decide +kernel
theorem dL_view_79 : decode cL_view 79 = .ok (.ladd, 1) := by decide +kernel
theorem dL_view_80 : decode cL_view 80 = .ok (.lstore_n 1, 1) := by decide +kernel
theorem dL_view_81 : decode cL_view 81 = .ok (.iinc 4 1, 3) := by decide +kernel
theorem dL_view_84 : decode cL_view 84 = .ok (.goto (-24), 3) := by decide +kernel
theorem dL_view_87 : decode cL_view 87 = .ok (.iinc 3 1, 3) := by decide +kernel
theorem dL_view_90 : decode cL_view 90 = .ok (.goto (-39), 3) := by decide +kernel
theorem dL_view_93 : decode cL_view 93 = .ok (.iconst 0, 1) := by decide +kernel
theorem dL_view_94 : decode cL_view 94 = .ok (.istore_n 3, 1) := by decide +kernel
theorem dL_view_95 : decode cL_view 95 = .ok (.iload_n 3, 1) := by decide +kernel
theorem dL_view_96 : decode cL_view 96 = .ok (.bipush 10, 2) := by decide +kernel
theorem dL_view_98 : decode cL_view 98 = .ok (.if_icmp .ge 39, 3) := by decide +kernel
theorem dL_view_101 : decode cL_view 101 = .ok (.iconst 0, 1) := by decide +kernel
theorem dL_view_102 : decode cL_view 102 = .ok (.istore 4, 2) := by decide +kernel
theorem dL_view_104 : decode cL_view 104 = .ok (.iload 4, 2) := by decide +kernel
theorem dL_view_106 : decode cL_view 106 = .ok (.iconst 4, 1) := by decide +kernel
theorem dL_view_107 : decode cL_view 107 = .ok (.if_icmp .ge 24, 3) := by decide +kernel
theorem dL_view_110 : decode cL_view 110 = .ok (.ldc2_w 15, 3) := by decide +kernel
theorem dL_view_113 : decode cL_view 113 = .ok (.lload_n 1, 1) := by decide +kernel
theorem dL_view_114 : decode cL_view 114 = .ok (.lmul, 1) := by decide +kernel
theorem dL_view_115 : decode cL_view 115 = .ok (.aload_n 0, 1) := by decide +kernel
theorem dL_view_116 : decode cL_view 116 = .ok (.iload_n 3, 1) := by decide +kernel
theorem dL_view_117 : decode cL_view 117 = .ok (.iload 4, 2) := by decide +kernel
theorem dL_view_119 : decode cL_view 119 = .ok (.invokevirtual 25, 3) := by decide +kernel
theorem dL_view_122 : decode cL_view 122 = .ok (.i2l, 1) := by decide +kernel
theorem dL_view_123 : decode cL_view 123 = .ok (.ladd, 1) := by decide +kernel
theorem dL_view_124 : decode cL_view 124 = .ok (.lstore_n 1, 1) := by decide +kernel
theorem dL_view_125 : decode cL_view 125 = .ok (.iinc 4 1, 3) := by decide +kernel
theorem dL_view_128 : decode cL_view 128 = .ok (.goto (-24), 3) := by decide +kernel
theorem dL_view_131 : decode cL_view 131 = .ok (.iinc 3 1, 3) := by decide +kernel
theorem dL_view_134 : decode cL_view 134 = .ok (.goto (-39), 3) := by decide +kernel
theorem dL_view_137 : decode cL_view 137 = .ok (.lload_n 1, 1) := by decide +kernel
theorem dL_view_138 : decode cL_view 138 = .ok (.lreturn, 1) := by decide +kernel
theorem dL_some_0 : decode cL_some 0 = .ok (.iconst 1, 1) := by decide +kernel
theorem dL_some_1 : decode cL_some 1 = .ok (.iload_n 0, 1) := by decide +kernel
theorem dL_some_2 : decode cL_some 2 = .ok (.bipush 15, 2) := by decide +kernel
theorem dL_some_4 : decode cL_some 4 = .ok (.iand, 1) := by decide +kernel
theorem dL_some_5 : decode cL_some 5 = .ok (.ishl, 1) := by decide +kernel
theorem dL_some_6 : decode cL_some 6 = .ok (.iconst 1, 1) := by decide +kernel
theorem dL_some_7 : decode cL_some 7 = .ok (.iload_n 0, 1) := by decide +kernel
theorem dL_some_8 : decode cL_some 8 = .ok (.iconst 4, 1) := by decide +kernel
theorem dL_some_9 : decode cL_some 9 = .ok (.ishr, 1) := by decide +kernel
theorem dL_some_10 : decode cL_some 10 = .ok (.bipush 15, 2) := by decide +kernel
theorem dL_some_12 : decode cL_some 12 = .ok (.iand, 1) := by decide +kernel
theorem dL_some_13 : decode cL_some 13 = .ok (.ishl, 1) := by decide +kernel
theorem dL_some_14 : decode cL_some 14 = .ok (.ior, 1) := by decide +kernel
theorem dL_some_15 : decode cL_some 15 = .ok (.iconst 1, 1) := by decide +kernel
theorem dL_some_16 : decode cL_some 16 = .ok (.iload_n 0, 1) := by decide +kernel
theorem dL_some_17 : decode cL_some 17 = .ok (.bipush 8, 2) := by decide +kernel
theorem dL_some_19 : decode cL_some 19 = .ok (.ishr, 1) := by decide +kernel
theorem dL_some_20 : decode cL_some 20 = .ok (.bipush 15, 2) := by decide +kernel
theorem dL_some_22 : decode cL_some 22 = .ok (.iand, 1) := by decide +kernel
theorem dL_some_23 : decode cL_some 23 = .ok (.ishl, 1) := by decide +kernel
theorem dL_some_24 : decode cL_some 24 = .ok (.ior, 1) := by decide +kernel
theorem dL_some_25 : decode cL_some 25 = .ok (.ireturn, 1) := by decide +kernel
theorem dL_any_0 : decode cL_any 0 = .ok (.iload_n 2, 1) := by decide +kernel
theorem dL_any_1 : decode cL_any 1 = .ok (.bipush 7, 2) := by decide +kernel
theorem dL_any_3 : decode cL_any 3 = .ok (.iand, 1) := by decide +kernel
theorem dL_any_4 : decode cL_any 4 = .ok (.tableswitch 95 0 6 #[44, 50, 60, 70, 77, 83, 89], 44) := by decide +kernel
theorem dL_any_48 : decode cL_any 48 = .ok (.aload_n 0, 1) := by decide +kernel
theorem dL_any_49 : decode cL_any 49 = .ok (.iload_n 1, 1) := by decide +kernel
theorem dL_any_50 : decode cL_any 50 = .ok (.invokevirtual 28, 3) := by decide +kernel
theorem dL_any_53 : decode cL_any 53 = .ok (.ireturn, 1) := by decide +kernel
theorem dL_any_54 : decode cL_any 54 = .ok (.aload_n 0, 1) := by decide +kernel
theorem dL_any_55 : decode cL_any 55 = .ok (.iload_n 1, 1) := by decide +kernel
theorem dL_any_56 : decode cL_any 56 = .ok (.iload_n 2, 1) := by decide +kernel
theorem dL_any_57 : decode cL_any 57 = .ok (.iload_n 2, 1) := by decide +kernel
theorem dL_any_58 : decode cL_any 58 = .ok (.iconst 3, 1) := by decide +kernel
theorem dL_any_59 : decode cL_any 59 = .ok (.ishr, 1) := by decide +kernel
theorem dL_any_60 : decode cL_any 60 = .ok (.invokevirtual 31, 3) := by decide +kernel
theorem dL_any_63 : decode cL_any 63 = .ok (.ireturn, 1) := by decide +kernel
theorem dL_any_64 : decode cL_any 64 = .ok (.aload_n 0, 1) := by decide +kernel
theorem dL_any_65 : decode cL_any 65 = .ok (.iload_n 1, 1) := by decide +kernel
theorem dL_any_66 : decode cL_any 66 = .ok (.iload_n 2, 1) := by decide +kernel
theorem dL_any_67 : decode cL_any 67 = .ok (.iload_n 2, 1) := by decide +kernel
theorem dL_any_68 : decode cL_any 68 = .ok (.iconst 3, 1) := by decide +kernel
theorem dL_any_69 : decode cL_any 69 = .ok (.ishr, 1) := by decide +kernel
theorem dL_any_70 : decode cL_any 70 = .ok (.invokevirtual 35, 3) := by decide +kernel
theorem dL_any_73 : decode cL_any 73 = .ok (.ireturn, 1) := by decide +kernel
theorem dL_any_74 : decode cL_any 74 = .ok (.aload_n 0, 1) := by decide +kernel
theorem dL_any_75 : decode cL_any 75 = .ok (.iload_n 1, 1) := by decide +kernel
theorem dL_any_76 : decode cL_any 76 = .ok (.iload_n 2, 1) := by decide +kernel
theorem dL_any_77 : decode cL_any 77 = .ok (.invokevirtual 38, 3) := by decide +kernel
theorem dL_any_80 : decode cL_any 80 = .ok (.ireturn, 1) := by decide +kernel
theorem dL_any_81 : decode cL_any 81 = .ok (.aload_n 0, 1) := by decide +kernel
theorem dL_any_82 : decode cL_any 82 = .ok (.iload_n 1, 1) := by decide +kernel
theorem dL_any_83 : decode cL_any 83 = .ok (.invokevirtual 41, 3) := by decide +kernel
theorem dL_any_86 : decode cL_any 86 = .ok (.ireturn, 1) := by decide +kernel
theorem dL_any_87 : decode cL_any 87 = .ok (.aload_n 0, 1) := by decide +kernel
theorem dL_any_88 : decode cL_any 88 = .ok (.iload_n 1, 1) := by decide +kernel
theorem dL_any_89 : decode cL_any 89 = .ok (.invokevirtual 44, 3) := by decide +kernel
theorem dL_any_92 : decode cL_any 92 = .ok (.ireturn, 1) := by decide +kernel
theorem dL_any_93 : decode cL_any 93 = .ok (.aload_n 0, 1) := by decide +kernel
theorem dL_any_94 : decode cL_any 94 = .ok (.iload_n 1, 1) := by decide +kernel
theorem dL_any_95 : decode cL_any 95 = .ok (.invokevirtual 47, 3) := by decide +kernel
theorem dL_any_98 : decode cL_any 98 = .ok (.ireturn, 1) := by decide +kernel
theorem dL_any_99 : decode cL_any 99 = .ok (.aload_n 0, 1) := by decide +kernel
theorem dL_any_100 : decode cL_any 100 = .ok (.iload_n 1, 1) := by decide +kernel
theorem dL_any_101 : decode cL_any 101 = .ok (.iload_n 2, 1) := by decide +kernel
theorem dL_any_102 : decode cL_any 102 = .ok (.iconst 3, 1) := by decide +kernel
theorem dL_any_103 : decode cL_any 103 = .ok (.ishr, 1) := by decide +kernel
theorem dL_any_104 : decode cL_any 104 = .ok (.invokevirtual 50, 3) := by decide +kernel
theorem dL_any_107 : decode cL_any 107 = .ok (.ireturn, 1) := by decide +kernel
theorem dL_turn_0 : decode cL_turn 0 = .ok (.iload_n 2, 1) := by decide +kernel
theorem dL_turn_1 : decode cL_turn 1 = .ok (.iconst 5, 1) := by decide +kernel
theorem dL_turn_2 : decode cL_turn 2 = .ok (.invokestatic 53, 3) := by decide +kernel
theorem dL_turn_5 : decode cL_turn 5 = .ok (.istore 4, 2) := by decide +kernel
theorem dL_turn_7 : decode cL_turn 7 = .ok (.iload_n 1, 1) := by decide +kernel
theorem dL_turn_8 : decode cL_turn 8 = .ok (.tableswitch 216 0 14 #[76, 76, 85, 106, 106, 133, 133, 133, 146, 159, 159, 164, 173, 186, 199], 76) := by decide +kernel
theorem dL_turn_84 : decode cL_turn 84 = .ok (.aload_n 0, 1) := by decide +kernel
theorem dL_turn_85 : decode cL_turn 85 = .ok (.iload_n 2, 1) := by decide +kernel
theorem dL_turn_86 : decode cL_turn 86 = .ok (.invokestatic 58, 3) := by decide +kernel
theorem dL_turn_89 : decode cL_turn 89 = .ok (.invokevirtual 28, 3) := by decide +kernel
theorem dL_turn_92 : decode cL_turn 92 = .ok (.ireturn, 1) := by decide +kernel
theorem dL_turn_93 : decode cL_turn 93 = .ok (.aload_n 0, 1) := by decide +kernel
theorem dL_turn_94 : decode cL_turn 94 = .ok (.iload_n 2, 1) := by decide +kernel
theorem dL_turn_95 : decode cL_turn 95 = .ok (.bipush 15, 2) := by decide +kernel
theorem dL_turn_97 : decode cL_turn 97 = .ok (.iand, 1) := by decide +kernel
theorem dL_turn_98 : decode cL_turn 98 = .ok (.iload_n 2, 1) := by decide +kernel
theorem dL_turn_99 : decode cL_turn 99 = .ok (.iconst 4, 1) := by decide +kernel
theorem dL_turn_100 : decode cL_turn 100 = .ok (.ishr, 1) := by decide +kernel
theorem dL_turn_101 : decode cL_turn 101 = .ok (.bipush 15, 2) := by decide +kernel
theorem dL_turn_103 : decode cL_turn 103 = .ok (.iand, 1) := by decide +kernel
theorem dL_turn_104 : decode cL_turn 104 = .ok (.iconst 1, 1) := by decide +kernel
theorem dL_turn_105 : decode cL_turn 105 = .ok (.iload_n 3, 1) := by decide +kernel
theorem dL_turn_106 : decode cL_turn 106 = .ok (.bipush 15, 2) := by decide +kernel
theorem dL_turn_108 : decode cL_turn 108 = .ok (.iand, 1) := by decide +kernel
theorem dL_turn_109 : decode cL_turn 109 = .ok (.ishl, 1) := by decide +kernel
theorem dL_turn_110 : decode cL_turn 110 = .ok (.invokevirtual 31, 3) := by decide +kernel
theorem dL_turn_113 : decode cL_turn 113 = .ok (.ireturn, 1) := by decide +kernel
theorem dL_turn_114 : decode cL_turn 114 = .ok (.aload_n 0, 1) := by decide +kernel
theorem dL_turn_115 : decode cL_turn 115 = .ok (.iload 4, 2) := by decide +kernel
theorem dL_turn_117 : decode cL_turn 117 = .ok (.iload_n 3, 1) := by decide +kernel
theorem dL_turn_118 : decode cL_turn 118 = .ok (.bipush 7, 2) := by decide +kernel
theorem dL_turn_120 : decode cL_turn 120 = .ok (.iand, 1) := by decide +kernel
theorem dL_turn_121 : decode cL_turn 121 = .ok (.iload 4, 2) := by decide +kernel
theorem dL_turn_123 : decode cL_turn 123 = .ok (.iconst 1, 1) := by decide +kernel
theorem dL_turn_124 : decode cL_turn 124 = .ok (.if_icmp .ne 12, 3) := by decide +kernel
theorem dL_turn_127 : decode cL_turn 127 = .ok (.iload_n 3, 1) := by decide +kernel
theorem dL_turn_128 : decode cL_turn 128 = .ok (.iconst 3, 1) := by decide +kernel
theorem dL_turn_129 : decode cL_turn 129 = .ok (.ishr, 1) := by decide +kernel
theorem dL_turn_130 : decode cL_turn 130 = .ok (.bipush 7, 2) := by decide +kernel
theorem dL_turn_132 : decode cL_turn 132 = .ok (.iand, 1) := by decide +kernel
theorem dL_turn_133 : decode cL_turn 133 = .ok (.goto 4, 3) := by decide +kernel
theorem dL_turn_136 : decode cL_turn 136 = .ok (.iconst 0, 1) := by decide +kernel
theorem dL_turn_137 : decode cL_turn 137 = .ok (.invokevirtual 35, 3) := by decide +kernel
theorem dL_turn_140 : decode cL_turn 140 = .ok (.ireturn, 1) := by decide +kernel
theorem dL_turn_141 : decode cL_turn 141 = .ok (.aload_n 0, 1) := by decide +kernel
theorem dL_turn_142 : decode cL_turn 142 = .ok (.iload_n 2, 1) := by decide +kernel
theorem dL_turn_143 : decode cL_turn 143 = .ok (.bipush 15, 2) := by decide +kernel
theorem dL_turn_145 : decode cL_turn 145 = .ok (.iand, 1) := by decide +kernel
theorem dL_turn_146 : decode cL_turn 146 = .ok (.iload_n 3, 1) := by decide +kernel
theorem dL_turn_147 : decode cL_turn 147 = .ok (.bipush 127, 2) := by decide +kernel
theorem dL_turn_149 : decode cL_turn 149 = .ok (.iand, 1) := by decide +kernel
theorem dL_turn_150 : decode cL_turn 150 = .ok (.invokevirtual 38, 3) := by decide +kernel
theorem dL_turn_153 : decode cL_turn 153 = .ok (.ireturn, 1) := by decide +kernel
theorem dL_turn_154 : decode cL_turn 154 = .ok (.aload_n 0, 1) := by decide +kernel
theorem dL_turn_155 : decode cL_turn 155 = .ok (.iload_n 2, 1) := by decide +kernel
theorem dL_turn_156 : decode cL_turn 156 = .ok (.bipush 13, 2) := by decide +kernel
theorem dL_turn_158 : decode cL_turn 158 = .ok (.invokestatic 53, 3) := by decide +kernel
theorem dL_turn_161 : decode cL_turn 161 = .ok (.iconst 2, 1) := by decide +kernel
theorem dL_turn_162 : decode cL_turn 162 = .ok (.isub, 1) := by decide +kernel
theorem dL_turn_163 : decode cL_turn 163 = .ok (.invokevirtual 61, 3) := by decide +kernel
theorem dL_turn_166 : decode cL_turn 166 = .ok (.ireturn, 1) := by decide +kernel
theorem dL_turn_167 : decode cL_turn 167 = .ok (.aload_n 0, 1) := by decide +kernel
theorem dL_turn_168 : decode cL_turn 168 = .ok (.invokevirtual 64, 3) := by decide +kernel
theorem dL_turn_171 : decode cL_turn 171 = .ok (.ireturn, 1) := by decide +kernel
theorem dL_turn_172 : decode cL_turn 172 = .ok (.aload_n 0, 1) := by decide +kernel
theorem dL_turn_173 : decode cL_turn 173 = .ok (.iload_n 2, 1) := by decide +kernel
theorem dL_turn_174 : decode cL_turn 174 = .ok (.bipush 15, 2) := by decide +kernel
theorem dL_turn_176 : decode cL_turn 176 = .ok (.iand, 1) := by decide +kernel
theorem dL_turn_177 : decode cL_turn 177 = .ok (.invokevirtual 44, 3) := by decide +kernel
theorem dL_turn_180 : decode cL_turn 180 = .ok (.ireturn, 1) := by decide +kernel
theorem dL_turn_181 : decode cL_turn 181 = .ok (.aload_n 0, 1) := by decide +kernel
theorem dL_turn_182 : decode cL_turn 182 = .ok (.iload_n 2, 1) := by decide +kernel
theorem dL_turn_183 : decode cL_turn 183 = .ok (.bipush 23, 2) := by decide +kernel
theorem dL_turn_185 : decode cL_turn 185 = .ok (.invokestatic 53, 3) := by decide +kernel
theorem dL_turn_188 : decode cL_turn 188 = .ok (.iconst 1, 1) := by decide +kernel
theorem dL_turn_189 : decode cL_turn 189 = .ok (.isub, 1) := by decide +kernel
theorem dL_turn_190 : decode cL_turn 190 = .ok (.invokevirtual 41, 3) := by decide +kernel
theorem dL_turn_193 : decode cL_turn 193 = .ok (.ireturn, 1) := by decide +kernel
theorem dL_turn_194 : decode cL_turn 194 = .ok (.aload_n 0, 1) := by decide +kernel
theorem dL_turn_195 : decode cL_turn 195 = .ok (.iload_n 2, 1) := by decide +kernel
theorem dL_turn_196 : decode cL_turn 196 = .ok (.bipush 63, 2) := by decide +kernel
theorem dL_turn_198 : decode cL_turn 198 = .ok (.invokestatic 53, 3) := by decide +kernel
theorem dL_turn_201 : decode cL_turn 201 = .ok (.iconst 1, 1) := by decide +kernel
theorem dL_turn_202 : decode cL_turn 202 = .ok (.isub, 1) := by decide +kernel
theorem dL_turn_203 : decode cL_turn 203 = .ok (.invokevirtual 47, 3) := by decide +kernel
theorem dL_turn_206 : decode cL_turn 206 = .ok (.ireturn, 1) := by decide +kernel
theorem dL_turn_207 : decode cL_turn 207 = .ok (.aload_n 0, 1) := by decide +kernel
theorem dL_turn_208 : decode cL_turn 208 = .ok (.iload_n 2, 1) := by decide +kernel
theorem dL_turn_209 : decode cL_turn 209 = .ok (.bipush 11, 2) := by decide +kernel
theorem dL_turn_211 : decode cL_turn 211 = .ok (.invokestatic 53, 3) := by decide +kernel
theorem dL_turn_214 : decode cL_turn 214 = .ok (.iload_n 3, 1) := by decide +kernel
theorem dL_turn_215 : decode cL_turn 215 = .ok (.bipush 6, 2) := by decide +kernel
theorem dL_turn_217 : decode cL_turn 217 = .ok (.invokestatic 53, 3) := by decide +kernel
theorem dL_turn_220 : decode cL_turn 220 = .ok (.invokevirtual 50, 3) := by decide +kernel
theorem dL_turn_223 : decode cL_turn 223 = .ok (.ireturn, 1) := by decide +kernel
theorem dL_turn_224 : decode cL_turn 224 = .ok (.aload_n 0, 1) := by decide +kernel
theorem dL_turn_225 : decode cL_turn 225 = .ok (.iload_n 2, 1) := by decide +kernel
theorem dL_turn_226 : decode cL_turn 226 = .ok (.iload_n 3, 1) := by decide +kernel
theorem dL_turn_227 : decode cL_turn 227 = .ok (.invokestatic 67, 3) := by decide +kernel
theorem dL_turn_230 : decode cL_turn 230 = .ok (.ireturn, 1) := by decide +kernel
theorem dL_isUndone_0 : decode cL_isUndone 0 = .ok (.aload_n 0, 1) := by decide +kernel
theorem dL_isUndone_1 : decode cL_isUndone 1 = .ok (.bipush 9, 2) := by decide +kernel
theorem dL_isUndone_3 : decode cL_isUndone 3 = .ok (.invokevirtual 17, 3) := by decide +kernel
theorem dL_isUndone_6 : decode cL_isUndone 6 = .ok (.istore 7, 2) := by decide +kernel
theorem dL_isUndone_8 : decode cL_isUndone 8 = .ok (.aload_n 0, 1) := by decide +kernel
theorem dL_isUndone_9 : decode cL_isUndone 9 = .ok (.invokevirtual 71, 3) := by decide +kernel
theorem dL_isUndone_12 : decode cL_isUndone 12 = .ok (.iload 7, 2) := by decide +kernel
theorem dL_isUndone_14 : decode cL_isUndone 14 = .ok (.iconst 1, 1) := by decide +kernel
theorem dL_isUndone_15 : decode cL_isUndone 15 = .ok (.isub, 1) := by decide +kernel
theorem dL_isUndone_16 : decode cL_isUndone 16 = .ok (.if_icmp .ne 42, 3) := by decide +kernel
theorem dL_isUndone_19 : decode cL_isUndone 19 = .ok (.aload_n 0, 1) := by decide +kernel
theorem dL_isUndone_20 : decode cL_isUndone 20 = .ok (.bipush 9, 2) := by decide +kernel
theorem dL_isUndone_22 : decode cL_isUndone 22 = .ok (.invokevirtual 17, 3) := by decide +kernel
theorem dL_isUndone_25 : decode cL_isUndone 25 = .ok (.iload 7, 2) := by decide +kernel
theorem dL_isUndone_27 : decode cL_isUndone 27 = .ok (.iconst 1, 1) := by decide +kernel
theorem dL_isUndone_28 : decode cL_isUndone 28 = .ok (.isub, 1) := by decide +kernel
theorem dL_isUndone_29 : decode cL_isUndone 29 = .ok (.if_icmp .ne 29, 3) := by decide +kernel
theorem dL_isUndone_32 : decode cL_isUndone 32 = .ok (.aload_n 0, 1) := by decide +kernel
theorem dL_isUndone_33 : decode cL_isUndone 33 = .ok (.invokestatic 74, 3) := by decide +kernel
theorem dL_isUndone_36 : decode cL_isUndone 36 = .ok (.lload 5, 2) := by decide +kernel
theorem dL_isUndone_38 : decode cL_isUndone 38 = .ok (.lcmp, 1) := by decide +kernel
theorem dL_isUndone_39 : decode cL_isUndone 39 = .ok (.ifCond .ne 19, 3) := by decide +kernel
theorem dL_isUndone_42 : decode cL_isUndone 42 = .ok (.aload_n 0, 1) := by decide +kernel
theorem dL_isUndone_43 : decode cL_isUndone 43 = .ok (.iload_n 1, 1) := by decide +kernel
theorem dL_isUndone_44 : decode cL_isUndone 44 = .ok (.iload_n 2, 1) := by decide +kernel
theorem dL_isUndone_45 : decode cL_isUndone 45 = .ok (.iload_n 3, 1) := by decide +kernel
theorem dL_isUndone_46 : decode cL_isUndone 46 = .ok (.invokestatic 78, 3) := by decide +kernel
theorem dL_isUndone_49 : decode cL_isUndone 49 = .ok (.iload 4, 2) := by decide +kernel
theorem dL_isUndone_51 : decode cL_isUndone 51 = .ok (.if_icmp .ne 7, 3) := by decide +kernel
theorem dL_isUndone_54 : decode cL_isUndone 54 = .ok (.iconst 1, 1) := by decide +kernel
theorem dL_isUndone_55 : decode cL_isUndone 55 = .ok (.goto 4, 3) := by decide +kernel
theorem dL_isUndone_58 : decode cL_isUndone 58 = .ok (.iconst 0, 1) := by decide +kernel
theorem dL_isUndone_59 : decode cL_isUndone 59 = .ok (.ireturn, 1) := by decide +kernel
theorem dL_areRight_0 : decode cL_areRight 0 = .ok (.aload_n 0, 1) := by decide +kernel
theorem dL_areRight_1 : decode cL_areRight 1 = .ok (.invokevirtual 9, 3) := by decide +kernel
theorem dL_areRight_4 : decode cL_areRight 4 = .ok (.istore 5, 2) := by decide +kernel
theorem dL_areRight_6 : decode cL_areRight 6 = .ok (.iconst 1, 1) := by decide +kernel
theorem dL_areRight_7 : decode cL_areRight 7 = .ok (.aload_n 0, 1) := by decide +kernel
theorem dL_areRight_8 : decode cL_areRight 8 = .ok (.iconst 2, 1) := by decide +kernel
theorem dL_areRight_9 : decode cL_areRight 9 = .ok (.invokevirtual 17, 3) := by decide +kernel
theorem dL_areRight_12 : decode cL_areRight 12 = .ok (.ishl, 1) := by decide +kernel
theorem dL_areRight_13 : decode cL_areRight 13 = .ok (.iconst 1, 1) := by decide +kernel
theorem dL_areRight_14 : decode cL_areRight 14 = .ok (.isub, 1) := by decide +kernel
theorem dL_areRight_15 : decode cL_areRight 15 = .ok (.sipush 1024, 3) := by decide +kernel
theorem dL_areRight_18 : decode cL_areRight 18 = .ok (.ior, 1) := by decide +kernel
theorem dL_areRight_19 : decode cL_areRight 19 = .ok (.istore 6, 2) := by decide +kernel
theorem dL_areRight_21 : decode cL_areRight 21 = .ok (.iload 5, 2) := by decide +kernel
theorem dL_areRight_23 : decode cL_areRight 23 = .ok (.iload 6, 2) := by decide +kernel
theorem dL_areRight_25 : decode cL_areRight 25 = .ok (.iconst (-1), 1) := by decide +kernel
theorem dL_areRight_26 : decode cL_areRight 26 = .ok (.ixor, 1) := by decide +kernel
theorem dL_areRight_27 : decode cL_areRight 27 = .ok (.iand, 1) := by decide +kernel
theorem dL_areRight_28 : decode cL_areRight 28 = .ok (.ifCond .ne 23, 3) := by decide +kernel
theorem dL_areRight_31 : decode cL_areRight 31 = .ok (.iload 5, 2) := by decide +kernel
theorem dL_areRight_33 : decode cL_areRight 33 = .ok (.iload 4, 2) := by decide +kernel
theorem dL_areRight_35 : decode cL_areRight 35 = .ok (.ifCond .ge 8, 3) := by decide +kernel
theorem dL_areRight_38 : decode cL_areRight 38 = .ok (.bipush 10, 2) := by decide +kernel
theorem dL_areRight_40 : decode cL_areRight 40 = .ok (.goto 5, 3) := by decide +kernel
theorem dL_areRight_43 : decode cL_areRight 43 = .ok (.iload 4, 2) := by decide +kernel
theorem dL_areRight_45 : decode cL_areRight 45 = .ok (.ishr, 1) := by decide +kernel
theorem dL_areRight_46 : decode cL_areRight 46 = .ok (.iconst 1, 1) := by decide +kernel
theorem dL_areRight_47 : decode cL_areRight 47 = .ok (.iand, 1) := by decide +kernel
theorem dL_areRight_48 : decode cL_areRight 48 = .ok (.ifCond .ne 5, 3) := by decide +kernel
theorem dL_areRight_51 : decode cL_areRight 51 = .ok (.iconst 0, 1) := by decide +kernel
theorem dL_areRight_52 : decode cL_areRight 52 = .ok (.ireturn, 1) := by decide +kernel
theorem dL_areRight_53 : decode cL_areRight 53 = .ok (.iload_n 1, 1) := by decide +kernel
theorem dL_areRight_54 : decode cL_areRight 54 = .ok (.bipush 8, 2) := by decide +kernel
theorem dL_areRight_56 : decode cL_areRight 56 = .ok (.if_icmp .ne 25, 3) := by decide +kernel
theorem dL_areRight_59 : decode cL_areRight 59 = .ok (.iload_n 2, 1) := by decide +kernel
theorem dL_areRight_60 : decode cL_areRight 60 = .ok (.iload 6, 2) := by decide +kernel
theorem dL_areRight_62 : decode cL_areRight 62 = .ok (.invokestatic 82, 3) := by decide +kernel
theorem dL_areRight_65 : decode cL_areRight 65 = .ok (.if_icmp .ne 14, 3) := by decide +kernel
theorem dL_areRight_68 : decode cL_areRight 68 = .ok (.iload 5, 2) := by decide +kernel
theorem dL_areRight_70 : decode cL_areRight 70 = .ok (.iload 6, 2) := by decide +kernel
theorem dL_areRight_72 : decode cL_areRight 72 = .ok (.if_icmp .ne 7, 3) := by decide +kernel
theorem dL_areRight_75 : decode cL_areRight 75 = .ok (.iconst 1, 1) := by decide +kernel
theorem dL_areRight_76 : decode cL_areRight 76 = .ok (.goto 4, 3) := by decide +kernel
theorem dL_areRight_79 : decode cL_areRight 79 = .ok (.iconst 0, 1) := by decide +kernel
theorem dL_areRight_80 : decode cL_areRight 80 = .ok (.ireturn, 1) := by decide +kernel
theorem dL_areRight_81 : decode cL_areRight 81 = .ok (.iload_n 1, 1) := by decide +kernel
theorem dL_areRight_82 : decode cL_areRight 82 = .ok (.bipush 9, 2) := by decide +kernel
theorem dL_areRight_84 : decode cL_areRight 84 = .ok (.if_icmp .eq 21, 3) := by decide +kernel
theorem dL_areRight_87 : decode cL_areRight 87 = .ok (.iload_n 1, 1) := by decide +kernel
theorem dL_areRight_88 : decode cL_areRight 88 = .ok (.bipush 10, 2) := by decide +kernel
theorem dL_areRight_90 : decode cL_areRight 90 = .ok (.if_icmp .eq 15, 3) := by decide +kernel
theorem dL_areRight_93 : decode cL_areRight 93 = .ok (.iload 5, 2) := by decide +kernel
theorem dL_areRight_95 : decode cL_areRight 95 = .ok (.iload_n 3, 1) := by decide +kernel
theorem dL_areRight_96 : decode cL_areRight 96 = .ok (.if_icmp .ne 7, 3) := by decide +kernel
theorem dL_areRight_99 : decode cL_areRight 99 = .ok (.iconst 1, 1) := by decide +kernel
theorem dL_areRight_100 : decode cL_areRight 100 = .ok (.goto 4, 3) := by decide +kernel
theorem dL_areRight_103 : decode cL_areRight 103 = .ok (.iconst 0, 1) := by decide +kernel
theorem dL_areRight_104 : decode cL_areRight 104 = .ok (.ireturn, 1) := by decide +kernel
theorem dL_areRight_105 : decode cL_areRight 105 = .ok (.iload_n 2, 1) := by decide +kernel
theorem dL_areRight_106 : decode cL_areRight 106 = .ok (.iload 5, 2) := by decide +kernel
theorem dL_areRight_108 : decode cL_areRight 108 = .ok (.invokestatic 82, 3) := by decide +kernel
theorem dL_areRight_111 : decode cL_areRight 111 = .ok (.if_icmp .ne 16, 3) := by decide +kernel
theorem dL_areRight_114 : decode cL_areRight 114 = .ok (.iload 5, 2) := by decide +kernel
theorem dL_areRight_116 : decode cL_areRight 116 = .ok (.iload_n 3, 1) := by decide +kernel
theorem dL_areRight_117 : decode cL_areRight 117 = .ok (.iconst (-1), 1) := by decide +kernel
theorem dL_areRight_118 : decode cL_areRight 118 = .ok (.ixor, 1) := by decide +kernel
theorem dL_areRight_119 : decode cL_areRight 119 = .ok (.iand, 1) := by decide +kernel
theorem dL_areRight_120 : decode cL_areRight 120 = .ok (.ifCond .ne 7, 3) := by decide +kernel
theorem dL_areRight_123 : decode cL_areRight 123 = .ok (.iconst 1, 1) := by decide +kernel
theorem dL_areRight_124 : decode cL_areRight 124 = .ok (.goto 4, 3) := by decide +kernel
theorem dL_areRight_127 : decode cL_areRight 127 = .ok (.iconst 0, 1) := by decide +kernel
theorem dL_areRight_128 : decode cL_areRight 128 = .ok (.ireturn, 1) := by decide +kernel
theorem dL_law_0 : decode cL_law 0 = .ok (.new 10, 3) := by decide +kernel
theorem dL_law_3 : decode cL_law 3 = .ok (.dup, 1) := by decide +kernel
theorem dL_law_4 : decode cL_law 4 = .ok (.invokespecial 85, 3) := by decide +kernel
theorem dL_law_7 : decode cL_law 7 = .ok (.astore_n 1, 1) := by decide +kernel
theorem dL_law_8 : decode cL_law 8 = .ok (.iconst (-1), 1) := by decide +kernel
theorem dL_law_9 : decode cL_law 9 = .ok (.istore_n 2, 1) := by decide +kernel
theorem dL_law_10 : decode cL_law 10 = .ok (.aload_n 0, 1) := by decide +kernel
theorem dL_law_11 : decode cL_law 11 = .ok (.arraylength, 1) := by decide +kernel
theorem dL_law_12 : decode cL_law 12 = .ok (.iconst 3, 1) := by decide +kernel
theorem dL_law_13 : decode cL_law 13 = .ok (.idiv, 1) := by decide +kernel
theorem dL_law_14 : decode cL_law 14 = .ok (.bipush 40, 2) := by decide +kernel
theorem dL_law_16 : decode cL_law 16 = .ok (.if_icmp .ge 10, 3) := by decide +kernel
theorem dL_law_19 : decode cL_law 19 = .ok (.aload_n 0, 1) := by decide +kernel
theorem dL_law_20 : decode cL_law 20 = .ok (.arraylength, 1) := by decide +kernel
theorem dL_law_21 : decode cL_law 21 = .ok (.iconst 3, 1) := by decide +kernel
theorem dL_law_22 : decode cL_law 22 = .ok (.idiv, 1) := by decide +kernel
theorem dL_law_23 : decode cL_law 23 = .ok (.goto 5, 3) := by decide +kernel
theorem dL_law_26 : decode cL_law 26 = .ok (.bipush 40, 2) := by decide +kernel
theorem dL_law_28 : decode cL_law 28 = .ok (.istore_n 3, 1) := by decide +kernel
theorem dL_law_29 : decode cL_law 29 = .ok (.iconst 0, 1) := by decide +kernel
theorem dL_law_30 : decode cL_law 30 = .ok (.istore 4, 2) := by decide +kernel
theorem dL_law_32 : decode cL_law 32 = .ok (.iload 4, 2) := by decide +kernel
theorem dL_law_34 : decode cL_law 34 = .ok (.iload_n 3, 1) := by decide +kernel
theorem dL_law_35 : decode cL_law 35 = .ok (.if_icmp .ge 256, 3) := by decide +kernel
theorem dL_law_38 : decode cL_law 38 = .ok (.aload_n 0, 1) := by decide +kernel
theorem dL_law_39 : decode cL_law 39 = .ok (.iconst 3, 1) := by decide +kernel
theorem dL_law_40 : decode cL_law 40 = .ok (.iload 4, 2) := by decide +kernel
theorem dL_law_42 : decode cL_law 42 = .ok (.imul, 1) := by decide +kernel
theorem dL_law_43 : decode cL_law 43 = .ok (.invokestatic 86, 3) := by decide +kernel
theorem dL_law_46 : decode cL_law 46 = .ok (.bipush 15, 2) := by decide +kernel
theorem dL_law_48 : decode cL_law 48 = .ok (.iand, 1) := by decide +kernel
theorem dL_law_49 : decode cL_law 49 = .ok (.istore 5, 2) := by decide +kernel
theorem dL_law_51 : decode cL_law 51 = .ok (.aload_n 0, 1) := by decide +kernel
theorem dL_law_52 : decode cL_law 52 = .ok (.iconst 3, 1) := by decide +kernel
theorem dL_law_53 : decode cL_law 53 = .ok (.iload 4, 2) := by decide +kernel
theorem dL_law_55 : decode cL_law 55 = .ok (.imul, 1) := by decide +kernel
theorem dL_law_56 : decode cL_law 56 = .ok (.iconst 1, 1) := by decide +kernel
theorem dL_law_57 : decode cL_law 57 = .ok (.iadd, 1) := by decide +kernel
theorem dL_law_58 : decode cL_law 58 = .ok (.invokestatic 86, 3) := by decide +kernel
theorem dL_law_61 : decode cL_law 61 = .ok (.istore 6, 2) := by decide +kernel
theorem dL_law_63 : decode cL_law 63 = .ok (.aload_n 0, 1) := by decide +kernel
theorem dL_law_64 : decode cL_law 64 = .ok (.iconst 3, 1) := by decide +kernel
theorem dL_law_65 : decode cL_law 65 = .ok (.iload 4, 2) := by decide +kernel
theorem dL_law_67 : decode cL_law 67 = .ok (.imul, 1) := by decide +kernel
theorem dL_law_68 : decode cL_law 68 = .ok (.iconst 2, 1) := by decide +kernel
theorem dL_law_69 : decode cL_law 69 = .ok (.iadd, 1) := by decide +kernel
theorem dL_law_70 : decode cL_law 70 = .ok (.invokestatic 86, 3) := by decide +kernel
theorem dL_law_73 : decode cL_law 73 = .ok (.istore 7, 2) := by decide +kernel
theorem dL_law_75 : decode cL_law 75 = .ok (.aload_n 1, 1) := by decide +kernel
theorem dL_law_76 : decode cL_law 76 = .ok (.invokestatic 74, 3) := by decide +kernel
theorem dL_law_79 : decode cL_law 79 = .ok (.lstore 8, 2) := by decide +kernel
theorem dL_law_81 : decode cL_law 81 = .ok (.aload_n 1, 1) := by decide +kernel
theorem dL_law_82 : decode cL_law 82 = .ok (.bipush 9, 2) := by decide +kernel
theorem dL_law_84 : decode cL_law 84 = .ok (.invokevirtual 17, 3) := by decide +kernel
theorem dL_law_87 : decode cL_law 87 = .ok (.istore 10, 2) := by decide +kernel
theorem dL_law_89 : decode cL_law 89 = .ok (.aload_n 1, 1) := by decide +kernel
theorem dL_law_90 : decode cL_law 90 = .ok (.invokevirtual 9, 3) := by decide +kernel
theorem dL_law_93 : decode cL_law 93 = .ok (.istore 11, 2) := by decide +kernel
theorem dL_law_95 : decode cL_law 95 = .ok (.aload_n 1, 1) := by decide +kernel
theorem dL_law_96 : decode cL_law 96 = .ok (.iload 5, 2) := by decide +kernel
theorem dL_law_98 : decode cL_law 98 = .ok (.iload 6, 2) := by decide +kernel
theorem dL_law_100 : decode cL_law 100 = .ok (.iload 7, 2) := by decide +kernel
theorem dL_law_102 : decode cL_law 102 = .ok (.invokestatic 78, 3) := by decide +kernel
theorem dL_law_105 : decode cL_law 105 = .ok (.istore 12, 2) := by decide +kernel
theorem dL_law_107 : decode cL_law 107 = .ok (.iload 12, 2) := by decide +kernel
theorem dL_law_109 : decode cL_law 109 = .ok (.ifCond .ge 26, 3) := by decide +kernel
theorem dL_law_112 : decode cL_law 112 = .ok (.aload_n 1, 1) := by decide +kernel
theorem dL_law_113 : decode cL_law 113 = .ok (.invokestatic 74, 3) := by decide +kernel
theorem dL_law_116 : decode cL_law 116 = .ok (.lload 8, 2) := by decide +kernel
theorem dL_law_118 : decode cL_law 118 = .ok (.lcmp, 1) := by decide +kernel
theorem dL_law_119 : decode cL_law 119 = .ok (.ifCond .ne 14, 3) := by decide +kernel
theorem dL_law_122 : decode cL_law 122 = .ok (.aload_n 1, 1) := by decide +kernel
theorem dL_law_123 : decode cL_law 123 = .ok (.bipush 9, 2) := by decide +kernel
theorem dL_law_125 : decode cL_law 125 = .ok (.invokevirtual 17, 3) := by decide +kernel
theorem dL_law_128 : decode cL_law 128 = .ok (.iload 10, 2) := by decide +kernel
theorem dL_law_130 : decode cL_law 130 = .ok (.if_icmp .eq 155, 3) := by decide +kernel
theorem dL_law_133 : decode cL_law 133 = .ok (.iconst 0, 1) := by decide +kernel
theorem dL_law_134 : decode cL_law 134 = .ok (.ireturn, 1) := by decide +kernel
theorem dL_law_135 : decode cL_law 135 = .ok (.iload 5, 2) := by decide +kernel
theorem dL_law_137 : decode cL_law 137 = .ok (.bipush 8, 2) := by decide +kernel
theorem dL_law_139 : decode cL_law 139 = .ok (.if_icmp .ne 15, 3) := by decide +kernel
theorem dL_law_142 : decode cL_law 142 = .ok (.iload 6, 2) := by decide +kernel
theorem dL_law_144 : decode cL_law 144 = .ok (.bipush 13, 2) := by decide +kernel
theorem dL_law_146 : decode cL_law 146 = .ok (.invokestatic 53, 3) := by decide +kernel
theorem dL_law_149 : decode cL_law 149 = .ok (.iconst 2, 1) := by decide +kernel
theorem dL_law_150 : decode cL_law 150 = .ok (.isub, 1) := by decide +kernel
theorem dL_law_151 : decode cL_law 151 = .ok (.goto 4, 3) := by decide +kernel
theorem dL_law_154 : decode cL_law 154 = .ok (.iload_n 2, 1) := by decide +kernel
theorem dL_law_155 : decode cL_law 155 = .ok (.istore_n 2, 1) := by decide +kernel
theorem dL_law_156 : decode cL_law 156 = .ok (.aload_n 1, 1) := by decide +kernel
theorem dL_law_157 : decode cL_law 157 = .ok (.bipush 9, 2) := by decide +kernel
theorem dL_law_159 : decode cL_law 159 = .ok (.invokevirtual 17, 3) := by decide +kernel
theorem dL_law_162 : decode cL_law 162 = .ok (.iload 10, 2) := by decide +kernel
theorem dL_law_164 : decode cL_law 164 = .ok (.iconst 4, 1) := by decide +kernel
theorem dL_law_165 : decode cL_law 165 = .ok (.if_icmp .ge 10, 3) := by decide +kernel
theorem dL_law_168 : decode cL_law 168 = .ok (.iload 10, 2) := by decide +kernel
theorem dL_law_170 : decode cL_law 170 = .ok (.iconst 1, 1) := by decide +kernel
theorem dL_law_171 : decode cL_law 171 = .ok (.iadd, 1) := by decide +kernel
theorem dL_law_172 : decode cL_law 172 = .ok (.goto 4, 3) := by decide +kernel
theorem dL_law_175 : decode cL_law 175 = .ok (.iconst 4, 1) := by decide +kernel
theorem dL_law_176 : decode cL_law 176 = .ok (.if_icmp .eq 5, 3) := by decide +kernel
theorem dL_law_179 : decode cL_law 179 = .ok (.iconst 0, 1) := by decide +kernel
theorem dL_law_180 : decode cL_law 180 = .ok (.ireturn, 1) := by decide +kernel
theorem dL_law_181 : decode cL_law 181 = .ok (.aload_n 0, 1) := by decide +kernel
theorem dL_law_182 : decode cL_law 182 = .ok (.iconst 3, 1) := by decide +kernel
theorem dL_law_183 : decode cL_law 183 = .ok (.iload 4, 2) := by decide +kernel
theorem dL_law_185 : decode cL_law 185 = .ok (.imul, 1) := by decide +kernel
theorem dL_law_186 : decode cL_law 186 = .ok (.invokestatic 86, 3) := by decide +kernel
theorem dL_law_189 : decode cL_law 189 = .ok (.iconst 4, 1) := by decide +kernel
theorem dL_law_190 : decode cL_law 190 = .ok (.ishr, 1) := by decide +kernel
theorem dL_law_191 : decode cL_law 191 = .ok (.iconst 1, 1) := by decide +kernel
theorem dL_law_192 : decode cL_law 192 = .ok (.iand, 1) := by decide +kernel
theorem dL_law_193 : decode cL_law 193 = .ok (.ifCond .ne 22, 3) := by decide +kernel
theorem dL_law_196 : decode cL_law 196 = .ok (.aload_n 1, 1) := by decide +kernel
theorem dL_law_197 : decode cL_law 197 = .ok (.iload 5, 2) := by decide +kernel
theorem dL_law_199 : decode cL_law 199 = .ok (.iload 6, 2) := by decide +kernel
theorem dL_law_201 : decode cL_law 201 = .ok (.iload 7, 2) := by decide +kernel
theorem dL_law_203 : decode cL_law 203 = .ok (.iload 12, 2) := by decide +kernel
theorem dL_law_205 : decode cL_law 205 = .ok (.lload 8, 2) := by decide +kernel
theorem dL_law_207 : decode cL_law 207 = .ok (.invokestatic 90, 3) := by decide +kernel
theorem dL_law_210 : decode cL_law 210 = .ok (.ifCond .ne 5, 3) := by decide +kernel
theorem dL_law_213 : decode cL_law 213 = .ok (.iconst 0, 1) := by decide +kernel
theorem dL_law_214 : decode cL_law 214 = .ok (.ireturn, 1) := by decide +kernel
theorem dL_law_215 : decode cL_law 215 = .ok (.aload_n 1, 1) := by decide +kernel
theorem dL_law_216 : decode cL_law 216 = .ok (.iload 5, 2) := by decide +kernel
theorem dL_law_218 : decode cL_law 218 = .ok (.iload 12, 2) := by decide +kernel
theorem dL_law_220 : decode cL_law 220 = .ok (.iload 11, 2) := by decide +kernel
theorem dL_law_222 : decode cL_law 222 = .ok (.iload_n 2, 1) := by decide +kernel
theorem dL_law_223 : decode cL_law 223 = .ok (.invokestatic 94, 3) := by decide +kernel
theorem dL_law_226 : decode cL_law 226 = .ok (.ifCond .eq 24, 3) := by decide +kernel
theorem dL_law_229 : decode cL_law 229 = .ok (.iload 5, 2) := by decide +kernel
theorem dL_law_231 : decode cL_law 231 = .ok (.bipush 11, 2) := by decide +kernel
theorem dL_law_233 : decode cL_law 233 = .ok (.if_icmp .ne 19, 3) := by decide +kernel
theorem dL_law_236 : decode cL_law 236 = .ok (.aload_n 1, 1) := by decide +kernel
theorem dL_law_237 : decode cL_law 237 = .ok (.iload 6, 2) := by decide +kernel
theorem dL_law_239 : decode cL_law 239 = .ok (.bipush 15, 2) := by decide +kernel
theorem dL_law_241 : decode cL_law 241 = .ok (.iand, 1) := by decide +kernel
theorem dL_law_242 : decode cL_law 242 = .ok (.iconst 4, 1) := by decide +kernel
theorem dL_law_243 : decode cL_law 243 = .ok (.invokevirtual 21, 3) := by decide +kernel
theorem dL_law_246 : decode cL_law 246 = .ok (.iconst 1, 1) := by decide +kernel
theorem dL_law_247 : decode cL_law 247 = .ok (.if_icmp .eq 5, 3) := by decide +kernel
theorem dL_law_250 : decode cL_law 250 = .ok (.iconst 0, 1) := by decide +kernel
theorem dL_law_251 : decode cL_law 251 = .ok (.ireturn, 1) := by decide +kernel
theorem dL_law_252 : decode cL_law 252 = .ok (.aload_n 1, 1) := by decide +kernel
theorem dL_law_253 : decode cL_law 253 = .ok (.invokevirtual 9, 3) := by decide +kernel
theorem dL_law_256 : decode cL_law 256 = .ok (.istore 13, 2) := by decide +kernel
theorem dL_law_258 : decode cL_law 258 = .ok (.iload 5, 2) := by decide +kernel
theorem dL_law_260 : decode cL_law 260 = .ok (.bipush 10, 2) := by decide +kernel
theorem dL_law_262 : decode cL_law 262 = .ok (.if_icmp .ne 23, 3) := by decide +kernel
theorem dL_law_265 : decode cL_law 265 = .ok (.aload_n 1, 1) := by decide +kernel
theorem dL_law_266 : decode cL_law 266 = .ok (.invokevirtual 64, 3) := by decide +kernel
theorem dL_law_269 : decode cL_law 269 = .ok (.iload 12, 2) := by decide +kernel
theorem dL_law_271 : decode cL_law 271 = .ok (.if_icmp .ne 12, 3) := by decide +kernel
theorem dL_law_274 : decode cL_law 274 = .ok (.aload_n 1, 1) := by decide +kernel
theorem dL_law_275 : decode cL_law 275 = .ok (.invokevirtual 9, 3) := by decide +kernel
theorem dL_law_278 : decode cL_law 278 = .ok (.iload 13, 2) := by decide +kernel
theorem dL_law_280 : decode cL_law 280 = .ok (.if_icmp .eq 5, 3) := by decide +kernel
theorem dL_law_283 : decode cL_law 283 = .ok (.iconst 0, 1) := by decide +kernel
theorem dL_law_284 : decode cL_law 284 = .ok (.ireturn, 1) := by decide +kernel
theorem dL_law_285 : decode cL_law 285 = .ok (.iinc 4 1, 3) := by decide +kernel
theorem dL_law_288 : decode cL_law 288 = .ok (.goto (-256), 3) := by decide +kernel
theorem dL_law_291 : decode cL_law 291 = .ok (.iconst 1, 1) := by decide +kernel
theorem dL_law_292 : decode cL_law 292 = .ok (.ireturn, 1) := by decide +kernel
end
section
/-! THE TYPED MACHINE, part one: an own judgement over worlds of numbered cells. AW says: from this pc, with these locals, stack and cells, the method goes on to its end with P. -/
abbrev zG : Type := Nat × (Nat → Nat) × va_G × (Nat → ClassId)
def zA (G : zG) (k : Nat) : Nat := if k < 1000000 then G.1 + k else G.2.1 (k - 1000000)
def zV (G : zG) : Value → Value := fun v => match v with
  | .ref k => .ref (zA G k)
  | v => v
def zX (G : zG) : vp_A → vp_A := fun x => match x with
  | (n, .inr (.inr (.inr (.inr f)))) => (n, .inr (.inr (.inr (.inr (fun j => (f j).map (zA G))))))
  | x => x
def zE (G : zG) : va_E → va_E := fun e => match e with
  | .inl (t, x) => .inl (G.2.2.2 t, zX G x)
  | .inr (ci, fs) => .inr (ci, fs.map (zV G))
abbrev zH : Type := Nat → va_E
def zu (h : zH) (a : Nat) (e : va_E) : zH := fun j => if j = a then e else h j
def zWl (G : zG) (n : Nat) (h : zH) : va_W := (List.range n).map fun i => (G.1 + i, zE G (h i))
def lw_ok : List Cond := lw_tbl.filter goodWord
theorem lw_ok_tbl {w : Cond} (h : w ∈ lw_ok) : w ∈ lw_tbl := (List.mem_filter.mp h).1
theorem lw_ok_good {w : Cond} (h : w ∈ lw_ok) : (w.onTables && w.keeps) = true ∨ ∃ ty, w = .arrayClass ty := good_of_word (List.mem_filter.mp h).2
theorem lw_ok_of {w : Cond} (i : Nat) (h : tables_1[i]? = some w) (g : goodWord w = true) : w ∈ lw_ok := List.mem_filter.mpr ⟨List.mem_append_right _ (List.mem_of_getElem? h), g⟩
theorem lw_ok_sel {w : Cond} (i : Nat) (h : (k2_sels lw_privs)[i]? = some w) (g : goodWord w = true) : w ∈ lw_ok := List.mem_filter.mpr ⟨List.mem_append_left _ (List.mem_of_getElem? h), g⟩
def zNl : List (String × Nat × MethodName) := [(RX6, 18, yX3_init), (RX0, 77, yX6_hasBit), (RX0, 81, yX6_isPin), (RX5, 78, yX6_hasBit), (RX2, 36, yX6_hasBit)]
abbrev zM : Type := MethodName × ByteArray × Nat × Option FieldType
def zTy (G : zG) : List (ClassId × FieldType) := [(G.2.2.2 0, .int), (G.2.2.2 1, .char), (G.2.2.2 2, .object RX4), (G.2.2.2 3, .object RX5), (G.2.2.2 4, .array .int)]
theorem zV_cat (G : zG) (v : Value) : (zV G v).category = v.category := by cases v <;> rfl
theorem zV_cats (G : zG) (l : List Value) : ((l.map (zV G)).map fun v => v.category) = l.map fun v => v.category := by
  rw [List.map_map]
  exact List.map_congr_left fun v _ => zV_cat G v
theorem zA_in {G : zG} {a : Nat} (h : a < 1000000) : zA G a = G.1 + a := if_pos h
theorem zWl_get {G : zG} {n i : Nat} {h : zH} (hi : i < n) : (zWl G n h)[i]? = some (G.1 + i, zE G (h i)) := by
  unfold zWl
  rw [List.getElem?_map, List.getElem?_range hi]
  rfl
theorem zWl_len {G : zG} {n : Nat} {h : zH} : (zWl G n h).length = n := by simp [zWl]
theorem zWl_inv {G : zG} {n i : Nat} {h : zH} {q : Nat × va_E} (hq : (zWl G n h)[i]? = some q) : i < n ∧ q = (G.1 + i, zE G (h i)) := by
  have hi : i < n := by
    have := (List.getElem?_eq_some_iff.mp hq).1
    rwa [zWl_len] at this
  rw [zWl_get hi] at hq
  exact ⟨hi, (Option.some.inj hq).symm⟩
theorem zWl_at {G : zG} {n a : Nat} {h : zH} {e : va_E} (hn : n ≤ 1000000) (ha : a < n) (hh : h a = e) : (zWl G n h)[a]? = some (zA G a, zE G e) := by
  rw [zWl_get ha, zA_in (by omega), hh]
theorem zWl_set {G : zG} {n a : Nat} {h : zH} {e : va_E} (hn : n ≤ 1000000) (ha : a < n) : (zWl G n h).set a (zA G a, zE G e) = zWl G n (zu h a e) := by
  apply List.ext_getElem?
  intro j
  rw [zA_in (by omega), List.getElem?_set]
  by_cases hj : j < n
  · rw [zWl_get hj, zWl_len]
    by_cases hja : a = j
    · subst hja
      rw [if_pos rfl, if_pos ha, zWl_get ha]
      simp [zu]
    · rw [if_neg hja, zWl_get hj]
      simp [zu, show ¬ j = a from fun q => hja q.symm]
  · have e1 : (zWl G n h)[j]? = none := List.getElem?_eq_none (by rw [zWl_len]; omega)
    have e2 : (zWl G n (zu h a e))[j]? = none := List.getElem?_eq_none (by rw [zWl_len]; omega)
    rw [e2, if_neg (show ¬ a = j by omega), e1]
theorem zWl_push {G : zG} {n : Nat} {h : zH} {e : va_E} : zWl G n h ++ [(G.1 + n, zE G e)] = zWl G (n + 1) (zu h n e) := by
  unfold zWl
  rw [List.range_succ, List.map_append]
  congr 1
  · apply List.map_congr_left
    intro i hi
    have := List.mem_range.mp hi
    simp [zu, show ¬ i = n by omega]
  · simp [zu]
theorem zWl_D {G : zG} {n : Nat} {h : zH} : va_D (fun q => G.1 ≤ q) (zWl G n h) := by
  refine ⟨fun i j p q hi hj e => ?_, fun k q hk => ?_⟩
  · obtain ⟨h1, rfl⟩ := zWl_inv hi
    obtain ⟨h2, rfl⟩ := zWl_inv hj
    have : G.1 + i = G.1 + j := e
    omega
  · obtain ⟨h1, rfl⟩ := zWl_inv hk
    exact Nat.le_add_right _ _
/-- the cells stand in the heap, and the heap ends with them -/
def zI (G : zG) (n : Nat) (h : zH) (H : Heap) : Prop := H.size = G.1 + n ∧ n ≤ 1000000 ∧ va_P G.2.2.1 vwCl (zWl G n h) H
def zAOA (U : State) : Prop := (Cond.arrayOver (.array .int)).before #[] U = true
theorem zAOA.moved {u U : State} (hvm : u.vm.Alike U.vm) (h : zAOA u) : zAOA U := by
  obtain ⟨comp, c, k, h1, h2, h3, h4, h5⟩ := arrayOverA_spec h
  obtain ⟨k', hk', he⟩ := hvm.2.2 _ _ h3
  have hi : (U.vm.classes.findIdx? fun (x : Class) => match x.kind with | .array component _ => component == comp | _ => false) = some c := by
    rw [hvm.findIdx?_eq _ (fun _ => rfl)]
    exact h2
  have hkind : k'.kind = .array comp (.array .int) := by rw [he]; exact h4
  have f1 : U.vm.findClass (FieldType.array .int).toString = some comp := by rw [hvm.findClass]; exact h1
  have f2 : U.vm.findClass ("[" ++ (FieldType.array .int).toString) = some c := by rw [hvm.findClass]; exact h5
  unfold zAOA Cond.before Cond.holds
  simp only [Cond.value]
  rw [f1, Option.bind_some]
  refine (congrArg (fun o : Option Nat => (o.bind (fun c => (U.vm.classes[c]?).map fun (k : Class) => match k.kind with | .array _ ty => decide (ty = FieldType.array .int) && decide (U.vm.findClass ("[" ++ (FieldType.array .int).toString) = some c) | _ => false) == some true)) hi).trans ?_
  simp [hk', hkind, f2]
/-- the law's script -/
def zScr (G : zG) (U : State) (H : Heap) : Prop := va_X (G.2.1 30) (G.2.1 31) (fun j => nI (G.2.1 (1000 + j))) U H ∧ G.2.1 30 < G.1 ∧ True
/-- what is taken from the tables and from outside: classes, static rows, texts -/
def zS (G : zG) (U : State) (H : Heap) : Prop :=
  va_K G.2.2.1 vwCl (zTy G) U ∧ G.1 ≤ H.size ∧ True ∧ True ∧ True ∧ True ∧
  (∀ q ∈ zNl, va_Nw (.methodLinkNest q.1 q.2.1 q.2.2 RX6) U) ∧ va_AO RX4 U ∧ va_AO RX5 U ∧ zAOA U ∧ zScr G U H
theorem zS.go {G : zG} {s U : State} {H H1 : Heap} (h : zS G s H) (hW : s.WarmedH U.vm) (hz : H.size ≤ H1.size) (hq : ∀ a : Nat, a < H.size → ¬ G.1 ≤ a → H1[a]? = H[a]?) : zS G U H1 := by
  obtain ⟨h1, h2, -, -, -, -, h7, h8, h9, h10, h11, h12, -⟩ := h
  have hv := hW.alike
  exact ⟨va_K.moved hv h1, Nat.le_trans h2 hz, trivial, trivial, trivial, trivial, fun q hq => va_Nw.warmM hW (h7 q hq), h8.moved hv, h9.moved hv, h10.moved hv, (h11.moved hv).kept (hq _ (Nat.lt_of_lt_of_le h12 h2) (Nat.not_le.mpr h12)), h12, trivial⟩
def zQ (G : zG) (N : Nat) (P : Option Value → zH → Prop) : Array Value → State → Outcome → State → Prop := fun _ st oc t =>
  (∃ (r : Option Value) (h' : zH), oc = .returned (r.map (zV G)) ∧ P r h' ∧ zI G N h' t.heap) ∧ va_F (fun q => G.1 ≤ q) st t
/-- a method's contract over cells -/
def zMt (G : zG) (d : Nat) (M : zM) (as : List Value) (n sl : Nat) (h : zH) (N S : Nat) (P : Option Value → zH → Prop) : Prop :=
  n ≤ N ∧ sl ≤ S ∧ ∀ l : Launch, Met l M.1 (.code M.1 M.2.1 M.2.2.1 M.2.2.2 :: lw_ok) { frames := d, cells := N - n, slots := S - sl, locals := 40 * d } (va_Pc (as.map (zV G)) (fun U => zI G n h U.heap ∧ zS G U U.heap)) (zQ G N P) (N - n) (S - sl) (fun q => G.1 ≤ q)
def zL (G : zG) (nL : Nat) (L : List (Option Value)) (ls : Array Slot) : Prop := ls.size = nL ∧ lv_wf ls ∧ ∀ (i : Nat) (v : Value), L[i]? = some (some v) → ls[i]? = some (.val (zV G v))
def zC (G : zG) (M : zM) (p : Program) (s : State) (m : MethodId) (args : Array Value) (meth : Method) (c : Code) : Prop :=
  p.tables.exec = Jvm.exec ∧ c.code = M.2.1 ∧ c.maxLocals = M.2.2.1 ∧ s.vm.findClass M.1.cls = some m.cls ∧ (∀ w ∈ lw_ok, w.before args s = true) ∧ meth.sig.returnType = M.2.2.2 ∧ meth.locks = false ∧ (M.1.name = "<init>" → meth.name = "<init>") ∧ zS G s s.heap
def AW (G : zG) (M : zM) (d N S n0 s0 : Nat) (P : Option Value → zH → Prop) (pc : Nat) (L : List (Option Value)) (st : List Value) (n sl : Nat) (h : zH) : Prop :=
  ∀ (p : Program) (l : Launch) (e : Env) (s : State) (m : MethodId) (args : Array Value) (below : List Frame) (meth : Method) (c : Code) (H : Heap) (locs : List Loc) (ls : Array Slot),
    zC G M p s m args meth c → s.heap.size = G.1 + n0 → zI G n h H → va_S (fun q => G.1 ≤ q) s.heap H locs → zL G M.2.2.1 L ls → (n0 ≤ n ∧ n ≤ N) → (s0 ≤ sl ∧ sl ≤ S) →
    W p l e { frames := d, cells := N - n0, slots := S - s0, locals := 40 * d } s m args below meth c H locs (n - n0) (sl - s0) (MQ below (zQ G N P) args s (N - n0) (S - s0) (fun q => G.1 ≤ q)) (F0 m pc ls (st.map (zV G)))
theorem zL_at {G : zG} {nL i : Nat} {L : List (Option Value)} {ls : Array Slot} {v : Value} (h : zL G nL L ls) (hL : L[i]? = some (some v)) : ls[i]? = some (.val (zV G v)) := h.2.2 i v hL
def zas (G : zG) (L : List (Option Value)) : List (Nat × Value) := (List.range L.length).filterMap fun i => match L[i]? with
  | some (some v) => some (i, zV G v)
  | _ => none
theorem zas_in {G : zG} {L : List (Option Value)} {i : Nat} {v : Value} (h : L[i]? = some (some v)) : (i, zV G v) ∈ zas G L := by
  refine List.mem_filterMap.mpr ⟨i, List.mem_range.mpr (List.getElem?_eq_some_iff.mp h).1, ?_⟩
  simp only [h]
theorem zas_of {G : zG} {L : List (Option Value)} {q : Nat × Value} (h : q ∈ zas G L) : ∃ v, L[q.1]? = some (some v) ∧ q.2 = zV G v := by
  obtain ⟨i, -, hi⟩ := List.mem_filterMap.mp h
  split at hi
  · rename_i v hv
    cases hi
    exact ⟨v, hv, rfl⟩
  · cases hi
theorem zL_has {G : zG} {nL : Nat} {L : List (Option Value)} {ls : Array Slot} (h : zL G nL L ls) : lv_has ls nL (zas G L) := by
  refine ⟨h.1, h.2.1, fun q hq => ?_⟩
  obtain ⟨v, h1, h2⟩ := zas_of hq
  rw [h2]
  exact h.2.2 _ _ h1
def zok (L : List (Option Value)) (i : Nat) : Bool := match i with
  | 0 => true
  | j + 1 => match L[j]? with
    | some (some (.long _)) => false
    | some (some (.double _)) => false
    | _ => true
theorem zok_cat {L : List (Option Value)} {i j : Nat} {v : Value} (h : zok L i = true) (hj : j + 1 = i) (hv : L[j]? = some (some v)) : ¬ v.category = 2 := by
  subst hj
  intro hc
  change (match L[j]? with
    | some (some (.long _)) => false
    | some (some (.double _)) => false
    | _ => true) = true at h
  rw [hv] at h
  cases v <;> simp_all [Value.category]
theorem zL_store1 {G : zG} {nL i : Nat} {L : List (Option Value)} {ls' : Array Slot} {v : Value} (hok : zok L i = true) (h : lv_has ls' nL ((i, zV G v) :: (zas G L).filter (fun q => !(q.1 == i) && !(q.1 + 1 == i && q.2.category == 2)))) : zL G nL (L.set i (some v)) ls' := by
  refine ⟨h.1, h.2.1, fun j w hw => ?_⟩
  rw [List.getElem?_set] at hw
  by_cases hij : i = j
  · subst hij
    rw [if_pos rfl] at hw
    split at hw
    · have : v = w := by simpa using hw
      subst this
      exact h.2.2 _ List.mem_cons_self
    · cases hw
  · rw [if_neg hij] at hw
    refine h.2.2 (j, zV G w) (List.mem_cons_of_mem _ (List.mem_filter.mpr ⟨zas_in hw, ?_⟩))
    have h1 : ¬ j = i := fun q => hij q.symm
    by_cases h2 : j + 1 = i
    · have := zok_cat hok h2 hw
      simp [h1, zV_cat, this]
    · simp [h1, h2]
theorem zL_store2 {G : zG} {nL i : Nat} {L : List (Option Value)} {ls' : Array Slot} {v : Value} (hok : zok L i = true) (h : lv_has ls' nL ((i, zV G v) :: (zas G L).filter (fun q => !(q.1 == i) && (!(q.1 == i + 1) && !(q.1 + 1 == i && q.2.category == 2))))) : zL G nL ((L.set i (some v)).set (i + 1) none) ls' := by
  refine ⟨h.1, h.2.1, fun j w hw => ?_⟩
  rw [List.getElem?_set] at hw
  by_cases hij1 : i + 1 = j
  · subst hij1
    rw [if_pos rfl] at hw
    split at hw
    · simp at hw
    · cases hw
  · rw [if_neg hij1, List.getElem?_set] at hw
    by_cases hij : i = j
    · subst hij
      rw [if_pos rfl] at hw
      split at hw
      · have : v = w := by simpa using hw
        subst this
        exact h.2.2 _ List.mem_cons_self
      · cases hw
    · rw [if_neg hij] at hw
      refine h.2.2 (j, zV G w) (List.mem_cons_of_mem _ (List.mem_filter.mpr ⟨zas_in hw, ?_⟩))
      have h1 : ¬ j = i := fun q => hij q.symm
      have h3 : ¬ j = i + 1 := fun q => hij1 q.symm
      by_cases h2 : j + 1 = i
      · have := zok_cat hok h2 hw
        simp [h1, h3, zV_cat, this]
      · simp [h1, h2, h3]
/-- fewer locals are known -/
def zle : List (Option Value) → List (Option Value) → Prop
  | [], _ => True
  | none :: a, b => zle a b.tail
  | some v :: a, b => b.head? = some (some v) ∧ zle a b.tail
theorem zle_at : ∀ {a b : List (Option Value)}, zle a b → ∀ (i : Nat) (v : Value), a[i]? = some (some v) → b[i]? = some (some v)
  | [], _, _, i, v, h => by simp at h
  | none :: a, b, hl, 0, v, h => by simp at h
  | none :: a, [], hl, i + 1, v, h => by
    have := zle_at (a := a) (b := []) hl i v (by simpa using h)
    simp at this
  | none :: a, y :: b, hl, i + 1, v, h => by
    have := zle_at (a := a) (b := b) hl i v (by simpa using h)
    simpa using this
  | some w :: a, [], hl, i, v, h => by
    have := hl.1
    simp at this
  | some w :: a, y :: b, hl, 0, v, h => by
    have h1 : y = some w := by simpa using hl.1
    have h2 : w = v := by simpa using h
    subst h2; subst h1; rfl
  | some w :: a, y :: b, hl, i + 1, v, h => by
    have := zle_at (a := a) (b := b) hl.2 i v (by simpa using h)
    simpa using this
end
section
section ZR
variable {G : zG} {M : zM} {d N S n0 s0 : Nat} {P : Option Value → zH → Prop} {pc q : Nat} {L L' : List (Option Value)} {st : List Value} {n sl : Nat} {h : zH}
theorem aw_iconst {k : Int} {v : Int32} (hd : decode M.2.1 pc = .ok (.iconst k, 1)) (hq : pc + 1 = q) (hv : Int32.ofInt k = v) (K : AW G M d N S n0 s0 P q L (.int v :: st) n sl h) : AW G M d N S n0 s0 P pc L (st) n sl h := by
  subst hq
  intro p l e s m args below meth c H locs ls C hs hI hS hl hn hsl
  exact lv_iconst C.1 C.2.1 hd hv (K p l e s m args below meth c H locs ls C hs hI hS hl hn hsl)
theorem aw_bipush {k : Int} {v : Int32} (hd : decode M.2.1 pc = .ok (.bipush k, 2)) (hq : pc + 2 = q) (hv : (Int8.ofInt k).toInt32 = v) (K : AW G M d N S n0 s0 P q L (.int v :: st) n sl h) : AW G M d N S n0 s0 P pc L (st) n sl h := by
  subst hq
  intro p l e s m args below meth c H locs ls C hs hI hS hl hn hsl
  exact lv_bipush C.1 C.2.1 hd hv (K p l e s m args below meth c H locs ls C hs hI hS hl hn hsl)
theorem aw_sipush {k : Int} {v : Int32} (hd : decode M.2.1 pc = .ok (.sipush k, 3)) (hq : pc + 3 = q) (hv : (Int16.ofInt k).toInt32 = v) (K : AW G M d N S n0 s0 P q L (.int v :: st) n sl h) : AW G M d N S n0 s0 P pc L (st) n sl h := by
  subst hq
  intro p l e s m args below meth c H locs ls C hs hI hS hl hn hsl
  exact lv_sipush C.1 C.2.1 hd hv (K p l e s m args below meth c H locs ls C hs hI hS hl hn hsl)
theorem aw_lconst {k : Fin 2} {v : Int64} (hd : decode M.2.1 pc = .ok (.lconst k, 1)) (hq : pc + 1 = q) (hv : Int64.ofNat (k : Nat) = v) (K : AW G M d N S n0 s0 P q L (.long v :: st) n sl h) : AW G M d N S n0 s0 P pc L (st) n sl h := by
  subst hq
  intro p l e s m args below meth c H locs ls C hs hI hS hl hn hsl
  exact lv_lconst C.1 C.2.1 hd hv (K p l e s m args below meth c H locs ls C hs hI hS hl hn hsl)
theorem aw_ldc {i : Nat} {v : Int32} (hd : decode M.2.1 pc = .ok (.ldc i, 2)) (hq : pc + 2 = q) (hw : Jvm.Cond.constant M.1.cls i v ∈ lw_ok) (K : AW G M d N S n0 s0 P q L (.int v :: st) n sl h) : AW G M d N S n0 s0 P pc L (st) n sl h := by
  subst hq
  intro p l e s m args below meth c H locs ls C hs hI hS hl hn hsl
  exact lv_ldc C.1 C.2.1 C.2.2.2.1 (C.2.2.2.2.1 _ hw) hd (K p l e s m args below meth c H locs ls C hs hI hS hl hn hsl)
theorem aw_ldcw {i : Nat} {v : Int32} (hd : decode M.2.1 pc = .ok (.ldc_w i, 3)) (hq : pc + 3 = q) (hw : Jvm.Cond.constant M.1.cls i v ∈ lw_ok) (K : AW G M d N S n0 s0 P q L (.int v :: st) n sl h) : AW G M d N S n0 s0 P pc L (st) n sl h := by
  subst hq
  intro p l e s m args below meth c H locs ls C hs hI hS hl hn hsl
  exact lv_ldcw C.1 C.2.1 C.2.2.2.1 (C.2.2.2.2.1 _ hw) hd (K p l e s m args below meth c H locs ls C hs hI hS hl hn hsl)
theorem aw_ldcf {i : Nat} {v : UInt32} (hd : decode M.2.1 pc = .ok (.ldc i, 2)) (hq : pc + 2 = q) (hw : Jvm.Cond.constantFloat M.1.cls i v ∈ lw_ok) (K : AW G M d N S n0 s0 P q L (.float v :: st) n sl h) : AW G M d N S n0 s0 P pc L (st) n sl h := by
  subst hq
  intro p l e s m args below meth c H locs ls C hs hI hS hl hn hsl
  exact lv_ldcf C.1 C.2.1 C.2.2.2.1 (C.2.2.2.2.1 _ hw) hd (K p l e s m args below meth c H locs ls C hs hI hS hl hn hsl)
theorem aw_ldc2 {i : Nat} {v : Int64} (hd : decode M.2.1 pc = .ok (.ldc2_w i, 3)) (hq : pc + 3 = q) (hw : Jvm.Cond.constantLong M.1.cls i v ∈ lw_ok) (K : AW G M d N S n0 s0 P q L (.long v :: st) n sl h) : AW G M d N S n0 s0 P pc L (st) n sl h := by
  subst hq
  intro p l e s m args below meth c H locs ls C hs hI hS hl hn hsl
  exact lv_ldc2 C.1 C.2.1 C.2.2.2.1 (C.2.2.2.2.1 _ hw) hd (K p l e s m args below meth c H locs ls C hs hI hS hl hn hsl)
theorem aw_iload {i : Nat} {x : Int32} (hd : decode M.2.1 pc = .ok (.iload i, 2)) (hq : pc + 2 = q) (hL : L[i]? = some (some (.int x))) (K : AW G M d N S n0 s0 P q L (.int x :: st) n sl h) : AW G M d N S n0 s0 P pc L (st) n sl h := by
  subst hq
  intro p l e s m args below meth c H locs ls C hs hI hS hl hn hsl
  exact lv_iload C.1 C.2.1 hd (zL_at hl hL) (K p l e s m args below meth c H locs ls C hs hI hS hl hn hsl)
theorem aw_iload_n {k : Fin 4} {x : Int32} (hd : decode M.2.1 pc = .ok (.iload_n k, 1)) (hq : pc + 1 = q) (hL : L[(k : Nat)]? = some (some (.int x))) (K : AW G M d N S n0 s0 P q L (.int x :: st) n sl h) : AW G M d N S n0 s0 P pc L (st) n sl h := by
  subst hq
  intro p l e s m args below meth c H locs ls C hs hI hS hl hn hsl
  exact lv_iload_n C.1 C.2.1 hd rfl (zL_at hl hL) (K p l e s m args below meth c H locs ls C hs hI hS hl hn hsl)
theorem aw_lload {i : Nat} {x : Int64} (hd : decode M.2.1 pc = .ok (.lload i, 2)) (hq : pc + 2 = q) (hL : L[i]? = some (some (.long x))) (K : AW G M d N S n0 s0 P q L (.long x :: st) n sl h) : AW G M d N S n0 s0 P pc L (st) n sl h := by
  subst hq
  intro p l e s m args below meth c H locs ls C hs hI hS hl hn hsl
  exact lv_lload C.1 C.2.1 hd (zL_at hl hL) (K p l e s m args below meth c H locs ls C hs hI hS hl hn hsl)
theorem aw_lload_n {k : Fin 4} {x : Int64} (hd : decode M.2.1 pc = .ok (.lload_n k, 1)) (hq : pc + 1 = q) (hL : L[(k : Nat)]? = some (some (.long x))) (K : AW G M d N S n0 s0 P q L (.long x :: st) n sl h) : AW G M d N S n0 s0 P pc L (st) n sl h := by
  subst hq
  intro p l e s m args below meth c H locs ls C hs hI hS hl hn hsl
  exact lv_lload_n C.1 C.2.1 hd rfl (zL_at hl hL) (K p l e s m args below meth c H locs ls C hs hI hS hl hn hsl)
theorem aw_fload {i : Nat} {x : UInt32} (hd : decode M.2.1 pc = .ok (.fload i, 2)) (hq : pc + 2 = q) (hL : L[i]? = some (some (.float x))) (K : AW G M d N S n0 s0 P q L (.float x :: st) n sl h) : AW G M d N S n0 s0 P pc L (st) n sl h := by
  subst hq
  intro p l e s m args below meth c H locs ls C hs hI hS hl hn hsl
  exact lv_fload C.1 C.2.1 hd (zL_at hl hL) (K p l e s m args below meth c H locs ls C hs hI hS hl hn hsl)
theorem aw_fload_n {k : Fin 4} {x : UInt32} (hd : decode M.2.1 pc = .ok (.fload_n k, 1)) (hq : pc + 1 = q) (hL : L[(k : Nat)]? = some (some (.float x))) (K : AW G M d N S n0 s0 P q L (.float x :: st) n sl h) : AW G M d N S n0 s0 P pc L (st) n sl h := by
  subst hq
  intro p l e s m args below meth c H locs ls C hs hI hS hl hn hsl
  exact lv_fload_n C.1 C.2.1 hd rfl (zL_at hl hL) (K p l e s m args below meth c H locs ls C hs hI hS hl hn hsl)
theorem aw_aload {i : Nat} {x : Nat} (hd : decode M.2.1 pc = .ok (.aload i, 2)) (hq : pc + 2 = q) (hL : L[i]? = some (some (.ref x))) (K : AW G M d N S n0 s0 P q L (.ref x :: st) n sl h) : AW G M d N S n0 s0 P pc L (st) n sl h := by
  subst hq
  intro p l e s m args below meth c H locs ls C hs hI hS hl hn hsl
  exact lv_aload C.1 C.2.1 hd (zL_at hl hL) (K p l e s m args below meth c H locs ls C hs hI hS hl hn hsl)
theorem aw_aload_n {k : Fin 4} {x : Nat} (hd : decode M.2.1 pc = .ok (.aload_n k, 1)) (hq : pc + 1 = q) (hL : L[(k : Nat)]? = some (some (.ref x))) (K : AW G M d N S n0 s0 P q L (.ref x :: st) n sl h) : AW G M d N S n0 s0 P pc L (st) n sl h := by
  subst hq
  intro p l e s m args below meth c H locs ls C hs hI hS hl hn hsl
  exact lv_aload_n C.1 C.2.1 hd rfl (zL_at hl hL) (K p l e s m args below meth c H locs ls C hs hI hS hl hn hsl)
theorem aw_istore {i : Nat} {x : Int32} (hd : decode M.2.1 pc = .ok (.istore i, 2)) (hq : pc + 2 = q) (hi : i < M.2.2.1) (hok : zok L i = true) (hL : L.set i (some (.int x)) = L') (K : AW G M d N S n0 s0 P q L' st n sl h) : AW G M d N S n0 s0 P pc L (.int x :: st) n sl h := by
  subst hq
  subst hL
  intro p l e s m args below meth c H locs ls C hs hI hS hl hn hsl
  exact lv_istore C.1 C.2.1 hd (zL_has hl) hi rfl (fun ls' hl' => K p l e s m args below meth c H locs ls' C hs hI hS (zL_store1 (v := .int x) hok hl') hn hsl)
theorem aw_istore_n {k : Fin 4} {x : Int32} (hd : decode M.2.1 pc = .ok (.istore_n k, 1)) (hq : pc + 1 = q) (hi : (k : Nat) < M.2.2.1) (hok : zok L (k : Nat) = true) (hL : L.set (k : Nat) (some (.int x)) = L') (K : AW G M d N S n0 s0 P q L' st n sl h) : AW G M d N S n0 s0 P pc L (.int x :: st) n sl h := by
  subst hq
  subst hL
  intro p l e s m args below meth c H locs ls C hs hI hS hl hn hsl
  exact lv_istore_n C.1 C.2.1 hd rfl (zL_has hl) hi rfl (fun ls' hl' => K p l e s m args below meth c H locs ls' C hs hI hS (zL_store1 (v := .int x) hok hl') hn hsl)
theorem aw_fstore_n {k : Fin 4} {x : UInt32} (hd : decode M.2.1 pc = .ok (.fstore_n k, 1)) (hq : pc + 1 = q) (hi : (k : Nat) < M.2.2.1) (hok : zok L (k : Nat) = true) (hL : L.set (k : Nat) (some (.float x)) = L') (K : AW G M d N S n0 s0 P q L' st n sl h) : AW G M d N S n0 s0 P pc L (.float x :: st) n sl h := by
  subst hq
  subst hL
  intro p l e s m args below meth c H locs ls C hs hI hS hl hn hsl
  exact lv_fstore_n C.1 C.2.1 hd rfl (zL_has hl) hi rfl (fun ls' hl' => K p l e s m args below meth c H locs ls' C hs hI hS (zL_store1 (v := .float x) hok hl') hn hsl)
theorem aw_astore {i : Nat} {x : Nat} (hd : decode M.2.1 pc = .ok (.astore i, 2)) (hq : pc + 2 = q) (hi : i < M.2.2.1) (hok : zok L i = true) (hL : L.set i (some (.ref x)) = L') (K : AW G M d N S n0 s0 P q L' st n sl h) : AW G M d N S n0 s0 P pc L (.ref x :: st) n sl h := by
  subst hq
  subst hL
  intro p l e s m args below meth c H locs ls C hs hI hS hl hn hsl
  exact lv_astore C.1 C.2.1 hd (zL_has hl) hi rfl (fun ls' hl' => K p l e s m args below meth c H locs ls' C hs hI hS (zL_store1 (v := .ref x) hok hl') hn hsl)
theorem aw_astore_n {k : Fin 4} {x : Nat} (hd : decode M.2.1 pc = .ok (.astore_n k, 1)) (hq : pc + 1 = q) (hi : (k : Nat) < M.2.2.1) (hok : zok L (k : Nat) = true) (hL : L.set (k : Nat) (some (.ref x)) = L') (K : AW G M d N S n0 s0 P q L' st n sl h) : AW G M d N S n0 s0 P pc L (.ref x :: st) n sl h := by
  subst hq
  subst hL
  intro p l e s m args below meth c H locs ls C hs hI hS hl hn hsl
  exact lv_astore_n C.1 C.2.1 hd rfl (zL_has hl) hi rfl (fun ls' hl' => K p l e s m args below meth c H locs ls' C hs hI hS (zL_store1 (v := .ref x) hok hl') hn hsl)
theorem aw_lstore {i : Nat} {x : Int64} (hd : decode M.2.1 pc = .ok (.lstore i, 2)) (hq : pc + 2 = q) (hi : i + 1 < M.2.2.1) (hok : zok L i = true) (hL : (L.set i (some (.long x))).set (i + 1) none = L') (K : AW G M d N S n0 s0 P q L' st n sl h) : AW G M d N S n0 s0 P pc L (.long x :: st) n sl h := by
  subst hq
  subst hL
  intro p l e s m args below meth c H locs ls C hs hI hS hl hn hsl
  exact lv_lstore C.1 C.2.1 hd (zL_has hl) hi rfl (fun ls' hl' => K p l e s m args below meth c H locs ls' C hs hI hS (zL_store2 (v := .long x) hok hl') hn hsl)
theorem aw_lstore_n {k : Fin 4} {x : Int64} (hd : decode M.2.1 pc = .ok (.lstore_n k, 1)) (hq : pc + 1 = q) (hi : (k : Nat) + 1 < M.2.2.1) (hok : zok L (k : Nat) = true) (hL : (L.set (k : Nat) (some (.long x))).set ((k : Nat) + 1) none = L') (K : AW G M d N S n0 s0 P q L' st n sl h) : AW G M d N S n0 s0 P pc L (.long x :: st) n sl h := by
  subst hq
  subst hL
  intro p l e s m args below meth c H locs ls C hs hI hS hl hn hsl
  exact lv_lstore_n C.1 C.2.1 hd rfl (zL_has hl) hi rfl (fun ls' hl' => K p l e s m args below meth c H locs ls' C hs hI hS (zL_store2 (v := .long x) hok hl') hn hsl)
theorem aw_iinc {i : Nat} {k : Int} {x v : Int32} (hd : decode M.2.1 pc = .ok (.iinc i k, 3)) (hq : pc + 3 = q) (hx : L[i]? = some (some (.int x))) (hv : x + Int32.ofInt k = v) (hi : i < M.2.2.1) (hok : zok L i = true) (hL : L.set i (some (.int v)) = L') (K : AW G M d N S n0 s0 P q L' st n sl h) : AW G M d N S n0 s0 P pc L st n sl h := by
  subst hq
  subst hL
  intro p l e s m args below meth c H locs ls C hs hI hS hl hn hsl
  obtain ⟨k9, hk9⟩ := List.getElem?_of_mem (zas_in (G := G) hx)
  exact lv_iinc C.1 C.2.1 hd (zL_has hl) hk9 hv hi rfl (fun ls' hl' => K p l e s m args below meth c H locs ls' C hs hI hS (zL_store1 (v := .int v) hok hl') hn hsl)
theorem aw_iadd {x y : Int32} (hd : decode M.2.1 pc = .ok (.iadd, 1)) (hq : pc + 1 = q) (K : AW G M d N S n0 s0 P q L (.int (x + y) :: st) n sl h) : AW G M d N S n0 s0 P pc L (.int y :: .int x :: st) n sl h := by
  subst hq
  intro p l e s m args below meth c H locs ls C hs hI hS hl hn hsl
  exact lv_iadd C.1 C.2.1 hd (K p l e s m args below meth c H locs ls C hs hI hS hl hn hsl)
theorem aw_isub {x y : Int32} (hd : decode M.2.1 pc = .ok (.isub, 1)) (hq : pc + 1 = q) (K : AW G M d N S n0 s0 P q L (.int (x - y) :: st) n sl h) : AW G M d N S n0 s0 P pc L (.int y :: .int x :: st) n sl h := by
  subst hq
  intro p l e s m args below meth c H locs ls C hs hI hS hl hn hsl
  exact lv_isub C.1 C.2.1 hd (K p l e s m args below meth c H locs ls C hs hI hS hl hn hsl)
theorem aw_imul {x y : Int32} (hd : decode M.2.1 pc = .ok (.imul, 1)) (hq : pc + 1 = q) (K : AW G M d N S n0 s0 P q L (.int (x * y) :: st) n sl h) : AW G M d N S n0 s0 P pc L (.int y :: .int x :: st) n sl h := by
  subst hq
  intro p l e s m args below meth c H locs ls C hs hI hS hl hn hsl
  exact lv_imul C.1 C.2.1 hd (K p l e s m args below meth c H locs ls C hs hI hS hl hn hsl)
theorem aw_iand {x y : Int32} (hd : decode M.2.1 pc = .ok (.iand, 1)) (hq : pc + 1 = q) (K : AW G M d N S n0 s0 P q L (.int (x &&& y) :: st) n sl h) : AW G M d N S n0 s0 P pc L (.int y :: .int x :: st) n sl h := by
  subst hq
  intro p l e s m args below meth c H locs ls C hs hI hS hl hn hsl
  exact lv_iand C.1 C.2.1 hd (K p l e s m args below meth c H locs ls C hs hI hS hl hn hsl)
theorem aw_ior {x y : Int32} (hd : decode M.2.1 pc = .ok (.ior, 1)) (hq : pc + 1 = q) (K : AW G M d N S n0 s0 P q L (.int (x ||| y) :: st) n sl h) : AW G M d N S n0 s0 P pc L (.int y :: .int x :: st) n sl h := by
  subst hq
  intro p l e s m args below meth c H locs ls C hs hI hS hl hn hsl
  exact lv_ior C.1 C.2.1 hd (K p l e s m args below meth c H locs ls C hs hI hS hl hn hsl)
theorem aw_ixor {x y : Int32} (hd : decode M.2.1 pc = .ok (.ixor, 1)) (hq : pc + 1 = q) (K : AW G M d N S n0 s0 P q L (.int (x ^^^ y) :: st) n sl h) : AW G M d N S n0 s0 P pc L (.int y :: .int x :: st) n sl h := by
  subst hq
  intro p l e s m args below meth c H locs ls C hs hI hS hl hn hsl
  exact lv_ixor C.1 C.2.1 hd (K p l e s m args below meth c H locs ls C hs hI hS hl hn hsl)
theorem aw_ishl {x y : Int32} (hd : decode M.2.1 pc = .ok (.ishl, 1)) (hq : pc + 1 = q) (K : AW G M d N S n0 s0 P q L (.int (x <<< (y &&& 31)) :: st) n sl h) : AW G M d N S n0 s0 P pc L (.int y :: .int x :: st) n sl h := by
  subst hq
  intro p l e s m args below meth c H locs ls C hs hI hS hl hn hsl
  exact lv_ishl C.1 C.2.1 hd (K p l e s m args below meth c H locs ls C hs hI hS hl hn hsl)
theorem aw_ishr {x y : Int32} (hd : decode M.2.1 pc = .ok (.ishr, 1)) (hq : pc + 1 = q) (K : AW G M d N S n0 s0 P q L (.int (x >>> (y &&& 31)) :: st) n sl h) : AW G M d N S n0 s0 P pc L (.int y :: .int x :: st) n sl h := by
  subst hq
  intro p l e s m args below meth c H locs ls C hs hI hS hl hn hsl
  exact lv_ishr C.1 C.2.1 hd (K p l e s m args below meth c H locs ls C hs hI hS hl hn hsl)
theorem aw_irem {x y : Int32} (hd : decode M.2.1 pc = .ok (.irem, 1)) (hq : pc + 1 = q) (hne : ¬ y = 0) (K : AW G M d N S n0 s0 P q L (.int (x - x / y * y) :: st) n sl h) : AW G M d N S n0 s0 P pc L (.int y :: .int x :: st) n sl h := by
  subst hq
  intro p l e s m args below meth c H locs ls C hs hI hS hl hn hsl
  exact lv_irem C.1 C.2.1 hd hne (K p l e s m args below meth c H locs ls C hs hI hS hl hn hsl)
theorem aw_iushr {x y : Int32} (hd : decode M.2.1 pc = .ok (.iushr, 1)) (hq : pc + 1 = q) (K : AW G M d N S n0 s0 P q L (.int ((x.toUInt32 >>> (y.toUInt32 &&& Int32.toUInt32 31)).toInt32) :: st) n sl h) : AW G M d N S n0 s0 P pc L (.int y :: .int x :: st) n sl h := by
  subst hq
  intro p l e s m args below meth c H locs ls C hs hI hS hl hn hsl
  exact lv_iushr C.1 C.2.1 hd rfl (K p l e s m args below meth c H locs ls C hs hI hS hl hn hsl)
theorem aw_dup {v : Value} (hd : decode M.2.1 pc = .ok (.dup, 1)) (hq : pc + 1 = q) (hv : v.category = 1) (K : AW G M d N S n0 s0 P q L (v :: v :: st) n sl h) : AW G M d N S n0 s0 P pc L (v :: st) n sl h := by
  subst hq
  intro p l e s m args below meth c H locs ls C hs hI hS hl hn hsl
  exact lv_dup C.1 C.2.1 hd ((zV_cat G v).trans hv) (K p l e s m args below meth c H locs ls C hs hI hS hl hn hsl)
theorem aw_dup2 {v w : Value} (hd : decode M.2.1 pc = .ok (.dup2, 1)) (hq : pc + 1 = q) (hv : v.category = 1) (hw : w.category = 1) (K : AW G M d N S n0 s0 P q L (v :: w :: v :: w :: st) n sl h) : AW G M d N S n0 s0 P pc L (v :: w :: st) n sl h := by
  subst hq
  intro p l e s m args below meth c H locs ls C hs hI hS hl hn hsl
  exact lv_dup2_11 C.1 C.2.1 hd ((zV_cat G v).trans hv) ((zV_cat G w).trans hw) (K p l e s m args below meth c H locs ls C hs hI hS hl hn hsl)
theorem aw_pop {v : Value} (hd : decode M.2.1 pc = .ok (.pop, 1)) (hq : pc + 1 = q) (hv : v.category = 1) (K : AW G M d N S n0 s0 P q L (st) n sl h) : AW G M d N S n0 s0 P pc L (v :: st) n sl h := by
  subst hq
  intro p l e s m args below meth c H locs ls C hs hI hS hl hn hsl
  exact lv_pop C.1 C.2.1 hd ((zV_cat G v).trans hv) (K p l e s m args below meth c H locs ls C hs hI hS hl hn hsl)
theorem aw_i2l {x : Int32} (hd : decode M.2.1 pc = .ok (.i2l, 1)) (hq : pc + 1 = q) (K : AW G M d N S n0 s0 P q L (.long x.toInt64 :: st) n sl h) : AW G M d N S n0 s0 P pc L (.int x :: st) n sl h := by
  subst hq
  intro p l e s m args below meth c H locs ls C hs hI hS hl hn hsl
  exact lv_i2l C.1 C.2.1 hd rfl (K p l e s m args below meth c H locs ls C hs hI hS hl hn hsl)
theorem aw_l2i {x : Int64} (hd : decode M.2.1 pc = .ok (.l2i, 1)) (hq : pc + 1 = q) (K : AW G M d N S n0 s0 P q L (.int x.toInt32 :: st) n sl h) : AW G M d N S n0 s0 P pc L (.long x :: st) n sl h := by
  subst hq
  intro p l e s m args below meth c H locs ls C hs hI hS hl hn hsl
  exact lv_l2i C.1 C.2.1 hd rfl (K p l e s m args below meth c H locs ls C hs hI hS hl hn hsl)
theorem aw_i2c {x : Int32} (hd : decode M.2.1 pc = .ok (.i2c, 1)) (hq : pc + 1 = q) (K : AW G M d N S n0 s0 P q L (.int (x.toUInt32 % 65536).toInt32 :: st) n sl h) : AW G M d N S n0 s0 P pc L (.int x :: st) n sl h := by
  subst hq
  intro p l e s m args below meth c H locs ls C hs hI hS hl hn hsl
  exact lv_i2c C.1 C.2.1 hd rfl (K p l e s m args below meth c H locs ls C hs hI hS hl hn hsl)
theorem aw_i2f {x : Int32} (hd : decode M.2.1 pc = .ok (.i2f, 1)) (hq : pc + 1 = q) (K : AW G M d N S n0 s0 P q L (.float (FP.i2f x) :: st) n sl h) : AW G M d N S n0 s0 P pc L (.int x :: st) n sl h := by
  subst hq
  intro p l e s m args below meth c H locs ls C hs hI hS hl hn hsl
  exact lv_i2f C.1 C.2.1 hd (K p l e s m args below meth c H locs ls C hs hI hS hl hn hsl)
theorem aw_f2i {x : UInt32} (hd : decode M.2.1 pc = .ok (.f2i, 1)) (hq : pc + 1 = q) (K : AW G M d N S n0 s0 P q L (.int (FP.f2i x) :: st) n sl h) : AW G M d N S n0 s0 P pc L (.float x :: st) n sl h := by
  subst hq
  intro p l e s m args below meth c H locs ls C hs hI hS hl hn hsl
  exact lv_f2i C.1 C.2.1 hd (K p l e s m args below meth c H locs ls C hs hI hS hl hn hsl)
theorem aw_lmul {x y : Int64} (hd : decode M.2.1 pc = .ok (.lmul, 1)) (hq : pc + 1 = q) (K : AW G M d N S n0 s0 P q L (.long (x * y) :: st) n sl h) : AW G M d N S n0 s0 P pc L (.long y :: .long x :: st) n sl h := by
  subst hq
  intro p l e s m args below meth c H locs ls C hs hI hS hl hn hsl
  exact lv_lmul C.1 C.2.1 hd (K p l e s m args below meth c H locs ls C hs hI hS hl hn hsl)
theorem aw_ladd {x y : Int64} (hd : decode M.2.1 pc = .ok (.ladd, 1)) (hq : pc + 1 = q) (K : AW G M d N S n0 s0 P q L (.long (x + y) :: st) n sl h) : AW G M d N S n0 s0 P pc L (.long y :: .long x :: st) n sl h := by
  subst hq
  intro p l e s m args below meth c H locs ls C hs hI hS hl hn hsl
  exact lv_ladd C.1 C.2.1 hd (K p l e s m args below meth c H locs ls C hs hI hS hl hn hsl)
theorem aw_lsub {x y : Int64} (hd : decode M.2.1 pc = .ok (.lsub, 1)) (hq : pc + 1 = q) (K : AW G M d N S n0 s0 P q L (.long (x - y) :: st) n sl h) : AW G M d N S n0 s0 P pc L (.long y :: .long x :: st) n sl h := by
  subst hq
  intro p l e s m args below meth c H locs ls C hs hI hS hl hn hsl
  exact lv_lsub C.1 C.2.1 hd (K p l e s m args below meth c H locs ls C hs hI hS hl hn hsl)
theorem aw_ldiv {x y : Int64} (hd : decode M.2.1 pc = .ok (.ldiv, 1)) (hq : pc + 1 = q) (hne : ¬ y = 0) (K : AW G M d N S n0 s0 P q L (.long (x / y) :: st) n sl h) : AW G M d N S n0 s0 P pc L (.long y :: .long x :: st) n sl h := by
  subst hq
  intro p l e s m args below meth c H locs ls C hs hI hS hl hn hsl
  exact lv_ldiv C.1 C.2.1 hd hne (K p l e s m args below meth c H locs ls C hs hI hS hl hn hsl)
theorem aw_lrem {x y : Int64} (hd : decode M.2.1 pc = .ok (.lrem, 1)) (hq : pc + 1 = q) (hne : ¬ y = 0) (K : AW G M d N S n0 s0 P q L (.long (x - x / y * y) :: st) n sl h) : AW G M d N S n0 s0 P pc L (.long y :: .long x :: st) n sl h := by
  subst hq
  intro p l e s m args below meth c H locs ls C hs hI hS hl hn hsl
  exact lv_lrem C.1 C.2.1 hd hne (K p l e s m args below meth c H locs ls C hs hI hS hl hn hsl)
theorem aw_lcmp {x y : Int64} (hd : decode M.2.1 pc = .ok (.lcmp, 1)) (hq : pc + 1 = q) (K : AW G M d N S n0 s0 P q L (.int (lg_cmp x y) :: st) n sl h) : AW G M d N S n0 s0 P pc L (.long y :: .long x :: st) n sl h := by
  subst hq
  intro p l e s m args below meth c H locs ls C hs hI hS hl hn hsl
  exact W.lcmp C.1 C.2.1 hd (K p l e s m args below meth c H locs ls C hs hI hS hl hn hsl)
theorem aw_fmul {x y : UInt32} (hd : decode M.2.1 pc = .ok (.fmul, 1)) (hq : pc + 1 = q) (hne : vf_n32 (FP.fmul x y)) (K : AW G M d N S n0 s0 P q L (.float (FP.fmul x y) :: st) n sl h) : AW G M d N S n0 s0 P pc L (.float y :: .float x :: st) n sl h := by
  subst hq
  intro p l e s m args below meth c H locs ls C hs hI hS hl hn hsl
  exact lv_fmul C.1 C.2.1 hd hne (K p l e s m args below meth c H locs ls C hs hI hS hl hn hsl)
theorem aw_fdiv {x y : UInt32} (hd : decode M.2.1 pc = .ok (.fdiv, 1)) (hq : pc + 1 = q) (hne : vf_n32 (FP.fdiv x y)) (K : AW G M d N S n0 s0 P q L (.float (FP.fdiv x y) :: st) n sl h) : AW G M d N S n0 s0 P pc L (.float y :: .float x :: st) n sl h := by
  subst hq
  intro p l e s m args below meth c H locs ls C hs hI hS hl hn hsl
  exact lv_fdiv C.1 C.2.1 hd hne (K p l e s m args below meth c H locs ls C hs hI hS hl hn hsl)
theorem aw_fsub {x y : UInt32} (hd : decode M.2.1 pc = .ok (.fsub, 1)) (hq : pc + 1 = q) (hne : vf_n32 (FP.fsub x y)) (K : AW G M d N S n0 s0 P q L (.float (FP.fsub x y) :: st) n sl h) : AW G M d N S n0 s0 P pc L (.float y :: .float x :: st) n sl h := by
  subst hq
  intro p l e s m args below meth c H locs ls C hs hI hS hl hn hsl
  exact lv_fsub C.1 C.2.1 hd hne (K p l e s m args below meth c H locs ls C hs hI hS hl hn hsl)
theorem aw_fcmp {x y : UInt32} {op : CmpOp} (hd : decode M.2.1 pc = .ok (.fcmp op, 1)) (hq : pc + 1 = q) (K : AW G M d N S n0 s0 P q L (.int (Op.cmpValue (FP.fcmp x y) op) :: st) n sl h) : AW G M d N S n0 s0 P pc L (.float y :: .float x :: st) n sl h := by
  subst hq
  intro p l e s m args below meth c H locs ls C hs hI hS hl hn hsl
  exact lv_fcmp C.1 C.2.1 hd (K p l e s m args below meth c H locs ls C hs hI hS hl hn hsl)
theorem aw_if_eq {x : Int32} {off : Int} {t : Nat} (hd : decode M.2.1 pc = .ok (.ifCond .eq off, 3)) (hq : pc + 3 = q) (ht : (pc : Int) + off = (t : Int)) (K1 : x = 0 → AW G M d N S n0 s0 P t L st n sl h) (K2 : ¬ (x = 0) → AW G M d N S n0 s0 P q L st n sl h) : AW G M d N S n0 s0 P pc L (.int x :: st) n sl h := by
  subst hq
  intro p l e s m args below meth c H locs ls C hs hI hS hl hn hsl
  exact lv_if_eq C.1 C.2.1 hd ht (fun z => K1 z p l e s m args below meth c H locs ls C hs hI hS hl hn hsl) (fun z => K2 z p l e s m args below meth c H locs ls C hs hI hS hl hn hsl)
theorem aw_icmp_eq {x y : Int32} {off : Int} {t : Nat} (hd : decode M.2.1 pc = .ok (.if_icmp .eq off, 3)) (hq : pc + 3 = q) (ht : (pc : Int) + off = (t : Int)) (K1 : x = y → AW G M d N S n0 s0 P t L st n sl h) (K2 : ¬ (x = y) → AW G M d N S n0 s0 P q L st n sl h) : AW G M d N S n0 s0 P pc L (.int y :: .int x :: st) n sl h := by
  subst hq
  intro p l e s m args below meth c H locs ls C hs hI hS hl hn hsl
  exact lv_icmp_eq C.1 C.2.1 hd ht (fun z => K1 z p l e s m args below meth c H locs ls C hs hI hS hl hn hsl) (fun z => K2 z p l e s m args below meth c H locs ls C hs hI hS hl hn hsl)
theorem aw_if_ne {x : Int32} {off : Int} {t : Nat} (hd : decode M.2.1 pc = .ok (.ifCond .ne off, 3)) (hq : pc + 3 = q) (ht : (pc : Int) + off = (t : Int)) (K1 : ¬ x = 0 → AW G M d N S n0 s0 P t L st n sl h) (K2 : ¬ (¬ x = 0) → AW G M d N S n0 s0 P q L st n sl h) : AW G M d N S n0 s0 P pc L (.int x :: st) n sl h := by
  subst hq
  intro p l e s m args below meth c H locs ls C hs hI hS hl hn hsl
  exact lv_if_ne C.1 C.2.1 hd ht (fun z => K1 z p l e s m args below meth c H locs ls C hs hI hS hl hn hsl) (fun z => K2 (fun z9 => z9 z) p l e s m args below meth c H locs ls C hs hI hS hl hn hsl)
theorem aw_icmp_ne {x y : Int32} {off : Int} {t : Nat} (hd : decode M.2.1 pc = .ok (.if_icmp .ne off, 3)) (hq : pc + 3 = q) (ht : (pc : Int) + off = (t : Int)) (K1 : ¬ x = y → AW G M d N S n0 s0 P t L st n sl h) (K2 : ¬ (¬ x = y) → AW G M d N S n0 s0 P q L st n sl h) : AW G M d N S n0 s0 P pc L (.int y :: .int x :: st) n sl h := by
  subst hq
  intro p l e s m args below meth c H locs ls C hs hI hS hl hn hsl
  exact lv_icmp_ne C.1 C.2.1 hd ht (fun z => K1 z p l e s m args below meth c H locs ls C hs hI hS hl hn hsl) (fun z => K2 (fun z9 => z9 z) p l e s m args below meth c H locs ls C hs hI hS hl hn hsl)
theorem aw_if_lt {x : Int32} {off : Int} {t : Nat} (hd : decode M.2.1 pc = .ok (.ifCond .lt off, 3)) (hq : pc + 3 = q) (ht : (pc : Int) + off = (t : Int)) (K1 : x < 0 → AW G M d N S n0 s0 P t L st n sl h) (K2 : ¬ (x < 0) → AW G M d N S n0 s0 P q L st n sl h) : AW G M d N S n0 s0 P pc L (.int x :: st) n sl h := by
  subst hq
  intro p l e s m args below meth c H locs ls C hs hI hS hl hn hsl
  exact lv_if_lt C.1 C.2.1 hd ht (fun z => K1 z p l e s m args below meth c H locs ls C hs hI hS hl hn hsl) (fun z => K2 z p l e s m args below meth c H locs ls C hs hI hS hl hn hsl)
theorem aw_icmp_lt {x y : Int32} {off : Int} {t : Nat} (hd : decode M.2.1 pc = .ok (.if_icmp .lt off, 3)) (hq : pc + 3 = q) (ht : (pc : Int) + off = (t : Int)) (K1 : x < y → AW G M d N S n0 s0 P t L st n sl h) (K2 : ¬ (x < y) → AW G M d N S n0 s0 P q L st n sl h) : AW G M d N S n0 s0 P pc L (.int y :: .int x :: st) n sl h := by
  subst hq
  intro p l e s m args below meth c H locs ls C hs hI hS hl hn hsl
  exact lv_icmp_lt C.1 C.2.1 hd ht (fun z => K1 z p l e s m args below meth c H locs ls C hs hI hS hl hn hsl) (fun z => K2 z p l e s m args below meth c H locs ls C hs hI hS hl hn hsl)
theorem aw_if_ge {x : Int32} {off : Int} {t : Nat} (hd : decode M.2.1 pc = .ok (.ifCond .ge off, 3)) (hq : pc + 3 = q) (ht : (pc : Int) + off = (t : Int)) (K1 : 0 ≤ x → AW G M d N S n0 s0 P t L st n sl h) (K2 : ¬ (0 ≤ x) → AW G M d N S n0 s0 P q L st n sl h) : AW G M d N S n0 s0 P pc L (.int x :: st) n sl h := by
  subst hq
  intro p l e s m args below meth c H locs ls C hs hI hS hl hn hsl
  exact lv_if_ge C.1 C.2.1 hd ht (fun z => K1 z p l e s m args below meth c H locs ls C hs hI hS hl hn hsl) (fun z => K2 z p l e s m args below meth c H locs ls C hs hI hS hl hn hsl)
theorem aw_icmp_ge {x y : Int32} {off : Int} {t : Nat} (hd : decode M.2.1 pc = .ok (.if_icmp .ge off, 3)) (hq : pc + 3 = q) (ht : (pc : Int) + off = (t : Int)) (K1 : y ≤ x → AW G M d N S n0 s0 P t L st n sl h) (K2 : ¬ (y ≤ x) → AW G M d N S n0 s0 P q L st n sl h) : AW G M d N S n0 s0 P pc L (.int y :: .int x :: st) n sl h := by
  subst hq
  intro p l e s m args below meth c H locs ls C hs hI hS hl hn hsl
  exact lv_icmp_ge C.1 C.2.1 hd ht (fun z => K1 z p l e s m args below meth c H locs ls C hs hI hS hl hn hsl) (fun z => K2 z p l e s m args below meth c H locs ls C hs hI hS hl hn hsl)
theorem aw_if_gt {x : Int32} {off : Int} {t : Nat} (hd : decode M.2.1 pc = .ok (.ifCond .gt off, 3)) (hq : pc + 3 = q) (ht : (pc : Int) + off = (t : Int)) (K1 : 0 < x → AW G M d N S n0 s0 P t L st n sl h) (K2 : ¬ (0 < x) → AW G M d N S n0 s0 P q L st n sl h) : AW G M d N S n0 s0 P pc L (.int x :: st) n sl h := by
  subst hq
  intro p l e s m args below meth c H locs ls C hs hI hS hl hn hsl
  exact lv_if_gt C.1 C.2.1 hd ht (fun z => K1 z p l e s m args below meth c H locs ls C hs hI hS hl hn hsl) (fun z => K2 z p l e s m args below meth c H locs ls C hs hI hS hl hn hsl)
theorem aw_icmp_gt {x y : Int32} {off : Int} {t : Nat} (hd : decode M.2.1 pc = .ok (.if_icmp .gt off, 3)) (hq : pc + 3 = q) (ht : (pc : Int) + off = (t : Int)) (K1 : y < x → AW G M d N S n0 s0 P t L st n sl h) (K2 : ¬ (y < x) → AW G M d N S n0 s0 P q L st n sl h) : AW G M d N S n0 s0 P pc L (.int y :: .int x :: st) n sl h := by
  subst hq
  intro p l e s m args below meth c H locs ls C hs hI hS hl hn hsl
  exact lv_icmp_gt C.1 C.2.1 hd ht (fun z => K1 z p l e s m args below meth c H locs ls C hs hI hS hl hn hsl) (fun z => K2 z p l e s m args below meth c H locs ls C hs hI hS hl hn hsl)
theorem aw_if_le {x : Int32} {off : Int} {t : Nat} (hd : decode M.2.1 pc = .ok (.ifCond .le off, 3)) (hq : pc + 3 = q) (ht : (pc : Int) + off = (t : Int)) (K1 : x ≤ 0 → AW G M d N S n0 s0 P t L st n sl h) (K2 : ¬ (x ≤ 0) → AW G M d N S n0 s0 P q L st n sl h) : AW G M d N S n0 s0 P pc L (.int x :: st) n sl h := by
  subst hq
  intro p l e s m args below meth c H locs ls C hs hI hS hl hn hsl
  exact lv_if_le C.1 C.2.1 hd ht (fun z => K1 z p l e s m args below meth c H locs ls C hs hI hS hl hn hsl) (fun z => K2 z p l e s m args below meth c H locs ls C hs hI hS hl hn hsl)
theorem aw_icmp_le {x y : Int32} {off : Int} {t : Nat} (hd : decode M.2.1 pc = .ok (.if_icmp .le off, 3)) (hq : pc + 3 = q) (ht : (pc : Int) + off = (t : Int)) (K1 : x ≤ y → AW G M d N S n0 s0 P t L st n sl h) (K2 : ¬ (x ≤ y) → AW G M d N S n0 s0 P q L st n sl h) : AW G M d N S n0 s0 P pc L (.int y :: .int x :: st) n sl h := by
  subst hq
  intro p l e s m args below meth c H locs ls C hs hI hS hl hn hsl
  exact lv_icmp_le C.1 C.2.1 hd ht (fun z => K1 z p l e s m args below meth c H locs ls C hs hI hS hl hn hsl) (fun z => K2 z p l e s m args below meth c H locs ls C hs hI hS hl hn hsl)
/-- a truth value on the stack -/
def zb (b : Bool) : Int32 := bif b then 1 else 0
theorem zb_0 {b : Bool} : zb b = 0 ↔ b = false := by cases b <;> simp [zb]
theorem aw_ifeqB {b : Bool} {off : Int} {t : Nat} (hd : decode M.2.1 pc = .ok (.ifCond .eq off, 3)) (hq : pc + 3 = q) (ht : (pc : Int) + off = (t : Int)) (K1 : b = true → AW G M d N S n0 s0 P q L st n sl h) (K2 : ¬ (b = true) → AW G M d N S n0 s0 P t L st n sl h) : AW G M d N S n0 s0 P pc L (.int (zb b) :: st) n sl h :=
  aw_if_eq hd hq ht (fun z => K2 (by simp [zb_0.mp z])) (fun z => K1 (by cases b <;> simp_all [zb]))
theorem aw_ifneB {b : Bool} {off : Int} {t : Nat} (hd : decode M.2.1 pc = .ok (.ifCond .ne off, 3)) (hq : pc + 3 = q) (ht : (pc : Int) + off = (t : Int)) (K1 : b = true → AW G M d N S n0 s0 P t L st n sl h) (K2 : ¬ (b = true) → AW G M d N S n0 s0 P q L st n sl h) : AW G M d N S n0 s0 P pc L (.int (zb b) :: st) n sl h :=
  aw_if_ne hd hq ht (fun z => K1 (by cases b <;> simp_all [zb])) (fun z => K2 (by cases b <;> simp_all [zb]))
theorem aw_goto {off : Int} (hd : decode M.2.1 pc = .ok (.goto off, 3)) (ht : (pc : Int) + off = (q : Int)) (K : AW G M d N S n0 s0 P q L st n sl h) : AW G M d N S n0 s0 P pc L st n sl h := by
  intro p l e s m args below meth c H locs ls C hs hI hS hl hn hsl
  exact lv_goto C.1 C.2.1 hd ht (K p l e s m args below meth c H locs ls C hs hI hS hl hn hsl)
theorem aw_tabOut {dflt lo hi : Int} {offs : Array Int} {len : Nat} {x : Int32} (hd : decode M.2.1 pc = .ok (.tableswitch dflt lo hi offs, len)) (hx : x.toInt < lo ∨ hi < x.toInt) (ht : (pc : Int) + dflt = (q : Int)) (K : AW G M d N S n0 s0 P q L st n sl h) : AW G M d N S n0 s0 P pc L (.int x :: st) n sl h := by
  intro p l e s m args below meth c H locs ls C hs hI hS hl hn hsl
  exact lv_tableOut C.1 C.2.1 hd hx ht (K p l e s m args below meth c H locs ls C hs hI hS hl hn hsl)
theorem aw_tabIn {dflt lo hi : Int} {offs : Array Int} {len : Nat} {x : Int32} {off : Int} (hd : decode M.2.1 pc = .ok (.tableswitch dflt lo hi offs, len)) (h1 : ¬ x.toInt < lo) (h2 : ¬ hi < x.toInt) (ho : offs[(x.toInt - lo).toNat]? = some off) (ht : (pc : Int) + off = (q : Int)) (K : AW G M d N S n0 s0 P q L st n sl h) : AW G M d N S n0 s0 P pc L (.int x :: st) n sl h := by
  intro p l e s m args below meth c H locs ls C hs hI hS hl hn hsl
  exact lv_tableIn C.1 C.2.1 hd h1 h2 ho ht (K p l e s m args below meth c H locs ls C hs hI hS hl hn hsl)
/-- fewer locals, another name of a state -/
theorem aw_fewer (hz : zle L' L) (K : AW G M d N S n0 s0 P pc L' st n sl h) : AW G M d N S n0 s0 P pc L st n sl h := by
  intro p l e s m args below meth c H locs ls C hs hI hS hl hn hsl
  exact K p l e s m args below meth c H locs ls C hs hI hS ⟨hl.1, hl.2.1, fun i v hv => hl.2.2 i v (zle_at hz i v hv)⟩ hn hsl
/-- a field, as a pool's entry names it: class and slot, and the tables' words of it -/
def zF (own : String) (idx ci k : Nat) (fin : Bool) (ft : FieldType) : Prop := ∃ (C : String) (T : u_T) (N : Nat) (ty : Nat → FieldType), vwCl[ci]? = some (C, T, N) ∧ k < N ∧ Cond.fieldLink own idx (T k).1 (T k).2.1 (T k).2.2.1 ∈ lw_ok ∧ (∀ w ∈ u_ws C T N, w ∈ lw_ok) ∧ (∀ k, k < N → parseFieldDescriptor (T k).2.2.1 = some (ty k)) ∧ (∀ a, a < N → ∀ b, b < N → a ≠ b → (T a).2.1 ≠ (T b).2.1) ∧ (T k).2.2.2 = fin ∧ parseFieldDescriptor (T k).2.2.1 = some ft ∧ (fin = true → (T k).1 = own)
theorem aw_getf {idx ci k a : Nat} {fin : Bool} {ft : FieldType} {fs : List Value} {v : Value} (hd : decode M.2.1 pc = .ok (.getfield idx, 3)) (hq : pc + 3 = q) (hf : zF M.1.cls idx ci k fin ft) (ha : a < n) (hh : h a = .inr (ci, fs)) (hv : fs[k]? = some v) (K : AW G M d N S n0 s0 P q L (v :: st) n sl h) : AW G M d N S n0 s0 P pc L (.ref a :: st) n sl h := by
  subst hq
  intro p l e s m args below meth c H locs ls C hs hI hS hl hn hsl
  obtain ⟨Cn, T, N9, ty, hc, hk, hlink, hin, -⟩ := hf
  refine va_get (v := zV G v) C.1 C.2.1 C.2.2.2.2.1 hin C.2.2.2.1 C.2.2.2.2.2.2.2.2.1 hI.2.2 a (zWl_at hI.2.1 ha hh) hc k hk (C.2.2.2.2.1 _ hlink) (fun _ h9 => h9) ?_ hd (K p l e s m args below meth c H locs ls C hs hI hS hl hn hsl)
  rw [List.getElem?_map, hv]
  rfl
end ZR
end
section
section ZW
variable {p : Program} {l : Launch} {e : Env} {R : Room} {s : State} {m : MethodId} {args : Array Value} {below : List Frame} {meth : Method} {c : Code} {H : Heap} {locs : List Loc} {cells slots : Nat} {Q : State → Prop}
theorem w_size {g : JFrame} (k : H.size ≤ s.heap.size + cells → W p l e R s m args below meth c H locs cells slots Q g) : W p l e R s m args below meth c H locs cells slots Q g := by
  intro T hT X
  exact k (by rw [← hT]; exact X.heapSize) T hT X
theorem zI_of {G : zG} {n n0 a : Nat} {h : zH} (hs : s.heap.size = G.1 + n0) (hn0 : n0 ≤ n) (hn : n ≤ 1000000) (ha : a < n) (hP : va_P G.2.2.1 vwCl (zWl G n h) H) (hz : H.size ≤ s.heap.size + (n - n0)) : zI G n h H := by
  refine ⟨?_, hn, hP⟩
  have := (hP (n - 1) _ (zWl_get (show n - 1 < n by omega))).lt
  have h2 : G.1 + (n - 1) < H.size := this
  omega
/-- behind a call: the callee's answer and cells -/
theorem zrun {G : zG} {N' : Nat} {P' : Option Value → zH → Prop} {pc : Nat} {ls : Array Slot} {rest st0 : List Value} {a : Array Value} {mc ms : Nat}
    (hr : va_Run p l e R s m args below meth c H locs cells slots mc ms (F0 m pc ls st0) rest (zQ G N' P' a) (fun q => G.1 ≤ q)) (hS : va_S (fun q => G.1 ≤ q) s.heap H locs)
    (kk : ∀ (r : Option Value) (h' : zH) (H1 : Heap) (locs1 : List Loc), P' r h' → zI G N' h' H1 → va_S (fun q => G.1 ≤ q) s.heap H1 locs1 → W p l e R s m args below meth c H1 locs1 (cells + mc) (slots + ms) Q (F0 m (pc + 3) ls ((r.map (zV G)).toList ++ rest))) : W p l e R s m args below meth c H locs cells slots Q (F0 m pc ls st0) := by
  intro T hT X
  obtain ⟨v, st₀, t, T', L, h0, X', hL, e1, e2, ⟨⟨r, h', hv, hp, hI⟩, hz, hk⟩, st⟩ := hr T hT X
  cases hv
  rw [h0] at hz hk
  obtain ⟨t2, a1, b1⟩ := kk r h' T'.heap (locs ++ L) hp (by rw [e1]; exact hI) ⟨Nat.le_trans hS.1 (by rw [e1]; exact hz), fun q h1 h2 => by rw [e1, hk q (Nat.lt_of_lt_of_le h1 hS.1) h2]; exact hS.2.1 q h1 h2, fun q hq => by
      rcases List.mem_append.mp hq with h | h
      · exact hS.2.2 q h
      · exact hL q h⟩ T' rfl X'
  exact ⟨t2, st t2 a1, b1⟩
end ZW
section ZR2
variable {G : zG} {M : zM} {d N S n0 s0 : Nat} {P : Option Value → zH → Prop} {pc q : Nat} {L L' : List (Option Value)} {st stk : List Value} {n sl : Nat} {h h' : zH}
theorem aw_put {idx ci k a : Nat} {ft : FieldType} {fs : List Value} {v : Value} (hd : decode M.2.1 pc = .ok (.putfield idx, 3)) (hq : pc + 3 = q) (hf : zF M.1.cls idx ci k false ft) (ha : a < n) (hh : h a = .inr (ci, fs)) (hn9 : narrow ft (zV G v) = zV G v) (hfit : fits ft (zV G v) = true) (hk9 : k < fs.length) (hH : zu h a (.inr (ci, fs.set k v)) = h') (K : AW G M d N S n0 s0 P q L st n sl h') : AW G M d N S n0 s0 P pc L (v :: .ref a :: st) n sl h := by
  subst hq
  subst hH
  intro p l e s m args below meth c H locs ls C hs hI hS hl hn hsl
  obtain ⟨Cn, T, N9, ty, hc, hk, hlink, hin, hty, hnm, hfin, hdsc, -⟩ := hf
  refine va_put (v := zV G v) C.1 C.2.1 C.2.2.2.2.1 hin ty hty hnm C.2.2.2.1 C.2.2.2.2.2.2.2.2.1 hI.2.2 zWl_D hS a (zWl_at hI.2.1 ha hh) hc k hk (C.2.2.2.2.1 _ hlink) (fun _ h9 => h9) hfin hdsc hn9 hfit (by rw [List.length_map]; exact hk9) hd (fun H1 locs1 hP hD hS1 => w_size fun hz => ?_)
  have e1 : (fs.map (zV G)).set k (zV G v) = (fs.set k v).map (zV G) := List.map_set.symm
  have hP : va_P G.2.2.1 vwCl (zWl G n (zu h a (.inr (ci, fs.set k v)))) H1 := by
    rw [← zWl_set hI.2.1 ha]
    rw [e1] at hP
    exact hP
  exact K p l e s m args below meth c H1 locs1 ls C hs (zI_of hs hn.1 hI.2.1 ha hP hz) hS1 hl hn hsl
theorem aw_putF {idx ci k a : Nat} {ft : FieldType} {fs : List Value} {v : Value} (hd : decode M.2.1 pc = .ok (.putfield idx, 3)) (hq : pc + 3 = q) (hf : zF M.1.cls idx ci k true ft) (hini : M.1.name = "<init>") (ha : a < n) (hh : h a = .inr (ci, fs)) (hn9 : narrow ft (zV G v) = zV G v) (hfit : fits ft (zV G v) = true) (hk9 : k < fs.length) (hH : zu h a (.inr (ci, fs.set k v)) = h') (K : AW G M d N S n0 s0 P q L st n sl h') : AW G M d N S n0 s0 P pc L (v :: .ref a :: st) n sl h := by
  subst hq
  subst hH
  intro p l e s m args below meth c H locs ls C hs hI hS hl hn hsl
  obtain ⟨Cn, T, N9, ty, hc, hk, hlink, hin, hty, hnm, hfin, hdsc, hown⟩ := hf
  refine va_putF (v := zV G v) C.1 C.2.1 C.2.2.2.2.1 hin ty hty hnm C.2.2.2.1 C.2.2.2.2.2.2.2.2.1 hI.2.2 zWl_D hS a (zWl_at hI.2.1 ha hh) hc k hk (C.2.2.2.2.1 _ hlink) (fun _ h9 => h9) hfin (C.2.2.2.2.2.2.2.1 hini) (hown rfl) hdsc hn9 hfit (by rw [List.length_map]; exact hk9) hd (fun H1 locs1 hP hD hS1 => w_size fun hz => ?_)
  have e1 : (fs.map (zV G)).set k (zV G v) = (fs.set k v).map (zV G) := List.map_set.symm
  have hP : va_P G.2.2.1 vwCl (zWl G n (zu h a (.inr (ci, fs.set k v)))) H1 := by
    rw [← zWl_set hI.2.1 ha]
    rw [e1] at hP
    exact hP
  exact K p l e s m args below meth c H1 locs1 ls C hs (zI_of hs hn.1 hI.2.1 ha hP hz) hS1 hl hn hsl
theorem aw_iald {a len : Nat} {f : Nat → Int32} {i : Int32} (hd : decode M.2.1 pc = .ok (.iaload, 1)) (hq : pc + 1 = q) (ha : a < n) (hh : h a = .inl (0, len, .inl f)) (hin : vp_in i len) (K : AW G M d N S n0 s0 P q L (.int (f i.toNatClampNeg) :: st) n sl h) : AW G M d N S n0 s0 P pc L (.int i :: .ref a :: st) n sl h := by
  subst hq
  intro p l e s m args below meth c H locs ls C hs hI hS hl hn hsl
  exact va_iald C.1 C.2.1 C.2.2.2.2.2.2.2.2.1 hI.2.2 a 0 (zWl_at hI.2.1 ha hh) rfl hin hd (K p l e s m args below meth c H locs ls C hs hI hS hl hn hsl)
theorem aw_cald {a len : Nat} {f : Nat → Int32} {i : Int32} (hd : decode M.2.1 pc = .ok (.caload, 1)) (hq : pc + 1 = q) (ha : a < n) (hh : h a = .inl (1, len, .inl f)) (hin : vp_in i len) (K : AW G M d N S n0 s0 P q L (.int (f i.toNatClampNeg) :: st) n sl h) : AW G M d N S n0 s0 P pc L (.int i :: .ref a :: st) n sl h := by
  subst hq
  intro p l e s m args below meth c H locs ls C hs hI hS hl hn hsl
  exact va_cald C.1 C.2.1 C.2.2.2.2.2.2.2.2.1 hI.2.2 a 1 (zWl_at hI.2.1 ha hh) rfl hin hd (K p l e s m args below meth c H locs ls C hs hI hS hl hn hsl)
theorem aw_iast {a len : Nat} {f : Nat → Int32} {i x : Int32} (hd : decode M.2.1 pc = .ok (.iastore, 1)) (hq : pc + 1 = q) (ha : a < n) (hh : h a = .inl (0, len, .inl f)) (hin : vp_in i len) (hH : zu h a (.inl (0, len, .inl (upd f i.toNatClampNeg x))) = h') (K : AW G M d N S n0 s0 P q L st n sl h') : AW G M d N S n0 s0 P pc L (.int x :: .int i :: .ref a :: st) n sl h := by
  subst hq
  subst hH
  intro p l e s m args below meth c H locs ls C hs hI hS hl hn hsl
  refine va_iast C.1 C.2.1 C.2.2.2.2.2.2.2.2.1 hI.2.2 zWl_D hS a 0 (zWl_at hI.2.1 ha hh) rfl hin hd (fun H1 locs1 hP hD hS1 => w_size fun hz => ?_)
  have hP : va_P G.2.2.1 vwCl (zWl G n (zu h a (.inl (0, len, .inl (upd f i.toNatClampNeg x))))) H1 := by
    rw [← zWl_set hI.2.1 ha]
    exact hP
  exact K p l e s m args below meth c H1 locs1 ls C hs (zI_of hs hn.1 hI.2.1 ha hP hz) hS1 hl hn hsl
theorem aw_cast {a len : Nat} {f : Nat → Int32} {i x : Int32} (hd : decode M.2.1 pc = .ok (.castore, 1)) (hq : pc + 1 = q) (ha : a < n) (hh : h a = .inl (1, len, .inl f)) (hin : vp_in i len) (hH : zu h a (.inl (1, len, .inl (upd f i.toNatClampNeg (vp_nar .char x)))) = h') (K : AW G M d N S n0 s0 P q L st n sl h') : AW G M d N S n0 s0 P pc L (.int x :: .int i :: .ref a :: st) n sl h := by
  subst hq
  subst hH
  intro p l e s m args below meth c H locs ls C hs hI hS hl hn hsl
  refine va_cast C.1 C.2.1 C.2.2.2.2.2.2.2.2.1 hI.2.2 zWl_D hS a 1 (zWl_at hI.2.1 ha hh) rfl hin hd (fun H1 locs1 hP hD hS1 => w_size fun hz => ?_)
  have hP : va_P G.2.2.1 vwCl (zWl G n (zu h a (.inl (1, len, .inl (upd f i.toNatClampNeg (vp_nar .char x)))))) H1 := by
    rw [← zWl_set hI.2.1 ha]
    exact hP
  exact K p l e s m args below meth c H1 locs1 ls C hs (zI_of hs hn.1 hI.2.1 ha hP hz) hS1 hl hn hsl
/-- an entry of a row of references -/
theorem aw_aald {a len t b : Nat} {f : Nat → Option Nat} {i : Int32} (hd : decode M.2.1 pc = .ok (.aaload, 1)) (hq : pc + 1 = q) (ha : a < n) (ht : t = 2 ∨ t = 3 ∨ t = 4) (hh : h a = .inl (t, len, .inr (.inr (.inr (.inr f))))) (hin : vp_in i len) (hf : f i.toNatClampNeg = some b) (K : AW G M d N S n0 s0 P q L (.ref b :: st) n sl h) : AW G M d N S n0 s0 P pc L (.int i :: .ref a :: st) n sl h := by
  subst hq
  intro p l e s m args below meth c H locs ls C hs hI hS hl hn hsl
  have hlt : i.toNatClampNeg < len := Nat.not_le.mp fun q => hin (Or.inr q)
  have ha9 := zWl_at (G := G) hI.2.1 ha hh
  have hty : ∃ ty : FieldType, (zTy G)[t]? = some (G.2.2.2 t, ty) ∧ ty.isReference = true := by
    rcases ht with rfl | rfl | rfl <;> exact ⟨_, rfl, rfl⟩
  obtain ⟨ty, ht9, hr9⟩ := hty
  have hc9 := hI.2.2 a _ ha9
  refine W.aald (v := .ref (zA G b)) (ty := ty) C.1 C.2.1 hc9 ((C.2.2.2.2.2.2.2.2.1.2 t _ ht9).1 len (fun j => va_rf ((f j).map (zA G)))) hr9 (fun q => by cases q) ?_ ?_ rfl rfl hd (K p l e s m args below meth c H locs ls C hs hI hS hl hn hsl)
  · show ¬ (i < 0 ∨ (arrV _ _ _).slots.size ≤ _)
    rw [arrV_size]
    exact hin
  · show (arrV (G.2.2.2 t) len (fun j => va_rf ((f j).map (zA G)))).slots[i.toNatClampNeg]? = _
    rw [arrV_read _ _ hlt]
    show some (va_rf ((f i.toNatClampNeg).map (zA G))) = _
    rw [hf]
    rfl
theorem aw_alen {a t : Nat} {x : vp_A} {v : Int32} (hd : decode M.2.1 pc = .ok (.arraylength, 1)) (hq : pc + 1 = q) (ha : a < n) (ht : t < 5) (hh : h a = .inl (t, x)) (hv : Int32.ofNat x.1 = v) (K : AW G M d N S n0 s0 P q L (.int v :: st) n sl h) : AW G M d N S n0 s0 P pc L (.ref a :: st) n sl h := by
  subst hq
  intro p l e s m args below meth c H locs ls C hs hI hS hl hn hsl
  have hty : ∃ ty : FieldType, (zTy G)[t]? = some (G.2.2.2 t, ty) := by
    rcases (by omega : t = 0 ∨ t = 1 ∨ t = 2 ∨ t = 3 ∨ t = 4) with rfl | rfl | rfl | rfl | rfl <;> exact ⟨_, rfl⟩
  obtain ⟨ty, ht9⟩ := hty
  have e1 : (zX G x).1 = x.1 := by
    obtain ⟨n9, f | f | f | f | f⟩ := x <;> rfl
  exact va_alen C.1 C.2.1 C.2.2.2.2.2.2.2.2.1 hI.2.2 a t (zWl_at hI.2.1 ha hh) ht9 (by rw [e1]; exact hv) hd (K p l e s m args below meth c H locs ls C hs hI hS hl hn hsl)
/-- the end -/
theorem aw_ret {ty : FieldType} {x : Int32} (hd : decode M.2.1 pc = .ok (.ireturn, 1)) (hr : M.2.2.2 = some ty) (hna : narrow ty (.int x) = .int x) (hN : n = N) (hSl : sl = S) (hP : P (some (.int x)) h) : AW G M d N S n0 s0 P pc L [.int x] n sl h := by
  subst hN
  subst hSl
  intro p l e s m args below meth c H locs ls C hs hI hS hl hn hsl
  exact W.zret (v := x) C.1 C.2.1 (C.2.2.2.2.2.1.trans hr) hna (fun t ht hW => ⟨⟨some (.int x), h, rfl, hP, by rw [ht]; exact hI⟩, hS.F ht⟩) hS.2.2 hd C.2.2.2.2.2.2.1
theorem aw_retB {b : Bool} (hd : decode M.2.1 pc = .ok (.ireturn, 1)) (hr : M.2.2.2 = some .boolean) (hN : n = N) (hSl : sl = S) (hP : P (some (.int (zb b))) h) : AW G M d N S n0 s0 P pc L [.int (zb b)] n sl h :=
  aw_ret hd hr (by cases b <;> rfl) hN hSl hP
theorem aw_vret (hd : decode M.2.1 pc = .ok (.return_, 1)) (hr : M.2.2.2 = none) (hN : n = N) (hSl : sl = S) (hP : P none h) : AW G M d N S n0 s0 P pc L [] n sl h := by
  subst hN
  subst hSl
  intro p l e s m args below meth c H locs ls C hs hI hS hl hn hsl
  exact W.vret C.1 C.2.1 (C.2.2.2.2.2.1.trans hr) (fun t ht hW => ⟨⟨none, h, rfl, hP, by rw [ht]; exact hI⟩, hS.F ht⟩) hS.2.2 hd C.2.2.2.2.2.2.1
theorem aw_aret {Cn : String} {a : Nat} (hd : decode M.2.1 pc = .ok (.areturn, 1)) (hr : M.2.2.2 = some (.object Cn)) (hN : n = N) (hSl : sl = S) (hP : P (some (.ref a)) h) : AW G M d N S n0 s0 P pc L [.ref a] n sl h := by
  subst hN
  subst hSl
  intro p l e s m args below meth c H locs ls C hs hI hS hl hn hsl
  exact W.aret (v := .ref (zA G a)) C.1 C.2.1 (C.2.2.2.2.2.1.trans hr) (Or.inl ⟨_, rfl⟩) (Or.inr ⟨_, rfl⟩) (fun t ht hW => ⟨⟨some (.ref a), h, rfl, hP, by rw [ht]; exact hI⟩, hS.F ht⟩) hS.2.2 hd C.2.2.2.2.2.2.1
end ZR2
end
section
section ZCALL
variable {G : zG} {M M' : zM} {d d' N S n0 s0 N' S' : Nat} {P P' : Option Value → zH → Prop} {pc q : Nat} {L L' : List (Option Value)} {st stk as : List Value} {n sl : Nat} {h h' : zH}
/-- what the tables say of a callee -/
def zW (M' : zM) (na : Nat) : Prop := Cond.initialized M'.1.cls ∈ lw_ok ∧ Cond.code M'.1 M'.2.1 M'.2.2.1 M'.2.2.2 ∈ lw_ok ∧ (M'.1.cls ≠ "java/lang/invoke/MethodHandle" ∧ M'.1.cls ≠ "java/lang/invoke/VarHandle") ∧ (parseMethodDescriptor M'.1.desc).map (fun d => d.parameters.length) = some na ∧ M'.2.2.1 ≤ 21
theorem zpay {s : State} {args : Array Value} (hts : ∀ w ∈ lw_ok, w.before args s = true) (hw : zW M' n) : ∀ w ∈ (.code M'.1 M'.2.1 M'.2.2.1 M'.2.2.2 :: lw_ok : List Cond), ∀ (a' : Array Value) (U : State), s.WarmedH U.vm → w.before a' U = true :=
  pay_in hts (fun w h => by
    rcases List.mem_cons.mp h with rfl | h
    · exact ⟨hw.2.1, lw_ok_good hw.2.1⟩
    · exact ⟨h, lw_ok_good h⟩)
theorem zlen {na : Nat} {sig : MethodDescriptor} (h : (parseMethodDescriptor M'.1.desc).map (fun d => d.parameters.length) = some na) (hs : parseMethodDescriptor M'.1.desc = some sig) : na = sig.parameters.length := by
  rw [hs] at h
  exact (Option.some.inj h).symm
theorem zblind {Ps : Array Value → State → Prop} {as : List Value} : FrameBlind (va_Pc as (fun U => zI G n h U.heap ∧ zS G U U.heap)) := by
  intro a U g mk hq
  obtain ⟨h1, h2, h3⟩ := hq
  exact ⟨h1, h2, zS.go h3 (State.WarmedH.refl U) (Nat.le_refl _) (fun _ _ _ => rfl)⟩
theorem zpre {s U : State} {H : Heap} {locs : List Loc} (hZ : zS G s s.heap) (hI : zI G n h H) (hS : va_S (fun q => G.1 ≤ q) s.heap H locs) (hU : U.heap = H) (hW : s.WarmedH U.vm) : zI G n h U.heap ∧ zS G U U.heap := by
  rw [hU]
  exact ⟨hI, hZ.go hW hS.1 hS.2.1⟩
theorem zroom {d d' : Nat} (h : d' + 1 ≤ d) (hm : M'.2.2.1 ≤ 21) : 8 + (M'.2.2.1 + 11) + 40 * d' ≤ 40 * d := by omega
theorem ztail {r : Option Value} : (r.map (zV G)).toList ++ st.map (zV G) = (r.toList ++ st).map (zV G) := by cases r <;> rfl
theorem znext {mc : Nat} (h1 : n ≤ N') (h2 : n0 ≤ n) (e : mc = N' - n) : (n - n0) + mc = N' - n0 := by omega
theorem zcat (h : (st.map fun v => v.category).sum ≤ 8) : ((st.map (zV G)).map fun v => v.category).sum ≤ 8 := by rw [zV_cats]; exact h
theorem aw_cs {idx na : Nat} (hd : decode M.2.1 pc = .ok (.invokestatic idx, 3)) (hq : pc + 3 = q) (hw : zW M' na) (hl : Cond.methodLink M.1.cls idx M'.1 ∈ lw_ok) (hst : Cond.static M'.1 ∈ lw_ok) (hk : stk = as.reverse ++ st) (hna : as.length = na) (hdep : d' + 1 ≤ d) (hcat : (st.map fun v => v.category).sum ≤ 8) (hM : zMt G d' M' as n sl h N' S' P') (hN : N' ≤ N) (hS' : S' ≤ S) (K : ∀ r h', P' r h' → AW G M d N S n0 s0 P q L (r.toList ++ st) N' S' h') : AW G M d N S n0 s0 P pc L stk n sl h := by
  subst hq
  subst hk
  intro p l e s m args below meth c H locs ls C hs hI hS hl9 hn hsl
  obtain ⟨hM1, hM2, hM3⟩ := hM
  obtain ⟨w1, w2, w3, w4, w5⟩ := id hw
  have hts := C.2.2.2.2.1
  refine zrun (N' := N') (P' := P') (mc := N' - n) (ms := S' - sl) (va_runS (own := M.1.cls) (index := idx) (n := na) (As := as.map (zV G)) (rest := st.map (zV G)) (g := F0 m pc ls ((as.reverse ++ st).map (zV G))) ⟨C.1, C.2.1, C.2.2.1, C.2.2.2.1, hts⟩ (hM3 l) ⟨⟨rfl, rfl, hdep, zroom hdep w5, zpay hts hw, List.mem_cons_self, hts _ w2, hts _ w1, w3, fun sig hs9 => zlen w4 hs9, hts _ hl⟩, hts _ hst⟩
    ⟨zblind (Ps := fun _ _ => True), fun U hU hW => ⟨rfl, zpre C.2.2.2.2.2.2.2.2 hI hS hU hW⟩⟩ rfl (by rw [List.length_map]; exact hna) hl9.1 (by simp) (lv_room (zcat hcat)) hd
    ⟨by show n - n0 + (N' - n) ≤ N - n0; omega, by show sl - s0 + (S' - sl) ≤ S - s0; omega⟩) hS (fun r h' H1 locs1 hp hI1 hS1 => ?_)
  rw [ztail, znext hM1 hn.1 rfl, znext (n0 := s0) hM2 hsl.1 rfl]
  exact K r h' hp p l e s m args below meth c H1 locs1 ls C hs hI1 hS1 hl9 ⟨by omega, hN⟩ ⟨by omega, hS'⟩
theorem aw_csN {idx na : Nat} (hd : decode M.2.1 pc = .ok (.invokestatic idx, 3)) (hq : pc + 3 = q) (hw : zW M' na) (hl : (M.1.cls, idx, M'.1) ∈ zNl) (hst : Cond.static M'.1 ∈ lw_ok) (hk : stk = as.reverse ++ st) (hna : as.length = na) (hdep : d' + 1 ≤ d) (hcat : (st.map fun v => v.category).sum ≤ 8) (hM : zMt G d' M' as n sl h N' S' P') (hN : N' ≤ N) (hS' : S' ≤ S) (K : ∀ r h', P' r h' → AW G M d N S n0 s0 P q L (r.toList ++ st) N' S' h') : AW G M d N S n0 s0 P pc L stk n sl h := by
  subst hq
  subst hk
  intro p l e s m args below meth c H locs ls C hs hI hS hl9 hn hsl
  obtain ⟨hM1, hM2, hM3⟩ := hM
  obtain ⟨w1, w2, w3, w4, w5⟩ := id hw
  have hts := C.2.2.2.2.1
  refine zrun (N' := N') (P' := P') (mc := N' - n) (ms := S' - sl) (va_runSN (host := RX6) (own := M.1.cls) (index := idx) (n := na) (As := as.map (zV G)) (rest := st.map (zV G)) (g := F0 m pc ls ((as.reverse ++ st).map (zV G))) ⟨C.1, C.2.1, C.2.2.1, C.2.2.2.1, hts⟩ (hM3 l) ⟨⟨⟨rfl, rfl, hdep, zroom hdep w5, zpay hts hw, List.mem_cons_self⟩, hts _ w2, hts _ w1, w3, fun sig hs9 => zlen w4 hs9, va_Nw.use rfl (C.2.2.2.2.2.2.2.2.2.2.2.2.2.2.1 _ hl)⟩, hts _ hst, trivial⟩
    ⟨zblind (Ps := fun _ _ => True), fun U hU hW => ⟨rfl, zpre C.2.2.2.2.2.2.2.2 hI hS hU hW⟩⟩ rfl (by rw [List.length_map]; exact hna) hl9.1 (by simp) (lv_room (zcat hcat)) hd
    ⟨by show n - n0 + (N' - n) ≤ N - n0; omega, by show sl - s0 + (S' - sl) ≤ S - s0; omega⟩) hS (fun r h' H1 locs1 hp hI1 hS1 => ?_)
  rw [ztail, znext hM1 hn.1 rfl, znext (n0 := s0) hM2 hsl.1 rfl]
  exact K r h' hp p l e s m args below meth c H1 locs1 ls C hs hI1 hS1 hl9 ⟨by omega, hN⟩ ⟨by omega, hS'⟩
theorem aw_cv {idx na ci b : Nat} {T : u_T} {Nf : Nat} {fs : List Value} (hd : decode M.2.1 pc = .ok (.invokevirtual idx, 3)) (hq : pc + 3 = q) (hw : zW M' na) (hl : Cond.methodLink M.1.cls idx M'.1 ∈ lw_ok) (hin : Cond.instanceMethod M'.1 ∈ lw_ok) (hsel : Cond.selects M'.1.cls M'.1 M'.1 ∈ lw_ok) (hb : b < n) (hh : h b = .inr (ci, fs)) (hc : vwCl[ci]? = some (M'.1.cls, T, Nf)) (hk : stk = as.reverse ++ .ref b :: st) (hna : as.length = na) (hdep : d' + 1 ≤ d) (hcat : (st.map fun v => v.category).sum ≤ 8) (hM : zMt G d' M' (.ref b :: as) n sl h N' S' P') (hN : N' ≤ N) (hS' : S' ≤ S) (K : ∀ r h', P' r h' → AW G M d N S n0 s0 P q L (r.toList ++ st) N' S' h') : AW G M d N S n0 s0 P pc L stk n sl h := by
  subst hq
  subst hk
  intro p l e s m args below meth c H locs ls C hs hI hS hl9 hn hsl
  obtain ⟨hM1, hM2, hM3⟩ := hM
  obtain ⟨w1, w2, w3, w4, w5⟩ := id hw
  have hts := C.2.2.2.2.1
  refine zrun (N' := N') (P' := P') (mc := N' - n) (ms := S' - sl) (va_runV (C := M'.1.cls) (b := zA G b) (own := M.1.cls) (index := idx) (n := na) (As := as.map (zV G)) (rest := st.map (zV G)) (g := F0 m pc ls ((as.reverse ++ .ref b :: st).map (zV G))) ⟨C.1, C.2.1, C.2.2.1, C.2.2.2.1, hts⟩ (hM3 l) ⟨⟨rfl, rfl, hdep, zroom hdep w5, zpay hts hw, List.mem_cons_self, hts _ w2, hts _ w1, w3, fun sig hs9 => zlen w4 hs9, hts _ hl⟩, hts _ hin, hts _ hsel⟩
    ⟨zblind (Ps := fun _ _ => True), va_recv C.2.2.2.2.2.2.2.2.1 hI.2.2 hc (zWl_at hI.2.1 hb hh), fun U hU hW => ⟨rfl, zpre C.2.2.2.2.2.2.2.2 hI hS hU hW⟩⟩ rfl (by rw [List.length_map]; exact hna) hl9.1 (by simp [zV]) (lv_room (zcat hcat)) hd
    ⟨by show n - n0 + (N' - n) ≤ N - n0; omega, by show sl - s0 + (S' - sl) ≤ S - s0; omega⟩) hS (fun r h' H1 locs1 hp hI1 hS1 => ?_)
  rw [ztail, znext hM1 hn.1 rfl, znext (n0 := s0) hM2 hsl.1 rfl]
  exact K r h' hp p l e s m args below meth c H1 locs1 ls C hs hI1 hS1 hl9 ⟨by omega, hN⟩ ⟨by omega, hS'⟩
theorem aw_ci {idx na b : Nat} (hd : decode M.2.1 pc = .ok (.invokespecial idx, 3)) (hq : pc + 3 = q) (hw : zW M' na) (hl : Cond.methodLink M.1.cls idx M'.1 ∈ lw_ok) (hin : Cond.instanceMethod M'.1 ∈ lw_ok) (hini : M'.1.name = "<init>") (hret : M'.2.2.2 = none) (hk : stk = as.reverse ++ .ref b :: st) (hna : as.length = na) (hdep : d' + 1 ≤ d) (hcat : (st.map fun v => v.category).sum ≤ 8) (hM : zMt G d' M' (.ref b :: as) n sl h N' S' P') (hN : N' ≤ N) (hS' : S' ≤ S) (K : ∀ r h', P' r h' → AW G M d N S n0 s0 P q L (r.toList ++ st) N' S' h') : AW G M d N S n0 s0 P pc L stk n sl h := by
  subst hq
  subst hk
  intro p l e s m args below meth c H locs ls C hs hI hS hl9 hn hsl
  obtain ⟨hM1, hM2, hM3⟩ := hM
  obtain ⟨w1, w2, w3, w4, w5⟩ := id hw
  have hts := C.2.2.2.2.1
  obtain ⟨My, Mb, Mm, Mr⟩ := M'
  dsimp only at hret
  subst hret
  refine zrun (N' := N') (P' := P') (mc := N' - n) (ms := S' - sl) (va_runI (b := zA G b) (own := M.1.cls) (index := idx) (n := na) (As := as.map (zV G)) (rest := st.map (zV G)) (g := F0 m pc ls ((as.reverse ++ .ref b :: st).map (zV G))) ⟨C.1, C.2.1, C.2.2.1, C.2.2.2.1, hts⟩ (hM3 l) ⟨⟨rfl, rfl, hdep, zroom hdep w5, zpay hts hw, List.mem_cons_self, hts _ w2, hts _ w1, w3, fun sig hs9 => zlen w4 hs9, hts _ hl⟩, hini, hts _ hin⟩
    ⟨zblind (Ps := fun _ _ => True), fun U hU hW => ⟨rfl, zpre C.2.2.2.2.2.2.2.2 hI hS hU hW⟩⟩ rfl (by rw [List.length_map]; exact hna) hl9.1 (by simp [zV]) (lv_room (zcat hcat)) hd
    ⟨by show n - n0 + (N' - n) ≤ N - n0; omega, by show sl - s0 + (S' - sl) ≤ S - s0; omega⟩) hS (fun r h' H1 locs1 hp hI1 hS1 => ?_)
  rw [ztail, znext hM1 hn.1 rfl, znext (n0 := s0) hM2 hsl.1 rfl]
  exact K r h' hp p l e s m args below meth c H1 locs1 ls C hs hI1 hS1 hl9 ⟨by omega, hN⟩ ⟨by omega, hS'⟩
theorem aw_ciN {idx na b : Nat} (hd : decode M.2.1 pc = .ok (.invokespecial idx, 3)) (hq : pc + 3 = q) (hw : zW M' na) (hl : (M.1.cls, idx, M'.1) ∈ zNl) (hin : Cond.instanceMethod M'.1 ∈ lw_ok) (hini : M'.1.name = "<init>") (hret : M'.2.2.2 = none) (hk : stk = as.reverse ++ .ref b :: st) (hna : as.length = na) (hdep : d' + 1 ≤ d) (hcat : (st.map fun v => v.category).sum ≤ 8) (hM : zMt G d' M' (.ref b :: as) n sl h N' S' P') (hN : N' ≤ N) (hS' : S' ≤ S) (K : ∀ r h', P' r h' → AW G M d N S n0 s0 P q L (r.toList ++ st) N' S' h') : AW G M d N S n0 s0 P pc L stk n sl h := by
  subst hq
  subst hk
  intro p l e s m args below meth c H locs ls C hs hI hS hl9 hn hsl
  obtain ⟨hM1, hM2, hM3⟩ := hM
  obtain ⟨w1, w2, w3, w4, w5⟩ := id hw
  have hts := C.2.2.2.2.1
  obtain ⟨My, Mb, Mm, Mr⟩ := M'
  dsimp only at hret
  subst hret
  refine zrun (N' := N') (P' := P') (mc := N' - n) (ms := S' - sl) (va_runIN (host := RX6) (b := zA G b) (own := M.1.cls) (index := idx) (n := na) (As := as.map (zV G)) (rest := st.map (zV G)) (g := F0 m pc ls ((as.reverse ++ .ref b :: st).map (zV G))) ⟨C.1, C.2.1, C.2.2.1, C.2.2.2.1, hts⟩ (hM3 l) ⟨⟨⟨rfl, rfl, hdep, zroom hdep w5, zpay hts hw, List.mem_cons_self⟩, hts _ w2, hts _ w1, w3, fun sig hs9 => zlen w4 hs9, va_Nw.use rfl (C.2.2.2.2.2.2.2.2.2.2.2.2.2.2.1 _ hl)⟩, hini, hts _ hin⟩
    ⟨zblind (Ps := fun _ _ => True), fun U hU hW => ⟨rfl, zpre C.2.2.2.2.2.2.2.2 hI hS hU hW⟩⟩ rfl (by rw [List.length_map]; exact hna) hl9.1 (by simp [zV]) (lv_room (zcat hcat)) hd
    ⟨by show n - n0 + (N' - n) ≤ N - n0; omega, by show sl - s0 + (S' - sl) ≤ S - s0; omega⟩) hS (fun r h' H1 locs1 hp hI1 hS1 => ?_)
  rw [ztail, znext hM1 hn.1 rfl, znext (n0 := s0) hM2 hsl.1 rfl]
  exact K r h' hp p l e s m args below meth c H1 locs1 ls C hs hI1 hS1 hl9 ⟨by omega, hN⟩ ⟨by omega, hS'⟩
/-- a body gives the contract -/
theorem zMt_of (hy : plainName M.1.cls = true) (hc1 : ∀ v ∈ as, v.category = 1) (hlen : as.length ≤ M.2.2.1) (hN : n ≤ N) (hSl : sl ≤ S) (hL : as.map some ++ List.replicate (M.2.2.1 - as.length) none = L) (K : AW G M d N S n sl P 0 L [] n sl h) : zMt G d M as n sl h N S P := by
  subst hL
  refine ⟨hN, hSl, fun l => ?_⟩
  refine Met.ofW (cc := M.2.1) (maxL := M.2.2.1) (ret := M.2.2.2) hy rfl ?_
  intro p e s m args below meth c s₁ B hml hv
  obtain ⟨rfl, hI, hZ⟩ := hv
  have hts := atoms_spec (ws := .code M.1 M.2.1 M.2.2.1 M.2.2.2 :: lw_ok) B.pre
  have hcat : ∀ v ∈ as.map (zV G), v.category = 1 := fun v hv => by
    obtain ⟨w, hw, rfl⟩ := List.mem_map.mp hv
    rw [zV_cat]
    exact hc1 w hw
  have e0 : ∀ l : List Value, (∀ v ∈ l, v.category = 1) → lg_sl l = l.map Slot.val := by
    intro l
    induction l with
    | nil => intro _; rfl
    | cons v t ih =>
      intro h1
      have h2 : ¬ v.category = 2 := by
        rw [h1 v List.mem_cons_self]
        decide
      have h3 := ih (fun w hw => h1 w (List.mem_cons_of_mem _ hw))
      simp only [lg_sl, List.flatMap_cons, List.map_cons] at h3 ⊢
      rw [h3]
      simp [h2]
  have hl := lv_entry (as.map (zV G)) (n := M.2.2.1) (by rw [e0 _ hcat]; simpa using hlen)
  rw [lg_entry_eq]
  generalize hls : (lg_sl (as.map (zV G)) ++ List.replicate (M.2.2.1 - (lg_sl (as.map (zV G))).length) Slot.unset).toArray = ls at hl ⊢
  have hzL : zL G M.2.2.1 (as.map some ++ List.replicate (M.2.2.1 - as.length) none) ls := by
    refine ⟨hl.1, hl.2.1, fun i v hv => ?_⟩
    rw [← hls, e0 _ hcat]
    by_cases hi : i < as.length
    · rw [List.getElem?_append_left (by simpa using hi)] at hv
      rw [List.getElem?_toArray, List.getElem?_append_left (by simpa using hi)]
      rw [List.getElem?_map] at hv ⊢
      rw [List.getElem?_map]
      cases hx : as[i]? with
      | none => rw [hx] at hv; cases hv
      | some w =>
        rw [hx] at hv
        simp at hv
        subst hv
        rfl
    · rw [List.getElem?_append_right (by simpa using hi)] at hv
      have := List.mem_of_getElem? hv
      have := List.eq_of_mem_replicate this
      cases this
  have key := K p l e s m _ below meth c s.heap [] ls ⟨B.exec, B.bytes, hml, findClass_of_methodNamed B.named, fun w hw => hts w (List.mem_cons_of_mem _ hw), B.returns, B.notSynchronized, fun h9 => (name_of_methodNamed B.named B.method).1.trans h9, hZ⟩ hI.1 hI va_S.rf hzL ⟨Nat.le_refl _, hN⟩ ⟨Nat.le_refl _, hSl⟩
  rw [Nat.sub_self, Nat.sub_self] at key
  exact key
end ZCALL
end
section
/-- a field that is read -/
def zFr (own : String) (idx ci k : Nat) : Prop := ∃ (C : String) (T : u_T) (N : Nat), vwCl[ci]? = some (C, T, N) ∧ k < N ∧ Cond.fieldLink own idx (T k).1 (T k).2.1 (T k).2.2.1 ∈ lw_ok ∧ (∀ w ∈ u_ws C T N, w ∈ lw_ok)
abbrev M_X0_init : zM := (yX0_init, cX0_init, 1, none)
theorem W_X0_init : zW M_X0_init 0 := ⟨lw_ok_of 4 (by decide +kernel) rfl, lw_ok_of 32 (by decide +kernel) rfl, ⟨by decide +kernel, by decide +kernel⟩, by decide +kernel, by decide⟩
theorem i_X0_init : Cond.instanceMethod yX0_init ∈ lw_ok := lw_ok_of 31 (by decide +kernel) rfl
abbrev M_X0_copyFrom : zM := (yX0_copyFrom, cX0_copyFrom, 2, none)
theorem W_X0_copyFrom : zW M_X0_copyFrom 1 := ⟨lw_ok_of 4 (by decide +kernel) rfl, lw_ok_of 302 (by decide +kernel) rfl, ⟨by decide +kernel, by decide +kernel⟩, by decide +kernel, by decide⟩
theorem i_X0_copyFrom : Cond.instanceMethod yX0_copyFrom ∈ lw_ok := lw_ok_of 300 (by decide +kernel) rfl
theorem v_X0_copyFrom : Cond.selects yX0_copyFrom.cls yX0_copyFrom yX0_copyFrom ∈ lw_ok := lw_ok_of 301 (by decide +kernel) rfl
abbrev M_X0_refusalOfNet : zM := (yX0_refusalOfNet, cX0_refusalOfNet, 3, (some .int))
theorem W_X0_refusalOfNet : zW M_X0_refusalOfNet 1 := ⟨lw_ok_of 4 (by decide +kernel) rfl, lw_ok_of 428 (by decide +kernel) rfl, ⟨by decide +kernel, by decide +kernel⟩, by decide +kernel, by decide⟩
theorem i_X0_refusalOfNet : Cond.instanceMethod yX0_refusalOfNet ∈ lw_ok := lw_ok_of 426 (by decide +kernel) rfl
theorem v_X0_refusalOfNet : Cond.selects yX0_refusalOfNet.cls yX0_refusalOfNet yX0_refusalOfNet ∈ lw_ok := lw_ok_of 427 (by decide +kernel) rfl
abbrev M_X0_addNet : zM := (yX0_addNet, cX0_addNet, 3, (some .int))
theorem W_X0_addNet : zW M_X0_addNet 1 := ⟨lw_ok_of 4 (by decide +kernel) rfl, lw_ok_of 437 (by decide +kernel) rfl, ⟨by decide +kernel, by decide +kernel⟩, by decide +kernel, by decide⟩
theorem i_X0_addNet : Cond.instanceMethod yX0_addNet ∈ lw_ok := lw_ok_of 435 (by decide +kernel) rfl
theorem v_X0_addNet : Cond.selects yX0_addNet.cls yX0_addNet yX0_addNet ∈ lw_ok := lw_ok_of 436 (by decide +kernel) rfl
abbrev M_X0_refusalOfChip : zM := (yX0_refusalOfChip, cX0_refusalOfChip, 4, (some .int))
theorem W_X0_refusalOfChip : zW M_X0_refusalOfChip 3 := ⟨lw_ok_of 4 (by decide +kernel) rfl, lw_ok_of 445 (by decide +kernel) rfl, ⟨by decide +kernel, by decide +kernel⟩, by decide +kernel, by decide⟩
theorem i_X0_refusalOfChip : Cond.instanceMethod yX0_refusalOfChip ∈ lw_ok := lw_ok_of 443 (by decide +kernel) rfl
theorem v_X0_refusalOfChip : Cond.selects yX0_refusalOfChip.cls yX0_refusalOfChip yX0_refusalOfChip ∈ lw_ok := lw_ok_of 444 (by decide +kernel) rfl
abbrev M_X0_addChip : zM := (yX0_addChip, cX0_addChip, 4, (some .int))
theorem W_X0_addChip : zW M_X0_addChip 3 := ⟨lw_ok_of 4 (by decide +kernel) rfl, lw_ok_of 450 (by decide +kernel) rfl, ⟨by decide +kernel, by decide +kernel⟩, by decide +kernel, by decide⟩
theorem i_X0_addChip : Cond.instanceMethod yX0_addChip ∈ lw_ok := lw_ok_of 448 (by decide +kernel) rfl
theorem v_X0_addChip : Cond.selects yX0_addChip.cls yX0_addChip yX0_addChip ∈ lw_ok := lw_ok_of 449 (by decide +kernel) rfl
abbrev M_X0_refusalOfFault : zM := (yX0_refusalOfFault, cX0_refusalOfFault, 6, (some .int))
theorem W_X0_refusalOfFault : zW M_X0_refusalOfFault 3 := ⟨lw_ok_of 4 (by decide +kernel) rfl, lw_ok_of 458 (by decide +kernel) rfl, ⟨by decide +kernel, by decide +kernel⟩, by decide +kernel, by decide⟩
theorem i_X0_refusalOfFault : Cond.instanceMethod yX0_refusalOfFault ∈ lw_ok := lw_ok_of 456 (by decide +kernel) rfl
theorem v_X0_refusalOfFault : Cond.selects yX0_refusalOfFault.cls yX0_refusalOfFault yX0_refusalOfFault ∈ lw_ok := lw_ok_of 457 (by decide +kernel) rfl
abbrev M_X0_placesFor : zM := (yX0_placesFor, cX0_placesFor, 2, (some .int))
theorem W_X0_placesFor : zW M_X0_placesFor 1 := ⟨lw_ok_of 4 (by decide +kernel) rfl, lw_ok_of 462 (by decide +kernel) rfl, ⟨by decide +kernel, by decide +kernel⟩, by decide +kernel, by decide⟩
theorem i_X0_placesFor : Cond.instanceMethod yX0_placesFor ∈ lw_ok := lw_ok_of 460 (by decide +kernel) rfl
theorem v_X0_placesFor : Cond.selects yX0_placesFor.cls yX0_placesFor yX0_placesFor ∈ lw_ok := lw_ok_of 461 (by decide +kernel) rfl
abbrev M_X0_addFault : zM := (yX0_addFault, cX0_addFault, 4, (some .int))
theorem W_X0_addFault : zW M_X0_addFault 3 := ⟨lw_ok_of 4 (by decide +kernel) rfl, lw_ok_of 466 (by decide +kernel) rfl, ⟨by decide +kernel, by decide +kernel⟩, by decide +kernel, by decide⟩
theorem i_X0_addFault : Cond.instanceMethod yX0_addFault ∈ lw_ok := lw_ok_of 464 (by decide +kernel) rfl
theorem v_X0_addFault : Cond.selects yX0_addFault.cls yX0_addFault yX0_addFault ∈ lw_ok := lw_ok_of 465 (by decide +kernel) rfl
abbrev M_X0_setBlessing : zM := (yX0_setBlessing, cX0_setBlessing, 4, (some .int))
theorem W_X0_setBlessing : zW M_X0_setBlessing 2 := ⟨lw_ok_of 4 (by decide +kernel) rfl, lw_ok_of 474 (by decide +kernel) rfl, ⟨by decide +kernel, by decide +kernel⟩, by decide +kernel, by decide⟩
theorem i_X0_setBlessing : Cond.instanceMethod yX0_setBlessing ∈ lw_ok := lw_ok_of 472 (by decide +kernel) rfl
theorem v_X0_setBlessing : Cond.selects yX0_setBlessing.cls yX0_setBlessing yX0_setBlessing ∈ lw_ok := lw_ok_of 473 (by decide +kernel) rfl
abbrev M_X0_blessedOn : zM := (yX0_blessedOn, cX0_blessedOn, 4, (some .int))
theorem W_X0_blessedOn : zW M_X0_blessedOn 1 := ⟨lw_ok_of 4 (by decide +kernel) rfl, lw_ok_of 281 (by decide +kernel) rfl, ⟨by decide +kernel, by decide +kernel⟩, by decide +kernel, by decide⟩
theorem i_X0_blessedOn : Cond.instanceMethod yX0_blessedOn ∈ lw_ok := lw_ok_of 279 (by decide +kernel) rfl
theorem v_X0_blessedOn : Cond.selects yX0_blessedOn.cls yX0_blessedOn yX0_blessedOn ∈ lw_ok := lw_ok_of 280 (by decide +kernel) rfl
abbrev M_X0_chipWith : zM := (yX0_chipWith, cX0_chipWith, 3, (some .int))
theorem W_X0_chipWith : zW M_X0_chipWith 1 := ⟨lw_ok_of 4 (by decide +kernel) rfl, lw_ok_of 261 (by decide +kernel) rfl, ⟨by decide +kernel, by decide +kernel⟩, by decide +kernel, by decide⟩
theorem i_X0_chipWith : Cond.instanceMethod yX0_chipWith ∈ lw_ok := lw_ok_of 259 (by decide +kernel) rfl
theorem v_X0_chipWith : Cond.selects yX0_chipWith.cls yX0_chipWith yX0_chipWith ∈ lw_ok := lw_ok_of 260 (by decide +kernel) rfl
abbrev M_X0_roleOf : zM := (yX0_roleOf, cX0_roleOf, 3, (some .int))
theorem W_X0_roleOf : zW M_X0_roleOf 1 := ⟨lw_ok_of 4 (by decide +kernel) rfl, lw_ok_of 268 (by decide +kernel) rfl, ⟨by decide +kernel, by decide +kernel⟩, by decide +kernel, by decide⟩
theorem i_X0_roleOf : Cond.instanceMethod yX0_roleOf ∈ lw_ok := lw_ok_of 266 (by decide +kernel) rfl
theorem v_X0_roleOf : Cond.selects yX0_roleOf.cls yX0_roleOf yX0_roleOf ∈ lw_ok := lw_ok_of 267 (by decide +kernel) rfl
abbrev M_X0_isFault : zM := (yX0_isFault, cX0_isFault, 2, (some .boolean))
theorem W_X0_isFault : zW M_X0_isFault 1 := ⟨lw_ok_of 4 (by decide +kernel) rfl, lw_ok_of 323 (by decide +kernel) rfl, ⟨by decide +kernel, by decide +kernel⟩, by decide +kernel, by decide⟩
theorem i_X0_isFault : Cond.instanceMethod yX0_isFault ∈ lw_ok := lw_ok_of 321 (by decide +kernel) rfl
theorem v_X0_isFault : Cond.selects yX0_isFault.cls yX0_isFault yX0_isFault ∈ lw_ok := lw_ok_of 322 (by decide +kernel) rfl
abbrev M_X0_allSuspects : zM := (yX0_allSuspects, cX0_allSuspects, 1, (some .int))
theorem W_X0_allSuspects : zW M_X0_allSuspects 0 := ⟨lw_ok_of 4 (by decide +kernel) rfl, lw_ok_of 489 (by decide +kernel) rfl, ⟨by decide +kernel, by decide +kernel⟩, by decide +kernel, by decide⟩
theorem i_X0_allSuspects : Cond.instanceMethod yX0_allSuspects ∈ lw_ok := lw_ok_of 487 (by decide +kernel) rfl
theorem v_X0_allSuspects : Cond.selects yX0_allSuspects.cls yX0_allSuspects yX0_allSuspects ∈ lw_ok := lw_ok_of 488 (by decide +kernel) rfl
abbrev M_X0_suffers : zM := (yX0_suffers, cX0_suffers, 4, (some .boolean))
theorem W_X0_suffers : zW M_X0_suffers 3 := ⟨lw_ok_of 4 (by decide +kernel) rfl, lw_ok_of 331 (by decide +kernel) rfl, ⟨by decide +kernel, by decide +kernel⟩, by decide +kernel, by decide⟩
theorem i_X0_suffers : Cond.instanceMethod yX0_suffers ∈ lw_ok := lw_ok_of 329 (by decide +kernel) rfl
theorem v_X0_suffers : Cond.selects yX0_suffers.cls yX0_suffers yX0_suffers ∈ lw_ok := lw_ok_of 330 (by decide +kernel) rfl
abbrev M_X0_shortedWith : zM := (yX0_shortedWith, cX0_shortedWith, 3, (some .int))
theorem W_X0_shortedWith : zW M_X0_shortedWith 2 := ⟨lw_ok_of 4 (by decide +kernel) rfl, lw_ok_of 340 (by decide +kernel) rfl, ⟨by decide +kernel, by decide +kernel⟩, by decide +kernel, by decide⟩
theorem i_X0_shortedWith : Cond.instanceMethod yX0_shortedWith ∈ lw_ok := lw_ok_of 338 (by decide +kernel) rfl
theorem v_X0_shortedWith : Cond.selects yX0_shortedWith.cls yX0_shortedWith yX0_shortedWith ∈ lw_ok := lw_ok_of 339 (by decide +kernel) rfl
abbrev M_X1_init : zM := (yX1_init, cX1_init, 2, none)
theorem W_X1_init : zW M_X1_init 0 := ⟨lw_ok_of 2 (by decide +kernel) rfl, lw_ok_of 23 (by decide +kernel) rfl, ⟨by decide +kernel, by decide +kernel⟩, by decide +kernel, by decide⟩
theorem i_X1_init : Cond.instanceMethod yX1_init ∈ lw_ok := lw_ok_of 22 (by decide +kernel) rfl
abbrev M_X1_keep : zM := (yX1_keep, cX1_keep, 2, none)
theorem W_X1_keep : zW M_X1_keep 1 := ⟨lw_ok_of 2 (by decide +kernel) rfl, lw_ok_of 290 (by decide +kernel) rfl, ⟨by decide +kernel, by decide +kernel⟩, by decide +kernel, by decide⟩
theorem i_X1_keep : Cond.instanceMethod yX1_keep ∈ lw_ok := lw_ok_of 288 (by decide +kernel) rfl
theorem v_X1_keep : Cond.selects yX1_keep.cls yX1_keep yX1_keep ∈ lw_ok := lw_ok_of 289 (by decide +kernel) rfl
abbrev M_X1_dropOldest : zM := (yX1_dropOldest, cX1_dropOldest, 3, none)
theorem W_X1_dropOldest : zW M_X1_dropOldest 0 := ⟨lw_ok_of 2 (by decide +kernel) rfl, lw_ok_of 294 (by decide +kernel) rfl, ⟨by decide +kernel, by decide +kernel⟩, by decide +kernel, by decide⟩
theorem i_X1_dropOldest : Cond.instanceMethod yX1_dropOldest ∈ lw_ok := lw_ok_of 292 (by decide +kernel) rfl
theorem v_X1_dropOldest : Cond.selects yX1_dropOldest.cls yX1_dropOldest yX1_dropOldest ∈ lw_ok := lw_ok_of 293 (by decide +kernel) rfl
abbrev M_X1_restore : zM := (yX1_restore, cX1_restore, 2, none)
theorem W_X1_restore : zW M_X1_restore 1 := ⟨lw_ok_of 2 (by decide +kernel) rfl, lw_ok_of 521 (by decide +kernel) rfl, ⟨by decide +kernel, by decide +kernel⟩, by decide +kernel, by decide⟩
theorem i_X1_restore : Cond.instanceMethod yX1_restore ∈ lw_ok := lw_ok_of 519 (by decide +kernel) rfl
theorem v_X1_restore : Cond.selects yX1_restore.cls yX1_restore yX1_restore ∈ lw_ok := lw_ok_of 520 (by decide +kernel) rfl
abbrev M_X2_init : zM := (yX2_init, cX2_init, 3, none)
theorem W_X2_init : zW M_X2_init 1 := ⟨lw_ok_of 7 (by decide +kernel) rfl, lw_ok_of 184 (by decide +kernel) rfl, ⟨by decide +kernel, by decide +kernel⟩, by decide +kernel, by decide⟩
theorem i_X2_init : Cond.instanceMethod yX2_init ∈ lw_ok := lw_ok_of 183 (by decide +kernel) rfl
abbrev M_X2_suppose : zM := (yX2_suppose, cX2_suppose, 2, (some (.object "BlessedPins$SuspectBoard")))
theorem W_X2_suppose : zW M_X2_suppose 1 := ⟨lw_ok_of 7 (by decide +kernel) rfl, lw_ok_of 392 (by decide +kernel) rfl, ⟨by decide +kernel, by decide +kernel⟩, by decide +kernel, by decide⟩
theorem i_X2_suppose : Cond.instanceMethod yX2_suppose ∈ lw_ok := lw_ok_of 390 (by decide +kernel) rfl
theorem v_X2_suppose : Cond.selects yX2_suppose.cls yX2_suppose yX2_suppose ∈ lw_ok := lw_ok_of 391 (by decide +kernel) rfl
abbrev M_X2_supposeAll : zM := (yX2_supposeAll, cX2_supposeAll, 3, none)
theorem W_X2_supposeAll : zW M_X2_supposeAll 1 := ⟨lw_ok_of 7 (by decide +kernel) rfl, lw_ok_of 314 (by decide +kernel) rfl, ⟨by decide +kernel, by decide +kernel⟩, by decide +kernel, by decide⟩
theorem i_X2_supposeAll : Cond.instanceMethod yX2_supposeAll ∈ lw_ok := lw_ok_of 312 (by decide +kernel) rfl
theorem v_X2_supposeAll : Cond.selects yX2_supposeAll.cls yX2_supposeAll yX2_supposeAll ∈ lw_ok := lw_ok_of 313 (by decide +kernel) rfl
abbrev M_X2_probeAll : zM := (yX2_probeAll, cX2_probeAll, 4, none)
theorem W_X2_probeAll : zW M_X2_probeAll 2 := ⟨lw_ok_of 7 (by decide +kernel) rfl, lw_ok_of 344 (by decide +kernel) rfl, ⟨by decide +kernel, by decide +kernel⟩, by decide +kernel, by decide⟩
theorem i_X2_probeAll : Cond.instanceMethod yX2_probeAll ∈ lw_ok := lw_ok_of 342 (by decide +kernel) rfl
theorem v_X2_probeAll : Cond.selects yX2_probeAll.cls yX2_probeAll yX2_probeAll ∈ lw_ok := lw_ok_of 343 (by decide +kernel) rfl
abbrev M_X2_probedLike : zM := (yX2_probedLike, cX2_probedLike, 5, (some .int))
theorem W_X2_probedLike : zW M_X2_probedLike 2 := ⟨lw_ok_of 7 (by decide +kernel) rfl, lw_ok_of 361 (by decide +kernel) rfl, ⟨by decide +kernel, by decide +kernel⟩, by decide +kernel, by decide⟩
theorem i_X2_probedLike : Cond.instanceMethod yX2_probedLike ∈ lw_ok := lw_ok_of 359 (by decide +kernel) rfl
theorem v_X2_probedLike : Cond.selects yX2_probedLike.cls yX2_probedLike yX2_probedLike ∈ lw_ok := lw_ok_of 360 (by decide +kernel) rfl
abbrev M_X2_leftBy : zM := (yX2_leftBy, cX2_leftBy, 4, (some .int))
theorem W_X2_leftBy : zW M_X2_leftBy 3 := ⟨lw_ok_of 7 (by decide +kernel) rfl, lw_ok_of 310 (by decide +kernel) rfl, ⟨by decide +kernel, by decide +kernel⟩, by decide +kernel, by decide⟩
theorem i_X2_leftBy : Cond.instanceMethod yX2_leftBy ∈ lw_ok := lw_ok_of 308 (by decide +kernel) rfl
theorem v_X2_leftBy : Cond.selects yX2_leftBy.cls yX2_leftBy yX2_leftBy ∈ lw_ok := lw_ok_of 309 (by decide +kernel) rfl
abbrev M_X3_init : zM := (yX3_init, cX3_init, 1, none)
theorem W_X3_init : zW M_X3_init 0 := ⟨lw_ok_of 6 (by decide +kernel) rfl, lw_ok_of 148 (by decide +kernel) rfl, ⟨by decide +kernel, by decide +kernel⟩, by decide +kernel, by decide⟩
theorem i_X3_init : Cond.instanceMethod yX3_init ∈ lw_ok := lw_ok_of 147 (by decide +kernel) rfl
abbrev M_X4_init : zM := (yX4_init, cX4_init, 2, none)
theorem W_X4_init : zW M_X4_init 1 := ⟨lw_ok_of 3 (by decide +kernel) rfl, lw_ok_of 100 (by decide +kernel) rfl, ⟨by decide +kernel, by decide +kernel⟩, by decide +kernel, by decide⟩
theorem i_X4_init : Cond.instanceMethod yX4_init ∈ lw_ok := lw_ok_of 99 (by decide +kernel) rfl
abbrev M_X4_copyFrom : zM := (yX4_copyFrom, cX4_copyFrom, 2, none)
theorem W_X4_copyFrom : zW M_X4_copyFrom 1 := ⟨lw_ok_of 3 (by decide +kernel) rfl, lw_ok_of 298 (by decide +kernel) rfl, ⟨by decide +kernel, by decide +kernel⟩, by decide +kernel, by decide⟩
theorem i_X4_copyFrom : Cond.instanceMethod yX4_copyFrom ∈ lw_ok := lw_ok_of 296 (by decide +kernel) rfl
theorem v_X4_copyFrom : Cond.selects yX4_copyFrom.cls yX4_copyFrom yX4_copyFrom ∈ lw_ok := lw_ok_of 297 (by decide +kernel) rfl
abbrev M_X4_weekday : zM := (yX4_weekday, cX4_weekday, 1, (some .int))
theorem W_X4_weekday : zW M_X4_weekday 0 := ⟨lw_ok_of 3 (by decide +kernel) rfl, lw_ok_of 277 (by decide +kernel) rfl, ⟨by decide +kernel, by decide +kernel⟩, by decide +kernel, by decide⟩
theorem i_X4_weekday : Cond.instanceMethod yX4_weekday ∈ lw_ok := lw_ok_of 275 (by decide +kernel) rfl
theorem v_X4_weekday : Cond.selects yX4_weekday.cls yX4_weekday yX4_weekday ∈ lw_ok := lw_ok_of 276 (by decide +kernel) rfl
abbrev M_X4_touchedNow : zM := (yX4_touchedNow, cX4_touchedNow, 1, (some .int))
theorem W_X4_touchedNow : zW M_X4_touchedNow 0 := ⟨lw_ok_of 3 (by decide +kernel) rfl, lw_ok_of 273 (by decide +kernel) rfl, ⟨by decide +kernel, by decide +kernel⟩, by decide +kernel, by decide⟩
theorem i_X4_touchedNow : Cond.instanceMethod yX4_touchedNow ∈ lw_ok := lw_ok_of 271 (by decide +kernel) rfl
theorem v_X4_touchedNow : Cond.selects yX4_touchedNow.cls yX4_touchedNow yX4_touchedNow ∈ lw_ok := lw_ok_of 272 (by decide +kernel) rfl
abbrev M_X4_filedIn : zM := (yX4_filedIn, cX4_filedIn, 4, (some .int))
theorem W_X4_filedIn : zW M_X4_filedIn 1 := ⟨lw_ok_of 3 (by decide +kernel) rfl, lw_ok_of 397 (by decide +kernel) rfl, ⟨by decide +kernel, by decide +kernel⟩, by decide +kernel, by decide⟩
theorem i_X4_filedIn : Cond.instanceMethod yX4_filedIn ∈ lw_ok := lw_ok_of 395 (by decide +kernel) rfl
theorem v_X4_filedIn : Cond.selects yX4_filedIn.cls yX4_filedIn yX4_filedIn ∈ lw_ok := lw_ok_of 396 (by decide +kernel) rfl
abbrev M_X5_init : zM := (yX5_init, cX5_init, 3, none)
theorem W_X5_init : zW M_X5_init 2 := ⟨lw_ok_of 8 (by decide +kernel) rfl, lw_ok_of 193 (by decide +kernel) rfl, ⟨by decide +kernel, by decide +kernel⟩, by decide +kernel, by decide⟩
theorem i_X5_init : Cond.instanceMethod yX5_init ∈ lw_ok := lw_ok_of 192 (by decide +kernel) rfl
abbrev M_X5_setUp : zM := (yX5_setUp, cX5_setUp, 5, none)
theorem W_X5_setUp : zW M_X5_setUp 0 := ⟨lw_ok_of 8 (by decide +kernel) rfl, lw_ok_of 319 (by decide +kernel) rfl, ⟨by decide +kernel, by decide +kernel⟩, by decide +kernel, by decide⟩
theorem i_X5_setUp : Cond.instanceMethod yX5_setUp ∈ lw_ok := lw_ok_of 317 (by decide +kernel) rfl
theorem v_X5_setUp : Cond.selects yX5_setUp.cls yX5_setUp yX5_setUp ∈ lw_ok := lw_ok_of 318 (by decide +kernel) rfl
abbrev M_X5_linkingNet : zM := (yX5_linkingNet, cX5_linkingNet, 3, (some .int))
theorem W_X5_linkingNet : zW M_X5_linkingNet 1 := ⟨lw_ok_of 8 (by decide +kernel) rfl, lw_ok_of 327 (by decide +kernel) rfl, ⟨by decide +kernel, by decide +kernel⟩, by decide +kernel, by decide⟩
theorem i_X5_linkingNet : Cond.instanceMethod yX5_linkingNet ∈ lw_ok := lw_ok_of 325 (by decide +kernel) rfl
theorem v_X5_linkingNet : Cond.selects yX5_linkingNet.cls yX5_linkingNet yX5_linkingNet ∈ lw_ok := lw_ok_of 326 (by decide +kernel) rfl
abbrev M_X5_followers : zM := (yX5_followers, cX5_followers, 5, (some .int))
theorem W_X5_followers : zW M_X5_followers 1 := ⟨lw_ok_of 8 (by decide +kernel) rfl, lw_ok_of 336 (by decide +kernel) rfl, ⟨by decide +kernel, by decide +kernel⟩, by decide +kernel, by decide⟩
theorem i_X5_followers : Cond.instanceMethod yX5_followers ∈ lw_ok := lw_ok_of 334 (by decide +kernel) rfl
theorem v_X5_followers : Cond.selects yX5_followers.cls yX5_followers yX5_followers ∈ lw_ok := lw_ok_of 335 (by decide +kernel) rfl
abbrev M_X5_scannedChips : zM := (yX5_scannedChips, cX5_scannedChips, 4, (some .int))
theorem W_X5_scannedChips : zW M_X5_scannedChips 1 := ⟨lw_ok_of 8 (by decide +kernel) rfl, lw_ok_of 352 (by decide +kernel) rfl, ⟨by decide +kernel, by decide +kernel⟩, by decide +kernel, by decide⟩
theorem i_X5_scannedChips : Cond.instanceMethod yX5_scannedChips ∈ lw_ok := lw_ok_of 350 (by decide +kernel) rfl
theorem v_X5_scannedChips : Cond.selects yX5_scannedChips.cls yX5_scannedChips yX5_scannedChips ∈ lw_ok := lw_ok_of 351 (by decide +kernel) rfl
abbrev M_X5_spread : zM := (yX5_spread, cX5_spread, 9, (some .int))
theorem W_X5_spread : zW M_X5_spread 3 := ⟨lw_ok_of 8 (by decide +kernel) rfl, lw_ok_of 356 (by decide +kernel) rfl, ⟨by decide +kernel, by decide +kernel⟩, by decide +kernel, by decide⟩
theorem i_X5_spread : Cond.instanceMethod yX5_spread ∈ lw_ok := lw_ok_of 354 (by decide +kernel) rfl
theorem v_X5_spread : Cond.selects yX5_spread.cls yX5_spread yX5_spread ∈ lw_ok := lw_ok_of 355 (by decide +kernel) rfl
abbrev M_X5_probe : zM := (yX5_probe, cX5_probe, 4, none)
theorem W_X5_probe : zW M_X5_probe 1 := ⟨lw_ok_of 8 (by decide +kernel) rfl, lw_ok_of 348 (by decide +kernel) rfl, ⟨by decide +kernel, by decide +kernel⟩, by decide +kernel, by decide⟩
theorem i_X5_probe : Cond.instanceMethod yX5_probe ∈ lw_ok := lw_ok_of 346 (by decide +kernel) rfl
theorem v_X5_probe : Cond.selects yX5_probe.cls yX5_probe yX5_probe ∈ lw_ok := lw_ok_of 347 (by decide +kernel) rfl
abbrev M_X5_pinsAtOne : zM := (yX5_pinsAtOne, cX5_pinsAtOne, 4, (some .int))
theorem W_X5_pinsAtOne : zW M_X5_pinsAtOne 2 := ⟨lw_ok_of 8 (by decide +kernel) rfl, lw_ok_of 369 (by decide +kernel) rfl, ⟨by decide +kernel, by decide +kernel⟩, by decide +kernel, by decide⟩
theorem i_X5_pinsAtOne : Cond.instanceMethod yX5_pinsAtOne ∈ lw_ok := lw_ok_of 367 (by decide +kernel) rfl
theorem v_X5_pinsAtOne : Cond.selects yX5_pinsAtOne.cls yX5_pinsAtOne yX5_pinsAtOne ∈ lw_ok := lw_ok_of 368 (by decide +kernel) rfl
abbrev M_X5_sameOutcome : zM := (yX5_sameOutcome, cX5_sameOutcome, 3, (some .boolean))
theorem W_X5_sameOutcome : zW M_X5_sameOutcome 1 := ⟨lw_ok_of 8 (by decide +kernel) rfl, lw_ok_of 365 (by decide +kernel) rfl, ⟨by decide +kernel, by decide +kernel⟩, by decide +kernel, by decide⟩
theorem i_X5_sameOutcome : Cond.instanceMethod yX5_sameOutcome ∈ lw_ok := lw_ok_of 363 (by decide +kernel) rfl
theorem v_X5_sameOutcome : Cond.selects yX5_sameOutcome.cls yX5_sameOutcome yX5_sameOutcome ∈ lw_ok := lw_ok_of 364 (by decide +kernel) rfl
abbrev M_X6_init : zM := (yX6_init, cX6_init, 2, none)
theorem W_X6_init : zW M_X6_init 0 := ⟨lw_ok_of 1 (by decide +kernel) rfl, lw_ok_of 15 (by decide +kernel) rfl, ⟨by decide +kernel, by decide +kernel⟩, by decide +kernel, by decide⟩
theorem i_X6_init : Cond.instanceMethod yX6_init ∈ lw_ok := lw_ok_of 14 (by decide +kernel) rfl
abbrev M_X6_net : zM := (yX6_net, cX6_net, 3, (some .int))
theorem W_X6_net : zW M_X6_net 1 := ⟨lw_ok_of 1 (by decide +kernel) rfl, lw_ok_of 424 (by decide +kernel) rfl, ⟨by decide +kernel, by decide +kernel⟩, by decide +kernel, by decide⟩
theorem i_X6_net : Cond.instanceMethod yX6_net ∈ lw_ok := lw_ok_of 422 (by decide +kernel) rfl
theorem v_X6_net : Cond.selects yX6_net.cls yX6_net yX6_net ∈ lw_ok := lw_ok_of 423 (by decide +kernel) rfl
abbrev M_X6_chip : zM := (yX6_chip, cX6_chip, 5, (some .int))
theorem W_X6_chip : zW M_X6_chip 3 := ⟨lw_ok_of 1 (by decide +kernel) rfl, lw_ok_of 441 (by decide +kernel) rfl, ⟨by decide +kernel, by decide +kernel⟩, by decide +kernel, by decide⟩
theorem i_X6_chip : Cond.instanceMethod yX6_chip ∈ lw_ok := lw_ok_of 439 (by decide +kernel) rfl
theorem v_X6_chip : Cond.selects yX6_chip.cls yX6_chip yX6_chip ∈ lw_ok := lw_ok_of 440 (by decide +kernel) rfl
abbrev M_X6_fault : zM := (yX6_fault, cX6_fault, 5, (some .int))
theorem W_X6_fault : zW M_X6_fault 3 := ⟨lw_ok_of 1 (by decide +kernel) rfl, lw_ok_of 454 (by decide +kernel) rfl, ⟨by decide +kernel, by decide +kernel⟩, by decide +kernel, by decide⟩
theorem i_X6_fault : Cond.instanceMethod yX6_fault ∈ lw_ok := lw_ok_of 452 (by decide +kernel) rfl
theorem v_X6_fault : Cond.selects yX6_fault.cls yX6_fault yX6_fault ∈ lw_ok := lw_ok_of 453 (by decide +kernel) rfl
abbrev M_X6_bless : zM := (yX6_bless, cX6_bless, 3, (some .int))
theorem W_X6_bless : zW M_X6_bless 2 := ⟨lw_ok_of 1 (by decide +kernel) rfl, lw_ok_of 470 (by decide +kernel) rfl, ⟨by decide +kernel, by decide +kernel⟩, by decide +kernel, by decide⟩
theorem i_X6_bless : Cond.instanceMethod yX6_bless ∈ lw_ok := lw_ok_of 468 (by decide +kernel) rfl
theorem v_X6_bless : Cond.selects yX6_bless.cls yX6_bless yX6_bless ∈ lw_ok := lw_ok_of 469 (by decide +kernel) rfl
abbrev M_X6_pinOf : zM := (yX6_pinOf, cX6_pinOf, 4, (some .int))
theorem W_X6_pinOf : zW M_X6_pinOf 2 := ⟨lw_ok_of 1 (by decide +kernel) rfl, lw_ok_of 249 (by decide +kernel) rfl, ⟨by decide +kernel, by decide +kernel⟩, by decide +kernel, by decide⟩
theorem i_X6_pinOf : Cond.instanceMethod yX6_pinOf ∈ lw_ok := lw_ok_of 247 (by decide +kernel) rfl
theorem v_X6_pinOf : Cond.selects yX6_pinOf.cls yX6_pinOf yX6_pinOf ∈ lw_ok := lw_ok_of 248 (by decide +kernel) rfl
abbrev M_X6_faultOf : zM := (yX6_faultOf, cX6_faultOf, 4, (some .int))
theorem W_X6_faultOf : zW M_X6_faultOf 2 := ⟨lw_ok_of 1 (by decide +kernel) rfl, lw_ok_of 413 (by decide +kernel) rfl, ⟨by decide +kernel, by decide +kernel⟩, by decide +kernel, by decide⟩
theorem i_X6_faultOf : Cond.instanceMethod yX6_faultOf ∈ lw_ok := lw_ok_of 411 (by decide +kernel) rfl
theorem v_X6_faultOf : Cond.selects yX6_faultOf.cls yX6_faultOf yX6_faultOf ∈ lw_ok := lw_ok_of 412 (by decide +kernel) rfl
abbrev M_X6_plant : zM := (yX6_plant, cX6_plant, 2, (some .int))
theorem W_X6_plant : zW M_X6_plant 1 := ⟨lw_ok_of 1 (by decide +kernel) rfl, lw_ok_of 478 (by decide +kernel) rfl, ⟨by decide +kernel, by decide +kernel⟩, by decide +kernel, by decide⟩
theorem i_X6_plant : Cond.instanceMethod yX6_plant ∈ lw_ok := lw_ok_of 476 (by decide +kernel) rfl
theorem v_X6_plant : Cond.selects yX6_plant.cls yX6_plant yX6_plant ∈ lw_ok := lw_ok_of 477 (by decide +kernel) rfl
abbrev M_X6_test : zM := (yX6_test, cX6_test, 1, (some .int))
theorem W_X6_test : zW M_X6_test 0 := ⟨lw_ok_of 1 (by decide +kernel) rfl, lw_ok_of 286 (by decide +kernel) rfl, ⟨by decide +kernel, by decide +kernel⟩, by decide +kernel, by decide⟩
theorem i_X6_test : Cond.instanceMethod yX6_test ∈ lw_ok := lw_ok_of 284 (by decide +kernel) rfl
theorem v_X6_test : Cond.selects yX6_test.cls yX6_test yX6_test ∈ lw_ok := lw_ok_of 285 (by decide +kernel) rfl
abbrev M_X6_vouch : zM := (yX6_vouch, cX6_vouch, 2, (some .int))
theorem W_X6_vouch : zW M_X6_vouch 1 := ⟨lw_ok_of 1 (by decide +kernel) rfl, lw_ok_of 493 (by decide +kernel) rfl, ⟨by decide +kernel, by decide +kernel⟩, by decide +kernel, by decide⟩
theorem i_X6_vouch : Cond.instanceMethod yX6_vouch ∈ lw_ok := lw_ok_of 491 (by decide +kernel) rfl
theorem v_X6_vouch : Cond.selects yX6_vouch.cls yX6_vouch yX6_vouch ∈ lw_ok := lw_ok_of 492 (by decide +kernel) rfl
abbrev M_X6_vouchers : zM := (yX6_vouchers, cX6_vouchers, 3, (some .int))
theorem W_X6_vouchers : zW M_X6_vouchers 1 := ⟨lw_ok_of 1 (by decide +kernel) rfl, lw_ok_of 499 (by decide +kernel) rfl, ⟨by decide +kernel, by decide +kernel⟩, by decide +kernel, by decide⟩
theorem i_X6_vouchers : Cond.instanceMethod yX6_vouchers ∈ lw_ok := lw_ok_of 497 (by decide +kernel) rfl
theorem v_X6_vouchers : Cond.selects yX6_vouchers.cls yX6_vouchers yX6_vouchers ∈ lw_ok := lw_ok_of 498 (by decide +kernel) rfl
abbrev M_X6_pass : zM := (yX6_pass, cX6_pass, 2, (some .int))
theorem W_X6_pass : zW M_X6_pass 1 := ⟨lw_ok_of 1 (by decide +kernel) rfl, lw_ok_of 503 (by decide +kernel) rfl, ⟨by decide +kernel, by decide +kernel⟩, by decide +kernel, by decide⟩
theorem i_X6_pass : Cond.instanceMethod yX6_pass ∈ lw_ok := lw_ok_of 501 (by decide +kernel) rfl
theorem v_X6_pass : Cond.selects yX6_pass.cls yX6_pass yX6_pass ∈ lw_ok := lw_ok_of 502 (by decide +kernel) rfl
abbrev M_X6_suspects : zM := (yX6_suspects, cX6_suspects, 1, (some .int))
theorem W_X6_suspects : zW M_X6_suspects 0 := ⟨lw_ok_of 1 (by decide +kernel) rfl, lw_ok_of 379 (by decide +kernel) rfl, ⟨by decide +kernel, by decide +kernel⟩, by decide +kernel, by decide⟩
theorem i_X6_suspects : Cond.instanceMethod yX6_suspects ∈ lw_ok := lw_ok_of 377 (by decide +kernel) rfl
theorem v_X6_suspects : Cond.selects yX6_suspects.cls yX6_suspects yX6_suspects ∈ lw_ok := lw_ok_of 378 (by decide +kernel) rfl
abbrev M_X6_file : zM := (yX6_file, cX6_file, 3, (some .int))
theorem W_X6_file : zW M_X6_file 2 := ⟨lw_ok_of 1 (by decide +kernel) rfl, lw_ok_of 507 (by decide +kernel) rfl, ⟨by decide +kernel, by decide +kernel⟩, by decide +kernel, by decide⟩
theorem i_X6_file : Cond.instanceMethod yX6_file ∈ lw_ok := lw_ok_of 505 (by decide +kernel) rfl
theorem v_X6_file : Cond.selects yX6_file.cls yX6_file yX6_file ∈ lw_ok := lw_ok_of 506 (by decide +kernel) rfl
abbrev M_X6_count : zM := (yX6_count, cX6_count, 2, (some .int))
theorem W_X6_count : zW M_X6_count 1 := ⟨lw_ok_of 1 (by decide +kernel) rfl, lw_ok_of 383 (by decide +kernel) rfl, ⟨by decide +kernel, by decide +kernel⟩, by decide +kernel, by decide⟩
theorem i_X6_count : Cond.instanceMethod yX6_count ∈ lw_ok := lw_ok_of 381 (by decide +kernel) rfl
theorem v_X6_count : Cond.selects yX6_count.cls yX6_count yX6_count ∈ lw_ok := lw_ok_of 382 (by decide +kernel) rfl
abbrev M_X6_undo : zM := (yX6_undo, cX6_undo, 1, (some .int))
theorem W_X6_undo : zW M_X6_undo 0 := ⟨lw_ok_of 1 (by decide +kernel) rfl, lw_ok_of 517 (by decide +kernel) rfl, ⟨by decide +kernel, by decide +kernel⟩, by decide +kernel, by decide⟩
theorem i_X6_undo : Cond.instanceMethod yX6_undo ∈ lw_ok := lw_ok_of 515 (by decide +kernel) rfl
theorem v_X6_undo : Cond.selects yX6_undo.cls yX6_undo yX6_undo ∈ lw_ok := lw_ok_of 516 (by decide +kernel) rfl
abbrev M_X6_reachedNow : zM := (yX6_reachedNow, cX6_reachedNow, 2, (some .int))
theorem W_X6_reachedNow : zW M_X6_reachedNow 0 := ⟨lw_ok_of 1 (by decide +kernel) rfl, lw_ok_of 388 (by decide +kernel) rfl, ⟨by decide +kernel, by decide +kernel⟩, by decide +kernel, by decide⟩
theorem i_X6_reachedNow : Cond.instanceMethod yX6_reachedNow ∈ lw_ok := lw_ok_of 387 (by decide +kernel) rfl
theorem v_X6_reachedNow : Cond.selects yX6_reachedNow.cls yX6_reachedNow yX6_reachedNow ∈ lw_ok := lw_ok_sel 0 (by decide +kernel) rfl
abbrev M_X6_isFaultOrNone : zM := (yX6_isFaultOrNone, cX6_isFaultOrNone, 2, (some .boolean))
theorem W_X6_isFaultOrNone : zW M_X6_isFaultOrNone 1 := ⟨lw_ok_of 1 (by decide +kernel) rfl, lw_ok_of 482 (by decide +kernel) rfl, ⟨by decide +kernel, by decide +kernel⟩, by decide +kernel, by decide⟩
theorem i_X6_isFaultOrNone : Cond.instanceMethod yX6_isFaultOrNone ∈ lw_ok := lw_ok_of 481 (by decide +kernel) rfl
theorem v_X6_isFaultOrNone : Cond.selects yX6_isFaultOrNone.cls yX6_isFaultOrNone yX6_isFaultOrNone ∈ lw_ok := lw_ok_sel 1 (by decide +kernel) rfl
abbrev M_X6_suspectFor : zM := (yX6_suspectFor, cX6_suspectFor, 1, (some .int))
theorem W_X6_suspectFor : zW M_X6_suspectFor 1 := ⟨lw_ok_of 1 (by decide +kernel) rfl, lw_ok_of 485 (by decide +kernel) rfl, ⟨by decide +kernel, by decide +kernel⟩, by decide +kernel, by decide⟩
theorem s_X6_suspectFor : Cond.static yX6_suspectFor ∈ lw_ok := lw_ok_of 484 (by decide +kernel) rfl
abbrev M_X6_foundOrNot : zM := (yX6_foundOrNot, cX6_foundOrNot, 1, (some .int))
theorem W_X6_foundOrNot : zW M_X6_foundOrNot 1 := ⟨lw_ok_of 1 (by decide +kernel) rfl, lw_ok_of 256 (by decide +kernel) rfl, ⟨by decide +kernel, by decide +kernel⟩, by decide +kernel, by decide⟩
theorem s_X6_foundOrNot : Cond.static yX6_foundOrNot ∈ lw_ok := lw_ok_of 255 (by decide +kernel) rfl
abbrev M_X6_isPin : zM := (yX6_isPin, cX6_isPin, 1, (some .boolean))
theorem W_X6_isPin : zW M_X6_isPin 1 := ⟨lw_ok_of 1 (by decide +kernel) rfl, lw_ok_of 252 (by decide +kernel) rfl, ⟨by decide +kernel, by decide +kernel⟩, by decide +kernel, by decide⟩
theorem s_X6_isPin : Cond.static yX6_isPin ∈ lw_ok := lw_ok_of 251 (by decide +kernel) rfl
abbrev M_X6_hasBit : zM := (yX6_hasBit, cX6_hasBit, 2, (some .boolean))
theorem W_X6_hasBit : zW M_X6_hasBit 2 := ⟨lw_ok_of 1 (by decide +kernel) rfl, lw_ok_of 264 (by decide +kernel) rfl, ⟨by decide +kernel, by decide +kernel⟩, by decide +kernel, by decide⟩
theorem s_X6_hasBit : Cond.static yX6_hasBit ∈ lw_ok := lw_ok_of 263 (by decide +kernel) rfl
abbrev M_J6_bitCount_0f7a4 : zM := (yJ6_bitCount_0f7a4, cJ6_bitCount_0f7a4, 1, (some .int))
theorem W_J6_bitCount_0f7a4 : zW M_J6_bitCount_0f7a4 1 := ⟨lw_ok_of 9 (by decide +kernel) rfl, lw_ok_of 372 (by decide +kernel) rfl, ⟨by decide +kernel, by decide +kernel⟩, by decide +kernel, by decide⟩
theorem s_J6_bitCount_0f7a4 : Cond.static yJ6_bitCount_0f7a4 ∈ lw_ok := lw_ok_of 371 (by decide +kernel) rfl
abbrev M_J7_fill_53178 : zM := (yJ7_fill_53178, cJ7_fill_53178, 4, none)
theorem W_J7_fill_53178 : zW M_J7_fill_53178 2 := ⟨lw_ok_of 5 (by decide +kernel) rfl, lw_ok_of 36 (by decide +kernel) rfl, ⟨by decide +kernel, by decide +kernel⟩, by decide +kernel, by decide⟩
theorem s_J7_fill_53178 : Cond.static yJ7_fill_53178 ∈ lw_ok := lw_ok_of 35 (by decide +kernel) rfl
abbrev M_L_cell : zM := (yL_cell, cL_cell, 2, (some .int))
theorem W_L_cell : zW M_L_cell 2 := ⟨lw_ok_of 0 (by decide +kernel) rfl, lw_ok_of 400 (by decide +kernel) rfl, ⟨by decide +kernel, by decide +kernel⟩, by decide +kernel, by decide⟩
theorem s_L_cell : Cond.static yL_cell ∈ lw_ok := lw_ok_of 399 (by decide +kernel) rfl
abbrev M_L_up : zM := (yL_up, cL_up, 2, (some .int))
theorem W_L_up : zW M_L_up 2 := ⟨lw_ok_of 0 (by decide +kernel) rfl, lw_ok_of 404 (by decide +kernel) rfl, ⟨by decide +kernel, by decide +kernel⟩, by decide +kernel, by decide⟩
theorem s_L_up : Cond.static yL_up ∈ lw_ok := lw_ok_of 403 (by decide +kernel) rfl
abbrev M_L_ones : zM := (yL_ones, cL_ones, 3, (some .int))
theorem W_L_ones : zW M_L_ones 1 := ⟨lw_ok_of 0 (by decide +kernel) rfl, lw_ok_of 527 (by decide +kernel) rfl, ⟨by decide +kernel, by decide +kernel⟩, by decide +kernel, by decide⟩
theorem s_L_ones : Cond.static yL_ones ∈ lw_ok := lw_ok_of 526 (by decide +kernel) rfl
abbrev M_L_view : zM := (yL_view, cL_view, 5, (some .long))
theorem W_L_view : zW M_L_view 1 := ⟨lw_ok_of 0 (by decide +kernel) rfl, lw_ok_of 408 (by decide +kernel) rfl, ⟨by decide +kernel, by decide +kernel⟩, by decide +kernel, by decide⟩
theorem s_L_view : Cond.static yL_view ∈ lw_ok := lw_ok_of 407 (by decide +kernel) rfl
abbrev M_L_some : zM := (yL_some, cL_some, 1, (some .int))
theorem W_L_some : zW M_L_some 1 := ⟨lw_ok_of 0 (by decide +kernel) rfl, lw_ok_of 420 (by decide +kernel) rfl, ⟨by decide +kernel, by decide +kernel⟩, by decide +kernel, by decide⟩
theorem s_L_some : Cond.static yL_some ∈ lw_ok := lw_ok_of 419 (by decide +kernel) rfl
abbrev M_L_any : zM := (yL_any, cL_any, 3, (some .int))
theorem W_L_any : zW M_L_any 3 := ⟨lw_ok_of 0 (by decide +kernel) rfl, lw_ok_of 510 (by decide +kernel) rfl, ⟨by decide +kernel, by decide +kernel⟩, by decide +kernel, by decide⟩
theorem s_L_any : Cond.static yL_any ∈ lw_ok := lw_ok_of 509 (by decide +kernel) rfl
abbrev M_L_turn : zM := (yL_turn, cL_turn, 5, (some .int))
theorem W_L_turn : zW M_L_turn 4 := ⟨lw_ok_of 0 (by decide +kernel) rfl, lw_ok_of 417 (by decide +kernel) rfl, ⟨by decide +kernel, by decide +kernel⟩, by decide +kernel, by decide⟩
theorem s_L_turn : Cond.static yL_turn ∈ lw_ok := lw_ok_of 416 (by decide +kernel) rfl
abbrev M_L_isUndone : zM := (yL_isUndone, cL_isUndone, 8, (some .boolean))
theorem W_L_isUndone : zW M_L_isUndone 6 := ⟨lw_ok_of 0 (by decide +kernel) rfl, lw_ok_of 513 (by decide +kernel) rfl, ⟨by decide +kernel, by decide +kernel⟩, by decide +kernel, by decide⟩
theorem s_L_isUndone : Cond.static yL_isUndone ∈ lw_ok := lw_ok_of 512 (by decide +kernel) rfl
abbrev M_L_areRight : zM := (yL_areRight, cL_areRight, 7, (some .boolean))
theorem W_L_areRight : zW M_L_areRight 5 := ⟨lw_ok_of 0 (by decide +kernel) rfl, lw_ok_of 524 (by decide +kernel) rfl, ⟨by decide +kernel, by decide +kernel⟩, by decide +kernel, by decide⟩
theorem s_L_areRight : Cond.static yL_areRight ∈ lw_ok := lw_ok_of 523 (by decide +kernel) rfl
theorem k_L_85 : Cond.methodLink RL 85 yX6_init ∈ lw_ok := lw_ok_of 13 (by decide +kernel) rfl
theorem k_X6_3 : Cond.methodLink RX6 3 objectInit ∈ lw_ok := lw_ok_of 16 (by decide +kernel) rfl
theorem k_X6_11 : Cond.methodLink RX6 11 yX1_init ∈ lw_ok := lw_ok_of 21 (by decide +kernel) rfl
theorem k_X1_3 : Cond.methodLink RX1 3 objectInit ∈ lw_ok := lw_ok_of 24 (by decide +kernel) rfl
theorem k_X1_19 : Cond.methodLink RX1 19 yX0_init ∈ lw_ok := lw_ok_of 30 (by decide +kernel) rfl
theorem k_X0_3 : Cond.methodLink RX0 3 objectInit ∈ lw_ok := lw_ok_of 33 (by decide +kernel) rfl
theorem k_X0_39 : Cond.methodLink RX0 39 yJ7_fill_53178 ∈ lw_ok := lw_ok_of 34 (by decide +kernel) rfl
theorem k_X1_20 : Cond.methodLink RX1 20 yX4_init ∈ lw_ok := lw_ok_of 98 (by decide +kernel) rfl
theorem k_X4_3 : Cond.methodLink RX4 3 objectInit ∈ lw_ok := lw_ok_of 101 (by decide +kernel) rfl
theorem k_X4_29 : Cond.methodLink RX4 29 yJ7_fill_53178 ∈ lw_ok := lw_ok_of 102 (by decide +kernel) rfl
theorem k_X3_3 : Cond.methodLink RX3 3 objectInit ∈ lw_ok := lw_ok_of 149 (by decide +kernel) rfl
theorem k_X3_11 : Cond.methodLink RX3 11 yX0_init ∈ lw_ok := lw_ok_of 151 (by decide +kernel) rfl
theorem k_X6_25 : Cond.methodLink RX6 25 yX0_init ∈ lw_ok := lw_ok_of 177 (by decide +kernel) rfl
theorem k_X6_28 : Cond.methodLink RX6 28 yX4_init ∈ lw_ok := lw_ok_of 179 (by decide +kernel) rfl
theorem k_X6_37 : Cond.methodLink RX6 37 yX2_init ∈ lw_ok := lw_ok_of 182 (by decide +kernel) rfl
theorem k_X2_3 : Cond.methodLink RX2 3 objectInit ∈ lw_ok := lw_ok_of 185 (by decide +kernel) rfl
theorem k_X2_30 : Cond.methodLink RX2 30 yX5_init ∈ lw_ok := lw_ok_of 191 (by decide +kernel) rfl
theorem k_X5_3 : Cond.methodLink RX5 3 objectInit ∈ lw_ok := lw_ok_of 194 (by decide +kernel) rfl
theorem k_L_21 : Cond.methodLink RL 21 yX6_pinOf ∈ lw_ok := lw_ok_of 246 (by decide +kernel) rfl
theorem k_X6_70 : Cond.methodLink RX6 70 yX6_isPin ∈ lw_ok := lw_ok_of 250 (by decide +kernel) rfl
theorem q_X6_74 : Cond.constant RX6 74 (-1000001) ∈ lw_ok := lw_ok_of 253 (by decide +kernel) rfl
theorem k_X6_83 : Cond.methodLink RX6 83 yX6_foundOrNot ∈ lw_ok := lw_ok_of 254 (by decide +kernel) rfl
theorem q_X6_115 : Cond.constant RX6 115 (-1000004) ∈ lw_ok := lw_ok_of 257 (by decide +kernel) rfl
theorem k_X6_86 : Cond.methodLink RX6 86 yX0_chipWith ∈ lw_ok := lw_ok_of 258 (by decide +kernel) rfl
theorem k_X6_89 : Cond.methodLink RX6 89 yX0_roleOf ∈ lw_ok := lw_ok_of 265 (by decide +kernel) rfl
theorem k_X0_88 : Cond.methodLink RX0 88 yX0_chipWith ∈ lw_ok := lw_ok_of 269 (by decide +kernel) rfl
theorem k_X6_95 : Cond.methodLink RX6 95 yX4_touchedNow ∈ lw_ok := lw_ok_of 270 (by decide +kernel) rfl
theorem k_X4_56 : Cond.methodLink RX4 56 yX4_weekday ∈ lw_ok := lw_ok_of 274 (by decide +kernel) rfl
theorem k_X4_60 : Cond.methodLink RX4 60 yX0_blessedOn ∈ lw_ok := lw_ok_of 278 (by decide +kernel) rfl
theorem k_X6_99 : Cond.methodLink RX6 99 yX6_hasBit ∈ lw_ok := lw_ok_of 282 (by decide +kernel) rfl
theorem k_L_64 : Cond.methodLink RL 64 yX6_test ∈ lw_ok := lw_ok_of 283 (by decide +kernel) rfl
theorem k_X6_50 : Cond.methodLink RX6 50 yX1_keep ∈ lw_ok := lw_ok_of 287 (by decide +kernel) rfl
theorem k_X1_27 : Cond.methodLink RX1 27 yX1_dropOldest ∈ lw_ok := lw_ok_of 291 (by decide +kernel) rfl
theorem k_X1_30 : Cond.methodLink RX1 30 yX4_copyFrom ∈ lw_ok := lw_ok_of 295 (by decide +kernel) rfl
theorem k_X4_35 : Cond.methodLink RX4 35 yX0_copyFrom ∈ lw_ok := lw_ok_of 299 (by decide +kernel) rfl
theorem k_X0_45 : Cond.methodLink RX0 45 arraycopyName ∈ lw_ok := lw_ok_of 303 (by decide +kernel) rfl
theorem k_X4_41 : Cond.methodLink RX4 41 arraycopyName ∈ lw_ok := lw_ok_of 306 (by decide +kernel) rfl
theorem k_X6_203 : Cond.methodLink RX6 203 yX2_leftBy ∈ lw_ok := lw_ok_of 307 (by decide +kernel) rfl
theorem k_X2_48 : Cond.methodLink RX2 48 yX2_supposeAll ∈ lw_ok := lw_ok_of 311 (by decide +kernel) rfl
theorem k_X2_33 : Cond.methodLink RX2 33 yX5_setUp ∈ lw_ok := lw_ok_of 316 (by decide +kernel) rfl
theorem k_X5_26 : Cond.methodLink RX5 26 yX0_isFault ∈ lw_ok := lw_ok_of 320 (by decide +kernel) rfl
theorem k_X5_47 : Cond.methodLink RX5 47 yX5_linkingNet ∈ lw_ok := lw_ok_of 324 (by decide +kernel) rfl
theorem k_X5_57 : Cond.methodLink RX5 57 yX0_suffers ∈ lw_ok := lw_ok_of 328 (by decide +kernel) rfl
theorem k_X0_91 : Cond.methodLink RX0 91 yX0_isFault ∈ lw_ok := lw_ok_of 332 (by decide +kernel) rfl
theorem k_X5_51 : Cond.methodLink RX5 51 yX5_followers ∈ lw_ok := lw_ok_of 333 (by decide +kernel) rfl
theorem k_X5_61 : Cond.methodLink RX5 61 yX0_shortedWith ∈ lw_ok := lw_ok_of 337 (by decide +kernel) rfl
theorem k_X2_51 : Cond.methodLink RX2 51 yX2_probeAll ∈ lw_ok := lw_ok_of 341 (by decide +kernel) rfl
theorem k_X2_40 : Cond.methodLink RX2 40 yX5_probe ∈ lw_ok := lw_ok_of 345 (by decide +kernel) rfl
theorem k_X5_82 : Cond.methodLink RX5 82 yX5_scannedChips ∈ lw_ok := lw_ok_of 349 (by decide +kernel) rfl
theorem k_X5_71 : Cond.methodLink RX5 71 yX5_spread ∈ lw_ok := lw_ok_of 353 (by decide +kernel) rfl
theorem k_X2_55 : Cond.methodLink RX2 55 yX2_probedLike ∈ lw_ok := lw_ok_of 358 (by decide +kernel) rfl
theorem k_X2_44 : Cond.methodLink RX2 44 yX5_sameOutcome ∈ lw_ok := lw_ok_of 362 (by decide +kernel) rfl
theorem k_X5_91 : Cond.methodLink RX5 91 yX5_pinsAtOne ∈ lw_ok := lw_ok_of 366 (by decide +kernel) rfl
theorem k_X6_186 : Cond.methodLink RX6 186 yJ6_bitCount_0f7a4 ∈ lw_ok := lw_ok_of 370 (by decide +kernel) rfl
theorem q_J6_265 : Cond.constant RJ6 265 (1431655765) ∈ lw_ok := lw_ok_of 373 (by decide +kernel) rfl
theorem q_J6_266 : Cond.constant RJ6 266 (858993459) ∈ lw_ok := lw_ok_of 374 (by decide +kernel) rfl
theorem q_J6_267 : Cond.constant RJ6 267 (252645135) ∈ lw_ok := lw_ok_of 375 (by decide +kernel) rfl
theorem k_L_9 : Cond.methodLink RL 9 yX6_suspects ∈ lw_ok := lw_ok_of 376 (by decide +kernel) rfl
theorem k_L_17 : Cond.methodLink RL 17 yX6_count ∈ lw_ok := lw_ok_of 380 (by decide +kernel) rfl
theorem k_X6_217 : Cond.methodLink RX6 217 yX4_weekday ∈ lw_ok := lw_ok_of 384 (by decide +kernel) rfl
theorem k_X6_232 : Cond.methodLink RX6 232 yX6_reachedNow ∈ lw_ok := lw_ok_of 385 (by decide +kernel) rfl
theorem k_X6_128 : Cond.methodLink RX6 128 yX2_suppose ∈ lw_ok := lw_ok_of 389 (by decide +kernel) rfl
theorem k_X6_135 : Cond.methodLink RX6 135 yX5_probe ∈ lw_ok := lw_ok_of 393 (by decide +kernel) rfl
theorem k_X6_223 : Cond.methodLink RX6 223 yX4_filedIn ∈ lw_ok := lw_ok_of 394 (by decide +kernel) rfl
theorem k_L_86 : Cond.methodLink RL 86 yL_cell ∈ lw_ok := lw_ok_of 398 (by decide +kernel) rfl
theorem q_L_7 : Cond.constant RL 7 (763049417) ∈ lw_ok := lw_ok_of 401 (by decide +kernel) rfl
theorem k_L_53 : Cond.methodLink RL 53 yL_up ∈ lw_ok := lw_ok_of 402 (by decide +kernel) rfl
theorem q_L_8 : Cond.constant RL 8 (2147483647) ∈ lw_ok := lw_ok_of 405 (by decide +kernel) rfl
theorem k_L_74 : Cond.methodLink RL 74 yL_view ∈ lw_ok := lw_ok_of 406 (by decide +kernel) rfl
theorem q_L_15 : Cond.constantLong RL 15 (31) ∈ lw_ok := lw_ok_of 409 (by decide +kernel) rfl
theorem k_L_25 : Cond.methodLink RL 25 yX6_faultOf ∈ lw_ok := lw_ok_of 410 (by decide +kernel) rfl
theorem k_X6_103 : Cond.methodLink RX6 103 yX0_isFault ∈ lw_ok := lw_ok_of 414 (by decide +kernel) rfl
theorem k_L_78 : Cond.methodLink RL 78 yL_turn ∈ lw_ok := lw_ok_of 415 (by decide +kernel) rfl
theorem k_L_58 : Cond.methodLink RL 58 yL_some ∈ lw_ok := lw_ok_of 418 (by decide +kernel) rfl
theorem k_L_28 : Cond.methodLink RL 28 yX6_net ∈ lw_ok := lw_ok_of 421 (by decide +kernel) rfl
theorem k_X6_46 : Cond.methodLink RX6 46 yX0_refusalOfNet ∈ lw_ok := lw_ok_of 425 (by decide +kernel) rfl
theorem k_X0_67 : Cond.methodLink RX0 67 yJ6_bitCount_0f7a4 ∈ lw_ok := lw_ok_of 429 (by decide +kernel) rfl
theorem q_X0_73 : Cond.constant RX0 73 (-65536) ∈ lw_ok := lw_ok_of 430 (by decide +kernel) rfl
theorem q_X0_74 : Cond.constant RX0 74 (-1000001) ∈ lw_ok := lw_ok_of 431 (by decide +kernel) rfl
theorem q_X0_75 : Cond.constant RX0 75 (-1000002) ∈ lw_ok := lw_ok_of 432 (by decide +kernel) rfl
theorem q_X0_76 : Cond.constant RX0 76 (-1000003) ∈ lw_ok := lw_ok_of 433 (by decide +kernel) rfl
theorem k_X6_54 : Cond.methodLink RX6 54 yX0_addNet ∈ lw_ok := lw_ok_of 434 (by decide +kernel) rfl
theorem k_L_31 : Cond.methodLink RL 31 yX6_chip ∈ lw_ok := lw_ok_of 438 (by decide +kernel) rfl
theorem k_X6_57 : Cond.methodLink RX6 57 yX0_refusalOfChip ∈ lw_ok := lw_ok_of 442 (by decide +kernel) rfl
theorem k_X6_61 : Cond.methodLink RX6 61 yX0_addChip ∈ lw_ok := lw_ok_of 447 (by decide +kernel) rfl
theorem k_L_35 : Cond.methodLink RL 35 yX6_fault ∈ lw_ok := lw_ok_of 451 (by decide +kernel) rfl
theorem k_X6_64 : Cond.methodLink RX6 64 yX0_refusalOfFault ∈ lw_ok := lw_ok_of 455 (by decide +kernel) rfl
theorem k_X0_85 : Cond.methodLink RX0 85 yX0_placesFor ∈ lw_ok := lw_ok_of 459 (by decide +kernel) rfl
theorem k_X6_67 : Cond.methodLink RX6 67 yX0_addFault ∈ lw_ok := lw_ok_of 463 (by decide +kernel) rfl
theorem k_L_38 : Cond.methodLink RL 38 yX6_bless ∈ lw_ok := lw_ok_of 467 (by decide +kernel) rfl
theorem k_X6_75 : Cond.methodLink RX6 75 yX0_setBlessing ∈ lw_ok := lw_ok_of 471 (by decide +kernel) rfl
theorem k_L_61 : Cond.methodLink RL 61 yX6_plant ∈ lw_ok := lw_ok_of 475 (by decide +kernel) rfl
theorem k_X6_122 : Cond.methodLink RX6 122 yX6_isFaultOrNone ∈ lw_ok := lw_ok_of 479 (by decide +kernel) rfl
theorem k_X6_125 : Cond.methodLink RX6 125 yX6_suspectFor ∈ lw_ok := lw_ok_of 483 (by decide +kernel) rfl
theorem k_X6_194 : Cond.methodLink RX6 194 yX0_allSuspects ∈ lw_ok := lw_ok_of 486 (by decide +kernel) rfl
theorem k_L_44 : Cond.methodLink RL 44 yX6_vouch ∈ lw_ok := lw_ok_of 490 (by decide +kernel) rfl
theorem q_X6_206 : Cond.constant RX6 206 (-1000002) ∈ lw_ok := lw_ok_of 494 (by decide +kernel) rfl
theorem q_X6_210 : Cond.constant RX6 210 (-1000003) ∈ lw_ok := lw_ok_of 495 (by decide +kernel) rfl
theorem k_L_41 : Cond.methodLink RL 41 yX6_vouchers ∈ lw_ok := lw_ok_of 496 (by decide +kernel) rfl
theorem k_L_47 : Cond.methodLink RL 47 yX6_pass ∈ lw_ok := lw_ok_of 500 (by decide +kernel) rfl
theorem k_L_50 : Cond.methodLink RL 50 yX6_file ∈ lw_ok := lw_ok_of 504 (by decide +kernel) rfl
theorem k_L_67 : Cond.methodLink RL 67 yL_any ∈ lw_ok := lw_ok_of 508 (by decide +kernel) rfl
theorem k_L_90 : Cond.methodLink RL 90 yL_isUndone ∈ lw_ok := lw_ok_of 511 (by decide +kernel) rfl
theorem k_L_71 : Cond.methodLink RL 71 yX6_undo ∈ lw_ok := lw_ok_of 514 (by decide +kernel) rfl
theorem k_X6_241 : Cond.methodLink RX6 241 yX1_restore ∈ lw_ok := lw_ok_of 518 (by decide +kernel) rfl
theorem k_L_94 : Cond.methodLink RL 94 yL_areRight ∈ lw_ok := lw_ok_of 522 (by decide +kernel) rfl
theorem k_L_82 : Cond.methodLink RL 82 yL_ones ∈ lw_ok := lw_ok_of 525 (by decide +kernel) rfl
theorem u_X0 : ∀ w ∈ u_ws RX0 TX0 14, w ∈ lw_ok := by
  have h : (u_ws RX0 TX0 14).all (fun w => goodWord w && lw_tbl.contains w) = true := by decide +kernel
  intro w hw
  have h1 := List.all_eq_true.mp h w hw
  rw [Bool.and_eq_true] at h1
  exact List.mem_filter.mpr ⟨List.contains_iff_mem.mp h1.2, h1.1⟩
theorem u_X1 : ∀ w ∈ u_ws RX1 TX1 2, w ∈ lw_ok := by
  have h : (u_ws RX1 TX1 2).all (fun w => goodWord w && lw_tbl.contains w) = true := by decide +kernel
  intro w hw
  have h1 := List.all_eq_true.mp h w hw
  rw [Bool.and_eq_true] at h1
  exact List.mem_filter.mpr ⟨List.contains_iff_mem.mp h1.2, h1.1⟩
theorem u_X2 : ∀ w ∈ u_ws RX2 TX2 5, w ∈ lw_ok := by
  have h : (u_ws RX2 TX2 5).all (fun w => goodWord w && lw_tbl.contains w) = true := by decide +kernel
  intro w hw
  have h1 := List.all_eq_true.mp h w hw
  rw [Bool.and_eq_true] at h1
  exact List.mem_filter.mpr ⟨List.contains_iff_mem.mp h1.2, h1.1⟩
theorem u_X3 : ∀ w ∈ u_ws RX3 TX3 9, w ∈ lw_ok := by
  have h : (u_ws RX3 TX3 9).all (fun w => goodWord w && lw_tbl.contains w) = true := by decide +kernel
  intro w hw
  have h1 := List.all_eq_true.mp h w hw
  rw [Bool.and_eq_true] at h1
  exact List.mem_filter.mpr ⟨List.contains_iff_mem.mp h1.2, h1.1⟩
theorem u_X4 : ∀ w ∈ u_ws RX4 TX4 8, w ∈ lw_ok := by
  have h : (u_ws RX4 TX4 8).all (fun w => goodWord w && lw_tbl.contains w) = true := by decide +kernel
  intro w hw
  have h1 := List.all_eq_true.mp h w hw
  rw [Bool.and_eq_true] at h1
  exact List.mem_filter.mpr ⟨List.contains_iff_mem.mp h1.2, h1.1⟩
theorem u_X5 : ∀ w ∈ u_ws RX5 TX5 7, w ∈ lw_ok := by
  have h : (u_ws RX5 TX5 7).all (fun w => goodWord w && lw_tbl.contains w) = true := by decide +kernel
  intro w hw
  have h1 := List.all_eq_true.mp h w hw
  rw [Bool.and_eq_true] at h1
  exact List.mem_filter.mpr ⟨List.contains_iff_mem.mp h1.2, h1.1⟩
theorem u_X6 : ∀ w ∈ u_ws RX6 TX6 4, w ∈ lw_ok := by
  have h : (u_ws RX6 TX6 4).all (fun w => goodWord w && lw_tbl.contains w) = true := by decide +kernel
  intro w hw
  have h1 := List.all_eq_true.mp h w hw
  rw [Bool.and_eq_true] at h1
  exact List.mem_filter.mpr ⟨List.contains_iff_mem.mp h1.2, h1.1⟩
theorem f_X0_9 : zF RX0 9 0 0 true (.array .int) := ⟨RX0, TX0, 14, tyX0, rfl, by decide, lw_ok_of 37 (by decide +kernel) rfl, u_X0, tyX0_ok, nmX0, rfl, by decide +kernel, fun _ => rfl⟩
theorem e_X0_9 : zFr RX0 9 0 0 := ⟨RX0, TX0, 14, rfl, by decide, lw_ok_of 37 (by decide +kernel) rfl, u_X0⟩
theorem e_X5_35 : zFr RX5 35 0 0 := ⟨RX0, TX0, 14, rfl, by decide, lw_ok_of 38 (by decide +kernel) rfl, u_X0⟩
theorem f_X0_15 : zF RX0 15 0 1 true (.array .int) := ⟨RX0, TX0, 14, tyX0, rfl, by decide, lw_ok_of 39 (by decide +kernel) rfl, u_X0, tyX0_ok, nmX0, rfl, by decide +kernel, fun _ => rfl⟩
theorem e_X0_15 : zFr RX0 15 0 1 := ⟨RX0, TX0, 14, rfl, by decide, lw_ok_of 39 (by decide +kernel) rfl, u_X0⟩
theorem e_X5_54 : zFr RX5 54 0 1 := ⟨RX0, TX0, 14, rfl, by decide, lw_ok_of 40 (by decide +kernel) rfl, u_X0⟩
theorem e_X6_79 : zFr RX6 79 0 1 := ⟨RX0, TX0, 14, rfl, by decide, lw_ok_of 41 (by decide +kernel) rfl, u_X0⟩
theorem f_X0_18 : zF RX0 18 0 2 true (.array .int) := ⟨RX0, TX0, 14, tyX0, rfl, by decide, lw_ok_of 42 (by decide +kernel) rfl, u_X0, tyX0_ok, nmX0, rfl, by decide +kernel, fun _ => rfl⟩
theorem e_X0_18 : zFr RX0 18 0 2 := ⟨RX0, TX0, 14, rfl, by decide, lw_ok_of 42 (by decide +kernel) rfl, u_X0⟩
theorem e_X5_65 : zFr RX5 65 0 2 := ⟨RX0, TX0, 14, rfl, by decide, lw_ok_of 43 (by decide +kernel) rfl, u_X0⟩
theorem f_X0_21 : zF RX0 21 0 3 true (.array .int) := ⟨RX0, TX0, 14, tyX0, rfl, by decide, lw_ok_of 44 (by decide +kernel) rfl, u_X0, tyX0_ok, nmX0, rfl, by decide +kernel, fun _ => rfl⟩
theorem e_X0_21 : zFr RX0 21 0 3 := ⟨RX0, TX0, 14, rfl, by decide, lw_ok_of 44 (by decide +kernel) rfl, u_X0⟩
theorem e_X5_68 : zFr RX5 68 0 3 := ⟨RX0, TX0, 14, rfl, by decide, lw_ok_of 45 (by decide +kernel) rfl, u_X0⟩
theorem f_X0_24 : zF RX0 24 0 4 true (.array .int) := ⟨RX0, TX0, 14, tyX0, rfl, by decide, lw_ok_of 46 (by decide +kernel) rfl, u_X0, tyX0_ok, nmX0, rfl, by decide +kernel, fun _ => rfl⟩
theorem e_X0_24 : zFr RX0 24 0 4 := ⟨RX0, TX0, 14, rfl, by decide, lw_ok_of 46 (by decide +kernel) rfl, u_X0⟩
theorem e_X5_88 : zFr RX5 88 0 4 := ⟨RX0, TX0, 14, rfl, by decide, lw_ok_of 47 (by decide +kernel) rfl, u_X0⟩
theorem f_X0_27 : zF RX0 27 0 5 true (.array .int) := ⟨RX0, TX0, 14, tyX0, rfl, by decide, lw_ok_of 48 (by decide +kernel) rfl, u_X0, tyX0_ok, nmX0, rfl, by decide +kernel, fun _ => rfl⟩
theorem e_X0_27 : zFr RX0 27 0 5 := ⟨RX0, TX0, 14, rfl, by decide, lw_ok_of 48 (by decide +kernel) rfl, u_X0⟩
theorem e_X5_32 : zFr RX5 32 0 5 := ⟨RX0, TX0, 14, rfl, by decide, lw_ok_of 49 (by decide +kernel) rfl, u_X0⟩
theorem e_X6_106 : zFr RX6 106 0 5 := ⟨RX0, TX0, 14, rfl, by decide, lw_ok_of 50 (by decide +kernel) rfl, u_X0⟩
theorem f_X0_30 : zF RX0 30 0 6 true (.array .int) := ⟨RX0, TX0, 14, tyX0, rfl, by decide, lw_ok_of 51 (by decide +kernel) rfl, u_X0, tyX0_ok, nmX0, rfl, by decide +kernel, fun _ => rfl⟩
theorem e_X0_30 : zFr RX0 30 0 6 := ⟨RX0, TX0, 14, rfl, by decide, lw_ok_of 51 (by decide +kernel) rfl, u_X0⟩
theorem e_X5_38 : zFr RX5 38 0 6 := ⟨RX0, TX0, 14, rfl, by decide, lw_ok_of 52 (by decide +kernel) rfl, u_X0⟩
theorem e_X6_109 : zFr RX6 109 0 6 := ⟨RX0, TX0, 14, rfl, by decide, lw_ok_of 53 (by decide +kernel) rfl, u_X0⟩
theorem f_X0_33 : zF RX0 33 0 7 true (.array .int) := ⟨RX0, TX0, 14, tyX0, rfl, by decide, lw_ok_of 54 (by decide +kernel) rfl, u_X0, tyX0_ok, nmX0, rfl, by decide +kernel, fun _ => rfl⟩
theorem e_X0_33 : zFr RX0 33 0 7 := ⟨RX0, TX0, 14, rfl, by decide, lw_ok_of 54 (by decide +kernel) rfl, u_X0⟩
theorem e_X6_112 : zFr RX6 112 0 7 := ⟨RX0, TX0, 14, rfl, by decide, lw_ok_of 55 (by decide +kernel) rfl, u_X0⟩
theorem f_X0_36 : zF RX0 36 0 8 true (.array .int) := ⟨RX0, TX0, 14, tyX0, rfl, by decide, lw_ok_of 56 (by decide +kernel) rfl, u_X0, tyX0_ok, nmX0, rfl, by decide +kernel, fun _ => rfl⟩
theorem e_X0_36 : zFr RX0 36 0 8 := ⟨RX0, TX0, 14, rfl, by decide, lw_ok_of 56 (by decide +kernel) rfl, u_X0⟩
theorem e_X6_92 : zFr RX6 92 0 8 := ⟨RX0, TX0, 14, rfl, by decide, lw_ok_of 57 (by decide +kernel) rfl, u_X0⟩
theorem f_X0_51 : zF RX0 51 0 9 false .int := ⟨RX0, TX0, 14, tyX0, rfl, by decide, lw_ok_of 58 (by decide +kernel) rfl, u_X0, tyX0_ok, nmX0, rfl, by decide +kernel, fun _ => rfl⟩
theorem e_X0_51 : zFr RX0 51 0 9 := ⟨RX0, TX0, 14, rfl, by decide, lw_ok_of 58 (by decide +kernel) rfl, u_X0⟩
theorem f_X6_226 : zF RX6 226 0 9 false .int := ⟨RX0, TX0, 14, tyX0, rfl, by decide, lw_ok_of 59 (by decide +kernel) rfl, u_X0, tyX0_ok, nmX0, rfl, by decide +kernel, fun h => by cases h⟩
theorem e_X6_226 : zFr RX6 226 0 9 := ⟨RX0, TX0, 14, rfl, by decide, lw_ok_of 59 (by decide +kernel) rfl, u_X0⟩
theorem f_X0_55 : zF RX0 55 0 10 false .int := ⟨RX0, TX0, 14, tyX0, rfl, by decide, lw_ok_of 60 (by decide +kernel) rfl, u_X0, tyX0_ok, nmX0, rfl, by decide +kernel, fun _ => rfl⟩
theorem e_X0_55 : zFr RX0 55 0 10 := ⟨RX0, TX0, 14, rfl, by decide, lw_ok_of 60 (by decide +kernel) rfl, u_X0⟩
theorem f_X5_75 : zF RX5 75 0 10 false .int := ⟨RX0, TX0, 14, tyX0, rfl, by decide, lw_ok_of 61 (by decide +kernel) rfl, u_X0, tyX0_ok, nmX0, rfl, by decide +kernel, fun h => by cases h⟩
theorem e_X5_75 : zFr RX5 75 0 10 := ⟨RX0, TX0, 14, rfl, by decide, lw_ok_of 61 (by decide +kernel) rfl, u_X0⟩
theorem f_X6_229 : zF RX6 229 0 10 false .int := ⟨RX0, TX0, 14, tyX0, rfl, by decide, lw_ok_of 62 (by decide +kernel) rfl, u_X0, tyX0_ok, nmX0, rfl, by decide +kernel, fun h => by cases h⟩
theorem e_X6_229 : zFr RX6 229 0 10 := ⟨RX0, TX0, 14, rfl, by decide, lw_ok_of 62 (by decide +kernel) rfl, u_X0⟩
theorem f_X0_58 : zF RX0 58 0 11 false .int := ⟨RX0, TX0, 14, tyX0, rfl, by decide, lw_ok_of 63 (by decide +kernel) rfl, u_X0, tyX0_ok, nmX0, rfl, by decide +kernel, fun _ => rfl⟩
theorem e_X0_58 : zFr RX0 58 0 11 := ⟨RX0, TX0, 14, rfl, by decide, lw_ok_of 63 (by decide +kernel) rfl, u_X0⟩
theorem f_X4_64 : zF RX4 64 0 11 false .int := ⟨RX0, TX0, 14, tyX0, rfl, by decide, lw_ok_of 64 (by decide +kernel) rfl, u_X0, tyX0_ok, nmX0, rfl, by decide +kernel, fun h => by cases h⟩
theorem e_X4_64 : zFr RX4 64 0 11 := ⟨RX0, TX0, 14, rfl, by decide, lw_ok_of 64 (by decide +kernel) rfl, u_X0⟩
theorem f_X6_163 : zF RX6 163 0 11 false .int := ⟨RX0, TX0, 14, tyX0, rfl, by decide, lw_ok_of 65 (by decide +kernel) rfl, u_X0, tyX0_ok, nmX0, rfl, by decide +kernel, fun h => by cases h⟩
theorem e_X6_163 : zFr RX6 163 0 11 := ⟨RX0, TX0, 14, rfl, by decide, lw_ok_of 65 (by decide +kernel) rfl, u_X0⟩
theorem f_X0_61 : zF RX0 61 0 12 false .int := ⟨RX0, TX0, 14, tyX0, rfl, by decide, lw_ok_of 66 (by decide +kernel) rfl, u_X0, tyX0_ok, nmX0, rfl, by decide +kernel, fun _ => rfl⟩
theorem e_X0_61 : zFr RX0 61 0 12 := ⟨RX0, TX0, 14, rfl, by decide, lw_ok_of 66 (by decide +kernel) rfl, u_X0⟩
theorem f_X0_64 : zF RX0 64 0 13 false .int := ⟨RX0, TX0, 14, tyX0, rfl, by decide, lw_ok_of 67 (by decide +kernel) rfl, u_X0, tyX0_ok, nmX0, rfl, by decide +kernel, fun _ => rfl⟩
theorem e_X0_64 : zFr RX0 64 0 13 := ⟨RX0, TX0, 14, rfl, by decide, lw_ok_of 67 (by decide +kernel) rfl, u_X0⟩
theorem f_X4_25 : zF RX4 25 4 0 true (.object "BlessedPins$Board") := ⟨RX4, TX4, 8, tyX4, rfl, by decide, lw_ok_of 103 (by decide +kernel) rfl, u_X4, tyX4_ok, nmX4, rfl, by decide +kernel, fun _ => rfl⟩
theorem e_X4_25 : zFr RX4 25 4 0 := ⟨RX4, TX4, 8, rfl, by decide, lw_ok_of 103 (by decide +kernel) rfl, u_X4⟩
theorem e_X6_42 : zFr RX6 42 4 0 := ⟨RX4, TX4, 8, rfl, by decide, lw_ok_of 104 (by decide +kernel) rfl, u_X4⟩
theorem f_X4_9 : zF RX4 9 4 1 true (.array .int) := ⟨RX4, TX4, 8, tyX4, rfl, by decide, lw_ok_of 105 (by decide +kernel) rfl, u_X4, tyX4_ok, nmX4, rfl, by decide +kernel, fun _ => rfl⟩
theorem e_X4_9 : zFr RX4 9 4 1 := ⟨RX4, TX4, 8, rfl, by decide, lw_ok_of 105 (by decide +kernel) rfl, u_X4⟩
theorem e_X6_116 : zFr RX6 116 4 1 := ⟨RX4, TX4, 8, rfl, by decide, lw_ok_of 106 (by decide +kernel) rfl, u_X4⟩
theorem f_X4_47 : zF RX4 47 4 2 false .int := ⟨RX4, TX4, 8, tyX4, rfl, by decide, lw_ok_of 107 (by decide +kernel) rfl, u_X4, tyX4_ok, nmX4, rfl, by decide +kernel, fun _ => rfl⟩
theorem e_X4_47 : zFr RX4 47 4 2 := ⟨RX4, TX4, 8, rfl, by decide, lw_ok_of 107 (by decide +kernel) rfl, u_X4⟩
theorem f_X6_214 : zF RX6 214 4 2 false .int := ⟨RX4, TX4, 8, tyX4, rfl, by decide, lw_ok_of 108 (by decide +kernel) rfl, u_X4, tyX4_ok, nmX4, rfl, by decide +kernel, fun h => by cases h⟩
theorem e_X6_214 : zFr RX6 214 4 2 := ⟨RX4, TX4, 8, rfl, by decide, lw_ok_of 108 (by decide +kernel) rfl, u_X4⟩
theorem f_X4_15 : zF RX4 15 4 3 false .int := ⟨RX4, TX4, 8, tyX4, rfl, by decide, lw_ok_of 109 (by decide +kernel) rfl, u_X4, tyX4_ok, nmX4, rfl, by decide +kernel, fun _ => rfl⟩
theorem e_X4_15 : zFr RX4 15 4 3 := ⟨RX4, TX4, 8, rfl, by decide, lw_ok_of 109 (by decide +kernel) rfl, u_X4⟩
theorem f_X6_191 : zF RX6 191 4 3 false .int := ⟨RX4, TX4, 8, tyX4, rfl, by decide, lw_ok_of 110 (by decide +kernel) rfl, u_X4, tyX4_ok, nmX4, rfl, by decide +kernel, fun h => by cases h⟩
theorem e_X6_191 : zFr RX6 191 4 3 := ⟨RX4, TX4, 8, rfl, by decide, lw_ok_of 110 (by decide +kernel) rfl, u_X4⟩
theorem f_X4_19 : zF RX4 19 4 4 false .int := ⟨RX4, TX4, 8, tyX4, rfl, by decide, lw_ok_of 111 (by decide +kernel) rfl, u_X4, tyX4_ok, nmX4, rfl, by decide +kernel, fun _ => rfl⟩
theorem e_X4_19 : zFr RX4 19 4 4 := ⟨RX4, TX4, 8, rfl, by decide, lw_ok_of 111 (by decide +kernel) rfl, u_X4⟩
theorem f_X6_197 : zF RX6 197 4 4 false .int := ⟨RX4, TX4, 8, tyX4, rfl, by decide, lw_ok_of 112 (by decide +kernel) rfl, u_X4, tyX4_ok, nmX4, rfl, by decide +kernel, fun h => by cases h⟩
theorem e_X6_197 : zFr RX6 197 4 4 := ⟨RX4, TX4, 8, rfl, by decide, lw_ok_of 112 (by decide +kernel) rfl, u_X4⟩
theorem f_X4_22 : zF RX4 22 4 5 false .int := ⟨RX4, TX4, 8, tyX4, rfl, by decide, lw_ok_of 113 (by decide +kernel) rfl, u_X4, tyX4_ok, nmX4, rfl, by decide +kernel, fun _ => rfl⟩
theorem e_X4_22 : zFr RX4 22 4 5 := ⟨RX4, TX4, 8, rfl, by decide, lw_ok_of 113 (by decide +kernel) rfl, u_X4⟩
theorem f_X6_207 : zF RX6 207 4 5 false .int := ⟨RX4, TX4, 8, tyX4, rfl, by decide, lw_ok_of 114 (by decide +kernel) rfl, u_X4, tyX4_ok, nmX4, rfl, by decide +kernel, fun h => by cases h⟩
theorem e_X6_207 : zFr RX6 207 4 5 := ⟨RX4, TX4, 8, rfl, by decide, lw_ok_of 114 (by decide +kernel) rfl, u_X4⟩
theorem f_X4_50 : zF RX4 50 4 6 false .int := ⟨RX4, TX4, 8, tyX4, rfl, by decide, lw_ok_of 115 (by decide +kernel) rfl, u_X4, tyX4_ok, nmX4, rfl, by decide +kernel, fun _ => rfl⟩
theorem e_X4_50 : zFr RX4 50 4 6 := ⟨RX4, TX4, 8, rfl, by decide, lw_ok_of 115 (by decide +kernel) rfl, u_X4⟩
theorem f_X6_211 : zF RX6 211 4 6 false .int := ⟨RX4, TX4, 8, tyX4, rfl, by decide, lw_ok_of 116 (by decide +kernel) rfl, u_X4, tyX4_ok, nmX4, rfl, by decide +kernel, fun h => by cases h⟩
theorem e_X6_211 : zFr RX6 211 4 6 := ⟨RX4, TX4, 8, rfl, by decide, lw_ok_of 116 (by decide +kernel) rfl, u_X4⟩
theorem f_X4_53 : zF RX4 53 4 7 false .int := ⟨RX4, TX4, 8, tyX4, rfl, by decide, lw_ok_of 117 (by decide +kernel) rfl, u_X4, tyX4_ok, nmX4, rfl, by decide +kernel, fun _ => rfl⟩
theorem e_X4_53 : zFr RX4 53 4 7 := ⟨RX4, TX4, 8, rfl, by decide, lw_ok_of 117 (by decide +kernel) rfl, u_X4⟩
theorem f_X6_200 : zF RX6 200 4 7 false .int := ⟨RX4, TX4, 8, tyX4, rfl, by decide, lw_ok_of 118 (by decide +kernel) rfl, u_X4, tyX4_ok, nmX4, rfl, by decide +kernel, fun h => by cases h⟩
theorem e_X6_200 : zFr RX6 200 4 7 := ⟨RX4, TX4, 8, rfl, by decide, lw_ok_of 118 (by decide +kernel) rfl, u_X4⟩
theorem f_X1_11 : zF RX1 11 1 0 true (.array (.object "BlessedPins$State")) := ⟨RX1, TX1, 2, tyX1, rfl, by decide, lw_ok_of 136 (by decide +kernel) rfl, u_X1, tyX1_ok, nmX1, rfl, by decide +kernel, fun _ => rfl⟩
theorem e_X1_11 : zFr RX1 11 1 0 := ⟨RX1, TX1, 2, rfl, by decide, lw_ok_of 136 (by decide +kernel) rfl, u_X1⟩
theorem f_X1_23 : zF RX1 23 1 1 false .int := ⟨RX1, TX1, 2, tyX1, rfl, by decide, lw_ok_of 137 (by decide +kernel) rfl, u_X1, tyX1_ok, nmX1, rfl, by decide +kernel, fun _ => rfl⟩
theorem e_X1_23 : zFr RX1 23 1 1 := ⟨RX1, TX1, 2, rfl, by decide, lw_ok_of 137 (by decide +kernel) rfl, u_X1⟩
theorem f_X6_235 : zF RX6 235 1 1 false .int := ⟨RX1, TX1, 2, tyX1, rfl, by decide, lw_ok_of 138 (by decide +kernel) rfl, u_X1, tyX1_ok, nmX1, rfl, by decide +kernel, fun h => by cases h⟩
theorem e_X6_235 : zFr RX6 235 1 1 := ⟨RX1, TX1, 2, rfl, by decide, lw_ok_of 138 (by decide +kernel) rfl, u_X1⟩
theorem f_X3_12 : zF RX3 12 3 0 true (.object "BlessedPins$Board") := ⟨RX3, TX3, 9, tyX3, rfl, by decide, lw_ok_of 152 (by decide +kernel) rfl, u_X3, tyX3_ok, nmX3, rfl, by decide +kernel, fun _ => rfl⟩
theorem e_X3_12 : zFr RX3 12 3 0 := ⟨RX3, TX3, 9, rfl, by decide, lw_ok_of 152 (by decide +kernel) rfl, u_X3⟩
theorem f_X3_18 : zF RX3 18 3 1 true (.array .char) := ⟨RX3, TX3, 9, tyX3, rfl, by decide, lw_ok_of 153 (by decide +kernel) rfl, u_X3, tyX3_ok, nmX3, rfl, by decide +kernel, fun _ => rfl⟩
theorem e_X3_18 : zFr RX3 18 3 1 := ⟨RX3, TX3, 9, rfl, by decide, lw_ok_of 153 (by decide +kernel) rfl, u_X3⟩
theorem f_X3_22 : zF RX3 22 3 2 true (.array .int) := ⟨RX3, TX3, 9, tyX3, rfl, by decide, lw_ok_of 154 (by decide +kernel) rfl, u_X3, tyX3_ok, nmX3, rfl, by decide +kernel, fun _ => rfl⟩
theorem e_X3_22 : zFr RX3 22 3 2 := ⟨RX3, TX3, 9, rfl, by decide, lw_ok_of 154 (by decide +kernel) rfl, u_X3⟩
theorem f_X6_238 : zF RX6 238 3 3 false .int := ⟨RX3, TX3, 9, tyX3, rfl, by decide, lw_ok_of 155 (by decide +kernel) rfl, u_X3, tyX3_ok, nmX3, rfl, by decide +kernel, fun h => by cases h⟩
theorem e_X6_238 : zFr RX6 238 3 3 := ⟨RX3, TX3, 9, rfl, by decide, lw_ok_of 155 (by decide +kernel) rfl, u_X3⟩
theorem f_X5_18 : zF RX5 18 5 0 true (.object "BlessedPins$Board") := ⟨RX5, TX5, 7, tyX5, rfl, by decide, lw_ok_of 195 (by decide +kernel) rfl, u_X5, tyX5_ok, nmX5, rfl, by decide +kernel, fun _ => rfl⟩
theorem e_X5_18 : zFr RX5 18 5 0 := ⟨RX5, TX5, 7, rfl, by decide, lw_ok_of 195 (by decide +kernel) rfl, u_X5⟩
theorem f_X5_22 : zF RX5 22 5 1 true .int := ⟨RX5, TX5, 7, tyX5, rfl, by decide, lw_ok_of 196 (by decide +kernel) rfl, u_X5, tyX5_ok, nmX5, rfl, by decide +kernel, fun _ => rfl⟩
theorem e_X5_22 : zFr RX5 22 5 1 := ⟨RX5, TX5, 7, rfl, by decide, lw_ok_of 196 (by decide +kernel) rfl, u_X5⟩
theorem f_X5_9 : zF RX5 9 5 2 true (.array .int) := ⟨RX5, TX5, 7, tyX5, rfl, by decide, lw_ok_of 197 (by decide +kernel) rfl, u_X5, tyX5_ok, nmX5, rfl, by decide +kernel, fun _ => rfl⟩
theorem e_X5_9 : zFr RX5 9 5 2 := ⟨RX5, TX5, 7, rfl, by decide, lw_ok_of 197 (by decide +kernel) rfl, u_X5⟩
theorem f_X5_15 : zF RX5 15 5 3 true (.array .int) := ⟨RX5, TX5, 7, tyX5, rfl, by decide, lw_ok_of 198 (by decide +kernel) rfl, u_X5, tyX5_ok, nmX5, rfl, by decide +kernel, fun _ => rfl⟩
theorem e_X5_15 : zFr RX5 15 5 3 := ⟨RX5, TX5, 7, rfl, by decide, lw_ok_of 198 (by decide +kernel) rfl, u_X5⟩
theorem f_X5_41 : zF RX5 41 5 4 false .int := ⟨RX5, TX5, 7, tyX5, rfl, by decide, lw_ok_of 199 (by decide +kernel) rfl, u_X5, tyX5_ok, nmX5, rfl, by decide +kernel, fun _ => rfl⟩
theorem e_X5_41 : zFr RX5 41 5 4 := ⟨RX5, TX5, 7, rfl, by decide, lw_ok_of 199 (by decide +kernel) rfl, u_X5⟩
theorem f_X5_44 : zF RX5 44 5 5 false .int := ⟨RX5, TX5, 7, tyX5, rfl, by decide, lw_ok_of 200 (by decide +kernel) rfl, u_X5, tyX5_ok, nmX5, rfl, by decide +kernel, fun _ => rfl⟩
theorem e_X5_44 : zFr RX5 44 5 5 := ⟨RX5, TX5, 7, rfl, by decide, lw_ok_of 200 (by decide +kernel) rfl, u_X5⟩
theorem f_X5_85 : zF RX5 85 5 6 false .int := ⟨RX5, TX5, 7, tyX5, rfl, by decide, lw_ok_of 201 (by decide +kernel) rfl, u_X5, tyX5_ok, nmX5, rfl, by decide +kernel, fun _ => rfl⟩
theorem e_X5_85 : zFr RX5 85 5 6 := ⟨RX5, TX5, 7, rfl, by decide, lw_ok_of 201 (by decide +kernel) rfl, u_X5⟩
theorem f_X6_141 : zF RX6 141 5 6 false .int := ⟨RX5, TX5, 7, tyX5, rfl, by decide, lw_ok_of 202 (by decide +kernel) rfl, u_X5, tyX5_ok, nmX5, rfl, by decide +kernel, fun h => by cases h⟩
theorem e_X6_141 : zFr RX6 141 5 6 := ⟨RX5, TX5, 7, rfl, by decide, lw_ok_of 202 (by decide +kernel) rfl, u_X5⟩
theorem f_X2_26 : zF RX2 26 2 0 true (.object "BlessedPins$Board") := ⟨RX2, TX2, 5, tyX2, rfl, by decide, lw_ok_of 218 (by decide +kernel) rfl, u_X2, tyX2_ok, nmX2, rfl, by decide +kernel, fun _ => rfl⟩
theorem e_X2_26 : zFr RX2 26 2 0 := ⟨RX2, TX2, 5, rfl, by decide, lw_ok_of 218 (by decide +kernel) rfl, u_X2⟩
theorem f_X2_11 : zF RX2 11 2 1 true (.array (.object "BlessedPins$SuspectBoard")) := ⟨RX2, TX2, 5, tyX2, rfl, by decide, lw_ok_of 219 (by decide +kernel) rfl, u_X2, tyX2_ok, nmX2, rfl, by decide +kernel, fun _ => rfl⟩
theorem e_X2_11 : zFr RX2 11 2 1 := ⟨RX2, TX2, 5, rfl, by decide, lw_ok_of 219 (by decide +kernel) rfl, u_X2⟩
theorem f_X2_19 : zF RX2 19 2 2 true (.array (.array .int)) := ⟨RX2, TX2, 5, tyX2, rfl, by decide, lw_ok_of 220 (by decide +kernel) rfl, u_X2, tyX2_ok, nmX2, rfl, by decide +kernel, fun _ => rfl⟩
theorem e_X2_19 : zFr RX2 19 2 2 := ⟨RX2, TX2, 5, rfl, by decide, lw_ok_of 220 (by decide +kernel) rfl, u_X2⟩
theorem f_X2_22 : zF RX2 22 2 3 true (.array .int) := ⟨RX2, TX2, 5, tyX2, rfl, by decide, lw_ok_of 221 (by decide +kernel) rfl, u_X2, tyX2_ok, nmX2, rfl, by decide +kernel, fun _ => rfl⟩
theorem e_X2_22 : zFr RX2 22 2 3 := ⟨RX2, TX2, 5, rfl, by decide, lw_ok_of 221 (by decide +kernel) rfl, u_X2⟩
theorem f_X6_31 : zF RX6 31 6 0 true (.object "BlessedPins$State") := ⟨RX6, TX6, 4, tyX6, rfl, by decide, lw_ok_of 233 (by decide +kernel) rfl, u_X6, tyX6_ok, nmX6, rfl, by decide +kernel, fun _ => rfl⟩
theorem e_X6_31 : zFr RX6 31 6 0 := ⟨RX6, TX6, 4, rfl, by decide, lw_ok_of 233 (by decide +kernel) rfl, u_X6⟩
theorem f_X6_38 : zF RX6 38 6 1 true (.object "BlessedPins$Meter") := ⟨RX6, TX6, 4, tyX6, rfl, by decide, lw_ok_of 234 (by decide +kernel) rfl, u_X6, tyX6_ok, nmX6, rfl, by decide +kernel, fun _ => rfl⟩
theorem e_X6_38 : zFr RX6 38 6 1 := ⟨RX6, TX6, 4, rfl, by decide, lw_ok_of 234 (by decide +kernel) rfl, u_X6⟩
theorem f_X6_12 : zF RX6 12 6 2 true (.object "BlessedPins$History") := ⟨RX6, TX6, 4, tyX6, rfl, by decide, lw_ok_of 235 (by decide +kernel) rfl, u_X6, tyX6_ok, nmX6, rfl, by decide +kernel, fun _ => rfl⟩
theorem e_X6_12 : zFr RX6 12 6 2 := ⟨RX6, TX6, 4, rfl, by decide, lw_ok_of 235 (by decide +kernel) rfl, u_X6⟩
theorem f_X6_19 : zF RX6 19 6 3 true (.object "BlessedPins$Program") := ⟨RX6, TX6, 4, tyX6, rfl, by decide, lw_ok_of 236 (by decide +kernel) rfl, u_X6, tyX6_ok, nmX6, rfl, by decide +kernel, fun _ => rfl⟩
theorem e_X6_19 : zFr RX6 19 6 3 := ⟨RX6, TX6, 4, rfl, by decide, lw_ok_of 236 (by decide +kernel) rfl, u_X6⟩
end
section
section ZR3
variable {G : zG} {M : zM} {d N S n0 s0 : Nat} {P : Option Value → zH → Prop} {pc q : Nat} {L L' : List (Option Value)} {st stk : List Value} {n sl : Nat} {h h' : zH}
theorem aw_getr {idx ci k a : Nat} {fs : List Value} {v : Value} (hd : decode M.2.1 pc = .ok (.getfield idx, 3)) (hq : pc + 3 = q) (hf : zFr M.1.cls idx ci k) (ha : a < n) (hh : h a = .inr (ci, fs)) (hv : fs[k]? = some v) (K : AW G M d N S n0 s0 P q L (v :: st) n sl h) : AW G M d N S n0 s0 P pc L (.ref a :: st) n sl h := by
  subst hq
  intro p l e s m args below meth c H locs ls C hs hI hS hl hn hsl
  obtain ⟨Cn, T, N9, hc, hk, hlink, hin⟩ := hf
  refine va_get (v := zV G v) C.1 C.2.1 C.2.2.2.2.1 hin C.2.2.2.1 C.2.2.2.2.2.2.2.2.1 hI.2.2 a (zWl_at hI.2.1 ha hh) hc k hk (C.2.2.2.2.1 _ hlink) (fun _ h9 => h9) ?_ hd (K p l e s m args below meth c H locs ls C hs hI hS hl hn hsl)
  rw [List.getElem?_map, hv]
  rfl
theorem aw_iald' {a len : Nat} {f : Nat → Int32} {i v : Int32} (hd : decode M.2.1 pc = .ok (.iaload, 1)) (hq : pc + 1 = q) (ha : a < n) (hh : h a = .inl (0, len, .inl f)) (hin : vp_in i len) (hv : f i.toNatClampNeg = v) (K : AW G M d N S n0 s0 P q L (.int v :: st) n sl h) : AW G M d N S n0 s0 P pc L (.int i :: .ref a :: st) n sl h := by
  subst hv
  exact aw_iald hd hq ha hh hin K
theorem aw_cald' {a len : Nat} {f : Nat → Int32} {i v : Int32} (hd : decode M.2.1 pc = .ok (.caload, 1)) (hq : pc + 1 = q) (ha : a < n) (hh : h a = .inl (1, len, .inl f)) (hin : vp_in i len) (hv : f i.toNatClampNeg = v) (K : AW G M d N S n0 s0 P q L (.int v :: st) n sl h) : AW G M d N S n0 s0 P pc L (.int i :: .ref a :: st) n sl h := by
  subst hv
  exact aw_cald hd hq ha hh hin K
/-- another name of the number on top -/
theorem aw_nm {x y : Int32} (e : x = y) (K : AW G M d N S n0 s0 P pc L (.int x :: st) n sl h) : AW G M d N S n0 s0 P pc L (.int y :: st) n sl h := e ▸ K
theorem aw_st {st' : List Value} (e : st' = st) (K : AW G M d N S n0 s0 P pc L st' n sl h) : AW G M d N S n0 s0 P pc L st n sl h := e ▸ K
theorem zc_nat : Cond.native arraycopyName ∈ lw_ok := lw_ok_of 305 (by decide +kernel) rfl
theorem zc_st : Cond.static arraycopyName ∈ lw_ok := lw_ok_of 304 (by decide +kernel) rfl
theorem zc_in : Cond.initialized "java/lang/System" ∈ lw_ok := lw_ok_of 10 (by decide +kernel) rfl
theorem zc_wd : nativeFrameWords "java/lang/System" "arraycopy" 5 + 11 ≤ 72 := by decide +kernel
theorem aw_copy {idx a0 a len0 len1 : Nat} {f g : Nat → Int32} {sp dp k : Int32} (hd : decode M.2.1 pc = .ok (.invokestatic idx, 3)) (hq : pc + 3 = q) (hl : Cond.methodLink M.1.cls idx arraycopyName ∈ lw_ok) (ha0 : a0 < n) (ha : a < n) (hh0 : h a0 = .inl (0, len0, .inl f)) (hh : h a = .inl (0, len1, .inl g)) (h1 : ¬ sp < 0) (h2 : ¬ dp < 0) (h3 : ¬ k < 0) (h4 : sp.toNatClampNeg + k.toNatClampNeg ≤ len0) (h5 : dp.toNatClampNeg + k.toNatClampNeg ≤ len1) (hdep : 2 ≤ d) (hcat : (st.map fun v => v.category).sum ≤ 8) (hH : zu h a (.inl (0, len1, .inl (va_cpy f g sp.toNatClampNeg dp.toNatClampNeg k.toNatClampNeg))) = h') (K : AW G M d N S n0 s0 P q L st n sl h') : AW G M d N S n0 s0 P pc L (.int k :: .int dp :: .ref a :: .int sp :: .ref a0 :: st) n sl h := by
  subst hq
  subst hH
  intro p l e s m args below meth c H locs ls C hs hI hS hl9 hn hsl
  refine va_copyi (ty := .int) C.1 C.2.1 (C.2.2.1.trans hl9.1.symm) C.2.2.2.1 (C.2.2.2.2.1 _ hl) (C.2.2.2.2.1 _ zc_nat) (C.2.2.2.2.1 _ zc_st) (C.2.2.2.2.1 _ zc_in) C.2.2.2.2.2.2.2.2.1 hI.2.2 zWl_D hS a0 a 0 0 (zWl_at hI.2.1 ha0 hh0) (zWl_at hI.2.1 ha hh) rfl rfl rfl h1 h2 h3 h4 h5 (fun _ _ => rfl) (by show 1 ≤ d; omega) (by rw [zV_cats]; have := zc_wd; show _ ≤ 40 * d; omega) hd (fun H1 locs1 hP hD hS1 => w_size fun hz => ?_)
  have hP : va_P G.2.2.1 vwCl (zWl G n (zu h a (.inl (0, len1, .inl (va_cpy f g sp.toNatClampNeg dp.toNatClampNeg k.toNatClampNeg))))) H1 := by
    rw [← zWl_set hI.2.1 ha]
    exact hP
  exact K p l e s m args below meth c H1 locs1 ls C hs (zI_of hs hn.1 hI.2.1 ha hP hz) hS1 hl9 hn hsl
theorem aw_aast {a len v ci : Nat} {vs : List Value} {f : Nat → Option Nat} {i : Int32} {T : u_T} {Nf : Nat} (hd : decode M.2.1 pc = .ok (.aastore, 1)) (hq : pc + 1 = q) (ha : a < n) (hh : h a = .inl (2, len, .inr (.inr (.inr (.inr f))))) (hv : v < n) (hhv : h v = .inr (ci, vs)) (hc : vwCl[ci]? = some (RX4, T, Nf)) (hin : vp_in i len) (hH : zu h a (.inl (2, len, .inr (.inr (.inr (.inr (va_up f i.toNatClampNeg (some v))))))) = h') (K : AW G M d N S n0 s0 P q L st n sl h') : AW G M d N S n0 s0 P pc L (.ref v :: .int i :: .ref a :: st) n sl h := by
  subst hq
  subst hH
  intro p l e s m args below meth c H locs ls C hs hI hS hl hn hsl
  refine va_astq C.1 C.2.1 C.2.2.2.2.2.2.2.2.1 hI.2.2 zWl_D hS a 2 v ci (zWl_at hI.2.1 ha hh) rfl (zWl_at hI.2.1 hv hhv) hc hin hd (fun H1 locs1 hP hD hS1 => w_size fun hz => ?_)
  have e1 : va_up (fun j => (f j).map (zA G)) i.toNatClampNeg (some (zA G v)) = fun j => (va_up f i.toNatClampNeg (some v) j).map (zA G) := by
    funext j
    unfold va_up
    split <;> rfl
  have hP : va_P G.2.2.1 vwCl (zWl G n (zu h a (.inl (2, len, .inr (.inr (.inr (.inr (va_up f i.toNatClampNeg (some v))))))))) H1 := by
    rw [← zWl_set hI.2.1 ha]
    rw [e1] at hP
    exact hP
  exact K p l e s m args below meth c H1 locs1 ls C hs (zI_of hs hn.1 hI.2.1 ha hP hz) hS1 hl hn hsl
end ZR3
/-- an index within, as a truth value -/
def zin (i : Int32) (n : Nat) : Bool := !(decide (i < 0)) && decide (i.toNatClampNeg < n)
theorem zin_in {i : Int32} {n : Nat} (h : zin i n = true) : vp_in i n := by
  simp only [zin, Bool.and_eq_true, Bool.not_eq_true', decide_eq_false_iff_not, decide_eq_true_eq] at h
  exact fun q => q.elim h.1 (fun q2 => absurd h.2 (Nat.not_lt.mpr q2))
theorem zin_lt {i : Int32} {n : Nat} (h : zin i n = true) : i.toNatClampNeg < n := by
  simp only [zin, Bool.and_eq_true, Bool.not_eq_true', decide_eq_false_iff_not, decide_eq_true_eq] at h
  exact h.2
def zlt {α β : Type} (e : α) (f : α → β) : β := f e
theorem zltd {α β : Type} {e : α} {f : α → β} {r : β} (H : zlt e f = r) : ∃ x, x = e ∧ f x = r := ⟨e, rfl, H⟩
theorem zt {α : Type} {c : Prop} [Decidable c] {a b r : α} (h : c) (H : (if c then a else b) = r) : a = r := by rw [if_pos h] at H; exact H
theorem zf {α : Type} {c : Prop} [Decidable c] {a b r : α} (h : ¬ c) (H : (if c then a else b) = r) : b = r := by rw [if_neg h] at H; exact H
theorem zio {α : Type} {c : Prop} [Decidable c] {a : Option α} {r : α} (H : (if c then a else none) = some r) : c ∧ a = some r := by
  split at H
  · exact ⟨‹c›, H⟩
  · cases H
theorem zbd {α β : Type} {x : Option α} {f : α → Option β} {r : β} (H : Option.bind x f = some r) : ∃ v, x = some v ∧ f v = some r := Option.bind_eq_some_iff.mp H
def zFu : Nat := 1000

abbrev zs : Type := (Nat → Nat → Int32) × (Nat → Nat)
abbrev zr : Type := Nat → Nat → Int32
abbrev zShp : Type := Nat × Nat × List (Option Nat)
def zfl : Nat → List (Option Nat) → (Nat → Int32) → List Value
  | _, [], _ => []
  | k, none :: l, r => .int (r k) :: zfl (k + 1) l r
  | k, some a :: l, r => .ref a :: zfl (k + 1) l r
def zcell (sh : zShp) (row : Nat → Int32) (P : Nat → Nat) : va_E := match sh.1 with
  | 0 => .inr (sh.2.1, zfl 0 sh.2.2 row)
  | 1 => .inl (0, sh.2.1, .inl row)
  | 2 => .inl (1, sh.2.1, .inl row)
  | 3 => .inl (2, sh.2.1, .inr (.inr (.inr (.inr (fun j => some (P j))))))
  | 4 => .inl (3, sh.2.1, .inr (.inr (.inr (.inr (fun j => some (87 + 3 * j))))))
  | 5 => .inl (4, sh.2.1, .inr (.inr (.inr (.inr (fun j => some (79 + j))))))
  | _ => .inr (1000, [])
def zSh (a : Nat) : zShp := ([(0, 6, [some 74, some 76, some 1, some 51]), (0, 1, [some 2, none]), (3, 4, []), (0, 4, [some 4, some 14, none, none, none, none, none, none]), (0, 0, [some 5, some 6, some 7, some 8, some 9, some 10, some 11, some 12, some 13, none, none, none, none, none]), (1, 8, []), (1, 16, []), (1, 5, []), (1, 5, []), (1, 5, []), (1, 10, []), (1, 10, []), (1, 10, []), (1, 16, []), (1, 10, []), (0, 4, [some 16, some 26, none, none, none, none, none, none]), (0, 0, [some 17, some 18, some 19, some 20, some 21, some 22, some 23, some 24, some 25, none, none, none, none, none]), (1, 8, []), (1, 16, []), (1, 5, []), (1, 5, []), (1, 5, []), (1, 10, []), (1, 10, []), (1, 10, []), (1, 16, []), (1, 10, []), (0, 4, [some 28, some 38, none, none, none, none, none, none]), (0, 0, [some 29, some 30, some 31, some 32, some 33, some 34, some 35, some 36, some 37, none, none, none, none, none]), (1, 8, []), (1, 16, []), (1, 5, []), (1, 5, []), (1, 5, []), (1, 10, []), (1, 10, []), (1, 10, []), (1, 16, []), (1, 10, []), (0, 4, [some 40, some 50, none, none, none, none, none, none]), (0, 0, [some 41, some 42, some 43, some 44, some 45, some 46, some 47, some 48, some 49, none, none, none, none, none]), (1, 8, []), (1, 16, []), (1, 5, []), (1, 5, []), (1, 5, []), (1, 10, []), (1, 10, []), (1, 10, []), (1, 16, []), (1, 10, []), (0, 3, [some 52, some 62, some 63, none, none, none, none, none, none]), (0, 0, [some 53, some 54, some 55, some 56, some 57, some 58, some 59, some 60, some 61, none, none, none, none, none]), (1, 8, []), (1, 16, []), (1, 5, []), (1, 5, []), (1, 5, []), (1, 10, []), (1, 10, []), (1, 10, []), (1, 16, []), (2, 100, []), (1, 8, []), (0, 0, [some 65, some 66, some 67, some 68, some 69, some 70, some 71, some 72, some 73, none, none, none, none, none]), (1, 8, []), (1, 16, []), (1, 5, []), (1, 5, []), (1, 5, []), (1, 10, []), (1, 10, []), (1, 10, []), (1, 16, []), (0, 4, [some 64, some 75, none, none, none, none, none, none]), (1, 10, []), (0, 2, [some 64, some 77, some 78, some 86, none]), (4, 11, []), (5, 7, []), (1, 11, []), (1, 11, []), (1, 11, []), (1, 11, []), (1, 11, []), (1, 11, []), (1, 11, []), (1, 55, []), (0, 5, [some 64, none, some 88, some 89, none, none, none]), (1, 16, []), (1, 16, []), (0, 5, [some 64, none, some 91, some 92, none, none, none]), (1, 16, []), (1, 16, []), (0, 5, [some 64, none, some 94, some 95, none, none, none]), (1, 16, []), (1, 16, []), (0, 5, [some 64, none, some 97, some 98, none, none, none]), (1, 16, []), (1, 16, []), (0, 5, [some 64, none, some 100, some 101, none, none, none]), (1, 16, []), (1, 16, []), (0, 5, [some 64, none, some 103, some 104, none, none, none]), (1, 16, []), (1, 16, []), (0, 5, [some 64, none, some 106, some 107, none, none, none]), (1, 16, []), (1, 16, []), (0, 5, [some 64, none, some 109, some 110, none, none, none]), (1, 16, []), (1, 16, []), (0, 5, [some 64, none, some 112, some 113, none, none, none]), (1, 16, []), (1, 16, []), (0, 5, [some 64, none, some 115, some 116, none, none, none]), (1, 16, []), (1, 16, []), (0, 5, [some 64, none, some 118, some 119, none, none, none]), (1, 16, []), (1, 16, [])] : List zShp).getD a (9, 0, [])
def zT (s : zs) (R : zr) : zH := fun a => zcell (zSh a) (s.1 a) s.2
def zc (s : zs) (a k : Nat) (v : Int32) : zs := (fun a' => if a' = a then upd (s.1 a) k v else s.1 a', s.2)
def zcr (s : zs) (a : Nat) (row : Nat → Int32) : zs := (fun a' => if a' = a then row else s.1 a', s.2)
def zcp (s : zs) (k v : Nat) : zs := (s.1, fun j => if j = k then v else s.2 j)
def zm (R : zr) (a k : Nat) (v : Int32) : zr := fun a' => if a' = a then upd (R a) k v else R a'
theorem zT_up {s : zs} {R : zr} {a : Nat} {row : Nat → Int32} {e : va_E} (ha : a < 120) (he : e = zcell (zSh a) row s.2) : zu (zT s R) a e = zT (zcr s a row) R := by
  funext j
  unfold zu
  by_cases hj : j = a
  · subst hj
    rw [if_pos rfl, he]
    simp [zT, zcr, ha]
  · rw [if_neg hj]
    simp only [zT, zcr, if_neg hj]
theorem zT_upP {s : zs} {R : zr} {k v : Nat} : zu (zT s R) 2 (.inl (2, 4, .inr (.inr (.inr (.inr (va_up (fun j => some (s.2 j)) k (some v))))))) = zT (zcp s k v) R := by
  funext j
  unfold zu
  by_cases hj : j = 2
  · subst hj
    rw [if_pos rfl]
    show _ = zcell (zSh 2) (s.1 2) (fun j => if j = k then v else s.2 j)
    show _ = (Sum.inl (2, 4, .inr (.inr (.inr (.inr (fun j => some (if j = k then v else s.2 j)))))) : va_E)
    have e9 : va_up (fun j => some (s.2 j)) k (some v) = fun j => some (if j = k then v else s.2 j) := by
      funext j
      unfold va_up
      split <;> simp_all
    rw [e9]
  · rw [if_neg hj]
    have hne : (zSh j).1 ≠ 3 := by
      intro h3
      by_cases hb : j < 120
      · have : ∀ i, i < 120 → i ≠ 2 → (zSh i).1 ≠ 3 := by decide +kernel
        exact this j hb hj h3
      · have : zSh j = (9, 0, []) := by
          unfold zSh
          rw [List.getD_eq_getElem?_getD, List.getElem?_eq_none (by simpa using Nat.le_of_not_lt hb)]
          rfl
        rw [this] at h3
        cases h3
    have key : ∀ (row : Nat → Int32), zcell (zSh j) row s.2 = zcell (zSh j) row (zcp s k v).2 := by
      intro row
      generalize zSh j = sh at hne
      obtain ⟨x, y, z⟩ := sh
      match x, hne with
      | 0, _ => rfl
      | 1, _ => rfl
      | 2, _ => rfl
      | 3, h => exact absurd rfl h
      | 4, _ => rfl
      | 5, _ => rfl
      | x + 6, _ => rfl
    unfold zT
    split
    · exact key _
    · exact key _
def zB (b : Nat) : Prop := b = 64 ∨ b = 52 ∨ b = 4 ∨ b = 16 ∨ b = 28 ∨ b = 40
def zX4 (x : Nat) : Prop := x = 74 ∨ x = 3 ∨ x = 15 ∨ x = 27 ∨ x = 39
def zU (u : Nat) : Prop := ∃ i, i < 11 ∧ u = 87 + 3 * i
def sB (x : Nat) : Nat := if x = 74 then 64 else x + 1
def sD (x : Nat) : Nat := if x = 74 then 75 else x + 11
theorem zB64 : zB 64 := Or.inl rfl
theorem zB52 : zB 52 := Or.inr (Or.inl rfl)
theorem zX4_74 : zX4 74 := Or.inl rfl
theorem zX4_B {x : Nat} (h : zX4 x) : zB (sB x) := by rcases h with rfl | rfl | rfl | rfl | rfl <;> simp [sB, zB]
theorem zB_lt {b k : Nat} (h : zB b) (hk : k ≤ 9) : b + k < 120 := by rcases h with rfl | rfl | rfl | rfl | rfl | rfl <;> omega
theorem zB_lt0 {b : Nat} (h : zB b) : b < 120 := zB_lt (k := 0) h (by omega)
theorem zX4_lt {x : Nat} (h : zX4 x) : x < 120 := by rcases h with rfl | rfl | rfl | rfl | rfl <;> omega
theorem zX4_ltD {x : Nat} (h : zX4 x) : sD x < 120 := by rcases h with rfl | rfl | rfl | rfl | rfl <;> decide
theorem zU_lt {u k : Nat} (h : zU u) (hk : k ≤ 2) : u + k < 120 := by obtain ⟨i, hi, rfl⟩ := h; omega
theorem zU_of {i : Int32} (h : zin i 11 = true) : zU (87 + 3 * i.toNatClampNeg) := ⟨_, zin_lt h, rfl⟩
theorem o_X0 {b : Nat} (hb : zB b) (s : zs) (R : zr) : zT s R b = .inr (0, [.ref (b + 1), .ref (b + 2), .ref (b + 3), .ref (b + 4), .ref (b + 5), .ref (b + 6), .ref (b + 7), .ref (b + 8), .ref (b + 9), .int (s.1 b 9), .int (s.1 b 10), .int (s.1 b 11), .int (s.1 b 12), .int (s.1 b 13)]) := by
  rcases hb with rfl | rfl | rfl | rfl | rfl | rfl <;> rfl
theorem p_X0_9 {b : Nat} (hb : zB b) {s : zs} {R : zr} {x9 : Int32} : zu (zT s R) b (.inr (0, ([.ref (b + 1), .ref (b + 2), .ref (b + 3), .ref (b + 4), .ref (b + 5), .ref (b + 6), .ref (b + 7), .ref (b + 8), .ref (b + 9), .int (s.1 b 9), .int (s.1 b 10), .int (s.1 b 11), .int (s.1 b 12), .int (s.1 b 13)] : List Value).set 9 (.int x9))) = zT (zc s b 9 x9) R := by
  rcases hb with rfl | rfl | rfl | rfl | rfl | rfl <;> exact zT_up (row := upd (s.1 _) 9 x9) (by decide) rfl
theorem p_X0_10 {b : Nat} (hb : zB b) {s : zs} {R : zr} {x9 : Int32} : zu (zT s R) b (.inr (0, ([.ref (b + 1), .ref (b + 2), .ref (b + 3), .ref (b + 4), .ref (b + 5), .ref (b + 6), .ref (b + 7), .ref (b + 8), .ref (b + 9), .int (s.1 b 9), .int (s.1 b 10), .int (s.1 b 11), .int (s.1 b 12), .int (s.1 b 13)] : List Value).set 10 (.int x9))) = zT (zc s b 10 x9) R := by
  rcases hb with rfl | rfl | rfl | rfl | rfl | rfl <;> exact zT_up (row := upd (s.1 _) 10 x9) (by decide) rfl
theorem p_X0_11 {b : Nat} (hb : zB b) {s : zs} {R : zr} {x9 : Int32} : zu (zT s R) b (.inr (0, ([.ref (b + 1), .ref (b + 2), .ref (b + 3), .ref (b + 4), .ref (b + 5), .ref (b + 6), .ref (b + 7), .ref (b + 8), .ref (b + 9), .int (s.1 b 9), .int (s.1 b 10), .int (s.1 b 11), .int (s.1 b 12), .int (s.1 b 13)] : List Value).set 11 (.int x9))) = zT (zc s b 11 x9) R := by
  rcases hb with rfl | rfl | rfl | rfl | rfl | rfl <;> exact zT_up (row := upd (s.1 _) 11 x9) (by decide) rfl
theorem p_X0_12 {b : Nat} (hb : zB b) {s : zs} {R : zr} {x9 : Int32} : zu (zT s R) b (.inr (0, ([.ref (b + 1), .ref (b + 2), .ref (b + 3), .ref (b + 4), .ref (b + 5), .ref (b + 6), .ref (b + 7), .ref (b + 8), .ref (b + 9), .int (s.1 b 9), .int (s.1 b 10), .int (s.1 b 11), .int (s.1 b 12), .int (s.1 b 13)] : List Value).set 12 (.int x9))) = zT (zc s b 12 x9) R := by
  rcases hb with rfl | rfl | rfl | rfl | rfl | rfl <;> exact zT_up (row := upd (s.1 _) 12 x9) (by decide) rfl
theorem p_X0_13 {b : Nat} (hb : zB b) {s : zs} {R : zr} {x9 : Int32} : zu (zT s R) b (.inr (0, ([.ref (b + 1), .ref (b + 2), .ref (b + 3), .ref (b + 4), .ref (b + 5), .ref (b + 6), .ref (b + 7), .ref (b + 8), .ref (b + 9), .int (s.1 b 9), .int (s.1 b 10), .int (s.1 b 11), .int (s.1 b 12), .int (s.1 b 13)] : List Value).set 13 (.int x9))) = zT (zc s b 13 x9) R := by
  rcases hb with rfl | rfl | rfl | rfl | rfl | rfl <;> exact zT_up (row := upd (s.1 _) 13 x9) (by decide) rfl
theorem o_X4 {x : Nat} (hx : zX4 x) (s : zs) (R : zr) : zT s R x = .inr (4, [.ref (sB x), .ref (sD x), .int (s.1 x 2), .int (s.1 x 3), .int (s.1 x 4), .int (s.1 x 5), .int (s.1 x 6), .int (s.1 x 7)]) := by
  rcases hx with rfl | rfl | rfl | rfl | rfl <;> rfl
theorem p_X4_2 {x : Nat} (hx : zX4 x) {s : zs} {R : zr} {x9 : Int32} : zu (zT s R) x (.inr (4, ([.ref (sB x), .ref (sD x), .int (s.1 x 2), .int (s.1 x 3), .int (s.1 x 4), .int (s.1 x 5), .int (s.1 x 6), .int (s.1 x 7)] : List Value).set 2 (.int x9))) = zT (zc s x 2 x9) R := by
  rcases hx with rfl | rfl | rfl | rfl | rfl <;> exact zT_up (row := upd (s.1 _) 2 x9) (by decide) rfl
theorem p_X4_3 {x : Nat} (hx : zX4 x) {s : zs} {R : zr} {x9 : Int32} : zu (zT s R) x (.inr (4, ([.ref (sB x), .ref (sD x), .int (s.1 x 2), .int (s.1 x 3), .int (s.1 x 4), .int (s.1 x 5), .int (s.1 x 6), .int (s.1 x 7)] : List Value).set 3 (.int x9))) = zT (zc s x 3 x9) R := by
  rcases hx with rfl | rfl | rfl | rfl | rfl <;> exact zT_up (row := upd (s.1 _) 3 x9) (by decide) rfl
theorem p_X4_4 {x : Nat} (hx : zX4 x) {s : zs} {R : zr} {x9 : Int32} : zu (zT s R) x (.inr (4, ([.ref (sB x), .ref (sD x), .int (s.1 x 2), .int (s.1 x 3), .int (s.1 x 4), .int (s.1 x 5), .int (s.1 x 6), .int (s.1 x 7)] : List Value).set 4 (.int x9))) = zT (zc s x 4 x9) R := by
  rcases hx with rfl | rfl | rfl | rfl | rfl <;> exact zT_up (row := upd (s.1 _) 4 x9) (by decide) rfl
theorem p_X4_5 {x : Nat} (hx : zX4 x) {s : zs} {R : zr} {x9 : Int32} : zu (zT s R) x (.inr (4, ([.ref (sB x), .ref (sD x), .int (s.1 x 2), .int (s.1 x 3), .int (s.1 x 4), .int (s.1 x 5), .int (s.1 x 6), .int (s.1 x 7)] : List Value).set 5 (.int x9))) = zT (zc s x 5 x9) R := by
  rcases hx with rfl | rfl | rfl | rfl | rfl <;> exact zT_up (row := upd (s.1 _) 5 x9) (by decide) rfl
theorem p_X4_6 {x : Nat} (hx : zX4 x) {s : zs} {R : zr} {x9 : Int32} : zu (zT s R) x (.inr (4, ([.ref (sB x), .ref (sD x), .int (s.1 x 2), .int (s.1 x 3), .int (s.1 x 4), .int (s.1 x 5), .int (s.1 x 6), .int (s.1 x 7)] : List Value).set 6 (.int x9))) = zT (zc s x 6 x9) R := by
  rcases hx with rfl | rfl | rfl | rfl | rfl <;> exact zT_up (row := upd (s.1 _) 6 x9) (by decide) rfl
theorem p_X4_7 {x : Nat} (hx : zX4 x) {s : zs} {R : zr} {x9 : Int32} : zu (zT s R) x (.inr (4, ([.ref (sB x), .ref (sD x), .int (s.1 x 2), .int (s.1 x 3), .int (s.1 x 4), .int (s.1 x 5), .int (s.1 x 6), .int (s.1 x 7)] : List Value).set 7 (.int x9))) = zT (zc s x 7 x9) R := by
  rcases hx with rfl | rfl | rfl | rfl | rfl <;> exact zT_up (row := upd (s.1 _) 7 x9) (by decide) rfl
theorem o_X5 {u : Nat} (hu : zU u) (s : zs) (R : zr) : zT s R u = .inr (5, [.ref (64), .int (s.1 u 1), .ref (u + 1), .ref (u + 2), .int (s.1 u 4), .int (s.1 u 5), .int (s.1 u 6)]) := by
  obtain ⟨i, hi, rfl⟩ := hu
  rcases (by omega : i = 0 ∨ i = 1 ∨ i = 2 ∨ i = 3 ∨ i = 4 ∨ i = 5 ∨ i = 6 ∨ i = 7 ∨ i = 8 ∨ i = 9 ∨ i = 10) with rfl | rfl | rfl | rfl | rfl | rfl | rfl | rfl | rfl | rfl | rfl <;> rfl
theorem p_X5_4 {u : Nat} (hu : zU u) {s : zs} {R : zr} {x9 : Int32} : zu (zT s R) u (.inr (5, ([.ref (64), .int (s.1 u 1), .ref (u + 1), .ref (u + 2), .int (s.1 u 4), .int (s.1 u 5), .int (s.1 u 6)] : List Value).set 4 (.int x9))) = zT (zc s u 4 x9) R := by
  obtain ⟨i, hi, rfl⟩ := hu
  rcases (by omega : i = 0 ∨ i = 1 ∨ i = 2 ∨ i = 3 ∨ i = 4 ∨ i = 5 ∨ i = 6 ∨ i = 7 ∨ i = 8 ∨ i = 9 ∨ i = 10) with rfl | rfl | rfl | rfl | rfl | rfl | rfl | rfl | rfl | rfl | rfl <;> exact zT_up (row := upd (s.1 _) 4 x9) (by decide) rfl
theorem p_X5_5 {u : Nat} (hu : zU u) {s : zs} {R : zr} {x9 : Int32} : zu (zT s R) u (.inr (5, ([.ref (64), .int (s.1 u 1), .ref (u + 1), .ref (u + 2), .int (s.1 u 4), .int (s.1 u 5), .int (s.1 u 6)] : List Value).set 5 (.int x9))) = zT (zc s u 5 x9) R := by
  obtain ⟨i, hi, rfl⟩ := hu
  rcases (by omega : i = 0 ∨ i = 1 ∨ i = 2 ∨ i = 3 ∨ i = 4 ∨ i = 5 ∨ i = 6 ∨ i = 7 ∨ i = 8 ∨ i = 9 ∨ i = 10) with rfl | rfl | rfl | rfl | rfl | rfl | rfl | rfl | rfl | rfl | rfl <;> exact zT_up (row := upd (s.1 _) 5 x9) (by decide) rfl
theorem p_X5_6 {u : Nat} (hu : zU u) {s : zs} {R : zr} {x9 : Int32} : zu (zT s R) u (.inr (5, ([.ref (64), .int (s.1 u 1), .ref (u + 1), .ref (u + 2), .int (s.1 u 4), .int (s.1 u 5), .int (s.1 u 6)] : List Value).set 6 (.int x9))) = zT (zc s u 6 x9) R := by
  obtain ⟨i, hi, rfl⟩ := hu
  rcases (by omega : i = 0 ∨ i = 1 ∨ i = 2 ∨ i = 3 ∨ i = 4 ∨ i = 5 ∨ i = 6 ∨ i = 7 ∨ i = 8 ∨ i = 9 ∨ i = 10) with rfl | rfl | rfl | rfl | rfl | rfl | rfl | rfl | rfl | rfl | rfl <;> exact zT_up (row := upd (s.1 _) 6 x9) (by decide) rfl
theorem o_X6 (s : zs) (R : zr) : zT s R 0 = .inr (6, [.ref (74), .ref (76), .ref (1), .ref (51)]) := by
  rfl
theorem o_X1 (s : zs) (R : zr) : zT s R 1 = .inr (1, [.ref (2), .int (s.1 1 1)]) := by
  rfl
theorem p_X1_1 {s : zs} {R : zr} {x9 : Int32} : zu (zT s R) 1 (.inr (1, ([.ref (2), .int (s.1 1 1)] : List Value).set 1 (.int x9))) = zT (zc s 1 1 x9) R := by
  exact zT_up (row := upd (s.1 _) 1 x9) (by decide) rfl
theorem o_X2 (s : zs) (R : zr) : zT s R 76 = .inr (2, [.ref (64), .ref (77), .ref (78), .ref (86), .int (s.1 76 4)]) := by
  rfl
theorem p_X2_4 {s : zs} {R : zr} {x9 : Int32} : zu (zT s R) 76 (.inr (2, ([.ref (64), .ref (77), .ref (78), .ref (86), .int (s.1 76 4)] : List Value).set 4 (.int x9))) = zT (zc s 76 4 x9) R := by
  exact zT_up (row := upd (s.1 _) 4 x9) (by decide) rfl
theorem o_X3 (s : zs) (R : zr) : zT s R 51 = .inr (3, [.ref (52), .ref (62), .ref (63), .int (s.1 51 3), .int (s.1 51 4), .int (s.1 51 5), .int (s.1 51 6), .int (s.1 51 7), .int (s.1 51 8)]) := by
  rfl
theorem p_X3_3 {s : zs} {R : zr} {x9 : Int32} : zu (zT s R) 51 (.inr (3, ([.ref (52), .ref (62), .ref (63), .int (s.1 51 3), .int (s.1 51 4), .int (s.1 51 5), .int (s.1 51 6), .int (s.1 51 7), .int (s.1 51 8)] : List Value).set 3 (.int x9))) = zT (zc s 51 3 x9) R := by
  exact zT_up (row := upd (s.1 _) 3 x9) (by decide) rfl
theorem p_X3_4 {s : zs} {R : zr} {x9 : Int32} : zu (zT s R) 51 (.inr (3, ([.ref (52), .ref (62), .ref (63), .int (s.1 51 3), .int (s.1 51 4), .int (s.1 51 5), .int (s.1 51 6), .int (s.1 51 7), .int (s.1 51 8)] : List Value).set 4 (.int x9))) = zT (zc s 51 4 x9) R := by
  exact zT_up (row := upd (s.1 _) 4 x9) (by decide) rfl
theorem p_X3_5 {s : zs} {R : zr} {x9 : Int32} : zu (zT s R) 51 (.inr (3, ([.ref (52), .ref (62), .ref (63), .int (s.1 51 3), .int (s.1 51 4), .int (s.1 51 5), .int (s.1 51 6), .int (s.1 51 7), .int (s.1 51 8)] : List Value).set 5 (.int x9))) = zT (zc s 51 5 x9) R := by
  exact zT_up (row := upd (s.1 _) 5 x9) (by decide) rfl
theorem p_X3_6 {s : zs} {R : zr} {x9 : Int32} : zu (zT s R) 51 (.inr (3, ([.ref (52), .ref (62), .ref (63), .int (s.1 51 3), .int (s.1 51 4), .int (s.1 51 5), .int (s.1 51 6), .int (s.1 51 7), .int (s.1 51 8)] : List Value).set 6 (.int x9))) = zT (zc s 51 6 x9) R := by
  exact zT_up (row := upd (s.1 _) 6 x9) (by decide) rfl
theorem p_X3_7 {s : zs} {R : zr} {x9 : Int32} : zu (zT s R) 51 (.inr (3, ([.ref (52), .ref (62), .ref (63), .int (s.1 51 3), .int (s.1 51 4), .int (s.1 51 5), .int (s.1 51 6), .int (s.1 51 7), .int (s.1 51 8)] : List Value).set 7 (.int x9))) = zT (zc s 51 7 x9) R := by
  exact zT_up (row := upd (s.1 _) 7 x9) (by decide) rfl
theorem p_X3_8 {s : zs} {R : zr} {x9 : Int32} : zu (zT s R) 51 (.inr (3, ([.ref (52), .ref (62), .ref (63), .int (s.1 51 3), .int (s.1 51 4), .int (s.1 51 5), .int (s.1 51 6), .int (s.1 51 7), .int (s.1 51 8)] : List Value).set 8 (.int x9))) = zT (zc s 51 8 x9) R := by
  exact zT_up (row := upd (s.1 _) 8 x9) (by decide) rfl
theorem o_X0a0 {b : Nat} (hb : zB b) (s : zs) (R : zr) : zT s R (b + 1) = .inl (0, 8, .inl (s.1 (b + 1))) := by
  rcases hb with rfl | rfl | rfl | rfl | rfl | rfl <;> rfl
theorem p_X0a0 {b : Nat} (hb : zB b) {s : zs} {R : zr} {k : Nat} {x9 : Int32} : zu (zT s R) (b + 1) (.inl (0, 8, .inl (upd (s.1 (b + 1)) k x9))) = zT (zc s (b + 1) k x9) R := by
  rcases hb with rfl | rfl | rfl | rfl | rfl | rfl <;> exact zT_up (row := upd (s.1 _) k x9) (by decide) rfl
theorem r_X0a0 {b : Nat} (hb : zB b) {s : zs} {R : zr} {row : Nat → Int32} : zu (zT s R) (b + 1) (.inl (0, 8, .inl row)) = zT (zcr s (b + 1) row) R := by
  rcases hb with rfl | rfl | rfl | rfl | rfl | rfl <;> exact zT_up (by decide) rfl
theorem o_X0a1 {b : Nat} (hb : zB b) (s : zs) (R : zr) : zT s R (b + 2) = .inl (0, 16, .inl (s.1 (b + 2))) := by
  rcases hb with rfl | rfl | rfl | rfl | rfl | rfl <;> rfl
theorem p_X0a1 {b : Nat} (hb : zB b) {s : zs} {R : zr} {k : Nat} {x9 : Int32} : zu (zT s R) (b + 2) (.inl (0, 16, .inl (upd (s.1 (b + 2)) k x9))) = zT (zc s (b + 2) k x9) R := by
  rcases hb with rfl | rfl | rfl | rfl | rfl | rfl <;> exact zT_up (row := upd (s.1 _) k x9) (by decide) rfl
theorem r_X0a1 {b : Nat} (hb : zB b) {s : zs} {R : zr} {row : Nat → Int32} : zu (zT s R) (b + 2) (.inl (0, 16, .inl row)) = zT (zcr s (b + 2) row) R := by
  rcases hb with rfl | rfl | rfl | rfl | rfl | rfl <;> exact zT_up (by decide) rfl
theorem o_X0a2 {b : Nat} (hb : zB b) (s : zs) (R : zr) : zT s R (b + 3) = .inl (0, 5, .inl (s.1 (b + 3))) := by
  rcases hb with rfl | rfl | rfl | rfl | rfl | rfl <;> rfl
theorem p_X0a2 {b : Nat} (hb : zB b) {s : zs} {R : zr} {k : Nat} {x9 : Int32} : zu (zT s R) (b + 3) (.inl (0, 5, .inl (upd (s.1 (b + 3)) k x9))) = zT (zc s (b + 3) k x9) R := by
  rcases hb with rfl | rfl | rfl | rfl | rfl | rfl <;> exact zT_up (row := upd (s.1 _) k x9) (by decide) rfl
theorem r_X0a2 {b : Nat} (hb : zB b) {s : zs} {R : zr} {row : Nat → Int32} : zu (zT s R) (b + 3) (.inl (0, 5, .inl row)) = zT (zcr s (b + 3) row) R := by
  rcases hb with rfl | rfl | rfl | rfl | rfl | rfl <;> exact zT_up (by decide) rfl
theorem o_X0a3 {b : Nat} (hb : zB b) (s : zs) (R : zr) : zT s R (b + 4) = .inl (0, 5, .inl (s.1 (b + 4))) := by
  rcases hb with rfl | rfl | rfl | rfl | rfl | rfl <;> rfl
theorem p_X0a3 {b : Nat} (hb : zB b) {s : zs} {R : zr} {k : Nat} {x9 : Int32} : zu (zT s R) (b + 4) (.inl (0, 5, .inl (upd (s.1 (b + 4)) k x9))) = zT (zc s (b + 4) k x9) R := by
  rcases hb with rfl | rfl | rfl | rfl | rfl | rfl <;> exact zT_up (row := upd (s.1 _) k x9) (by decide) rfl
theorem r_X0a3 {b : Nat} (hb : zB b) {s : zs} {R : zr} {row : Nat → Int32} : zu (zT s R) (b + 4) (.inl (0, 5, .inl row)) = zT (zcr s (b + 4) row) R := by
  rcases hb with rfl | rfl | rfl | rfl | rfl | rfl <;> exact zT_up (by decide) rfl
theorem o_X0a4 {b : Nat} (hb : zB b) (s : zs) (R : zr) : zT s R (b + 5) = .inl (0, 5, .inl (s.1 (b + 5))) := by
  rcases hb with rfl | rfl | rfl | rfl | rfl | rfl <;> rfl
theorem p_X0a4 {b : Nat} (hb : zB b) {s : zs} {R : zr} {k : Nat} {x9 : Int32} : zu (zT s R) (b + 5) (.inl (0, 5, .inl (upd (s.1 (b + 5)) k x9))) = zT (zc s (b + 5) k x9) R := by
  rcases hb with rfl | rfl | rfl | rfl | rfl | rfl <;> exact zT_up (row := upd (s.1 _) k x9) (by decide) rfl
theorem r_X0a4 {b : Nat} (hb : zB b) {s : zs} {R : zr} {row : Nat → Int32} : zu (zT s R) (b + 5) (.inl (0, 5, .inl row)) = zT (zcr s (b + 5) row) R := by
  rcases hb with rfl | rfl | rfl | rfl | rfl | rfl <;> exact zT_up (by decide) rfl
theorem o_X0a5 {b : Nat} (hb : zB b) (s : zs) (R : zr) : zT s R (b + 6) = .inl (0, 10, .inl (s.1 (b + 6))) := by
  rcases hb with rfl | rfl | rfl | rfl | rfl | rfl <;> rfl
theorem p_X0a5 {b : Nat} (hb : zB b) {s : zs} {R : zr} {k : Nat} {x9 : Int32} : zu (zT s R) (b + 6) (.inl (0, 10, .inl (upd (s.1 (b + 6)) k x9))) = zT (zc s (b + 6) k x9) R := by
  rcases hb with rfl | rfl | rfl | rfl | rfl | rfl <;> exact zT_up (row := upd (s.1 _) k x9) (by decide) rfl
theorem r_X0a5 {b : Nat} (hb : zB b) {s : zs} {R : zr} {row : Nat → Int32} : zu (zT s R) (b + 6) (.inl (0, 10, .inl row)) = zT (zcr s (b + 6) row) R := by
  rcases hb with rfl | rfl | rfl | rfl | rfl | rfl <;> exact zT_up (by decide) rfl
theorem o_X0a6 {b : Nat} (hb : zB b) (s : zs) (R : zr) : zT s R (b + 7) = .inl (0, 10, .inl (s.1 (b + 7))) := by
  rcases hb with rfl | rfl | rfl | rfl | rfl | rfl <;> rfl
theorem p_X0a6 {b : Nat} (hb : zB b) {s : zs} {R : zr} {k : Nat} {x9 : Int32} : zu (zT s R) (b + 7) (.inl (0, 10, .inl (upd (s.1 (b + 7)) k x9))) = zT (zc s (b + 7) k x9) R := by
  rcases hb with rfl | rfl | rfl | rfl | rfl | rfl <;> exact zT_up (row := upd (s.1 _) k x9) (by decide) rfl
theorem r_X0a6 {b : Nat} (hb : zB b) {s : zs} {R : zr} {row : Nat → Int32} : zu (zT s R) (b + 7) (.inl (0, 10, .inl row)) = zT (zcr s (b + 7) row) R := by
  rcases hb with rfl | rfl | rfl | rfl | rfl | rfl <;> exact zT_up (by decide) rfl
theorem o_X0a7 {b : Nat} (hb : zB b) (s : zs) (R : zr) : zT s R (b + 8) = .inl (0, 10, .inl (s.1 (b + 8))) := by
  rcases hb with rfl | rfl | rfl | rfl | rfl | rfl <;> rfl
theorem p_X0a7 {b : Nat} (hb : zB b) {s : zs} {R : zr} {k : Nat} {x9 : Int32} : zu (zT s R) (b + 8) (.inl (0, 10, .inl (upd (s.1 (b + 8)) k x9))) = zT (zc s (b + 8) k x9) R := by
  rcases hb with rfl | rfl | rfl | rfl | rfl | rfl <;> exact zT_up (row := upd (s.1 _) k x9) (by decide) rfl
theorem r_X0a7 {b : Nat} (hb : zB b) {s : zs} {R : zr} {row : Nat → Int32} : zu (zT s R) (b + 8) (.inl (0, 10, .inl row)) = zT (zcr s (b + 8) row) R := by
  rcases hb with rfl | rfl | rfl | rfl | rfl | rfl <;> exact zT_up (by decide) rfl
theorem o_X0a8 {b : Nat} (hb : zB b) (s : zs) (R : zr) : zT s R (b + 9) = .inl (0, 16, .inl (s.1 (b + 9))) := by
  rcases hb with rfl | rfl | rfl | rfl | rfl | rfl <;> rfl
theorem p_X0a8 {b : Nat} (hb : zB b) {s : zs} {R : zr} {k : Nat} {x9 : Int32} : zu (zT s R) (b + 9) (.inl (0, 16, .inl (upd (s.1 (b + 9)) k x9))) = zT (zc s (b + 9) k x9) R := by
  rcases hb with rfl | rfl | rfl | rfl | rfl | rfl <;> exact zT_up (row := upd (s.1 _) k x9) (by decide) rfl
theorem r_X0a8 {b : Nat} (hb : zB b) {s : zs} {R : zr} {row : Nat → Int32} : zu (zT s R) (b + 9) (.inl (0, 16, .inl row)) = zT (zcr s (b + 9) row) R := by
  rcases hb with rfl | rfl | rfl | rfl | rfl | rfl <;> exact zT_up (by decide) rfl
theorem o_X4a1 {x : Nat} (hx : zX4 x) (s : zs) (R : zr) : zT s R (sD x) = .inl (0, 10, .inl (s.1 (sD x))) := by
  rcases hx with rfl | rfl | rfl | rfl | rfl <;> rfl
theorem p_X4a1 {x : Nat} (hx : zX4 x) {s : zs} {R : zr} {k : Nat} {x9 : Int32} : zu (zT s R) (sD x) (.inl (0, 10, .inl (upd (s.1 (sD x)) k x9))) = zT (zc s (sD x) k x9) R := by
  rcases hx with rfl | rfl | rfl | rfl | rfl <;> exact zT_up (row := upd (s.1 _) k x9) (by decide) rfl
theorem r_X4a1 {x : Nat} (hx : zX4 x) {s : zs} {R : zr} {row : Nat → Int32} : zu (zT s R) (sD x) (.inl (0, 10, .inl row)) = zT (zcr s (sD x) row) R := by
  rcases hx with rfl | rfl | rfl | rfl | rfl <;> exact zT_up (by decide) rfl
theorem o_X5a2 {u : Nat} (hu : zU u) (s : zs) (R : zr) : zT s R (u + 1) = .inl (0, 16, .inl (s.1 (u + 1))) := by
  obtain ⟨i, hi, rfl⟩ := hu
  rcases (by omega : i = 0 ∨ i = 1 ∨ i = 2 ∨ i = 3 ∨ i = 4 ∨ i = 5 ∨ i = 6 ∨ i = 7 ∨ i = 8 ∨ i = 9 ∨ i = 10) with rfl | rfl | rfl | rfl | rfl | rfl | rfl | rfl | rfl | rfl | rfl <;> rfl
theorem p_X5a2 {u : Nat} (hu : zU u) {s : zs} {R : zr} {k : Nat} {x9 : Int32} : zu (zT s R) (u + 1) (.inl (0, 16, .inl (upd (s.1 (u + 1)) k x9))) = zT (zc s (u + 1) k x9) R := by
  obtain ⟨i, hi, rfl⟩ := hu
  rcases (by omega : i = 0 ∨ i = 1 ∨ i = 2 ∨ i = 3 ∨ i = 4 ∨ i = 5 ∨ i = 6 ∨ i = 7 ∨ i = 8 ∨ i = 9 ∨ i = 10) with rfl | rfl | rfl | rfl | rfl | rfl | rfl | rfl | rfl | rfl | rfl <;> exact zT_up (row := upd (s.1 _) k x9) (by decide) rfl
theorem r_X5a2 {u : Nat} (hu : zU u) {s : zs} {R : zr} {row : Nat → Int32} : zu (zT s R) (u + 1) (.inl (0, 16, .inl row)) = zT (zcr s (u + 1) row) R := by
  obtain ⟨i, hi, rfl⟩ := hu
  rcases (by omega : i = 0 ∨ i = 1 ∨ i = 2 ∨ i = 3 ∨ i = 4 ∨ i = 5 ∨ i = 6 ∨ i = 7 ∨ i = 8 ∨ i = 9 ∨ i = 10) with rfl | rfl | rfl | rfl | rfl | rfl | rfl | rfl | rfl | rfl | rfl <;> exact zT_up (by decide) rfl
theorem o_X5a3 {u : Nat} (hu : zU u) (s : zs) (R : zr) : zT s R (u + 2) = .inl (0, 16, .inl (s.1 (u + 2))) := by
  obtain ⟨i, hi, rfl⟩ := hu
  rcases (by omega : i = 0 ∨ i = 1 ∨ i = 2 ∨ i = 3 ∨ i = 4 ∨ i = 5 ∨ i = 6 ∨ i = 7 ∨ i = 8 ∨ i = 9 ∨ i = 10) with rfl | rfl | rfl | rfl | rfl | rfl | rfl | rfl | rfl | rfl | rfl <;> rfl
theorem p_X5a3 {u : Nat} (hu : zU u) {s : zs} {R : zr} {k : Nat} {x9 : Int32} : zu (zT s R) (u + 2) (.inl (0, 16, .inl (upd (s.1 (u + 2)) k x9))) = zT (zc s (u + 2) k x9) R := by
  obtain ⟨i, hi, rfl⟩ := hu
  rcases (by omega : i = 0 ∨ i = 1 ∨ i = 2 ∨ i = 3 ∨ i = 4 ∨ i = 5 ∨ i = 6 ∨ i = 7 ∨ i = 8 ∨ i = 9 ∨ i = 10) with rfl | rfl | rfl | rfl | rfl | rfl | rfl | rfl | rfl | rfl | rfl <;> exact zT_up (row := upd (s.1 _) k x9) (by decide) rfl
theorem r_X5a3 {u : Nat} (hu : zU u) {s : zs} {R : zr} {row : Nat → Int32} : zu (zT s R) (u + 2) (.inl (0, 16, .inl row)) = zT (zcr s (u + 2) row) R := by
  obtain ⟨i, hi, rfl⟩ := hu
  rcases (by omega : i = 0 ∨ i = 1 ∨ i = 2 ∨ i = 3 ∨ i = 4 ∨ i = 5 ∨ i = 6 ∨ i = 7 ∨ i = 8 ∨ i = 9 ∨ i = 10) with rfl | rfl | rfl | rfl | rfl | rfl | rfl | rfl | rfl | rfl | rfl <;> exact zT_up (by decide) rfl
theorem o_X2a3 (s : zs) (R : zr) : zT s R (86) = .inl (0, 55, .inl (s.1 (86))) := by
  rfl
theorem p_X2a3 {s : zs} {R : zr} {k : Nat} {x9 : Int32} : zu (zT s R) (86) (.inl (0, 55, .inl (upd (s.1 (86)) k x9))) = zT (zc s (86) k x9) R := by
  exact zT_up (row := upd (s.1 _) k x9) (by decide) rfl
theorem r_X2a3 {s : zs} {R : zr} {row : Nat → Int32} : zu (zT s R) (86) (.inl (0, 55, .inl row)) = zT (zcr s (86) row) R := by
  exact zT_up (by decide) rfl
theorem o_X3a1 (s : zs) (R : zr) : zT s R (62) = .inl (1, 100, .inl (s.1 (62))) := by
  rfl
theorem p_X3a1 {s : zs} {R : zr} {k : Nat} {x9 : Int32} : zu (zT s R) (62) (.inl (1, 100, .inl (upd (s.1 (62)) k x9))) = zT (zc s (62) k x9) R := by
  exact zT_up (row := upd (s.1 _) k x9) (by decide) rfl
theorem r_X3a1 {s : zs} {R : zr} {row : Nat → Int32} : zu (zT s R) (62) (.inl (1, 100, .inl row)) = zT (zcr s (62) row) R := by
  exact zT_up (by decide) rfl
theorem o_X3a2 (s : zs) (R : zr) : zT s R (63) = .inl (0, 8, .inl (s.1 (63))) := by
  rfl
theorem p_X3a2 {s : zs} {R : zr} {k : Nat} {x9 : Int32} : zu (zT s R) (63) (.inl (0, 8, .inl (upd (s.1 (63)) k x9))) = zT (zc s (63) k x9) R := by
  exact zT_up (row := upd (s.1 _) k x9) (by decide) rfl
theorem r_X3a2 {s : zs} {R : zr} {row : Nat → Int32} : zu (zT s R) (63) (.inl (0, 8, .inl row)) = zT (zcr s (63) row) R := by
  exact zT_up (by decide) rfl
theorem o_row {d9 : Nat} (hd9 : d9 < 7) (s : zs) (R : zr) : zT s R (79 + d9) = .inl (0, 11, .inl (s.1 (79 + d9))) := by
  rcases (by omega : d9 = 0 ∨ d9 = 1 ∨ d9 = 2 ∨ d9 = 3 ∨ d9 = 4 ∨ d9 = 5 ∨ d9 = 6) with rfl | rfl | rfl | rfl | rfl | rfl | rfl <;> rfl
theorem p_row {d9 : Nat} (hd9 : d9 < 7) {s : zs} {R : zr} {k : Nat} {x9 : Int32} : zu (zT s R) (79 + d9) (.inl (0, 11, .inl (upd (s.1 (79 + d9)) k x9))) = zT (zc s (79 + d9) k x9) R := by
  rcases (by omega : d9 = 0 ∨ d9 = 1 ∨ d9 = 2 ∨ d9 = 3 ∨ d9 = 4 ∨ d9 = 5 ∨ d9 = 6) with rfl | rfl | rfl | rfl | rfl | rfl | rfl <;> exact zT_up (row := upd (s.1 _) k x9) (by decide) rfl
theorem r_row {d9 : Nat} (hd9 : d9 < 7) {s : zs} {R : zr} {row : Nat → Int32} : zu (zT s R) (79 + d9) (.inl (0, 11, .inl row)) = zT (zcr s (79 + d9) row) R := by
  rcases (by omega : d9 = 0 ∨ d9 = 1 ∨ d9 = 2 ∨ d9 = 3 ∨ d9 = 4 ∨ d9 = 5 ∨ d9 = 6) with rfl | rfl | rfl | rfl | rfl | rfl | rfl <;> exact zT_up (by decide) rfl
theorem o_X1a0 (s : zs) (R : zr) : zT s R 2 = .inl (2, 4, .inr (.inr (.inr (.inr (fun j => some (s.2 j)))))) := rfl
theorem o_X2a1 (s : zs) (R : zr) : zT s R 77 = .inl (3, 11, .inr (.inr (.inr (.inr (fun j => some (87 + 3 * j)))))) := rfl
theorem o_X2a2 (s : zs) (R : zr) : zT s R 78 = .inl (4, 7, .inr (.inr (.inr (.inr (fun j => some (79 + j)))))) := rfl
abbrev AV (G : zG) (M : zM) (d sl : Nat) (P : Option Value → zH → Prop) (pc : Nat) (L : List (Option Value)) (st : List Value) (h : zH) : Prop := AW G M d 120 sl 120 sl P pc L st 120 sl h
abbrev zMv (G : zG) (d : Nat) (M : zM) (as : List Value) (sl : Nat) (h : zH) (P : Option Value → zH → Prop) : Prop := zMt G d M as 120 sl h 120 sl P
theorem zMv_of {G : zG} {M : zM} {d sl : Nat} {P : Option Value → zH → Prop} {as : List Value} {L : List (Option Value)} {h : zH} (hy : plainName M.1.cls = true) (hc1 : as.all (fun v => v.category == 1) = true) (hlen : as.length ≤ M.2.2.1) (hL : as.map some ++ List.replicate (M.2.2.1 - as.length) none = L) (K : AV G M d sl P 0 L [] h) : zMv G d M as sl h P :=
  zMt_of hy (fun v hv => by simpa using List.all_eq_true.mp hc1 v hv) hlen (Nat.le_refl _) (Nat.le_refl _) hL K
theorem zne {x y : Int32} (h : ¬ x = y) : ¬ x.toInt = y.toInt := fun q => h (Int32.toInt_inj.mp q)
end
section
section ZR4
variable {G : zG} {M : zM} {d N S n0 s0 : Nat} {P : Option Value → zH → Prop} {pc q : Nat} {L L' : List (Option Value)} {st stk : List Value} {n sl : Nat} {h h' : zH}
theorem aw_if_neP {x : Int32} {off : Int} {t : Nat} (hd : decode M.2.1 pc = .ok (.ifCond .ne off, 3)) (hq : pc + 3 = q) (ht : (pc : Int) + off = (t : Int)) (K1 : x = 0 → AW G M d N S n0 s0 P q L st n sl h) (K2 : ¬ (x = 0) → AW G M d N S n0 s0 P t L st n sl h) : AW G M d N S n0 s0 P pc L (.int x :: st) n sl h :=
  aw_if_ne hd hq ht (fun z => K2 z) (fun z => K1 (Decidable.of_not_not z))
theorem aw_icmp_neP {x y : Int32} {off : Int} {t : Nat} (hd : decode M.2.1 pc = .ok (.if_icmp .ne off, 3)) (hq : pc + 3 = q) (ht : (pc : Int) + off = (t : Int)) (K1 : x = y → AW G M d N S n0 s0 P q L st n sl h) (K2 : ¬ (x = y) → AW G M d N S n0 s0 P t L st n sl h) : AW G M d N S n0 s0 P pc L (.int y :: .int x :: st) n sl h :=
  aw_icmp_ne hd hq ht (fun z => K2 z) (fun z => K1 (Decidable.of_not_not z))
theorem aw_fconst0 {v : UInt32} (hd : decode M.2.1 pc = .ok (.fconst 0, 1)) (hq : pc + 1 = q) (hv : FP.fconst0 = v) (K : AW G M d N S n0 s0 P q L (.float v :: st) n sl h) : AW G M d N S n0 s0 P pc L st n sl h := by
  subst hq
  subst hv
  intro p l e s m args below meth c H locs ls C hs hI hS hl hn hsl
  exact lv_fconst0 C.1 C.2.1 hd (K p l e s m args below meth c H locs ls C hs hI hS hl hn hsl)
theorem aw_fconst1 {v : UInt32} (hd : decode M.2.1 pc = .ok (.fconst 1, 1)) (hq : pc + 1 = q) (hv : FP.fconst1 = v) (K : AW G M d N S n0 s0 P q L (.float v :: st) n sl h) : AW G M d N S n0 s0 P pc L st n sl h := by
  subst hq
  subst hv
  intro p l e s m args below meth c H locs ls C hs hI hS hl hn hsl
  exact lv_fconst1 C.1 C.2.1 hd (K p l e s m args below meth c H locs ls C hs hI hS hl hn hsl)
theorem aw_fconst2 {v : UInt32} (hd : decode M.2.1 pc = .ok (.fconst 2, 1)) (hq : pc + 1 = q) (hv : FP.fconst2 = v) (K : AW G M d N S n0 s0 P q L (.float v :: st) n sl h) : AW G M d N S n0 s0 P pc L st n sl h := by
  subst hq
  subst hv
  intro p l e s m args below meth c H locs ls C hs hI hS hl hn hsl
  exact lv_fconst2 C.1 C.2.1 hd (K p l e s m args below meth c H locs ls C hs hI hS hl hn hsl)
theorem aw_ldcwf {i : Nat} {v : UInt32} (hd : decode M.2.1 pc = .ok (.ldc_w i, 3)) (hq : pc + 3 = q) (hw : Jvm.Cond.constantFloat M.1.cls i v ∈ lw_ok) (K : AW G M d N S n0 s0 P q L (.float v :: st) n sl h) : AW G M d N S n0 s0 P pc L st n sl h := by
  subst hq
  intro p l e s m args below meth c H locs ls C hs hI hS hl hn hsl
  intro T hT X
  obtain ⟨t, a, b⟩ := K p l e s m args below meth c H locs ls C hs hI hS hl hn hsl T hT X
  refine ⟨t, ?_, b⟩
  obtain ⟨k, cf, hk, hcf, hcp⟩ := Cond.constantFloat_spec C.2.2.2.1 (C.2.2.2.2.1 _ hw)
  obtain ⟨k', hk', he⟩ := X.warmed.alike.2.2 _ _ hk
  have hx := C.1
  have hdg : decode c.code pc = .ok (.ldc_w i, 3) := by rw [C.2.1]; exact hd
  jvm_step X.here [hx, hdg, ldc_w.wp_float (s := T) (f := F0 m pc ls (st.map (zV G))) X.here.top hk' (by rw [he]; exact hcf) hcp]
  exact a
end ZR4
def zA5 (a : Nat) : Prop := a < 128 ∧ ∀ (s : zs) (R : zr), zT s R a = .inl (0, 5, .inl (s.1 a))
theorem zn32 {r : UInt32} (h : isNaN32 r = false) : vf_n32 r := by
  have h1 : ¬ (r &&& 0x7fffffff > 0x7f800000) := by simpa [isNaN32] using h
  exact UInt32.not_lt.mp h1
def zX4b (x : Nat) : Bool := x == 74 || x == 3 || x == 15 || x == 27 || x == 39
theorem zX4b_of {x : Nat} (h : zX4b x = true) : zX4 x := by simpa [zX4b, zX4, or_assoc] using h
end
section
def f_X0_copyFrom (s : zs) (b : Nat) (x1 : Nat) : Option zs :=
  zlt (zcr s (b + 1) (va_cpy (s.1 (x1 + 1)) (s.1 (b + 1)) 0 0 8)) fun s1 =>
  zlt (zcr s1 (b + 2) (va_cpy (s1.1 (x1 + 2)) (s1.1 (b + 2)) 0 0 16)) fun s3 =>
  zlt (zcr s3 (b + 3) (va_cpy (s3.1 (x1 + 3)) (s3.1 (b + 3)) 0 0 5)) fun s5 =>
  zlt (zcr s5 (b + 4) (va_cpy (s5.1 (x1 + 4)) (s5.1 (b + 4)) 0 0 5)) fun s7 =>
  zlt (zcr s7 (b + 5) (va_cpy (s7.1 (x1 + 5)) (s7.1 (b + 5)) 0 0 5)) fun s9 =>
  zlt (zcr s9 (b + 6) (va_cpy (s9.1 (x1 + 6)) (s9.1 (b + 6)) 0 0 10)) fun s11 =>
  zlt (zcr s11 (b + 7) (va_cpy (s11.1 (x1 + 7)) (s11.1 (b + 7)) 0 0 10)) fun s13 =>
  zlt (zcr s13 (b + 8) (va_cpy (s13.1 (x1 + 8)) (s13.1 (b + 8)) 0 0 10)) fun s15 =>
  zlt (zcr s15 (b + 9) (va_cpy (s15.1 (x1 + 9)) (s15.1 (b + 9)) 0 0 16)) fun s17 =>
  zlt (zc s17 b 9 (s17.1 x1 9)) fun s19 =>
  zlt (zc s19 b 10 (s19.1 x1 10)) fun s21 =>
  zlt (zc s21 b 11 (s21.1 x1 11)) fun s23 =>
  zlt (zc s23 b 12 (s23.1 x1 12)) fun s25 =>
  zlt (zc s25 b 13 (s25.1 x1 13)) fun s27 =>
  some s27
set_option maxHeartbeats 4000000 in
set_option maxRecDepth 100000 in
theorem c_X0_copyFrom {G : zG} {sl : Nat} (s : zs) (R : zr) {b : Nat} (hb : zB b) {x1 : Nat} (hx1 : zB x1) {v9 : zs} (H : f_X0_copyFrom s b x1 = some v9) : zMv G 2 M_X0_copyFrom [.ref b, .ref x1] sl (zT s R) (fun r h' => r = none ∧ h' = zT v9 R) := by
  unfold f_X0_copyFrom at H
  refine zMv_of (L := [some (.ref b), some (.ref x1)]) (by decide) rfl (Nat.le_of_ble_eq_true rfl) rfl ?_
  refine aw_aload_n (q := 1) dX0_copyFrom_0 rfl rfl ?_
  refine aw_getr (q := 4) dX0_copyFrom_1 rfl e_X0_9 (zB_lt0 hx1) (o_X0 hx1 s R) rfl ?_
  refine aw_iconst (q := 5) (v := 0) dX0_copyFrom_4 rfl (by decide) ?_
  refine aw_aload_n (q := 6) dX0_copyFrom_5 rfl rfl ?_
  refine aw_getr (q := 9) dX0_copyFrom_6 rfl e_X0_9 (zB_lt0 hb) (o_X0 hb s R) rfl ?_
  refine aw_iconst (q := 10) (v := 0) dX0_copyFrom_9 rfl (by decide) ?_
  refine aw_bipush (q := 12) (v := 8) dX0_copyFrom_10 rfl (by decide) ?_
  obtain ⟨s1, q2, H⟩ := zltd H
  refine aw_copy (q := 15) dX0_copyFrom_12 rfl k_X0_45 (zB_lt (k := 1) hx1 (by decide)) (zB_lt (k := 1) hb (by decide)) (o_X0a0 hx1 s R) (o_X0a0 hb s R) (by decide) (by decide) (by decide) (by decide) (by decide) (by decide) (Nat.le_of_ble_eq_true rfl) ((r_X0a0 hb).trans (congrArg (fun z => zT z R) q2.symm)) ?_
  refine aw_aload_n (q := 16) dX0_copyFrom_15 rfl rfl ?_
  refine aw_getr (q := 19) dX0_copyFrom_16 rfl e_X0_15 (zB_lt0 hx1) (o_X0 hx1 s1 R) rfl ?_
  refine aw_iconst (q := 20) (v := 0) dX0_copyFrom_19 rfl (by decide) ?_
  refine aw_aload_n (q := 21) dX0_copyFrom_20 rfl rfl ?_
  refine aw_getr (q := 24) dX0_copyFrom_21 rfl e_X0_15 (zB_lt0 hb) (o_X0 hb s1 R) rfl ?_
  refine aw_iconst (q := 25) (v := 0) dX0_copyFrom_24 rfl (by decide) ?_
  refine aw_bipush (q := 27) (v := 16) dX0_copyFrom_25 rfl (by decide) ?_
  obtain ⟨s3, q4, H⟩ := zltd H
  refine aw_copy (q := 30) dX0_copyFrom_27 rfl k_X0_45 (zB_lt (k := 2) hx1 (by decide)) (zB_lt (k := 2) hb (by decide)) (o_X0a1 hx1 s1 R) (o_X0a1 hb s1 R) (by decide) (by decide) (by decide) (by decide) (by decide) (by decide) (Nat.le_of_ble_eq_true rfl) ((r_X0a1 hb).trans (congrArg (fun z => zT z R) q4.symm)) ?_
  refine aw_aload_n (q := 31) dX0_copyFrom_30 rfl rfl ?_
  refine aw_getr (q := 34) dX0_copyFrom_31 rfl e_X0_18 (zB_lt0 hx1) (o_X0 hx1 s3 R) rfl ?_
  refine aw_iconst (q := 35) (v := 0) dX0_copyFrom_34 rfl (by decide) ?_
  refine aw_aload_n (q := 36) dX0_copyFrom_35 rfl rfl ?_
  refine aw_getr (q := 39) dX0_copyFrom_36 rfl e_X0_18 (zB_lt0 hb) (o_X0 hb s3 R) rfl ?_
  refine aw_iconst (q := 40) (v := 0) dX0_copyFrom_39 rfl (by decide) ?_
  refine aw_iconst (q := 41) (v := 5) dX0_copyFrom_40 rfl (by decide) ?_
  obtain ⟨s5, q6, H⟩ := zltd H
  refine aw_copy (q := 44) dX0_copyFrom_41 rfl k_X0_45 (zB_lt (k := 3) hx1 (by decide)) (zB_lt (k := 3) hb (by decide)) (o_X0a2 hx1 s3 R) (o_X0a2 hb s3 R) (by decide) (by decide) (by decide) (by decide) (by decide) (by decide) (Nat.le_of_ble_eq_true rfl) ((r_X0a2 hb).trans (congrArg (fun z => zT z R) q6.symm)) ?_
  refine aw_aload_n (q := 45) dX0_copyFrom_44 rfl rfl ?_
  refine aw_getr (q := 48) dX0_copyFrom_45 rfl e_X0_21 (zB_lt0 hx1) (o_X0 hx1 s5 R) rfl ?_
  refine aw_iconst (q := 49) (v := 0) dX0_copyFrom_48 rfl (by decide) ?_
  refine aw_aload_n (q := 50) dX0_copyFrom_49 rfl rfl ?_
  refine aw_getr (q := 53) dX0_copyFrom_50 rfl e_X0_21 (zB_lt0 hb) (o_X0 hb s5 R) rfl ?_
  refine aw_iconst (q := 54) (v := 0) dX0_copyFrom_53 rfl (by decide) ?_
  refine aw_iconst (q := 55) (v := 5) dX0_copyFrom_54 rfl (by decide) ?_
  obtain ⟨s7, q8, H⟩ := zltd H
  refine aw_copy (q := 58) dX0_copyFrom_55 rfl k_X0_45 (zB_lt (k := 4) hx1 (by decide)) (zB_lt (k := 4) hb (by decide)) (o_X0a3 hx1 s5 R) (o_X0a3 hb s5 R) (by decide) (by decide) (by decide) (by decide) (by decide) (by decide) (Nat.le_of_ble_eq_true rfl) ((r_X0a3 hb).trans (congrArg (fun z => zT z R) q8.symm)) ?_
  refine aw_aload_n (q := 59) dX0_copyFrom_58 rfl rfl ?_
  refine aw_getr (q := 62) dX0_copyFrom_59 rfl e_X0_24 (zB_lt0 hx1) (o_X0 hx1 s7 R) rfl ?_
  refine aw_iconst (q := 63) (v := 0) dX0_copyFrom_62 rfl (by decide) ?_
  refine aw_aload_n (q := 64) dX0_copyFrom_63 rfl rfl ?_
  refine aw_getr (q := 67) dX0_copyFrom_64 rfl e_X0_24 (zB_lt0 hb) (o_X0 hb s7 R) rfl ?_
  refine aw_iconst (q := 68) (v := 0) dX0_copyFrom_67 rfl (by decide) ?_
  refine aw_iconst (q := 69) (v := 5) dX0_copyFrom_68 rfl (by decide) ?_
  obtain ⟨s9, q10, H⟩ := zltd H
  refine aw_copy (q := 72) dX0_copyFrom_69 rfl k_X0_45 (zB_lt (k := 5) hx1 (by decide)) (zB_lt (k := 5) hb (by decide)) (o_X0a4 hx1 s7 R) (o_X0a4 hb s7 R) (by decide) (by decide) (by decide) (by decide) (by decide) (by decide) (Nat.le_of_ble_eq_true rfl) ((r_X0a4 hb).trans (congrArg (fun z => zT z R) q10.symm)) ?_
  refine aw_aload_n (q := 73) dX0_copyFrom_72 rfl rfl ?_
  refine aw_getr (q := 76) dX0_copyFrom_73 rfl e_X0_27 (zB_lt0 hx1) (o_X0 hx1 s9 R) rfl ?_
  refine aw_iconst (q := 77) (v := 0) dX0_copyFrom_76 rfl (by decide) ?_
  refine aw_aload_n (q := 78) dX0_copyFrom_77 rfl rfl ?_
  refine aw_getr (q := 81) dX0_copyFrom_78 rfl e_X0_27 (zB_lt0 hb) (o_X0 hb s9 R) rfl ?_
  refine aw_iconst (q := 82) (v := 0) dX0_copyFrom_81 rfl (by decide) ?_
  refine aw_bipush (q := 84) (v := 10) dX0_copyFrom_82 rfl (by decide) ?_
  obtain ⟨s11, q12, H⟩ := zltd H
  refine aw_copy (q := 87) dX0_copyFrom_84 rfl k_X0_45 (zB_lt (k := 6) hx1 (by decide)) (zB_lt (k := 6) hb (by decide)) (o_X0a5 hx1 s9 R) (o_X0a5 hb s9 R) (by decide) (by decide) (by decide) (by decide) (by decide) (by decide) (Nat.le_of_ble_eq_true rfl) ((r_X0a5 hb).trans (congrArg (fun z => zT z R) q12.symm)) ?_
  refine aw_aload_n (q := 88) dX0_copyFrom_87 rfl rfl ?_
  refine aw_getr (q := 91) dX0_copyFrom_88 rfl e_X0_30 (zB_lt0 hx1) (o_X0 hx1 s11 R) rfl ?_
  refine aw_iconst (q := 92) (v := 0) dX0_copyFrom_91 rfl (by decide) ?_
  refine aw_aload_n (q := 93) dX0_copyFrom_92 rfl rfl ?_
  refine aw_getr (q := 96) dX0_copyFrom_93 rfl e_X0_30 (zB_lt0 hb) (o_X0 hb s11 R) rfl ?_
  refine aw_iconst (q := 97) (v := 0) dX0_copyFrom_96 rfl (by decide) ?_
  refine aw_bipush (q := 99) (v := 10) dX0_copyFrom_97 rfl (by decide) ?_
  obtain ⟨s13, q14, H⟩ := zltd H
  refine aw_copy (q := 102) dX0_copyFrom_99 rfl k_X0_45 (zB_lt (k := 7) hx1 (by decide)) (zB_lt (k := 7) hb (by decide)) (o_X0a6 hx1 s11 R) (o_X0a6 hb s11 R) (by decide) (by decide) (by decide) (by decide) (by decide) (by decide) (Nat.le_of_ble_eq_true rfl) ((r_X0a6 hb).trans (congrArg (fun z => zT z R) q14.symm)) ?_
  refine aw_aload_n (q := 103) dX0_copyFrom_102 rfl rfl ?_
  refine aw_getr (q := 106) dX0_copyFrom_103 rfl e_X0_33 (zB_lt0 hx1) (o_X0 hx1 s13 R) rfl ?_
  refine aw_iconst (q := 107) (v := 0) dX0_copyFrom_106 rfl (by decide) ?_
  refine aw_aload_n (q := 108) dX0_copyFrom_107 rfl rfl ?_
  refine aw_getr (q := 111) dX0_copyFrom_108 rfl e_X0_33 (zB_lt0 hb) (o_X0 hb s13 R) rfl ?_
  refine aw_iconst (q := 112) (v := 0) dX0_copyFrom_111 rfl (by decide) ?_
  refine aw_bipush (q := 114) (v := 10) dX0_copyFrom_112 rfl (by decide) ?_
  obtain ⟨s15, q16, H⟩ := zltd H
  refine aw_copy (q := 117) dX0_copyFrom_114 rfl k_X0_45 (zB_lt (k := 8) hx1 (by decide)) (zB_lt (k := 8) hb (by decide)) (o_X0a7 hx1 s13 R) (o_X0a7 hb s13 R) (by decide) (by decide) (by decide) (by decide) (by decide) (by decide) (Nat.le_of_ble_eq_true rfl) ((r_X0a7 hb).trans (congrArg (fun z => zT z R) q16.symm)) ?_
  refine aw_aload_n (q := 118) dX0_copyFrom_117 rfl rfl ?_
  refine aw_getr (q := 121) dX0_copyFrom_118 rfl e_X0_36 (zB_lt0 hx1) (o_X0 hx1 s15 R) rfl ?_
  refine aw_iconst (q := 122) (v := 0) dX0_copyFrom_121 rfl (by decide) ?_
  refine aw_aload_n (q := 123) dX0_copyFrom_122 rfl rfl ?_
  refine aw_getr (q := 126) dX0_copyFrom_123 rfl e_X0_36 (zB_lt0 hb) (o_X0 hb s15 R) rfl ?_
  refine aw_iconst (q := 127) (v := 0) dX0_copyFrom_126 rfl (by decide) ?_
  refine aw_bipush (q := 129) (v := 16) dX0_copyFrom_127 rfl (by decide) ?_
  obtain ⟨s17, q18, H⟩ := zltd H
  refine aw_copy (q := 132) dX0_copyFrom_129 rfl k_X0_45 (zB_lt (k := 9) hx1 (by decide)) (zB_lt (k := 9) hb (by decide)) (o_X0a8 hx1 s15 R) (o_X0a8 hb s15 R) (by decide) (by decide) (by decide) (by decide) (by decide) (by decide) (Nat.le_of_ble_eq_true rfl) ((r_X0a8 hb).trans (congrArg (fun z => zT z R) q18.symm)) ?_
  refine aw_aload_n (q := 133) dX0_copyFrom_132 rfl rfl ?_
  refine aw_aload_n (q := 134) dX0_copyFrom_133 rfl rfl ?_
  refine aw_getr (q := 137) dX0_copyFrom_134 rfl e_X0_51 (zB_lt0 hx1) (o_X0 hx1 s17 R) rfl ?_
  obtain ⟨s19, q20, H⟩ := zltd H
  refine aw_put (q := 140) dX0_copyFrom_137 rfl f_X0_51 (zB_lt0 hb) (o_X0 hb s17 R) rfl rfl (Nat.le_of_ble_eq_true rfl) ((p_X0_9 hb).trans (congrArg (fun z => zT z R) q20.symm)) ?_
  refine aw_aload_n (q := 141) dX0_copyFrom_140 rfl rfl ?_
  refine aw_aload_n (q := 142) dX0_copyFrom_141 rfl rfl ?_
  refine aw_getr (q := 145) dX0_copyFrom_142 rfl e_X0_55 (zB_lt0 hx1) (o_X0 hx1 s19 R) rfl ?_
  obtain ⟨s21, q22, H⟩ := zltd H
  refine aw_put (q := 148) dX0_copyFrom_145 rfl f_X0_55 (zB_lt0 hb) (o_X0 hb s19 R) rfl rfl (Nat.le_of_ble_eq_true rfl) ((p_X0_10 hb).trans (congrArg (fun z => zT z R) q22.symm)) ?_
  refine aw_aload_n (q := 149) dX0_copyFrom_148 rfl rfl ?_
  refine aw_aload_n (q := 150) dX0_copyFrom_149 rfl rfl ?_
  refine aw_getr (q := 153) dX0_copyFrom_150 rfl e_X0_58 (zB_lt0 hx1) (o_X0 hx1 s21 R) rfl ?_
  obtain ⟨s23, q24, H⟩ := zltd H
  refine aw_put (q := 156) dX0_copyFrom_153 rfl f_X0_58 (zB_lt0 hb) (o_X0 hb s21 R) rfl rfl (Nat.le_of_ble_eq_true rfl) ((p_X0_11 hb).trans (congrArg (fun z => zT z R) q24.symm)) ?_
  refine aw_aload_n (q := 157) dX0_copyFrom_156 rfl rfl ?_
  refine aw_aload_n (q := 158) dX0_copyFrom_157 rfl rfl ?_
  refine aw_getr (q := 161) dX0_copyFrom_158 rfl e_X0_61 (zB_lt0 hx1) (o_X0 hx1 s23 R) rfl ?_
  obtain ⟨s25, q26, H⟩ := zltd H
  refine aw_put (q := 164) dX0_copyFrom_161 rfl f_X0_61 (zB_lt0 hb) (o_X0 hb s23 R) rfl rfl (Nat.le_of_ble_eq_true rfl) ((p_X0_12 hb).trans (congrArg (fun z => zT z R) q26.symm)) ?_
  refine aw_aload_n (q := 165) dX0_copyFrom_164 rfl rfl ?_
  refine aw_aload_n (q := 166) dX0_copyFrom_165 rfl rfl ?_
  refine aw_getr (q := 169) dX0_copyFrom_166 rfl e_X0_64 (zB_lt0 hx1) (o_X0 hx1 s25 R) rfl ?_
  obtain ⟨s27, q28, H⟩ := zltd H
  refine aw_put (q := 172) dX0_copyFrom_169 rfl f_X0_64 (zB_lt0 hb) (o_X0 hb s25 R) rfl rfl (Nat.le_of_ble_eq_true rfl) ((p_X0_13 hb).trans (congrArg (fun z => zT z R) q28.symm)) ?_
  cases H
  exact aw_vret dX0_copyFrom_172 rfl rfl rfl ⟨rfl, rfl⟩
def f_J6_bitCount_0f7a4 (x0 : Int32) : Int32 :=
  zlt (x0 - (((x0.toUInt32 >>> ((1 : Int32).toUInt32 &&& Int32.toUInt32 31)).toInt32) &&& 1431655765) : Int32) fun y1 =>
  zlt ((y1 &&& 858993459) + (((y1.toUInt32 >>> ((2 : Int32).toUInt32 &&& Int32.toUInt32 31)).toInt32) &&& 858993459) : Int32) fun y3 =>
  zlt ((y3 + ((y3.toUInt32 >>> ((4 : Int32).toUInt32 &&& Int32.toUInt32 31)).toInt32)) &&& 252645135 : Int32) fun y5 =>
  zlt (y5 + ((y5.toUInt32 >>> ((8 : Int32).toUInt32 &&& Int32.toUInt32 31)).toInt32) : Int32) fun y7 =>
  zlt (y7 + ((y7.toUInt32 >>> ((16 : Int32).toUInt32 &&& Int32.toUInt32 31)).toInt32) : Int32) fun y9 =>
  y9 &&& 63
set_option maxHeartbeats 4000000 in
set_option maxRecDepth 100000 in
theorem c_J6_bitCount_0f7a4 {G : zG} {sl : Nat} (h : zH) (x0 : Int32)  : zMv G 0 M_J6_bitCount_0f7a4 [.int x0] sl h (fun r h' => r = some (.int (f_J6_bitCount_0f7a4 x0)) ∧ h' = h) := by
  generalize H : f_J6_bitCount_0f7a4 x0 = r0
  unfold f_J6_bitCount_0f7a4 at H
  refine zMv_of (L := [some (.int x0)]) (by decide) rfl (Nat.le_of_ble_eq_true rfl) rfl ?_
  refine aw_iload_n (q := 1) dJ6_bitCount_0f7a4_0 rfl rfl ?_
  refine aw_iload_n (q := 2) dJ6_bitCount_0f7a4_1 rfl rfl ?_
  refine aw_iconst (q := 3) (v := 1) dJ6_bitCount_0f7a4_2 rfl (by decide) ?_
  refine aw_iushr (q := 4) dJ6_bitCount_0f7a4_3 rfl ?_
  refine aw_ldcw (q := 7) dJ6_bitCount_0f7a4_4 rfl q_J6_265 ?_
  refine aw_iand (q := 8) dJ6_bitCount_0f7a4_7 rfl ?_
  refine aw_isub (q := 9) dJ6_bitCount_0f7a4_8 rfl ?_
  obtain ⟨y1, q2, H⟩ := zltd H
  refine aw_nm q2 ?_
  refine aw_istore_n (q := 10) (L' := [some (.int y1)]) dJ6_bitCount_0f7a4_9 rfl (by decide) rfl rfl ?_
  refine aw_iload_n (q := 11) dJ6_bitCount_0f7a4_10 rfl rfl ?_
  refine aw_ldcw (q := 14) dJ6_bitCount_0f7a4_11 rfl q_J6_266 ?_
  refine aw_iand (q := 15) dJ6_bitCount_0f7a4_14 rfl ?_
  refine aw_iload_n (q := 16) dJ6_bitCount_0f7a4_15 rfl rfl ?_
  refine aw_iconst (q := 17) (v := 2) dJ6_bitCount_0f7a4_16 rfl (by decide) ?_
  refine aw_iushr (q := 18) dJ6_bitCount_0f7a4_17 rfl ?_
  refine aw_ldcw (q := 21) dJ6_bitCount_0f7a4_18 rfl q_J6_266 ?_
  refine aw_iand (q := 22) dJ6_bitCount_0f7a4_21 rfl ?_
  refine aw_iadd (q := 23) dJ6_bitCount_0f7a4_22 rfl ?_
  obtain ⟨y3, q4, H⟩ := zltd H
  refine aw_nm q4 ?_
  refine aw_istore_n (q := 24) (L' := [some (.int y3)]) dJ6_bitCount_0f7a4_23 rfl (by decide) rfl rfl ?_
  refine aw_iload_n (q := 25) dJ6_bitCount_0f7a4_24 rfl rfl ?_
  refine aw_iload_n (q := 26) dJ6_bitCount_0f7a4_25 rfl rfl ?_
  refine aw_iconst (q := 27) (v := 4) dJ6_bitCount_0f7a4_26 rfl (by decide) ?_
  refine aw_iushr (q := 28) dJ6_bitCount_0f7a4_27 rfl ?_
  refine aw_iadd (q := 29) dJ6_bitCount_0f7a4_28 rfl ?_
  refine aw_ldcw (q := 32) dJ6_bitCount_0f7a4_29 rfl q_J6_267 ?_
  refine aw_iand (q := 33) dJ6_bitCount_0f7a4_32 rfl ?_
  obtain ⟨y5, q6, H⟩ := zltd H
  refine aw_nm q6 ?_
  refine aw_istore_n (q := 34) (L' := [some (.int y5)]) dJ6_bitCount_0f7a4_33 rfl (by decide) rfl rfl ?_
  refine aw_iload_n (q := 35) dJ6_bitCount_0f7a4_34 rfl rfl ?_
  refine aw_iload_n (q := 36) dJ6_bitCount_0f7a4_35 rfl rfl ?_
  refine aw_bipush (q := 38) (v := 8) dJ6_bitCount_0f7a4_36 rfl (by decide) ?_
  refine aw_iushr (q := 39) dJ6_bitCount_0f7a4_38 rfl ?_
  refine aw_iadd (q := 40) dJ6_bitCount_0f7a4_39 rfl ?_
  obtain ⟨y7, q8, H⟩ := zltd H
  refine aw_nm q8 ?_
  refine aw_istore_n (q := 41) (L' := [some (.int y7)]) dJ6_bitCount_0f7a4_40 rfl (by decide) rfl rfl ?_
  refine aw_iload_n (q := 42) dJ6_bitCount_0f7a4_41 rfl rfl ?_
  refine aw_iload_n (q := 43) dJ6_bitCount_0f7a4_42 rfl rfl ?_
  refine aw_bipush (q := 45) (v := 16) dJ6_bitCount_0f7a4_43 rfl (by decide) ?_
  refine aw_iushr (q := 46) dJ6_bitCount_0f7a4_45 rfl ?_
  refine aw_iadd (q := 47) dJ6_bitCount_0f7a4_46 rfl ?_
  obtain ⟨y9, q10, H⟩ := zltd H
  refine aw_nm q10 ?_
  refine aw_istore_n (q := 48) (L' := [some (.int y9)]) dJ6_bitCount_0f7a4_47 rfl (by decide) rfl rfl ?_
  refine aw_iload_n (q := 49) dJ6_bitCount_0f7a4_48 rfl rfl ?_
  refine aw_bipush (q := 51) (v := 63) dJ6_bitCount_0f7a4_49 rfl (by decide) ?_
  refine aw_iand (q := 52) dJ6_bitCount_0f7a4_51 rfl ?_
  subst H
  exact aw_ret dJ6_bitCount_0f7a4_52 rfl rfl rfl rfl ⟨rfl, rfl⟩
def f_X0_refusalOfNet (s : zs) (b : Nat) (x1 : Int32) : Int32 :=
  zlt (f_J6_bitCount_0f7a4 x1 : Int32) fun y1 =>
  if (x1 &&& (-65536)) = 0 then (
    if y1 < 2 then (
      (-1000001)
    ) else (
      if y1 ≤ 5 then (
        if (x1 &&& (s.1 b 12)) = 0 then (
          if (s.1 b 9) < 8 then (
            0
          ) else (
            (-1000003)
          )
        ) else (
          (-1000002)
        )
      ) else (
        (-1000001)
      )
    )
  ) else (
    (-1000001)
  )
set_option maxHeartbeats 4000000 in
set_option maxRecDepth 100000 in
theorem c_X0_refusalOfNet {G : zG} {sl : Nat} (s : zs) (R : zr) {b : Nat} (hb : zB b) (x1 : Int32)  : zMv G 1 M_X0_refusalOfNet [.ref b, .int x1] sl (zT s R) (fun r h' => r = some (.int (f_X0_refusalOfNet s b x1)) ∧ h' = (zT s R)) := by
  generalize H : f_X0_refusalOfNet s b x1 = r0
  unfold f_X0_refusalOfNet at H
  refine zMv_of (L := [some (.ref b), some (.int x1), none]) (by decide) rfl (Nat.le_of_ble_eq_true rfl) rfl ?_
  refine aw_iload_n (q := 1) dX0_refusalOfNet_0 rfl rfl ?_
  refine aw_cs (M' := M_J6_bitCount_0f7a4) (as := [.int x1]) (q := 4) dX0_refusalOfNet_1 rfl W_J6_bitCount_0f7a4 k_X0_67 s_J6_bitCount_0f7a4 rfl rfl (by decide) (Nat.le_of_ble_eq_true rfl) (c_J6_bitCount_0f7a4 (zT s R) x1) (Nat.le_refl _) (Nat.le_refl _) ?_
  rintro r9 h9 ⟨rfl, rfl⟩
  obtain ⟨y1, q2, H⟩ := zltd H
  refine aw_nm q2 ?_
  refine aw_istore_n (q := 5) (L' := [some (.ref b), some (.int x1), some (.int y1)]) dX0_refusalOfNet_4 rfl (by decide) rfl rfl ?_
  refine aw_iload_n (q := 6) dX0_refusalOfNet_5 rfl rfl ?_
  refine aw_ldc (q := 8) dX0_refusalOfNet_6 rfl q_X0_73 ?_
  refine aw_iand (q := 9) dX0_refusalOfNet_8 rfl ?_
  refine aw_if_neP (q := 12) (t := 22) dX0_refusalOfNet_9 rfl (by decide) (fun h3 => ?_) (fun h3 => ?_)
  · replace H := zt h3 H
    refine aw_iload_n (q := 13) dX0_refusalOfNet_12 rfl rfl ?_
    refine aw_iconst (q := 14) (v := 2) dX0_refusalOfNet_13 rfl (by decide) ?_
    refine aw_icmp_lt (q := 17) (t := 22) dX0_refusalOfNet_14 rfl (by decide) (fun h4 => ?_) (fun h4 => ?_)
    · replace H := zt h4 H
      refine aw_ldc (q := 24) dX0_refusalOfNet_22 rfl q_X0_74 ?_
      subst H
      exact aw_ret dX0_refusalOfNet_24 rfl rfl rfl rfl ⟨rfl, rfl⟩
    · replace H := zf h4 H
      refine aw_iload_n (q := 18) dX0_refusalOfNet_17 rfl rfl ?_
      refine aw_iconst (q := 19) (v := 5) dX0_refusalOfNet_18 rfl (by decide) ?_
      refine aw_icmp_le (q := 22) (t := 25) dX0_refusalOfNet_19 rfl (by decide) (fun h5 => ?_) (fun h5 => ?_)
      · replace H := zt h5 H
        refine aw_iload_n (q := 26) dX0_refusalOfNet_25 rfl rfl ?_
        refine aw_aload_n (q := 27) dX0_refusalOfNet_26 rfl rfl ?_
        refine aw_getr (q := 30) dX0_refusalOfNet_27 rfl e_X0_61 (zB_lt0 hb) (o_X0 hb s R) rfl ?_
        refine aw_iand (q := 31) dX0_refusalOfNet_30 rfl ?_
        refine aw_if_eq (q := 34) (t := 37) dX0_refusalOfNet_31 rfl (by decide) (fun h6 => ?_) (fun h6 => ?_)
        · replace H := zt h6 H
          refine aw_aload_n (q := 38) dX0_refusalOfNet_37 rfl rfl ?_
          refine aw_getr (q := 41) dX0_refusalOfNet_38 rfl e_X0_51 (zB_lt0 hb) (o_X0 hb s R) rfl ?_
          refine aw_bipush (q := 43) (v := 8) dX0_refusalOfNet_41 rfl (by decide) ?_
          refine aw_icmp_lt (q := 46) (t := 51) dX0_refusalOfNet_43 rfl (by decide) (fun h7 => ?_) (fun h7 => ?_)
          · replace H := zt h7 H
            refine aw_iconst (q := 52) (v := 0) dX0_refusalOfNet_51 rfl (by decide) ?_
            subst H
            exact aw_ret dX0_refusalOfNet_52 rfl rfl rfl rfl ⟨rfl, rfl⟩
          · replace H := zf h7 H
            refine aw_ldc (q := 48) dX0_refusalOfNet_46 rfl q_X0_76 ?_
            refine aw_goto (q := 52) dX0_refusalOfNet_48 (by decide) ?_
            subst H
            exact aw_ret dX0_refusalOfNet_52 rfl rfl rfl rfl ⟨rfl, rfl⟩
        · replace H := zf h6 H
          refine aw_ldc (q := 36) dX0_refusalOfNet_34 rfl q_X0_75 ?_
          subst H
          exact aw_ret dX0_refusalOfNet_36 rfl rfl rfl rfl ⟨rfl, rfl⟩
      · replace H := zf h5 H
        refine aw_ldc (q := 24) dX0_refusalOfNet_22 rfl q_X0_74 ?_
        subst H
        exact aw_ret dX0_refusalOfNet_24 rfl rfl rfl rfl ⟨rfl, rfl⟩
  · replace H := zf h3 H
    refine aw_ldc (q := 24) dX0_refusalOfNet_22 rfl q_X0_74 ?_
    subst H
    exact aw_ret dX0_refusalOfNet_24 rfl rfl rfl rfl ⟨rfl, rfl⟩
def f_X6_hasBit (x0 : Int32) (x1 : Int32) : Bool :=
  if ((x0 >>> (x1 &&& 31)) &&& 1) = 1 then (
    true
  ) else (
    false
  )
set_option maxHeartbeats 4000000 in
set_option maxRecDepth 100000 in
theorem c_X6_hasBit {G : zG} {sl : Nat} (h : zH) (x0 : Int32) (x1 : Int32)  : zMv G 0 M_X6_hasBit [.int x0, .int x1] sl h (fun r h' => r = some (.int (zb (f_X6_hasBit x0 x1))) ∧ h' = h) := by
  generalize H : f_X6_hasBit x0 x1 = r0
  unfold f_X6_hasBit at H
  refine zMv_of (L := [some (.int x0), some (.int x1)]) (by decide) rfl (Nat.le_of_ble_eq_true rfl) rfl ?_
  refine aw_iload_n (q := 1) dX6_hasBit_0 rfl rfl ?_
  refine aw_iload_n (q := 2) dX6_hasBit_1 rfl rfl ?_
  refine aw_ishr (q := 3) dX6_hasBit_2 rfl ?_
  refine aw_iconst (q := 4) (v := 1) dX6_hasBit_3 rfl (by decide) ?_
  refine aw_iand (q := 5) dX6_hasBit_4 rfl ?_
  refine aw_iconst (q := 6) (v := 1) dX6_hasBit_5 rfl (by decide) ?_
  refine aw_icmp_neP (q := 9) (t := 13) dX6_hasBit_6 rfl (by decide) (fun h1 => ?_) (fun h1 => ?_)
  · replace H := zt h1 H
    refine aw_iconst (q := 10) (v := 1) dX6_hasBit_9 rfl (by decide) ?_
    refine aw_goto (q := 14) dX6_hasBit_10 (by decide) ?_
    subst H
    exact aw_ret dX6_hasBit_14 rfl rfl rfl rfl ⟨rfl, rfl⟩
  · replace H := zf h1 H
    refine aw_iconst (q := 14) (v := 0) dX6_hasBit_13 rfl (by decide) ?_
    subst H
    exact aw_ret dX6_hasBit_14 rfl rfl rfl rfl ⟨rfl, rfl⟩
def f_X0_addNet_22 : Nat → zs → Nat → Int32 → Int32 → Option (zs)
  | 0, _, _, _, _ => none
  | k + 1, s, b, x1, x2 =>
    if (16 : Int32) ≤ x2 then (
      some s
    ) else (
      if f_X6_hasBit x1 x2 = true then (
        if zin x2 16 = true then
        zlt (zc s (b + 2) x2.toNatClampNeg (s.1 b 9)) fun s4 =>
        f_X0_addNet_22 k s4 b x1 (x2 + 1)
        else none
      ) else (
        f_X0_addNet_22 k s b x1 (x2 + 1)
      )
    )
set_option maxHeartbeats 4000000 in
set_option maxRecDepth 100000 in
theorem L_X0_addNet_22 {G : zG} {sl : Nat} {P : Option Value → zH → Prop} (R : zr) {b : Nat} (hb : zB b) (x1 : Int32) : ∀ (k : Nat) (s : zs) (x2 : Int32) (e : zs), f_X0_addNet_22 k s b x1 x2 = some e → (AV G M_X0_addNet 1 sl P 52 [some (.ref b), none, none] [] (zT e R)) → AV G M_X0_addNet 1 sl P 22 [some (.ref b), some (.int x1), some (.int x2)] [] (zT s R) := by
  intro k
  induction k with
  | zero =>
    intro s x2 e H
    unfold f_X0_addNet_22 at H
    cases H
  | succ k ih =>
    intro s x2 e H KE
    unfold f_X0_addNet_22 at H
    refine aw_iload_n (q := 23) dX0_addNet_22 rfl rfl ?_
    refine aw_bipush (q := 25) (v := 16) dX0_addNet_23 rfl (by decide) ?_
    refine aw_icmp_ge (q := 28) (t := 52) dX0_addNet_25 rfl (by decide) (fun h1 => ?_) (fun h1 => ?_)
    · replace H := zt h1 H
      cases H
      exact aw_fewer (L' := [some (.ref b), none, none]) ⟨rfl, trivial⟩ KE
    · replace H := zf h1 H
      refine aw_iload_n (q := 29) dX0_addNet_28 rfl rfl ?_
      refine aw_iload_n (q := 30) dX0_addNet_29 rfl rfl ?_
      refine aw_csN (M' := M_X6_hasBit) (as := [.int x1, .int x2]) (q := 33) dX0_addNet_30 rfl W_X6_hasBit (show (RX0, 77, yX6_hasBit) ∈ zNl by decide) s_X6_hasBit rfl rfl (by decide) (Nat.le_of_ble_eq_true rfl) (c_X6_hasBit (zT s R) x1 x2) (Nat.le_refl _) (Nat.le_refl _) ?_
      rintro r9 h9 ⟨rfl, rfl⟩
      refine aw_ifeqB (q := 36) (t := 46) dX0_addNet_33 rfl (by decide) (fun h2 => ?_) (fun h2 => ?_)
      · replace H := zt h2 H
        refine aw_aload_n (q := 37) dX0_addNet_36 rfl rfl ?_
        refine aw_getr (q := 40) dX0_addNet_37 rfl e_X0_15 (zB_lt0 hb) (o_X0 hb s R) rfl ?_
        refine aw_iload_n (q := 41) dX0_addNet_40 rfl rfl ?_
        refine aw_aload_n (q := 42) dX0_addNet_41 rfl rfl ?_
        refine aw_getr (q := 45) dX0_addNet_42 rfl e_X0_51 (zB_lt0 hb) (o_X0 hb s R) rfl ?_
        obtain ⟨h3, H⟩ := zio H
        obtain ⟨s4, q5, H⟩ := zltd H
        refine aw_iast (q := 46) dX0_addNet_45 rfl (zB_lt (k := 2) hb (by decide)) (o_X0a1 hb s R) (zin_in h3) ((p_X0a1 hb).trans (congrArg (fun z => zT z R) q5.symm)) ?_
        refine aw_iinc (q := 49) (v := x2 + 1) (L' := [some (.ref b), some (.int x1), some (.int (x2 + 1))]) dX0_addNet_46 rfl rfl (by first | rfl | decide) (by decide) rfl rfl ?_
        refine aw_goto (q := 22) dX0_addNet_49 (by decide) ?_
        exact aw_fewer (L' := [some (.ref b), some (.int x1), some (.int (x2 + 1))]) ⟨rfl, ⟨rfl, ⟨rfl, trivial⟩⟩⟩ (ih s4 (x2 + 1) _ H KE)
      · replace H := zf h2 H
        refine aw_iinc (q := 49) (v := x2 + 1) (L' := [some (.ref b), some (.int x1), some (.int (x2 + 1))]) dX0_addNet_46 rfl rfl (by first | rfl | decide) (by decide) rfl rfl ?_
        refine aw_goto (q := 22) dX0_addNet_49 (by decide) ?_
        exact aw_fewer (L' := [some (.ref b), some (.int x1), some (.int (x2 + 1))]) ⟨rfl, ⟨rfl, ⟨rfl, trivial⟩⟩⟩ (ih s (x2 + 1) _ H KE)
def f_X0_addNet (s : zs) (b : Nat) (x1 : Int32) : Option (Int32 × zs) :=
  if zin (s.1 b 9) 8 = true then
  zlt (zc s (b + 1) ((s.1 b 9).toNatClampNeg) x1) fun s2 =>
  zlt (zc s2 b 12 ((s2.1 b 12) ||| x1)) fun s4 =>
  Option.bind (f_X0_addNet_22 zFu s4 b x1 0) fun e6 =>
  zlt (zc e6 b 9 ((e6.1 b 9) + 1)) fun s7 =>
  some ((s7.1 b 9) - 1, s7)
  else none
set_option maxHeartbeats 4000000 in
set_option maxRecDepth 100000 in
theorem c_X0_addNet {G : zG} {sl : Nat} (s : zs) (R : zr) {b : Nat} (hb : zB b) (x1 : Int32) {v9 : (Int32 × zs)} (H : f_X0_addNet s b x1 = some v9) : zMv G 1 M_X0_addNet [.ref b, .int x1] sl (zT s R) (fun r h' => r = some (.int v9.1) ∧ h' = zT v9.2 R) := by
  unfold f_X0_addNet at H
  refine zMv_of (L := [some (.ref b), some (.int x1), none]) (by decide) rfl (Nat.le_of_ble_eq_true rfl) rfl ?_
  refine aw_aload_n (q := 1) dX0_addNet_0 rfl rfl ?_
  refine aw_getr (q := 4) dX0_addNet_1 rfl e_X0_9 (zB_lt0 hb) (o_X0 hb s R) rfl ?_
  refine aw_aload_n (q := 5) dX0_addNet_4 rfl rfl ?_
  refine aw_getr (q := 8) dX0_addNet_5 rfl e_X0_51 (zB_lt0 hb) (o_X0 hb s R) rfl ?_
  refine aw_iload_n (q := 9) dX0_addNet_8 rfl rfl ?_
  obtain ⟨h1, H⟩ := zio H
  obtain ⟨s2, q3, H⟩ := zltd H
  refine aw_iast (q := 10) dX0_addNet_9 rfl (zB_lt (k := 1) hb (by decide)) (o_X0a0 hb s R) (zin_in h1) ((p_X0a0 hb).trans (congrArg (fun z => zT z R) q3.symm)) ?_
  refine aw_aload_n (q := 11) dX0_addNet_10 rfl rfl ?_
  refine aw_dup (q := 12) dX0_addNet_11 rfl rfl ?_
  refine aw_getr (q := 15) dX0_addNet_12 rfl e_X0_61 (zB_lt0 hb) (o_X0 hb s2 R) rfl ?_
  refine aw_iload_n (q := 16) dX0_addNet_15 rfl rfl ?_
  refine aw_ior (q := 17) dX0_addNet_16 rfl ?_
  obtain ⟨s4, q5, H⟩ := zltd H
  refine aw_put (q := 20) dX0_addNet_17 rfl f_X0_61 (zB_lt0 hb) (o_X0 hb s2 R) rfl rfl (Nat.le_of_ble_eq_true rfl) ((p_X0_12 hb).trans (congrArg (fun z => zT z R) q5.symm)) ?_
  refine aw_iconst (q := 21) (v := 0) dX0_addNet_20 rfl (by decide) ?_
  refine aw_istore_n (q := 22) (L' := [some (.ref b), some (.int x1), some (.int 0)]) dX0_addNet_21 rfl (by decide) rfl rfl ?_
  obtain ⟨e6, he6, H⟩ := zbd H
  refine aw_fewer (L' := [some (.ref b), some (.int x1), some (.int 0)]) ⟨rfl, ⟨rfl, ⟨rfl, trivial⟩⟩⟩ ?_
  refine L_X0_addNet_22 R hb x1 zFu s4 0 e6 he6 ?_
  refine aw_aload_n (q := 53) dX0_addNet_52 rfl rfl ?_
  refine aw_dup (q := 54) dX0_addNet_53 rfl rfl ?_
  refine aw_getr (q := 57) dX0_addNet_54 rfl e_X0_51 (zB_lt0 hb) (o_X0 hb e6 R) rfl ?_
  refine aw_iconst (q := 58) (v := 1) dX0_addNet_57 rfl (by decide) ?_
  refine aw_iadd (q := 59) dX0_addNet_58 rfl ?_
  obtain ⟨s7, q8, H⟩ := zltd H
  refine aw_put (q := 62) dX0_addNet_59 rfl f_X0_51 (zB_lt0 hb) (o_X0 hb e6 R) rfl rfl (Nat.le_of_ble_eq_true rfl) ((p_X0_9 hb).trans (congrArg (fun z => zT z R) q8.symm)) ?_
  refine aw_aload_n (q := 63) dX0_addNet_62 rfl rfl ?_
  refine aw_getr (q := 66) dX0_addNet_63 rfl e_X0_51 (zB_lt0 hb) (o_X0 hb s7 R) rfl ?_
  refine aw_iconst (q := 67) (v := 1) dX0_addNet_66 rfl (by decide) ?_
  refine aw_isub (q := 68) dX0_addNet_67 rfl ?_
  cases H
  exact aw_ret dX0_addNet_68 rfl rfl rfl rfl ⟨rfl, rfl⟩
def f_X6_isPin (x0 : Int32) : Bool :=
  if x0 < 0 then (
    false
  ) else (
    if (16 : Int32) ≤ x0 then (
      false
    ) else (
      true
    )
  )
set_option maxHeartbeats 4000000 in
set_option maxRecDepth 100000 in
theorem c_X6_isPin {G : zG} {sl : Nat} (h : zH) (x0 : Int32)  : zMv G 0 M_X6_isPin [.int x0] sl h (fun r h' => r = some (.int (zb (f_X6_isPin x0))) ∧ h' = h) := by
  generalize H : f_X6_isPin x0 = r0
  unfold f_X6_isPin at H
  refine zMv_of (L := [some (.int x0)]) (by decide) rfl (Nat.le_of_ble_eq_true rfl) rfl ?_
  refine aw_iload_n (q := 1) dX6_isPin_0 rfl rfl ?_
  refine aw_if_lt (q := 4) (t := 14) dX6_isPin_1 rfl (by decide) (fun h1 => ?_) (fun h1 => ?_)
  · replace H := zt h1 H
    refine aw_iconst (q := 15) (v := 0) dX6_isPin_14 rfl (by decide) ?_
    subst H
    exact aw_ret dX6_isPin_15 rfl rfl rfl rfl ⟨rfl, rfl⟩
  · replace H := zf h1 H
    refine aw_iload_n (q := 5) dX6_isPin_4 rfl rfl ?_
    refine aw_bipush (q := 7) (v := 16) dX6_isPin_5 rfl (by decide) ?_
    refine aw_icmp_ge (q := 10) (t := 14) dX6_isPin_7 rfl (by decide) (fun h2 => ?_) (fun h2 => ?_)
    · replace H := zt h2 H
      refine aw_iconst (q := 15) (v := 0) dX6_isPin_14 rfl (by decide) ?_
      subst H
      exact aw_ret dX6_isPin_15 rfl rfl rfl rfl ⟨rfl, rfl⟩
    · replace H := zf h2 H
      refine aw_iconst (q := 11) (v := 1) dX6_isPin_10 rfl (by decide) ?_
      refine aw_goto (q := 15) dX6_isPin_11 (by decide) ?_
      subst H
      exact aw_ret dX6_isPin_15 rfl rfl rfl rfl ⟨rfl, rfl⟩
def f_X0_refusalOfChip (s : zs) (b : Nat) (x1 : Int32) (x2 : Int32) (x3 : Int32) : Int32 :=
  if f_X6_isPin x1 = true then (
    if f_X6_isPin x2 = true then (
      if x1 = x2 then (
        (-1000001)
      ) else (
        if (x3 &&& (-65536)) = 0 then (
          if (5 : Int32) < (f_J6_bitCount_0f7a4 x3) then (
            (-1000001)
          ) else (
            if f_X6_hasBit x3 x1 = true then (
              (-1000001)
            ) else (
              if f_X6_hasBit x3 x2 = true then (
                (-1000001)
              ) else (
                if (((((1 : Int32) <<< (x1 &&& 31)) ||| ((1 : Int32) <<< (x2 &&& 31))) ||| x3) &&& (s.1 b 13)) = 0 then (
                  if (s.1 b 10) < 5 then (
                    0
                  ) else (
                    (-1000003)
                  )
                ) else (
                  (-1000002)
                )
              )
            )
          )
        ) else (
          (-1000001)
        )
      )
    ) else (
      (-1000001)
    )
  ) else (
    (-1000001)
  )
set_option maxHeartbeats 4000000 in
set_option maxRecDepth 100000 in
theorem c_X0_refusalOfChip {G : zG} {sl : Nat} (s : zs) (R : zr) {b : Nat} (hb : zB b) (x1 : Int32) (x2 : Int32) (x3 : Int32)  : zMv G 1 M_X0_refusalOfChip [.ref b, .int x1, .int x2, .int x3] sl (zT s R) (fun r h' => r = some (.int (f_X0_refusalOfChip s b x1 x2 x3)) ∧ h' = (zT s R)) := by
  generalize H : f_X0_refusalOfChip s b x1 x2 x3 = r0
  unfold f_X0_refusalOfChip at H
  refine zMv_of (L := [some (.ref b), some (.int x1), some (.int x2), some (.int x3)]) (by decide) rfl (Nat.le_of_ble_eq_true rfl) rfl ?_
  refine aw_iload_n (q := 1) dX0_refusalOfChip_0 rfl rfl ?_
  refine aw_csN (M' := M_X6_isPin) (as := [.int x1]) (q := 4) dX0_refusalOfChip_1 rfl W_X6_isPin (show (RX0, 81, yX6_isPin) ∈ zNl by decide) s_X6_isPin rfl rfl (by decide) (Nat.le_of_ble_eq_true rfl) (c_X6_isPin (zT s R) x1) (Nat.le_refl _) (Nat.le_refl _) ?_
  rintro r9 h9 ⟨rfl, rfl⟩
  refine aw_ifeqB (q := 7) (t := 19) dX0_refusalOfChip_4 rfl (by decide) (fun h1 => ?_) (fun h1 => ?_)
  · replace H := zt h1 H
    refine aw_iload_n (q := 8) dX0_refusalOfChip_7 rfl rfl ?_
    refine aw_csN (M' := M_X6_isPin) (as := [.int x2]) (q := 11) dX0_refusalOfChip_8 rfl W_X6_isPin (show (RX0, 81, yX6_isPin) ∈ zNl by decide) s_X6_isPin rfl rfl (by decide) (Nat.le_of_ble_eq_true rfl) (c_X6_isPin (zT s R) x2) (Nat.le_refl _) (Nat.le_refl _) ?_
    rintro r9 h9 ⟨rfl, rfl⟩
    refine aw_ifeqB (q := 14) (t := 19) dX0_refusalOfChip_11 rfl (by decide) (fun h2 => ?_) (fun h2 => ?_)
    · replace H := zt h2 H
      refine aw_iload_n (q := 15) dX0_refusalOfChip_14 rfl rfl ?_
      refine aw_iload_n (q := 16) dX0_refusalOfChip_15 rfl rfl ?_
      refine aw_icmp_neP (q := 19) (t := 22) dX0_refusalOfChip_16 rfl (by decide) (fun h3 => ?_) (fun h3 => ?_)
      · replace H := zt h3 H
        refine aw_ldc (q := 21) dX0_refusalOfChip_19 rfl q_X0_74 ?_
        subst H
        exact aw_ret dX0_refusalOfChip_21 rfl rfl rfl rfl ⟨rfl, rfl⟩
      · replace H := zf h3 H
        refine aw_iload_n (q := 23) dX0_refusalOfChip_22 rfl rfl ?_
        refine aw_ldc (q := 25) dX0_refusalOfChip_23 rfl q_X0_73 ?_
        refine aw_iand (q := 26) dX0_refusalOfChip_25 rfl ?_
        refine aw_if_neP (q := 29) (t := 53) dX0_refusalOfChip_26 rfl (by decide) (fun h4 => ?_) (fun h4 => ?_)
        · replace H := zt h4 H
          refine aw_iload_n (q := 30) dX0_refusalOfChip_29 rfl rfl ?_
          refine aw_cs (M' := M_J6_bitCount_0f7a4) (as := [.int x3]) (q := 33) dX0_refusalOfChip_30 rfl W_J6_bitCount_0f7a4 k_X0_67 s_J6_bitCount_0f7a4 rfl rfl (by decide) (Nat.le_of_ble_eq_true rfl) (c_J6_bitCount_0f7a4 (zT s R) x3) (Nat.le_refl _) (Nat.le_refl _) ?_
          rintro r9 h9 ⟨rfl, rfl⟩
          refine aw_iconst (q := 34) (v := 5) dX0_refusalOfChip_33 rfl (by decide) ?_
          refine aw_icmp_gt (q := 37) (t := 53) dX0_refusalOfChip_34 rfl (by decide) (fun h5 => ?_) (fun h5 => ?_)
          · replace H := zt h5 H
            refine aw_ldc (q := 55) dX0_refusalOfChip_53 rfl q_X0_74 ?_
            subst H
            exact aw_ret dX0_refusalOfChip_55 rfl rfl rfl rfl ⟨rfl, rfl⟩
          · replace H := zf h5 H
            refine aw_iload_n (q := 38) dX0_refusalOfChip_37 rfl rfl ?_
            refine aw_iload_n (q := 39) dX0_refusalOfChip_38 rfl rfl ?_
            refine aw_csN (M' := M_X6_hasBit) (as := [.int x3, .int x1]) (q := 42) dX0_refusalOfChip_39 rfl W_X6_hasBit (show (RX0, 77, yX6_hasBit) ∈ zNl by decide) s_X6_hasBit rfl rfl (by decide) (Nat.le_of_ble_eq_true rfl) (c_X6_hasBit (zT s R) x3 x1) (Nat.le_refl _) (Nat.le_refl _) ?_
            rintro r9 h9 ⟨rfl, rfl⟩
            refine aw_ifneB (q := 45) (t := 53) dX0_refusalOfChip_42 rfl (by decide) (fun h6 => ?_) (fun h6 => ?_)
            · replace H := zt h6 H
              refine aw_ldc (q := 55) dX0_refusalOfChip_53 rfl q_X0_74 ?_
              subst H
              exact aw_ret dX0_refusalOfChip_55 rfl rfl rfl rfl ⟨rfl, rfl⟩
            · replace H := zf h6 H
              refine aw_iload_n (q := 46) dX0_refusalOfChip_45 rfl rfl ?_
              refine aw_iload_n (q := 47) dX0_refusalOfChip_46 rfl rfl ?_
              refine aw_csN (M' := M_X6_hasBit) (as := [.int x3, .int x2]) (q := 50) dX0_refusalOfChip_47 rfl W_X6_hasBit (show (RX0, 77, yX6_hasBit) ∈ zNl by decide) s_X6_hasBit rfl rfl (by decide) (Nat.le_of_ble_eq_true rfl) (c_X6_hasBit (zT s R) x3 x2) (Nat.le_refl _) (Nat.le_refl _) ?_
              rintro r9 h9 ⟨rfl, rfl⟩
              refine aw_ifeqB (q := 53) (t := 56) dX0_refusalOfChip_50 rfl (by decide) (fun h7 => ?_) (fun h7 => ?_)
              · replace H := zt h7 H
                refine aw_ldc (q := 55) dX0_refusalOfChip_53 rfl q_X0_74 ?_
                subst H
                exact aw_ret dX0_refusalOfChip_55 rfl rfl rfl rfl ⟨rfl, rfl⟩
              · replace H := zf h7 H
                refine aw_iconst (q := 57) (v := 1) dX0_refusalOfChip_56 rfl (by decide) ?_
                refine aw_iload_n (q := 58) dX0_refusalOfChip_57 rfl rfl ?_
                refine aw_ishl (q := 59) dX0_refusalOfChip_58 rfl ?_
                refine aw_iconst (q := 60) (v := 1) dX0_refusalOfChip_59 rfl (by decide) ?_
                refine aw_iload_n (q := 61) dX0_refusalOfChip_60 rfl rfl ?_
                refine aw_ishl (q := 62) dX0_refusalOfChip_61 rfl ?_
                refine aw_ior (q := 63) dX0_refusalOfChip_62 rfl ?_
                refine aw_iload_n (q := 64) dX0_refusalOfChip_63 rfl rfl ?_
                refine aw_ior (q := 65) dX0_refusalOfChip_64 rfl ?_
                refine aw_aload_n (q := 66) dX0_refusalOfChip_65 rfl rfl ?_
                refine aw_getr (q := 69) dX0_refusalOfChip_66 rfl e_X0_64 (zB_lt0 hb) (o_X0 hb s R) rfl ?_
                refine aw_iand (q := 70) dX0_refusalOfChip_69 rfl ?_
                refine aw_if_eq (q := 73) (t := 76) dX0_refusalOfChip_70 rfl (by decide) (fun h8 => ?_) (fun h8 => ?_)
                · replace H := zt h8 H
                  refine aw_aload_n (q := 77) dX0_refusalOfChip_76 rfl rfl ?_
                  refine aw_getr (q := 80) dX0_refusalOfChip_77 rfl e_X0_55 (zB_lt0 hb) (o_X0 hb s R) rfl ?_
                  refine aw_iconst (q := 81) (v := 5) dX0_refusalOfChip_80 rfl (by decide) ?_
                  refine aw_icmp_lt (q := 84) (t := 89) dX0_refusalOfChip_81 rfl (by decide) (fun h9 => ?_) (fun h9 => ?_)
                  · replace H := zt h9 H
                    refine aw_iconst (q := 90) (v := 0) dX0_refusalOfChip_89 rfl (by decide) ?_
                    subst H
                    exact aw_ret dX0_refusalOfChip_90 rfl rfl rfl rfl ⟨rfl, rfl⟩
                  · replace H := zf h9 H
                    refine aw_ldc (q := 86) dX0_refusalOfChip_84 rfl q_X0_76 ?_
                    refine aw_goto (q := 90) dX0_refusalOfChip_86 (by decide) ?_
                    subst H
                    exact aw_ret dX0_refusalOfChip_90 rfl rfl rfl rfl ⟨rfl, rfl⟩
                · replace H := zf h8 H
                  refine aw_ldc (q := 75) dX0_refusalOfChip_73 rfl q_X0_75 ?_
                  subst H
                  exact aw_ret dX0_refusalOfChip_75 rfl rfl rfl rfl ⟨rfl, rfl⟩
        · replace H := zf h4 H
          refine aw_ldc (q := 55) dX0_refusalOfChip_53 rfl q_X0_74 ?_
          subst H
          exact aw_ret dX0_refusalOfChip_55 rfl rfl rfl rfl ⟨rfl, rfl⟩
    · replace H := zf h2 H
      refine aw_ldc (q := 21) dX0_refusalOfChip_19 rfl q_X0_74 ?_
      subst H
      exact aw_ret dX0_refusalOfChip_21 rfl rfl rfl rfl ⟨rfl, rfl⟩
  · replace H := zf h1 H
    refine aw_ldc (q := 21) dX0_refusalOfChip_19 rfl q_X0_74 ?_
    subst H
    exact aw_ret dX0_refusalOfChip_21 rfl rfl rfl rfl ⟨rfl, rfl⟩
def f_X0_addChip (s : zs) (b : Nat) (x1 : Int32) (x2 : Int32) (x3 : Int32) : Option (Int32 × zs) :=
  if zin (s.1 b 10) 5 = true then
  zlt (zc s (b + 3) ((s.1 b 10).toNatClampNeg) x1) fun s2 =>
  if zin (s2.1 b 10) 5 = true then
  zlt (zc s2 (b + 4) ((s2.1 b 10).toNatClampNeg) x2) fun s5 =>
  if zin (s5.1 b 10) 5 = true then
  zlt (zc s5 (b + 5) ((s5.1 b 10).toNatClampNeg) x3) fun s8 =>
  zlt (zc s8 b 13 ((s8.1 b 13) ||| ((((1 : Int32) <<< (x1 &&& 31)) ||| ((1 : Int32) <<< (x2 &&& 31))) ||| x3))) fun s10 =>
  zlt (zc s10 b 10 ((s10.1 b 10) + 1)) fun s12 =>
  some ((s12.1 b 10) - 1, s12)
  else none
  else none
  else none
set_option maxHeartbeats 4000000 in
set_option maxRecDepth 100000 in
theorem c_X0_addChip {G : zG} {sl : Nat} (s : zs) (R : zr) {b : Nat} (hb : zB b) (x1 : Int32) (x2 : Int32) (x3 : Int32) {v9 : (Int32 × zs)} (H : f_X0_addChip s b x1 x2 x3 = some v9) : zMv G 0 M_X0_addChip [.ref b, .int x1, .int x2, .int x3] sl (zT s R) (fun r h' => r = some (.int v9.1) ∧ h' = zT v9.2 R) := by
  unfold f_X0_addChip at H
  refine zMv_of (L := [some (.ref b), some (.int x1), some (.int x2), some (.int x3)]) (by decide) rfl (Nat.le_of_ble_eq_true rfl) rfl ?_
  refine aw_aload_n (q := 1) dX0_addChip_0 rfl rfl ?_
  refine aw_getr (q := 4) dX0_addChip_1 rfl e_X0_18 (zB_lt0 hb) (o_X0 hb s R) rfl ?_
  refine aw_aload_n (q := 5) dX0_addChip_4 rfl rfl ?_
  refine aw_getr (q := 8) dX0_addChip_5 rfl e_X0_55 (zB_lt0 hb) (o_X0 hb s R) rfl ?_
  refine aw_iload_n (q := 9) dX0_addChip_8 rfl rfl ?_
  obtain ⟨h1, H⟩ := zio H
  obtain ⟨s2, q3, H⟩ := zltd H
  refine aw_iast (q := 10) dX0_addChip_9 rfl (zB_lt (k := 3) hb (by decide)) (o_X0a2 hb s R) (zin_in h1) ((p_X0a2 hb).trans (congrArg (fun z => zT z R) q3.symm)) ?_
  refine aw_aload_n (q := 11) dX0_addChip_10 rfl rfl ?_
  refine aw_getr (q := 14) dX0_addChip_11 rfl e_X0_21 (zB_lt0 hb) (o_X0 hb s2 R) rfl ?_
  refine aw_aload_n (q := 15) dX0_addChip_14 rfl rfl ?_
  refine aw_getr (q := 18) dX0_addChip_15 rfl e_X0_55 (zB_lt0 hb) (o_X0 hb s2 R) rfl ?_
  refine aw_iload_n (q := 19) dX0_addChip_18 rfl rfl ?_
  obtain ⟨h4, H⟩ := zio H
  obtain ⟨s5, q6, H⟩ := zltd H
  refine aw_iast (q := 20) dX0_addChip_19 rfl (zB_lt (k := 4) hb (by decide)) (o_X0a3 hb s2 R) (zin_in h4) ((p_X0a3 hb).trans (congrArg (fun z => zT z R) q6.symm)) ?_
  refine aw_aload_n (q := 21) dX0_addChip_20 rfl rfl ?_
  refine aw_getr (q := 24) dX0_addChip_21 rfl e_X0_24 (zB_lt0 hb) (o_X0 hb s5 R) rfl ?_
  refine aw_aload_n (q := 25) dX0_addChip_24 rfl rfl ?_
  refine aw_getr (q := 28) dX0_addChip_25 rfl e_X0_55 (zB_lt0 hb) (o_X0 hb s5 R) rfl ?_
  refine aw_iload_n (q := 29) dX0_addChip_28 rfl rfl ?_
  obtain ⟨h7, H⟩ := zio H
  obtain ⟨s8, q9, H⟩ := zltd H
  refine aw_iast (q := 30) dX0_addChip_29 rfl (zB_lt (k := 5) hb (by decide)) (o_X0a4 hb s5 R) (zin_in h7) ((p_X0a4 hb).trans (congrArg (fun z => zT z R) q9.symm)) ?_
  refine aw_aload_n (q := 31) dX0_addChip_30 rfl rfl ?_
  refine aw_dup (q := 32) dX0_addChip_31 rfl rfl ?_
  refine aw_getr (q := 35) dX0_addChip_32 rfl e_X0_64 (zB_lt0 hb) (o_X0 hb s8 R) rfl ?_
  refine aw_iconst (q := 36) (v := 1) dX0_addChip_35 rfl (by decide) ?_
  refine aw_iload_n (q := 37) dX0_addChip_36 rfl rfl ?_
  refine aw_ishl (q := 38) dX0_addChip_37 rfl ?_
  refine aw_iconst (q := 39) (v := 1) dX0_addChip_38 rfl (by decide) ?_
  refine aw_iload_n (q := 40) dX0_addChip_39 rfl rfl ?_
  refine aw_ishl (q := 41) dX0_addChip_40 rfl ?_
  refine aw_ior (q := 42) dX0_addChip_41 rfl ?_
  refine aw_iload_n (q := 43) dX0_addChip_42 rfl rfl ?_
  refine aw_ior (q := 44) dX0_addChip_43 rfl ?_
  refine aw_ior (q := 45) dX0_addChip_44 rfl ?_
  obtain ⟨s10, q11, H⟩ := zltd H
  refine aw_put (q := 48) dX0_addChip_45 rfl f_X0_64 (zB_lt0 hb) (o_X0 hb s8 R) rfl rfl (Nat.le_of_ble_eq_true rfl) ((p_X0_13 hb).trans (congrArg (fun z => zT z R) q11.symm)) ?_
  refine aw_aload_n (q := 49) dX0_addChip_48 rfl rfl ?_
  refine aw_dup (q := 50) dX0_addChip_49 rfl rfl ?_
  refine aw_getr (q := 53) dX0_addChip_50 rfl e_X0_55 (zB_lt0 hb) (o_X0 hb s10 R) rfl ?_
  refine aw_iconst (q := 54) (v := 1) dX0_addChip_53 rfl (by decide) ?_
  refine aw_iadd (q := 55) dX0_addChip_54 rfl ?_
  obtain ⟨s12, q13, H⟩ := zltd H
  refine aw_put (q := 58) dX0_addChip_55 rfl f_X0_55 (zB_lt0 hb) (o_X0 hb s10 R) rfl rfl (Nat.le_of_ble_eq_true rfl) ((p_X0_10 hb).trans (congrArg (fun z => zT z R) q13.symm)) ?_
  refine aw_aload_n (q := 59) dX0_addChip_58 rfl rfl ?_
  refine aw_getr (q := 62) dX0_addChip_59 rfl e_X0_55 (zB_lt0 hb) (o_X0 hb s12 R) rfl ?_
  refine aw_iconst (q := 63) (v := 1) dX0_addChip_62 rfl (by decide) ?_
  refine aw_isub (q := 64) dX0_addChip_63 rfl ?_
  cases H
  exact aw_ret dX0_addChip_64 rfl rfl rfl rfl ⟨rfl, rfl⟩
def f_X0_placesFor (s : zs) (b : Nat) (x1 : Int32) : Int32 :=
  if x1 = 0 then (
    16
  ) else (
    if x1 = 4 then (
      s.1 b 10
    ) else (
      s.1 b 9
    )
  )
set_option maxHeartbeats 4000000 in
set_option maxRecDepth 100000 in
theorem c_X0_placesFor {G : zG} {sl : Nat} (s : zs) (R : zr) {b : Nat} (hb : zB b) (x1 : Int32)  : zMv G 0 M_X0_placesFor [.ref b, .int x1] sl (zT s R) (fun r h' => r = some (.int (f_X0_placesFor s b x1)) ∧ h' = (zT s R)) := by
  generalize H : f_X0_placesFor s b x1 = r0
  unfold f_X0_placesFor at H
  refine zMv_of (L := [some (.ref b), some (.int x1)]) (by decide) rfl (Nat.le_of_ble_eq_true rfl) rfl ?_
  refine aw_iload_n (q := 1) dX0_placesFor_0 rfl rfl ?_
  refine aw_if_neP (q := 4) (t := 7) dX0_placesFor_1 rfl (by decide) (fun h1 => ?_) (fun h1 => ?_)
  · replace H := zt h1 H
    refine aw_bipush (q := 6) (v := 16) dX0_placesFor_4 rfl (by decide) ?_
    subst H
    exact aw_ret dX0_placesFor_6 rfl rfl rfl rfl ⟨rfl, rfl⟩
  · replace H := zf h1 H
    refine aw_iload_n (q := 8) dX0_placesFor_7 rfl rfl ?_
    refine aw_iconst (q := 9) (v := 4) dX0_placesFor_8 rfl (by decide) ?_
    refine aw_icmp_neP (q := 12) (t := 19) dX0_placesFor_9 rfl (by decide) (fun h2 => ?_) (fun h2 => ?_)
    · replace H := zt h2 H
      refine aw_aload_n (q := 13) dX0_placesFor_12 rfl rfl ?_
      refine aw_getr (q := 16) dX0_placesFor_13 rfl e_X0_55 (zB_lt0 hb) (o_X0 hb s R) rfl ?_
      refine aw_goto (q := 23) dX0_placesFor_16 (by decide) ?_
      subst H
      exact aw_ret dX0_placesFor_23 rfl rfl rfl rfl ⟨rfl, rfl⟩
    · replace H := zf h2 H
      refine aw_aload_n (q := 20) dX0_placesFor_19 rfl rfl ?_
      refine aw_getr (q := 23) dX0_placesFor_20 rfl e_X0_51 (zB_lt0 hb) (o_X0 hb s R) rfl ?_
      subst H
      exact aw_ret dX0_placesFor_23 rfl rfl rfl rfl ⟨rfl, rfl⟩
def f_X0_refusalOfFault_73 : Nat → zs → Nat → Int32 → Int32 → Int32 → Int32 → Option ((Unit) ⊕ (Int32))
  | 0, _, _, _, _, _, _ => none
  | k + 1, s, b, x1, x2, x3, x5 =>
    if (s.1 b 11) ≤ x5 then (
      some (Sum.inl ())
    ) else (
      if zin x5 10 = true then
      if (s.1 (b + 6) x5.toNatClampNeg) = x1 then (
        if (s.1 (b + 7) x5.toNatClampNeg) = x2 then (
          if (s.1 (b + 8) x5.toNatClampNeg) = x3 then (
            some (Sum.inr (-1000002))
          ) else (
            f_X0_refusalOfFault_73 k s b x1 x2 x3 (x5 + 1)
          )
        ) else (
          f_X0_refusalOfFault_73 k s b x1 x2 x3 (x5 + 1)
        )
      ) else (
        f_X0_refusalOfFault_73 k s b x1 x2 x3 (x5 + 1)
      )
      else none
    )
set_option maxHeartbeats 4000000 in
set_option maxRecDepth 100000 in
theorem L_X0_refusalOfFault_73 {G : zG} {sl : Nat} {P : Option Value → zH → Prop} (R : zr) {b : Nat} (hb : zB b) (x1 : Int32) (x2 : Int32) (x3 : Int32) : ∀ (k : Nat) (s : zs) (x5 : Int32) (e : (Unit) ⊕ (Int32)), f_X0_refusalOfFault_73 k s b x1 x2 x3 x5 = some e → (∀ x9, e = Sum.inl x9 → AV G M_X0_refusalOfFault 1 sl P 124 [some (.ref b), none, none, none, none, none] [] (zT s R)) → (∀ v9, e = Sum.inr v9 → P (some (.int v9)) (zT s R)) → AV G M_X0_refusalOfFault 1 sl P 73 [some (.ref b), some (.int x1), some (.int x2), some (.int x3), none, some (.int x5)] [] (zT s R) := by
  intro k
  induction k with
  | zero =>
    intro s x5 e H
    unfold f_X0_refusalOfFault_73 at H
    cases H
  | succ k ih =>
    intro s x5 e H KE KR
    unfold f_X0_refusalOfFault_73 at H
    refine aw_iload (q := 75) dX0_refusalOfFault_73 rfl rfl ?_
    refine aw_aload_n (q := 76) dX0_refusalOfFault_75 rfl rfl ?_
    refine aw_getr (q := 79) dX0_refusalOfFault_76 rfl e_X0_58 (zB_lt0 hb) (o_X0 hb s R) rfl ?_
    refine aw_icmp_ge (q := 82) (t := 124) dX0_refusalOfFault_79 rfl (by decide) (fun h1 => ?_) (fun h1 => ?_)
    · replace H := zt h1 H
      cases H
      exact aw_fewer (L' := [some (.ref b), none, none, none, none, none]) ⟨rfl, trivial⟩ (KE _ rfl)
    · replace H := zf h1 H
      refine aw_aload_n (q := 83) dX0_refusalOfFault_82 rfl rfl ?_
      refine aw_getr (q := 86) dX0_refusalOfFault_83 rfl e_X0_27 (zB_lt0 hb) (o_X0 hb s R) rfl ?_
      refine aw_iload (q := 88) dX0_refusalOfFault_86 rfl rfl ?_
      obtain ⟨h2, H⟩ := zio H
      refine aw_iald' (q := 89) (v := s.1 (b + 6) x5.toNatClampNeg) dX0_refusalOfFault_88 rfl (zB_lt (k := 6) hb (by decide)) (o_X0a5 hb s R) (zin_in h2) rfl ?_
      refine aw_iload_n (q := 90) dX0_refusalOfFault_89 rfl rfl ?_
      refine aw_icmp_neP (q := 93) (t := 118) dX0_refusalOfFault_90 rfl (by decide) (fun h3 => ?_) (fun h3 => ?_)
      · replace H := zt h3 H
        refine aw_aload_n (q := 94) dX0_refusalOfFault_93 rfl rfl ?_
        refine aw_getr (q := 97) dX0_refusalOfFault_94 rfl e_X0_30 (zB_lt0 hb) (o_X0 hb s R) rfl ?_
        refine aw_iload (q := 99) dX0_refusalOfFault_97 rfl rfl ?_
        refine aw_iald' (q := 100) (v := s.1 (b + 7) x5.toNatClampNeg) dX0_refusalOfFault_99 rfl (zB_lt (k := 7) hb (by decide)) (o_X0a6 hb s R) (zin_in h2) rfl ?_
        refine aw_iload_n (q := 101) dX0_refusalOfFault_100 rfl rfl ?_
        refine aw_icmp_neP (q := 104) (t := 118) dX0_refusalOfFault_101 rfl (by decide) (fun h4 => ?_) (fun h4 => ?_)
        · replace H := zt h4 H
          refine aw_aload_n (q := 105) dX0_refusalOfFault_104 rfl rfl ?_
          refine aw_getr (q := 108) dX0_refusalOfFault_105 rfl e_X0_33 (zB_lt0 hb) (o_X0 hb s R) rfl ?_
          refine aw_iload (q := 110) dX0_refusalOfFault_108 rfl rfl ?_
          refine aw_iald' (q := 111) (v := s.1 (b + 8) x5.toNatClampNeg) dX0_refusalOfFault_110 rfl (zB_lt (k := 8) hb (by decide)) (o_X0a7 hb s R) (zin_in h2) rfl ?_
          refine aw_iload_n (q := 112) dX0_refusalOfFault_111 rfl rfl ?_
          refine aw_icmp_neP (q := 115) (t := 118) dX0_refusalOfFault_112 rfl (by decide) (fun h5 => ?_) (fun h5 => ?_)
          · replace H := zt h5 H
            refine aw_ldc (q := 117) dX0_refusalOfFault_115 rfl q_X0_75 ?_
            cases H
            exact aw_ret dX0_refusalOfFault_117 rfl rfl rfl rfl (KR _ rfl)
          · replace H := zf h5 H
            refine aw_iinc (q := 121) (v := x5 + 1) (L' := [some (.ref b), some (.int x1), some (.int x2), some (.int x3), none, some (.int (x5 + 1))]) dX0_refusalOfFault_118 rfl rfl (by first | rfl | decide) (by decide) rfl rfl ?_
            refine aw_goto (q := 73) dX0_refusalOfFault_121 (by decide) ?_
            exact aw_fewer (L' := [some (.ref b), some (.int x1), some (.int x2), some (.int x3), none, some (.int (x5 + 1))]) ⟨rfl, ⟨rfl, ⟨rfl, ⟨rfl, ⟨rfl, trivial⟩⟩⟩⟩⟩ (ih s (x5 + 1) _ H KE KR)
        · replace H := zf h4 H
          refine aw_iinc (q := 121) (v := x5 + 1) (L' := [some (.ref b), some (.int x1), some (.int x2), some (.int x3), none, some (.int (x5 + 1))]) dX0_refusalOfFault_118 rfl rfl (by first | rfl | decide) (by decide) rfl rfl ?_
          refine aw_goto (q := 73) dX0_refusalOfFault_121 (by decide) ?_
          exact aw_fewer (L' := [some (.ref b), some (.int x1), some (.int x2), some (.int x3), none, some (.int (x5 + 1))]) ⟨rfl, ⟨rfl, ⟨rfl, ⟨rfl, ⟨rfl, trivial⟩⟩⟩⟩⟩ (ih s (x5 + 1) _ H KE KR)
      · replace H := zf h3 H
        refine aw_iinc (q := 121) (v := x5 + 1) (L' := [some (.ref b), some (.int x1), some (.int x2), some (.int x3), none, some (.int (x5 + 1))]) dX0_refusalOfFault_118 rfl rfl (by first | rfl | decide) (by decide) rfl rfl ?_
        refine aw_goto (q := 73) dX0_refusalOfFault_121 (by decide) ?_
        exact aw_fewer (L' := [some (.ref b), some (.int x1), some (.int x2), some (.int x3), none, some (.int (x5 + 1))]) ⟨rfl, ⟨rfl, ⟨rfl, ⟨rfl, ⟨rfl, trivial⟩⟩⟩⟩⟩ (ih s (x5 + 1) _ H KE KR)
def f_X0_refusalOfFault (s : zs) (b : Nat) (x1 : Int32) (x2 : Int32) (x3 : Int32) : Option Int32 :=
  if x1 < 0 then (
    some (-1000001)
  ) else (
    if (5 : Int32) ≤ x1 then (
      some (-1000001)
    ) else (
      if x2 < 0 then (
        some (-1000001)
      ) else (
        if x2 < (f_X0_placesFor s b x1) then (
          if x1 = 1 then (
            if x3 ≤ x2 then (
              some (-1000001)
            ) else (
              if (s.1 b 9) ≤ x3 then (
                some (-1000001)
              ) else (
                Option.bind (f_X0_refusalOfFault_73 zFu s b x1 x2 x3 0) fun e8 => match e8 with
                | Sum.inr r10 => some r10
                | Sum.inl e8i =>
                if (s.1 b 11) < 10 then (
                  some 0
                ) else (
                  some (-1000003)
                )
              )
            )
          ) else (
            if x3 = 0 then (
              Option.bind (f_X0_refusalOfFault_73 zFu s b x1 x2 x3 0) fun e13 => match e13 with
              | Sum.inr r15 => some r15
              | Sum.inl e13i =>
              if (s.1 b 11) < 10 then (
                some 0
              ) else (
                some (-1000003)
              )
            ) else (
              some (-1000001)
            )
          )
        ) else (
          some (-1000001)
        )
      )
    )
  )
set_option maxHeartbeats 4000000 in
set_option maxRecDepth 100000 in
theorem c_X0_refusalOfFault {G : zG} {sl : Nat} (s : zs) (R : zr) {b : Nat} (hb : zB b) (x1 : Int32) (x2 : Int32) (x3 : Int32) {v9 : Int32} (H : f_X0_refusalOfFault s b x1 x2 x3 = some v9) : zMv G 1 M_X0_refusalOfFault [.ref b, .int x1, .int x2, .int x3] sl (zT s R) (fun r h' => r = some (.int v9) ∧ h' = (zT s R)) := by
  unfold f_X0_refusalOfFault at H
  refine zMv_of (L := [some (.ref b), some (.int x1), some (.int x2), some (.int x3), none, none]) (by decide) rfl (Nat.le_of_ble_eq_true rfl) rfl ?_
  refine aw_iload_n (q := 1) dX0_refusalOfFault_0 rfl rfl ?_
  refine aw_if_lt (q := 4) (t := 22) dX0_refusalOfFault_1 rfl (by decide) (fun h1 => ?_) (fun h1 => ?_)
  · replace H := zt h1 H
    refine aw_ldc (q := 24) dX0_refusalOfFault_22 rfl q_X0_74 ?_
    cases H
    exact aw_ret dX0_refusalOfFault_24 rfl rfl rfl rfl ⟨rfl, rfl⟩
  · replace H := zf h1 H
    refine aw_iload_n (q := 5) dX0_refusalOfFault_4 rfl rfl ?_
    refine aw_iconst (q := 6) (v := 5) dX0_refusalOfFault_5 rfl (by decide) ?_
    refine aw_icmp_ge (q := 9) (t := 22) dX0_refusalOfFault_6 rfl (by decide) (fun h2 => ?_) (fun h2 => ?_)
    · replace H := zt h2 H
      refine aw_ldc (q := 24) dX0_refusalOfFault_22 rfl q_X0_74 ?_
      cases H
      exact aw_ret dX0_refusalOfFault_24 rfl rfl rfl rfl ⟨rfl, rfl⟩
    · replace H := zf h2 H
      refine aw_iload_n (q := 10) dX0_refusalOfFault_9 rfl rfl ?_
      refine aw_if_lt (q := 13) (t := 22) dX0_refusalOfFault_10 rfl (by decide) (fun h3 => ?_) (fun h3 => ?_)
      · replace H := zt h3 H
        refine aw_ldc (q := 24) dX0_refusalOfFault_22 rfl q_X0_74 ?_
        cases H
        exact aw_ret dX0_refusalOfFault_24 rfl rfl rfl rfl ⟨rfl, rfl⟩
      · replace H := zf h3 H
        refine aw_iload_n (q := 14) dX0_refusalOfFault_13 rfl rfl ?_
        refine aw_aload_n (q := 15) dX0_refusalOfFault_14 rfl rfl ?_
        refine aw_iload_n (q := 16) dX0_refusalOfFault_15 rfl rfl ?_
        refine aw_cv (M' := M_X0_placesFor) (as := [.int x1]) (q := 19) dX0_refusalOfFault_16 rfl W_X0_placesFor k_X0_85 i_X0_placesFor v_X0_placesFor (zB_lt0 hb) (o_X0 hb s R) rfl rfl rfl (by decide) (Nat.le_of_ble_eq_true rfl) (c_X0_placesFor s R hb x1) (Nat.le_refl _) (Nat.le_refl _) ?_
        rintro r9 h9 ⟨rfl, rfl⟩
        refine aw_icmp_lt (q := 22) (t := 25) dX0_refusalOfFault_19 rfl (by decide) (fun h4 => ?_) (fun h4 => ?_)
        · replace H := zt h4 H
          refine aw_iload_n (q := 26) dX0_refusalOfFault_25 rfl rfl ?_
          refine aw_iconst (q := 27) (v := 1) dX0_refusalOfFault_26 rfl (by decide) ?_
          refine aw_icmp_neP (q := 30) (t := 51) dX0_refusalOfFault_27 rfl (by decide) (fun h5 => ?_) (fun h5 => ?_)
          · replace H := zt h5 H
            refine aw_iload_n (q := 31) dX0_refusalOfFault_30 rfl rfl ?_
            refine aw_iload_n (q := 32) dX0_refusalOfFault_31 rfl rfl ?_
            refine aw_icmp_le (q := 35) (t := 47) dX0_refusalOfFault_32 rfl (by decide) (fun h6 => ?_) (fun h6 => ?_)
            · replace H := zt h6 H
              refine aw_iconst (q := 48) (v := 0) dX0_refusalOfFault_47 rfl (by decide) ?_
              refine aw_goto (q := 60) dX0_refusalOfFault_48 (by decide) ?_
              refine aw_istore (q := 62) (L' := [some (.ref b), some (.int x1), some (.int x2), some (.int x3), some (.int 0), none]) dX0_refusalOfFault_60 rfl (by decide) rfl rfl ?_
              refine aw_iload (q := 64) dX0_refusalOfFault_62 rfl rfl ?_
              refine aw_if_ne (q := 67) (t := 70) dX0_refusalOfFault_64 rfl (by decide) (fun z => absurd z (by decide)) (fun _ => ?_)
              refine aw_ldc (q := 69) dX0_refusalOfFault_67 rfl q_X0_74 ?_
              cases H
              exact aw_ret dX0_refusalOfFault_69 rfl rfl rfl rfl ⟨rfl, rfl⟩
            · replace H := zf h6 H
              refine aw_iload_n (q := 36) dX0_refusalOfFault_35 rfl rfl ?_
              refine aw_aload_n (q := 37) dX0_refusalOfFault_36 rfl rfl ?_
              refine aw_getr (q := 40) dX0_refusalOfFault_37 rfl e_X0_51 (zB_lt0 hb) (o_X0 hb s R) rfl ?_
              refine aw_icmp_ge (q := 43) (t := 47) dX0_refusalOfFault_40 rfl (by decide) (fun h7 => ?_) (fun h7 => ?_)
              · replace H := zt h7 H
                refine aw_iconst (q := 48) (v := 0) dX0_refusalOfFault_47 rfl (by decide) ?_
                refine aw_goto (q := 60) dX0_refusalOfFault_48 (by decide) ?_
                refine aw_istore (q := 62) (L' := [some (.ref b), some (.int x1), some (.int x2), some (.int x3), some (.int 0), none]) dX0_refusalOfFault_60 rfl (by decide) rfl rfl ?_
                refine aw_iload (q := 64) dX0_refusalOfFault_62 rfl rfl ?_
                refine aw_if_ne (q := 67) (t := 70) dX0_refusalOfFault_64 rfl (by decide) (fun z => absurd z (by decide)) (fun _ => ?_)
                refine aw_ldc (q := 69) dX0_refusalOfFault_67 rfl q_X0_74 ?_
                cases H
                exact aw_ret dX0_refusalOfFault_69 rfl rfl rfl rfl ⟨rfl, rfl⟩
              · replace H := zf h7 H
                refine aw_iconst (q := 44) (v := 1) dX0_refusalOfFault_43 rfl (by decide) ?_
                refine aw_goto (q := 60) dX0_refusalOfFault_44 (by decide) ?_
                refine aw_istore (q := 62) (L' := [some (.ref b), some (.int x1), some (.int x2), some (.int x3), some (.int 1), none]) dX0_refusalOfFault_60 rfl (by decide) rfl rfl ?_
                refine aw_iload (q := 64) dX0_refusalOfFault_62 rfl rfl ?_
                refine aw_if_ne (q := 67) (t := 70) dX0_refusalOfFault_64 rfl (by decide) (fun _ => ?_) (fun z => absurd (by decide) z)
                refine aw_iconst (q := 71) (v := 0) dX0_refusalOfFault_70 rfl (by decide) ?_
                refine aw_istore (q := 73) (L' := [some (.ref b), some (.int x1), some (.int x2), some (.int x3), some (.int 1), some (.int 0)]) dX0_refusalOfFault_71 rfl (by decide) rfl rfl ?_
                obtain ⟨e8, he8, H⟩ := zbd H
                refine aw_fewer (L' := [some (.ref b), some (.int x1), some (.int x2), some (.int x3), none, some (.int 0)]) ⟨rfl, ⟨rfl, ⟨rfl, ⟨rfl, ⟨rfl, trivial⟩⟩⟩⟩⟩ ?_
                refine L_X0_refusalOfFault_73 R hb x1 x2 x3 zFu s 0 e8 he8 (fun e8i h9 => ?_) (fun r10 h9 => ?_)
                · subst h9
                  replace H : _ = _ := H
                  refine aw_aload_n (q := 125) dX0_refusalOfFault_124 rfl rfl ?_
                  refine aw_getr (q := 128) dX0_refusalOfFault_125 rfl e_X0_58 (zB_lt0 hb) (o_X0 hb s R) rfl ?_
                  refine aw_bipush (q := 130) (v := 10) dX0_refusalOfFault_128 rfl (by decide) ?_
                  refine aw_icmp_lt (q := 133) (t := 138) dX0_refusalOfFault_130 rfl (by decide) (fun h11 => ?_) (fun h11 => ?_)
                  · replace H := zt h11 H
                    refine aw_iconst (q := 139) (v := 0) dX0_refusalOfFault_138 rfl (by decide) ?_
                    cases H
                    exact aw_ret dX0_refusalOfFault_139 rfl rfl rfl rfl ⟨rfl, rfl⟩
                  · replace H := zf h11 H
                    refine aw_ldc (q := 135) dX0_refusalOfFault_133 rfl q_X0_76 ?_
                    refine aw_goto (q := 139) dX0_refusalOfFault_135 (by decide) ?_
                    cases H
                    exact aw_ret dX0_refusalOfFault_139 rfl rfl rfl rfl ⟨rfl, rfl⟩
                · subst h9
                  cases H
                  exact ⟨rfl, rfl⟩
          · replace H := zf h5 H
            refine aw_iload_n (q := 52) dX0_refusalOfFault_51 rfl rfl ?_
            refine aw_if_neP (q := 55) (t := 59) dX0_refusalOfFault_52 rfl (by decide) (fun h12 => ?_) (fun h12 => ?_)
            · replace H := zt h12 H
              refine aw_iconst (q := 56) (v := 1) dX0_refusalOfFault_55 rfl (by decide) ?_
              refine aw_goto (q := 60) dX0_refusalOfFault_56 (by decide) ?_
              refine aw_istore (q := 62) (L' := [some (.ref b), some (.int x1), some (.int x2), some (.int x3), some (.int 1), none]) dX0_refusalOfFault_60 rfl (by decide) rfl rfl ?_
              refine aw_iload (q := 64) dX0_refusalOfFault_62 rfl rfl ?_
              refine aw_if_ne (q := 67) (t := 70) dX0_refusalOfFault_64 rfl (by decide) (fun _ => ?_) (fun z => absurd (by decide) z)
              refine aw_iconst (q := 71) (v := 0) dX0_refusalOfFault_70 rfl (by decide) ?_
              refine aw_istore (q := 73) (L' := [some (.ref b), some (.int x1), some (.int x2), some (.int x3), some (.int 1), some (.int 0)]) dX0_refusalOfFault_71 rfl (by decide) rfl rfl ?_
              obtain ⟨e13, he13, H⟩ := zbd H
              refine aw_fewer (L' := [some (.ref b), some (.int x1), some (.int x2), some (.int x3), none, some (.int 0)]) ⟨rfl, ⟨rfl, ⟨rfl, ⟨rfl, ⟨rfl, trivial⟩⟩⟩⟩⟩ ?_
              refine L_X0_refusalOfFault_73 R hb x1 x2 x3 zFu s 0 e13 he13 (fun e13i h9 => ?_) (fun r15 h9 => ?_)
              · subst h9
                replace H : _ = _ := H
                refine aw_aload_n (q := 125) dX0_refusalOfFault_124 rfl rfl ?_
                refine aw_getr (q := 128) dX0_refusalOfFault_125 rfl e_X0_58 (zB_lt0 hb) (o_X0 hb s R) rfl ?_
                refine aw_bipush (q := 130) (v := 10) dX0_refusalOfFault_128 rfl (by decide) ?_
                refine aw_icmp_lt (q := 133) (t := 138) dX0_refusalOfFault_130 rfl (by decide) (fun h16 => ?_) (fun h16 => ?_)
                · replace H := zt h16 H
                  refine aw_iconst (q := 139) (v := 0) dX0_refusalOfFault_138 rfl (by decide) ?_
                  cases H
                  exact aw_ret dX0_refusalOfFault_139 rfl rfl rfl rfl ⟨rfl, rfl⟩
                · replace H := zf h16 H
                  refine aw_ldc (q := 135) dX0_refusalOfFault_133 rfl q_X0_76 ?_
                  refine aw_goto (q := 139) dX0_refusalOfFault_135 (by decide) ?_
                  cases H
                  exact aw_ret dX0_refusalOfFault_139 rfl rfl rfl rfl ⟨rfl, rfl⟩
              · subst h9
                cases H
                exact ⟨rfl, rfl⟩
            · replace H := zf h12 H
              refine aw_iconst (q := 60) (v := 0) dX0_refusalOfFault_59 rfl (by decide) ?_
              refine aw_istore (q := 62) (L' := [some (.ref b), some (.int x1), some (.int x2), some (.int x3), some (.int 0), none]) dX0_refusalOfFault_60 rfl (by decide) rfl rfl ?_
              refine aw_iload (q := 64) dX0_refusalOfFault_62 rfl rfl ?_
              refine aw_if_ne (q := 67) (t := 70) dX0_refusalOfFault_64 rfl (by decide) (fun z => absurd z (by decide)) (fun _ => ?_)
              refine aw_ldc (q := 69) dX0_refusalOfFault_67 rfl q_X0_74 ?_
              cases H
              exact aw_ret dX0_refusalOfFault_69 rfl rfl rfl rfl ⟨rfl, rfl⟩
        · replace H := zf h4 H
          refine aw_ldc (q := 24) dX0_refusalOfFault_22 rfl q_X0_74 ?_
          cases H
          exact aw_ret dX0_refusalOfFault_24 rfl rfl rfl rfl ⟨rfl, rfl⟩
def f_X0_addFault (s : zs) (b : Nat) (x1 : Int32) (x2 : Int32) (x3 : Int32) : Option (Int32 × zs) :=
  if zin (s.1 b 11) 10 = true then
  zlt (zc s (b + 6) ((s.1 b 11).toNatClampNeg) x1) fun s2 =>
  if zin (s2.1 b 11) 10 = true then
  zlt (zc s2 (b + 7) ((s2.1 b 11).toNatClampNeg) x2) fun s5 =>
  if zin (s5.1 b 11) 10 = true then
  zlt (zc s5 (b + 8) ((s5.1 b 11).toNatClampNeg) x3) fun s8 =>
  zlt (zc s8 b 11 ((s8.1 b 11) + 1)) fun s10 =>
  some ((s10.1 b 11) - 1, s10)
  else none
  else none
  else none
set_option maxHeartbeats 4000000 in
set_option maxRecDepth 100000 in
theorem c_X0_addFault {G : zG} {sl : Nat} (s : zs) (R : zr) {b : Nat} (hb : zB b) (x1 : Int32) (x2 : Int32) (x3 : Int32) {v9 : (Int32 × zs)} (H : f_X0_addFault s b x1 x2 x3 = some v9) : zMv G 0 M_X0_addFault [.ref b, .int x1, .int x2, .int x3] sl (zT s R) (fun r h' => r = some (.int v9.1) ∧ h' = zT v9.2 R) := by
  unfold f_X0_addFault at H
  refine zMv_of (L := [some (.ref b), some (.int x1), some (.int x2), some (.int x3)]) (by decide) rfl (Nat.le_of_ble_eq_true rfl) rfl ?_
  refine aw_aload_n (q := 1) dX0_addFault_0 rfl rfl ?_
  refine aw_getr (q := 4) dX0_addFault_1 rfl e_X0_27 (zB_lt0 hb) (o_X0 hb s R) rfl ?_
  refine aw_aload_n (q := 5) dX0_addFault_4 rfl rfl ?_
  refine aw_getr (q := 8) dX0_addFault_5 rfl e_X0_58 (zB_lt0 hb) (o_X0 hb s R) rfl ?_
  refine aw_iload_n (q := 9) dX0_addFault_8 rfl rfl ?_
  obtain ⟨h1, H⟩ := zio H
  obtain ⟨s2, q3, H⟩ := zltd H
  refine aw_iast (q := 10) dX0_addFault_9 rfl (zB_lt (k := 6) hb (by decide)) (o_X0a5 hb s R) (zin_in h1) ((p_X0a5 hb).trans (congrArg (fun z => zT z R) q3.symm)) ?_
  refine aw_aload_n (q := 11) dX0_addFault_10 rfl rfl ?_
  refine aw_getr (q := 14) dX0_addFault_11 rfl e_X0_30 (zB_lt0 hb) (o_X0 hb s2 R) rfl ?_
  refine aw_aload_n (q := 15) dX0_addFault_14 rfl rfl ?_
  refine aw_getr (q := 18) dX0_addFault_15 rfl e_X0_58 (zB_lt0 hb) (o_X0 hb s2 R) rfl ?_
  refine aw_iload_n (q := 19) dX0_addFault_18 rfl rfl ?_
  obtain ⟨h4, H⟩ := zio H
  obtain ⟨s5, q6, H⟩ := zltd H
  refine aw_iast (q := 20) dX0_addFault_19 rfl (zB_lt (k := 7) hb (by decide)) (o_X0a6 hb s2 R) (zin_in h4) ((p_X0a6 hb).trans (congrArg (fun z => zT z R) q6.symm)) ?_
  refine aw_aload_n (q := 21) dX0_addFault_20 rfl rfl ?_
  refine aw_getr (q := 24) dX0_addFault_21 rfl e_X0_33 (zB_lt0 hb) (o_X0 hb s5 R) rfl ?_
  refine aw_aload_n (q := 25) dX0_addFault_24 rfl rfl ?_
  refine aw_getr (q := 28) dX0_addFault_25 rfl e_X0_58 (zB_lt0 hb) (o_X0 hb s5 R) rfl ?_
  refine aw_iload_n (q := 29) dX0_addFault_28 rfl rfl ?_
  obtain ⟨h7, H⟩ := zio H
  obtain ⟨s8, q9, H⟩ := zltd H
  refine aw_iast (q := 30) dX0_addFault_29 rfl (zB_lt (k := 8) hb (by decide)) (o_X0a7 hb s5 R) (zin_in h7) ((p_X0a7 hb).trans (congrArg (fun z => zT z R) q9.symm)) ?_
  refine aw_aload_n (q := 31) dX0_addFault_30 rfl rfl ?_
  refine aw_dup (q := 32) dX0_addFault_31 rfl rfl ?_
  refine aw_getr (q := 35) dX0_addFault_32 rfl e_X0_58 (zB_lt0 hb) (o_X0 hb s8 R) rfl ?_
  refine aw_iconst (q := 36) (v := 1) dX0_addFault_35 rfl (by decide) ?_
  refine aw_iadd (q := 37) dX0_addFault_36 rfl ?_
  obtain ⟨s10, q11, H⟩ := zltd H
  refine aw_put (q := 40) dX0_addFault_37 rfl f_X0_58 (zB_lt0 hb) (o_X0 hb s8 R) rfl rfl (Nat.le_of_ble_eq_true rfl) ((p_X0_11 hb).trans (congrArg (fun z => zT z R) q11.symm)) ?_
  refine aw_aload_n (q := 41) dX0_addFault_40 rfl rfl ?_
  refine aw_getr (q := 44) dX0_addFault_41 rfl e_X0_58 (zB_lt0 hb) (o_X0 hb s10 R) rfl ?_
  refine aw_iconst (q := 45) (v := 1) dX0_addFault_44 rfl (by decide) ?_
  refine aw_isub (q := 46) dX0_addFault_45 rfl ?_
  cases H
  exact aw_ret dX0_addFault_46 rfl rfl rfl rfl ⟨rfl, rfl⟩
def f_X0_setBlessing (s : zs) (b : Nat) (x1 : Int32) (x2 : Int32) : Option (Int32 × zs) :=
  if zin x1 16 = true then
  zlt (s.1 (b + 9) x1.toNatClampNeg : Int32) fun y2 =>
  zlt (zc s (b + 9) x1.toNatClampNeg x2) fun s4 =>
  some (y2, s4)
  else none
set_option maxHeartbeats 4000000 in
set_option maxRecDepth 100000 in
theorem c_X0_setBlessing {G : zG} {sl : Nat} (s : zs) (R : zr) {b : Nat} (hb : zB b) (x1 : Int32) (x2 : Int32) {v9 : (Int32 × zs)} (H : f_X0_setBlessing s b x1 x2 = some v9) : zMv G 0 M_X0_setBlessing [.ref b, .int x1, .int x2] sl (zT s R) (fun r h' => r = some (.int v9.1) ∧ h' = zT v9.2 R) := by
  unfold f_X0_setBlessing at H
  refine zMv_of (L := [some (.ref b), some (.int x1), some (.int x2), none]) (by decide) rfl (Nat.le_of_ble_eq_true rfl) rfl ?_
  refine aw_aload_n (q := 1) dX0_setBlessing_0 rfl rfl ?_
  refine aw_getr (q := 4) dX0_setBlessing_1 rfl e_X0_36 (zB_lt0 hb) (o_X0 hb s R) rfl ?_
  refine aw_iload_n (q := 5) dX0_setBlessing_4 rfl rfl ?_
  obtain ⟨h1, H⟩ := zio H
  refine aw_iald' (q := 6) (v := s.1 (b + 9) x1.toNatClampNeg) dX0_setBlessing_5 rfl (zB_lt (k := 9) hb (by decide)) (o_X0a8 hb s R) (zin_in h1) rfl ?_
  obtain ⟨y2, q3, H⟩ := zltd H
  refine aw_nm q3 ?_
  refine aw_istore_n (q := 7) (L' := [some (.ref b), some (.int x1), some (.int x2), some (.int y2)]) dX0_setBlessing_6 rfl (by decide) rfl rfl ?_
  refine aw_aload_n (q := 8) dX0_setBlessing_7 rfl rfl ?_
  refine aw_getr (q := 11) dX0_setBlessing_8 rfl e_X0_36 (zB_lt0 hb) (o_X0 hb s R) rfl ?_
  refine aw_iload_n (q := 12) dX0_setBlessing_11 rfl rfl ?_
  refine aw_iload_n (q := 13) dX0_setBlessing_12 rfl rfl ?_
  obtain ⟨s4, q5, H⟩ := zltd H
  refine aw_iast (q := 14) dX0_setBlessing_13 rfl (zB_lt (k := 9) hb (by decide)) (o_X0a8 hb s R) (zin_in h1) ((p_X0a8 hb).trans (congrArg (fun z => zT z R) q5.symm)) ?_
  refine aw_iload_n (q := 15) dX0_setBlessing_14 rfl rfl ?_
  cases H
  exact aw_ret dX0_setBlessing_15 rfl rfl rfl rfl ⟨rfl, rfl⟩
def f_X0_blessedOn_4 : Nat → zs → Nat → Int32 → Int32 → Int32 → Option (Int32)
  | 0, _, _, _, _, _ => none
  | k + 1, s, b, x1, x2, x3 =>
    if (16 : Int32) ≤ x3 then (
      some x2
    ) else (
      if zin x3 16 = true then
      if f_X6_hasBit (s.1 (b + 9) x3.toNatClampNeg) x1 = true then (
        zlt (x2 ||| ((1 : Int32) <<< (x3 &&& 31)) : Int32) fun y4 =>
        f_X0_blessedOn_4 k s b x1 y4 (x3 + 1)
      ) else (
        f_X0_blessedOn_4 k s b x1 x2 (x3 + 1)
      )
      else none
    )
set_option maxHeartbeats 4000000 in
set_option maxRecDepth 100000 in
theorem L_X0_blessedOn_4 {G : zG} {sl : Nat} {P : Option Value → zH → Prop} (R : zr) {b : Nat} (hb : zB b) (x1 : Int32) : ∀ (k : Nat) (s : zs) (x2 : Int32) (x3 : Int32) (e : Int32), f_X0_blessedOn_4 k s b x1 x2 x3 = some e → (AV G M_X0_blessedOn 1 sl P 35 [none, none, some (.int e), none] [] (zT s R)) → AV G M_X0_blessedOn 1 sl P 4 [some (.ref b), some (.int x1), some (.int x2), some (.int x3)] [] (zT s R) := by
  intro k
  induction k with
  | zero =>
    intro s x2 x3 e H
    unfold f_X0_blessedOn_4 at H
    cases H
  | succ k ih =>
    intro s x2 x3 e H KE
    unfold f_X0_blessedOn_4 at H
    refine aw_iload_n (q := 5) dX0_blessedOn_4 rfl rfl ?_
    refine aw_bipush (q := 7) (v := 16) dX0_blessedOn_5 rfl (by decide) ?_
    refine aw_icmp_ge (q := 10) (t := 35) dX0_blessedOn_7 rfl (by decide) (fun h1 => ?_) (fun h1 => ?_)
    · replace H := zt h1 H
      cases H
      exact aw_fewer (L' := [none, none, some (.int x2), none]) ⟨rfl, trivial⟩ KE
    · replace H := zf h1 H
      refine aw_aload_n (q := 11) dX0_blessedOn_10 rfl rfl ?_
      refine aw_getr (q := 14) dX0_blessedOn_11 rfl e_X0_36 (zB_lt0 hb) (o_X0 hb s R) rfl ?_
      refine aw_iload_n (q := 15) dX0_blessedOn_14 rfl rfl ?_
      obtain ⟨h2, H⟩ := zio H
      refine aw_iald' (q := 16) (v := s.1 (b + 9) x3.toNatClampNeg) dX0_blessedOn_15 rfl (zB_lt (k := 9) hb (by decide)) (o_X0a8 hb s R) (zin_in h2) rfl ?_
      refine aw_iload_n (q := 17) dX0_blessedOn_16 rfl rfl ?_
      refine aw_csN (M' := M_X6_hasBit) (as := [.int (s.1 (b + 9) x3.toNatClampNeg), .int x1]) (q := 20) dX0_blessedOn_17 rfl W_X6_hasBit (show (RX0, 77, yX6_hasBit) ∈ zNl by decide) s_X6_hasBit rfl rfl (by decide) (Nat.le_of_ble_eq_true rfl) (c_X6_hasBit (zT s R) (s.1 (b + 9) x3.toNatClampNeg) x1) (Nat.le_refl _) (Nat.le_refl _) ?_
      rintro r9 h9 ⟨rfl, rfl⟩
      refine aw_ifeqB (q := 23) (t := 29) dX0_blessedOn_20 rfl (by decide) (fun h3 => ?_) (fun h3 => ?_)
      · replace H := zt h3 H
        refine aw_iload_n (q := 24) dX0_blessedOn_23 rfl rfl ?_
        refine aw_iconst (q := 25) (v := 1) dX0_blessedOn_24 rfl (by decide) ?_
        refine aw_iload_n (q := 26) dX0_blessedOn_25 rfl rfl ?_
        refine aw_ishl (q := 27) dX0_blessedOn_26 rfl ?_
        refine aw_ior (q := 28) dX0_blessedOn_27 rfl ?_
        obtain ⟨y4, q5, H⟩ := zltd H
        refine aw_nm q5 ?_
        refine aw_istore_n (q := 29) (L' := [some (.ref b), some (.int x1), some (.int y4), some (.int x3)]) dX0_blessedOn_28 rfl (by decide) rfl rfl ?_
        refine aw_iinc (q := 32) (v := x3 + 1) (L' := [some (.ref b), some (.int x1), some (.int y4), some (.int (x3 + 1))]) dX0_blessedOn_29 rfl rfl (by first | rfl | decide) (by decide) rfl rfl ?_
        refine aw_goto (q := 4) dX0_blessedOn_32 (by decide) ?_
        exact aw_fewer (L' := [some (.ref b), some (.int x1), some (.int y4), some (.int (x3 + 1))]) ⟨rfl, ⟨rfl, ⟨rfl, ⟨rfl, trivial⟩⟩⟩⟩ (ih s y4 (x3 + 1) _ H KE)
      · replace H := zf h3 H
        refine aw_iinc (q := 32) (v := x3 + 1) (L' := [some (.ref b), some (.int x1), some (.int x2), some (.int (x3 + 1))]) dX0_blessedOn_29 rfl rfl (by first | rfl | decide) (by decide) rfl rfl ?_
        refine aw_goto (q := 4) dX0_blessedOn_32 (by decide) ?_
        exact aw_fewer (L' := [some (.ref b), some (.int x1), some (.int x2), some (.int (x3 + 1))]) ⟨rfl, ⟨rfl, ⟨rfl, ⟨rfl, trivial⟩⟩⟩⟩ (ih s x2 (x3 + 1) _ H KE)
def f_X0_blessedOn (s : zs) (b : Nat) (x1 : Int32) : Option Int32 :=
  Option.bind (f_X0_blessedOn_4 zFu s b x1 0 0) fun e1 =>
  some e1
set_option maxHeartbeats 4000000 in
set_option maxRecDepth 100000 in
theorem c_X0_blessedOn {G : zG} {sl : Nat} (s : zs) (R : zr) {b : Nat} (hb : zB b) (x1 : Int32) {v9 : Int32} (H : f_X0_blessedOn s b x1 = some v9) : zMv G 1 M_X0_blessedOn [.ref b, .int x1] sl (zT s R) (fun r h' => r = some (.int v9) ∧ h' = (zT s R)) := by
  unfold f_X0_blessedOn at H
  refine zMv_of (L := [some (.ref b), some (.int x1), none, none]) (by decide) rfl (Nat.le_of_ble_eq_true rfl) rfl ?_
  refine aw_iconst (q := 1) (v := 0) dX0_blessedOn_0 rfl (by decide) ?_
  refine aw_istore_n (q := 2) (L' := [some (.ref b), some (.int x1), some (.int 0), none]) dX0_blessedOn_1 rfl (by decide) rfl rfl ?_
  refine aw_iconst (q := 3) (v := 0) dX0_blessedOn_2 rfl (by decide) ?_
  refine aw_istore_n (q := 4) (L' := [some (.ref b), some (.int x1), some (.int 0), some (.int 0)]) dX0_blessedOn_3 rfl (by decide) rfl rfl ?_
  obtain ⟨e1, he1, H⟩ := zbd H
  refine aw_fewer (L' := [some (.ref b), some (.int x1), some (.int 0), some (.int 0)]) ⟨rfl, ⟨rfl, ⟨rfl, ⟨rfl, trivial⟩⟩⟩⟩ ?_
  refine L_X0_blessedOn_4 R hb x1 zFu s 0 0 e1 he1 ?_
  refine aw_iload_n (q := 36) dX0_blessedOn_35 rfl rfl ?_
  cases H
  exact aw_ret dX0_blessedOn_36 rfl rfl rfl rfl ⟨rfl, rfl⟩
def f_X0_chipWith_2 : Nat → zs → Nat → Int32 → Int32 → Option ((Unit) ⊕ (Int32))
  | 0, _, _, _, _ => none
  | k + 1, s, b, x1, x2 =>
    if (s.1 b 10) ≤ x2 then (
      some (Sum.inl ())
    ) else (
      if zin x2 5 = true then
      if (s.1 (b + 3) x2.toNatClampNeg) = x1 then (
        some (Sum.inr x2)
      ) else (
        if (s.1 (b + 4) x2.toNatClampNeg) = x1 then (
          some (Sum.inr x2)
        ) else (
          if f_X6_hasBit (s.1 (b + 5) x2.toNatClampNeg) x1 = true then (
            some (Sum.inr x2)
          ) else (
            f_X0_chipWith_2 k s b x1 (x2 + 1)
          )
        )
      )
      else none
    )
set_option maxHeartbeats 4000000 in
set_option maxRecDepth 100000 in
theorem L_X0_chipWith_2 {G : zG} {sl : Nat} {P : Option Value → zH → Prop} (R : zr) {b : Nat} (hb : zB b) (x1 : Int32) : ∀ (k : Nat) (s : zs) (x2 : Int32) (e : (Unit) ⊕ (Int32)), f_X0_chipWith_2 k s b x1 x2 = some e → (∀ x9, e = Sum.inl x9 → AV G M_X0_chipWith 1 sl P 51 [none, none, none] [] (zT s R)) → (∀ v9, e = Sum.inr v9 → P (some (.int v9)) (zT s R)) → AV G M_X0_chipWith 1 sl P 2 [some (.ref b), some (.int x1), some (.int x2)] [] (zT s R) := by
  intro k
  induction k with
  | zero =>
    intro s x2 e H
    unfold f_X0_chipWith_2 at H
    cases H
  | succ k ih =>
    intro s x2 e H KE KR
    unfold f_X0_chipWith_2 at H
    refine aw_iload_n (q := 3) dX0_chipWith_2 rfl rfl ?_
    refine aw_aload_n (q := 4) dX0_chipWith_3 rfl rfl ?_
    refine aw_getr (q := 7) dX0_chipWith_4 rfl e_X0_55 (zB_lt0 hb) (o_X0 hb s R) rfl ?_
    refine aw_icmp_ge (q := 10) (t := 51) dX0_chipWith_7 rfl (by decide) (fun h1 => ?_) (fun h1 => ?_)
    · replace H := zt h1 H
      cases H
      exact aw_fewer (L' := [none, none, none]) trivial (KE _ rfl)
    · replace H := zf h1 H
      refine aw_aload_n (q := 11) dX0_chipWith_10 rfl rfl ?_
      refine aw_getr (q := 14) dX0_chipWith_11 rfl e_X0_18 (zB_lt0 hb) (o_X0 hb s R) rfl ?_
      refine aw_iload_n (q := 15) dX0_chipWith_14 rfl rfl ?_
      obtain ⟨h2, H⟩ := zio H
      refine aw_iald' (q := 16) (v := s.1 (b + 3) x2.toNatClampNeg) dX0_chipWith_15 rfl (zB_lt (k := 3) hb (by decide)) (o_X0a2 hb s R) (zin_in h2) rfl ?_
      refine aw_iload_n (q := 17) dX0_chipWith_16 rfl rfl ?_
      refine aw_icmp_eq (q := 20) (t := 43) dX0_chipWith_17 rfl (by decide) (fun h3 => ?_) (fun h3 => ?_)
      · replace H := zt h3 H
        refine aw_iload_n (q := 44) dX0_chipWith_43 rfl rfl ?_
        cases H
        exact aw_ret dX0_chipWith_44 rfl rfl rfl rfl (KR _ rfl)
      · replace H := zf h3 H
        refine aw_aload_n (q := 21) dX0_chipWith_20 rfl rfl ?_
        refine aw_getr (q := 24) dX0_chipWith_21 rfl e_X0_21 (zB_lt0 hb) (o_X0 hb s R) rfl ?_
        refine aw_iload_n (q := 25) dX0_chipWith_24 rfl rfl ?_
        refine aw_iald' (q := 26) (v := s.1 (b + 4) x2.toNatClampNeg) dX0_chipWith_25 rfl (zB_lt (k := 4) hb (by decide)) (o_X0a3 hb s R) (zin_in h2) rfl ?_
        refine aw_iload_n (q := 27) dX0_chipWith_26 rfl rfl ?_
        refine aw_icmp_eq (q := 30) (t := 43) dX0_chipWith_27 rfl (by decide) (fun h4 => ?_) (fun h4 => ?_)
        · replace H := zt h4 H
          refine aw_iload_n (q := 44) dX0_chipWith_43 rfl rfl ?_
          cases H
          exact aw_ret dX0_chipWith_44 rfl rfl rfl rfl (KR _ rfl)
        · replace H := zf h4 H
          refine aw_aload_n (q := 31) dX0_chipWith_30 rfl rfl ?_
          refine aw_getr (q := 34) dX0_chipWith_31 rfl e_X0_24 (zB_lt0 hb) (o_X0 hb s R) rfl ?_
          refine aw_iload_n (q := 35) dX0_chipWith_34 rfl rfl ?_
          refine aw_iald' (q := 36) (v := s.1 (b + 5) x2.toNatClampNeg) dX0_chipWith_35 rfl (zB_lt (k := 5) hb (by decide)) (o_X0a4 hb s R) (zin_in h2) rfl ?_
          refine aw_iload_n (q := 37) dX0_chipWith_36 rfl rfl ?_
          refine aw_csN (M' := M_X6_hasBit) (as := [.int (s.1 (b + 5) x2.toNatClampNeg), .int x1]) (q := 40) dX0_chipWith_37 rfl W_X6_hasBit (show (RX0, 77, yX6_hasBit) ∈ zNl by decide) s_X6_hasBit rfl rfl (by decide) (Nat.le_of_ble_eq_true rfl) (c_X6_hasBit (zT s R) (s.1 (b + 5) x2.toNatClampNeg) x1) (Nat.le_refl _) (Nat.le_refl _) ?_
          rintro r9 h9 ⟨rfl, rfl⟩
          refine aw_ifeqB (q := 43) (t := 45) dX0_chipWith_40 rfl (by decide) (fun h5 => ?_) (fun h5 => ?_)
          · replace H := zt h5 H
            refine aw_iload_n (q := 44) dX0_chipWith_43 rfl rfl ?_
            cases H
            exact aw_ret dX0_chipWith_44 rfl rfl rfl rfl (KR _ rfl)
          · replace H := zf h5 H
            refine aw_iinc (q := 48) (v := x2 + 1) (L' := [some (.ref b), some (.int x1), some (.int (x2 + 1))]) dX0_chipWith_45 rfl rfl (by first | rfl | decide) (by decide) rfl rfl ?_
            refine aw_goto (q := 2) dX0_chipWith_48 (by decide) ?_
            exact aw_fewer (L' := [some (.ref b), some (.int x1), some (.int (x2 + 1))]) ⟨rfl, ⟨rfl, ⟨rfl, trivial⟩⟩⟩ (ih s (x2 + 1) _ H KE KR)
def f_X0_chipWith (s : zs) (b : Nat) (x1 : Int32) : Option Int32 :=
  Option.bind (f_X0_chipWith_2 zFu s b x1 0) fun e1 => match e1 with
  | Sum.inr r2 => some r2
  | Sum.inl e1i =>
  some (-1)
set_option maxHeartbeats 4000000 in
set_option maxRecDepth 100000 in
theorem c_X0_chipWith {G : zG} {sl : Nat} (s : zs) (R : zr) {b : Nat} (hb : zB b) (x1 : Int32) {v9 : Int32} (H : f_X0_chipWith s b x1 = some v9) : zMv G 1 M_X0_chipWith [.ref b, .int x1] sl (zT s R) (fun r h' => r = some (.int v9) ∧ h' = (zT s R)) := by
  unfold f_X0_chipWith at H
  refine zMv_of (L := [some (.ref b), some (.int x1), none]) (by decide) rfl (Nat.le_of_ble_eq_true rfl) rfl ?_
  refine aw_iconst (q := 1) (v := 0) dX0_chipWith_0 rfl (by decide) ?_
  refine aw_istore_n (q := 2) (L' := [some (.ref b), some (.int x1), some (.int 0)]) dX0_chipWith_1 rfl (by decide) rfl rfl ?_
  obtain ⟨e1, he1, H⟩ := zbd H
  refine aw_fewer (L' := [some (.ref b), some (.int x1), some (.int 0)]) ⟨rfl, ⟨rfl, ⟨rfl, trivial⟩⟩⟩ ?_
  refine L_X0_chipWith_2 R hb x1 zFu s 0 e1 he1 (fun e1i h9 => ?_) (fun r2 h9 => ?_)
  · subst h9
    replace H : _ = _ := H
    refine aw_iconst (q := 52) (v := (-1)) dX0_chipWith_51 rfl (by decide) ?_
    cases H
    exact aw_ret dX0_chipWith_52 rfl rfl rfl rfl ⟨rfl, rfl⟩
  · subst h9
    cases H
    exact ⟨rfl, rfl⟩
def f_X0_roleOf (s : zs) (b : Nat) (x1 : Int32) : Option Int32 :=
  Option.bind (f_X0_chipWith s b x1) fun v1 =>
  if v1 = (-1) then (
    some (-1)
  ) else (
    if zin v1 5 = true then
    if (s.1 (b + 3) v1.toNatClampNeg) = x1 then (
      some 0
    ) else (
      if (s.1 (b + 4) v1.toNatClampNeg) = x1 then (
        some 1
      ) else (
        some 2
      )
    )
    else none
  )
set_option maxHeartbeats 4000000 in
set_option maxRecDepth 100000 in
theorem c_X0_roleOf {G : zG} {sl : Nat} (s : zs) (R : zr) {b : Nat} (hb : zB b) (x1 : Int32) {v9 : Int32} (H : f_X0_roleOf s b x1 = some v9) : zMv G 2 M_X0_roleOf [.ref b, .int x1] sl (zT s R) (fun r h' => r = some (.int v9) ∧ h' = (zT s R)) := by
  unfold f_X0_roleOf at H
  refine zMv_of (L := [some (.ref b), some (.int x1), none]) (by decide) rfl (Nat.le_of_ble_eq_true rfl) rfl ?_
  refine aw_aload_n (q := 1) dX0_roleOf_0 rfl rfl ?_
  refine aw_iload_n (q := 2) dX0_roleOf_1 rfl rfl ?_
  obtain ⟨v1, hv1, H⟩ := zbd H
  refine aw_cv (M' := M_X0_chipWith) (as := [.int x1]) (q := 5) dX0_roleOf_2 rfl W_X0_chipWith k_X0_88 i_X0_chipWith v_X0_chipWith (zB_lt0 hb) (o_X0 hb s R) rfl rfl rfl (by decide) (Nat.le_of_ble_eq_true rfl) (c_X0_chipWith s R hb x1 hv1) (Nat.le_refl _) (Nat.le_refl _) ?_
  rintro r9 h9 ⟨rfl, rfl⟩
  refine aw_istore_n (q := 6) (L' := [some (.ref b), some (.int x1), some (.int v1)]) dX0_roleOf_5 rfl (by decide) rfl rfl ?_
  refine aw_iload_n (q := 7) dX0_roleOf_6 rfl rfl ?_
  refine aw_iconst (q := 8) (v := (-1)) dX0_roleOf_7 rfl (by decide) ?_
  refine aw_icmp_neP (q := 11) (t := 13) dX0_roleOf_8 rfl (by decide) (fun h2 => ?_) (fun h2 => ?_)
  · replace H := zt h2 H
    refine aw_iconst (q := 12) (v := (-1)) dX0_roleOf_11 rfl (by decide) ?_
    cases H
    exact aw_ret dX0_roleOf_12 rfl rfl rfl rfl ⟨rfl, rfl⟩
  · replace H := zf h2 H
    refine aw_aload_n (q := 14) dX0_roleOf_13 rfl rfl ?_
    refine aw_getr (q := 17) dX0_roleOf_14 rfl e_X0_18 (zB_lt0 hb) (o_X0 hb s R) rfl ?_
    refine aw_iload_n (q := 18) dX0_roleOf_17 rfl rfl ?_
    obtain ⟨h3, H⟩ := zio H
    refine aw_iald' (q := 19) (v := s.1 (b + 3) v1.toNatClampNeg) dX0_roleOf_18 rfl (zB_lt (k := 3) hb (by decide)) (o_X0a2 hb s R) (zin_in h3) rfl ?_
    refine aw_iload_n (q := 20) dX0_roleOf_19 rfl rfl ?_
    refine aw_icmp_neP (q := 23) (t := 25) dX0_roleOf_20 rfl (by decide) (fun h4 => ?_) (fun h4 => ?_)
    · replace H := zt h4 H
      refine aw_iconst (q := 24) (v := 0) dX0_roleOf_23 rfl (by decide) ?_
      cases H
      exact aw_ret dX0_roleOf_24 rfl rfl rfl rfl ⟨rfl, rfl⟩
    · replace H := zf h4 H
      refine aw_aload_n (q := 26) dX0_roleOf_25 rfl rfl ?_
      refine aw_getr (q := 29) dX0_roleOf_26 rfl e_X0_21 (zB_lt0 hb) (o_X0 hb s R) rfl ?_
      refine aw_iload_n (q := 30) dX0_roleOf_29 rfl rfl ?_
      refine aw_iald' (q := 31) (v := s.1 (b + 4) v1.toNatClampNeg) dX0_roleOf_30 rfl (zB_lt (k := 4) hb (by decide)) (o_X0a3 hb s R) (zin_in h3) rfl ?_
      refine aw_iload_n (q := 32) dX0_roleOf_31 rfl rfl ?_
      refine aw_icmp_neP (q := 35) (t := 39) dX0_roleOf_32 rfl (by decide) (fun h5 => ?_) (fun h5 => ?_)
      · replace H := zt h5 H
        refine aw_iconst (q := 36) (v := 1) dX0_roleOf_35 rfl (by decide) ?_
        refine aw_goto (q := 40) dX0_roleOf_36 (by decide) ?_
        cases H
        exact aw_ret dX0_roleOf_40 rfl rfl rfl rfl ⟨rfl, rfl⟩
      · replace H := zf h5 H
        refine aw_iconst (q := 40) (v := 2) dX0_roleOf_39 rfl (by decide) ?_
        cases H
        exact aw_ret dX0_roleOf_40 rfl rfl rfl rfl ⟨rfl, rfl⟩
def f_X0_isFault (s : zs) (b : Nat) (x1 : Int32) : Bool :=
  if x1 < 0 then (
    false
  ) else (
    if (s.1 b 11) ≤ x1 then (
      false
    ) else (
      true
    )
  )
set_option maxHeartbeats 4000000 in
set_option maxRecDepth 100000 in
theorem c_X0_isFault {G : zG} {sl : Nat} (s : zs) (R : zr) {b : Nat} (hb : zB b) (x1 : Int32)  : zMv G 0 M_X0_isFault [.ref b, .int x1] sl (zT s R) (fun r h' => r = some (.int (zb (f_X0_isFault s b x1))) ∧ h' = (zT s R)) := by
  generalize H : f_X0_isFault s b x1 = r0
  unfold f_X0_isFault at H
  refine zMv_of (L := [some (.ref b), some (.int x1)]) (by decide) rfl (Nat.le_of_ble_eq_true rfl) rfl ?_
  refine aw_iload_n (q := 1) dX0_isFault_0 rfl rfl ?_
  refine aw_if_lt (q := 4) (t := 16) dX0_isFault_1 rfl (by decide) (fun h1 => ?_) (fun h1 => ?_)
  · replace H := zt h1 H
    refine aw_iconst (q := 17) (v := 0) dX0_isFault_16 rfl (by decide) ?_
    subst H
    exact aw_ret dX0_isFault_17 rfl rfl rfl rfl ⟨rfl, rfl⟩
  · replace H := zf h1 H
    refine aw_iload_n (q := 5) dX0_isFault_4 rfl rfl ?_
    refine aw_aload_n (q := 6) dX0_isFault_5 rfl rfl ?_
    refine aw_getr (q := 9) dX0_isFault_6 rfl e_X0_58 (zB_lt0 hb) (o_X0 hb s R) rfl ?_
    refine aw_icmp_ge (q := 12) (t := 16) dX0_isFault_9 rfl (by decide) (fun h2 => ?_) (fun h2 => ?_)
    · replace H := zt h2 H
      refine aw_iconst (q := 17) (v := 0) dX0_isFault_16 rfl (by decide) ?_
      subst H
      exact aw_ret dX0_isFault_17 rfl rfl rfl rfl ⟨rfl, rfl⟩
    · replace H := zf h2 H
      refine aw_iconst (q := 13) (v := 1) dX0_isFault_12 rfl (by decide) ?_
      refine aw_goto (q := 17) dX0_isFault_13 (by decide) ?_
      subst H
      exact aw_ret dX0_isFault_17 rfl rfl rfl rfl ⟨rfl, rfl⟩
def f_X0_allSuspects (s : zs) (b : Nat) : Int32 :=
  (1024 : Int32) ||| (((1 : Int32) <<< ((s.1 b 11) &&& 31)) - 1)
set_option maxHeartbeats 4000000 in
set_option maxRecDepth 100000 in
theorem c_X0_allSuspects {G : zG} {sl : Nat} (s : zs) (R : zr) {b : Nat} (hb : zB b)   : zMv G 0 M_X0_allSuspects [.ref b] sl (zT s R) (fun r h' => r = some (.int (f_X0_allSuspects s b)) ∧ h' = (zT s R)) := by
  generalize H : f_X0_allSuspects s b = r0
  unfold f_X0_allSuspects at H
  refine zMv_of (L := [some (.ref b)]) (by decide) rfl (Nat.le_of_ble_eq_true rfl) rfl ?_
  refine aw_sipush (q := 3) (v := 1024) dX0_allSuspects_0 rfl (by decide) ?_
  refine aw_iconst (q := 4) (v := 1) dX0_allSuspects_3 rfl (by decide) ?_
  refine aw_aload_n (q := 5) dX0_allSuspects_4 rfl rfl ?_
  refine aw_getr (q := 8) dX0_allSuspects_5 rfl e_X0_58 (zB_lt0 hb) (o_X0 hb s R) rfl ?_
  refine aw_ishl (q := 9) dX0_allSuspects_8 rfl ?_
  refine aw_iconst (q := 10) (v := 1) dX0_allSuspects_9 rfl (by decide) ?_
  refine aw_isub (q := 11) dX0_allSuspects_10 rfl ?_
  refine aw_ior (q := 12) dX0_allSuspects_11 rfl ?_
  subst H
  exact aw_ret dX0_allSuspects_12 rfl rfl rfl rfl ⟨rfl, rfl⟩
def f_X0_suffers (s : zs) (b : Nat) (x1 : Int32) (x2 : Int32) (x3 : Int32) : Option Bool :=
  if f_X0_isFault s b x1 = true then (
    if zin x1 10 = true then
    if (s.1 (b + 6) x1.toNatClampNeg) = x2 then (
      if (s.1 (b + 7) x1.toNatClampNeg) = x3 then (
        some true
      ) else (
        some false
      )
    ) else (
      some false
    )
    else none
  ) else (
    some false
  )
set_option maxHeartbeats 4000000 in
set_option maxRecDepth 100000 in
theorem c_X0_suffers {G : zG} {sl : Nat} (s : zs) (R : zr) {b : Nat} (hb : zB b) (x1 : Int32) (x2 : Int32) (x3 : Int32) {v9 : Bool} (H : f_X0_suffers s b x1 x2 x3 = some v9) : zMv G 1 M_X0_suffers [.ref b, .int x1, .int x2, .int x3] sl (zT s R) (fun r h' => r = some (.int (zb v9)) ∧ h' = (zT s R)) := by
  unfold f_X0_suffers at H
  refine zMv_of (L := [some (.ref b), some (.int x1), some (.int x2), some (.int x3)]) (by decide) rfl (Nat.le_of_ble_eq_true rfl) rfl ?_
  refine aw_aload_n (q := 1) dX0_suffers_0 rfl rfl ?_
  refine aw_iload_n (q := 2) dX0_suffers_1 rfl rfl ?_
  refine aw_cv (M' := M_X0_isFault) (as := [.int x1]) (q := 5) dX0_suffers_2 rfl W_X0_isFault k_X0_91 i_X0_isFault v_X0_isFault (zB_lt0 hb) (o_X0 hb s R) rfl rfl rfl (by decide) (Nat.le_of_ble_eq_true rfl) (c_X0_isFault s R hb x1) (Nat.le_refl _) (Nat.le_refl _) ?_
  rintro r9 h9 ⟨rfl, rfl⟩
  refine aw_ifeqB (q := 8) (t := 32) dX0_suffers_5 rfl (by decide) (fun h1 => ?_) (fun h1 => ?_)
  · replace H := zt h1 H
    refine aw_aload_n (q := 9) dX0_suffers_8 rfl rfl ?_
    refine aw_getr (q := 12) dX0_suffers_9 rfl e_X0_27 (zB_lt0 hb) (o_X0 hb s R) rfl ?_
    refine aw_iload_n (q := 13) dX0_suffers_12 rfl rfl ?_
    obtain ⟨h2, H⟩ := zio H
    refine aw_iald' (q := 14) (v := s.1 (b + 6) x1.toNatClampNeg) dX0_suffers_13 rfl (zB_lt (k := 6) hb (by decide)) (o_X0a5 hb s R) (zin_in h2) rfl ?_
    refine aw_iload_n (q := 15) dX0_suffers_14 rfl rfl ?_
    refine aw_icmp_neP (q := 18) (t := 32) dX0_suffers_15 rfl (by decide) (fun h3 => ?_) (fun h3 => ?_)
    · replace H := zt h3 H
      refine aw_aload_n (q := 19) dX0_suffers_18 rfl rfl ?_
      refine aw_getr (q := 22) dX0_suffers_19 rfl e_X0_30 (zB_lt0 hb) (o_X0 hb s R) rfl ?_
      refine aw_iload_n (q := 23) dX0_suffers_22 rfl rfl ?_
      refine aw_iald' (q := 24) (v := s.1 (b + 7) x1.toNatClampNeg) dX0_suffers_23 rfl (zB_lt (k := 7) hb (by decide)) (o_X0a6 hb s R) (zin_in h2) rfl ?_
      refine aw_iload_n (q := 25) dX0_suffers_24 rfl rfl ?_
      refine aw_icmp_neP (q := 28) (t := 32) dX0_suffers_25 rfl (by decide) (fun h4 => ?_) (fun h4 => ?_)
      · replace H := zt h4 H
        refine aw_iconst (q := 29) (v := 1) dX0_suffers_28 rfl (by decide) ?_
        refine aw_goto (q := 33) dX0_suffers_29 (by decide) ?_
        cases H
        exact aw_ret dX0_suffers_33 rfl rfl rfl rfl ⟨rfl, rfl⟩
      · replace H := zf h4 H
        refine aw_iconst (q := 33) (v := 0) dX0_suffers_32 rfl (by decide) ?_
        cases H
        exact aw_ret dX0_suffers_33 rfl rfl rfl rfl ⟨rfl, rfl⟩
    · replace H := zf h3 H
      refine aw_iconst (q := 33) (v := 0) dX0_suffers_32 rfl (by decide) ?_
      cases H
      exact aw_ret dX0_suffers_33 rfl rfl rfl rfl ⟨rfl, rfl⟩
  · replace H := zf h1 H
    refine aw_iconst (q := 33) (v := 0) dX0_suffers_32 rfl (by decide) ?_
    cases H
    exact aw_ret dX0_suffers_33 rfl rfl rfl rfl ⟨rfl, rfl⟩
def f_X0_shortedWith (s : zs) (b : Nat) (x1 : Int32) (x2 : Int32) : Option Int32 :=
  if f_X0_isFault s b x1 = true then (
    if zin x1 10 = true then
    if (s.1 (b + 6) x1.toNatClampNeg) = 1 then (
      if (s.1 (b + 7) x1.toNatClampNeg) = x2 then (
        some (s.1 (b + 8) x1.toNatClampNeg)
      ) else (
        if (s.1 (b + 8) x1.toNatClampNeg) = x2 then (
          some (s.1 (b + 7) x1.toNatClampNeg)
        ) else (
          some (-1)
        )
      )
    ) else (
      some (-1)
    )
    else none
  ) else (
    some (-1)
  )
set_option maxHeartbeats 4000000 in
set_option maxRecDepth 100000 in
theorem c_X0_shortedWith {G : zG} {sl : Nat} (s : zs) (R : zr) {b : Nat} (hb : zB b) (x1 : Int32) (x2 : Int32) {v9 : Int32} (H : f_X0_shortedWith s b x1 x2 = some v9) : zMv G 1 M_X0_shortedWith [.ref b, .int x1, .int x2] sl (zT s R) (fun r h' => r = some (.int v9) ∧ h' = (zT s R)) := by
  unfold f_X0_shortedWith at H
  refine zMv_of (L := [some (.ref b), some (.int x1), some (.int x2)]) (by decide) rfl (Nat.le_of_ble_eq_true rfl) rfl ?_
  refine aw_aload_n (q := 1) dX0_shortedWith_0 rfl rfl ?_
  refine aw_iload_n (q := 2) dX0_shortedWith_1 rfl rfl ?_
  refine aw_cv (M' := M_X0_isFault) (as := [.int x1]) (q := 5) dX0_shortedWith_2 rfl W_X0_isFault k_X0_91 i_X0_isFault v_X0_isFault (zB_lt0 hb) (o_X0 hb s R) rfl rfl rfl (by decide) (Nat.le_of_ble_eq_true rfl) (c_X0_isFault s R hb x1) (Nat.le_refl _) (Nat.le_refl _) ?_
  rintro r9 h9 ⟨rfl, rfl⟩
  refine aw_ifeqB (q := 8) (t := 18) dX0_shortedWith_5 rfl (by decide) (fun h1 => ?_) (fun h1 => ?_)
  · replace H := zt h1 H
    refine aw_aload_n (q := 9) dX0_shortedWith_8 rfl rfl ?_
    refine aw_getr (q := 12) dX0_shortedWith_9 rfl e_X0_27 (zB_lt0 hb) (o_X0 hb s R) rfl ?_
    refine aw_iload_n (q := 13) dX0_shortedWith_12 rfl rfl ?_
    obtain ⟨h2, H⟩ := zio H
    refine aw_iald' (q := 14) (v := s.1 (b + 6) x1.toNatClampNeg) dX0_shortedWith_13 rfl (zB_lt (k := 6) hb (by decide)) (o_X0a5 hb s R) (zin_in h2) rfl ?_
    refine aw_iconst (q := 15) (v := 1) dX0_shortedWith_14 rfl (by decide) ?_
    refine aw_icmp_eq (q := 18) (t := 20) dX0_shortedWith_15 rfl (by decide) (fun h3 => ?_) (fun h3 => ?_)
    · replace H := zt h3 H
      refine aw_aload_n (q := 21) dX0_shortedWith_20 rfl rfl ?_
      refine aw_getr (q := 24) dX0_shortedWith_21 rfl e_X0_30 (zB_lt0 hb) (o_X0 hb s R) rfl ?_
      refine aw_iload_n (q := 25) dX0_shortedWith_24 rfl rfl ?_
      refine aw_iald' (q := 26) (v := s.1 (b + 7) x1.toNatClampNeg) dX0_shortedWith_25 rfl (zB_lt (k := 7) hb (by decide)) (o_X0a6 hb s R) (zin_in h2) rfl ?_
      refine aw_iload_n (q := 27) dX0_shortedWith_26 rfl rfl ?_
      refine aw_icmp_neP (q := 30) (t := 37) dX0_shortedWith_27 rfl (by decide) (fun h4 => ?_) (fun h4 => ?_)
      · replace H := zt h4 H
        refine aw_aload_n (q := 31) dX0_shortedWith_30 rfl rfl ?_
        refine aw_getr (q := 34) dX0_shortedWith_31 rfl e_X0_33 (zB_lt0 hb) (o_X0 hb s R) rfl ?_
        refine aw_iload_n (q := 35) dX0_shortedWith_34 rfl rfl ?_
        refine aw_iald' (q := 36) (v := s.1 (b + 8) x1.toNatClampNeg) dX0_shortedWith_35 rfl (zB_lt (k := 8) hb (by decide)) (o_X0a7 hb s R) (zin_in h2) rfl ?_
        cases H
        exact aw_ret dX0_shortedWith_36 rfl rfl rfl rfl ⟨rfl, rfl⟩
      · replace H := zf h4 H
        refine aw_aload_n (q := 38) dX0_shortedWith_37 rfl rfl ?_
        refine aw_getr (q := 41) dX0_shortedWith_38 rfl e_X0_33 (zB_lt0 hb) (o_X0 hb s R) rfl ?_
        refine aw_iload_n (q := 42) dX0_shortedWith_41 rfl rfl ?_
        refine aw_iald' (q := 43) (v := s.1 (b + 8) x1.toNatClampNeg) dX0_shortedWith_42 rfl (zB_lt (k := 8) hb (by decide)) (o_X0a7 hb s R) (zin_in h2) rfl ?_
        refine aw_iload_n (q := 44) dX0_shortedWith_43 rfl rfl ?_
        refine aw_icmp_neP (q := 47) (t := 56) dX0_shortedWith_44 rfl (by decide) (fun h5 => ?_) (fun h5 => ?_)
        · replace H := zt h5 H
          refine aw_aload_n (q := 48) dX0_shortedWith_47 rfl rfl ?_
          refine aw_getr (q := 51) dX0_shortedWith_48 rfl e_X0_30 (zB_lt0 hb) (o_X0 hb s R) rfl ?_
          refine aw_iload_n (q := 52) dX0_shortedWith_51 rfl rfl ?_
          refine aw_iald' (q := 53) (v := s.1 (b + 7) x1.toNatClampNeg) dX0_shortedWith_52 rfl (zB_lt (k := 7) hb (by decide)) (o_X0a6 hb s R) (zin_in h2) rfl ?_
          refine aw_goto (q := 57) dX0_shortedWith_53 (by decide) ?_
          cases H
          exact aw_ret dX0_shortedWith_57 rfl rfl rfl rfl ⟨rfl, rfl⟩
        · replace H := zf h5 H
          refine aw_iconst (q := 57) (v := (-1)) dX0_shortedWith_56 rfl (by decide) ?_
          cases H
          exact aw_ret dX0_shortedWith_57 rfl rfl rfl rfl ⟨rfl, rfl⟩
    · replace H := zf h3 H
      refine aw_iconst (q := 19) (v := (-1)) dX0_shortedWith_18 rfl (by decide) ?_
      cases H
      exact aw_ret dX0_shortedWith_19 rfl rfl rfl rfl ⟨rfl, rfl⟩
  · replace H := zf h1 H
    refine aw_iconst (q := 19) (v := (-1)) dX0_shortedWith_18 rfl (by decide) ?_
    cases H
    exact aw_ret dX0_shortedWith_19 rfl rfl rfl rfl ⟨rfl, rfl⟩
end
section
def f_X1_dropOldest_9 : Nat → zs → Nat → Int32 → Option (zs)
  | 0, _, _, _ => none
  | k + 1, s, x1, x2 =>
    if (4 : Int32) ≤ x2 then (
      some s
    ) else (
      if zin x2 4 = true then
      if zX4b (s.2 x2.toNatClampNeg) = true then
      if zin (x2 - 1) 4 = true then
      zlt (zcp s ((x2 - 1).toNatClampNeg) (s.2 x2.toNatClampNeg)) fun s5 =>
      f_X1_dropOldest_9 k s5 x1 (x2 + 1)
      else none
      else none
      else none
    )
set_option maxHeartbeats 4000000 in
set_option maxRecDepth 100000 in
theorem L_X1_dropOldest_9 {G : zG} {sl : Nat} {P : Option Value → zH → Prop} (R : zr) {x1 : Nat} (hx1 : zX4 x1) : ∀ (k : Nat) (s : zs) (x2 : Int32) (e : zs), f_X1_dropOldest_9 k s x1 x2 = some e → (AV G M_X1_dropOldest 0 sl P 34 [some (.ref 1), some (.ref x1), none] [] (zT e R)) → AV G M_X1_dropOldest 0 sl P 9 [some (.ref 1), some (.ref x1), some (.int x2)] [] (zT s R) := by
  intro k
  induction k with
  | zero =>
    intro s x2 e H
    unfold f_X1_dropOldest_9 at H
    cases H
  | succ k ih =>
    intro s x2 e H KE
    unfold f_X1_dropOldest_9 at H
    refine aw_iload_n (q := 10) dX1_dropOldest_9 rfl rfl ?_
    refine aw_iconst (q := 11) (v := 4) dX1_dropOldest_10 rfl (by decide) ?_
    refine aw_icmp_ge (q := 14) (t := 34) dX1_dropOldest_11 rfl (by decide) (fun h1 => ?_) (fun h1 => ?_)
    · replace H := zt h1 H
      cases H
      exact aw_fewer (L' := [some (.ref 1), some (.ref x1), none]) ⟨rfl, ⟨rfl, trivial⟩⟩ KE
    · replace H := zf h1 H
      refine aw_aload_n (q := 15) dX1_dropOldest_14 rfl rfl ?_
      refine aw_getr (q := 18) dX1_dropOldest_15 rfl e_X1_11 (by decide) (o_X1 s R) rfl ?_
      refine aw_iload_n (q := 19) dX1_dropOldest_18 rfl rfl ?_
      refine aw_iconst (q := 20) (v := 1) dX1_dropOldest_19 rfl (by decide) ?_
      refine aw_isub (q := 21) dX1_dropOldest_20 rfl ?_
      refine aw_aload_n (q := 22) dX1_dropOldest_21 rfl rfl ?_
      refine aw_getr (q := 25) dX1_dropOldest_22 rfl e_X1_11 (by decide) (o_X1 s R) rfl ?_
      refine aw_iload_n (q := 26) dX1_dropOldest_25 rfl rfl ?_
      obtain ⟨h2, H⟩ := zio H
      obtain ⟨h3, H⟩ := zio H
      refine aw_aald (q := 27) (b := s.2 x2.toNatClampNeg) dX1_dropOldest_26 rfl (by decide) (Or.inl rfl) (o_X1a0 s R) (zin_in h2) rfl ?_
      obtain ⟨h4, H⟩ := zio H
      obtain ⟨s5, q6, H⟩ := zltd H
      refine aw_aast (q := 28) dX1_dropOldest_27 rfl (by decide) (o_X1a0 s R) (zX4_lt (zX4b_of h3)) (o_X4 (zX4b_of h3) s R) rfl (zin_in h4) (zT_upP.trans (congrArg (fun z => zT z R) q6.symm)) ?_
      refine aw_iinc (q := 31) (v := x2 + 1) (L' := [some (.ref 1), some (.ref x1), some (.int (x2 + 1))]) dX1_dropOldest_28 rfl rfl (by first | rfl | decide) (by decide) rfl rfl ?_
      refine aw_goto (q := 9) dX1_dropOldest_31 (by decide) ?_
      exact aw_fewer (L' := [some (.ref 1), some (.ref x1), some (.int (x2 + 1))]) ⟨rfl, ⟨rfl, ⟨rfl, trivial⟩⟩⟩ (ih s5 (x2 + 1) _ H KE)
def f_X1_dropOldest (s : zs) : Option zs :=
  if zX4b (s.2 0) = true then
  Option.bind (f_X1_dropOldest_9 zFu s (s.2 0) 1) fun e2 =>
  zlt (zcp e2 3 (s.2 0)) fun s3 =>
  zlt (zc s3 1 1 3) fun s5 =>
  some s5
  else none
set_option maxHeartbeats 4000000 in
set_option maxRecDepth 100000 in
theorem c_X1_dropOldest {G : zG} {sl : Nat} (s : zs) (R : zr)  {v9 : zs} (H : f_X1_dropOldest s = some v9) : zMv G 0 M_X1_dropOldest [.ref 1] sl (zT s R) (fun r h' => r = none ∧ h' = zT v9 R) := by
  unfold f_X1_dropOldest at H
  refine zMv_of (L := [some (.ref 1), none, none]) (by decide) rfl (Nat.le_of_ble_eq_true rfl) rfl ?_
  refine aw_aload_n (q := 1) dX1_dropOldest_0 rfl rfl ?_
  refine aw_getr (q := 4) dX1_dropOldest_1 rfl e_X1_11 (by decide) (o_X1 s R) rfl ?_
  refine aw_iconst (q := 5) (v := 0) dX1_dropOldest_4 rfl (by decide) ?_
  obtain ⟨h1, H⟩ := zio H
  refine aw_aald (q := 6) (b := s.2 0) dX1_dropOldest_5 rfl (by decide) (Or.inl rfl) (o_X1a0 s R) (zin_in (by decide)) rfl ?_
  refine aw_astore_n (q := 7) (L' := [some (.ref 1), some (.ref (s.2 0)), none]) dX1_dropOldest_6 rfl (by decide) rfl rfl ?_
  refine aw_iconst (q := 8) (v := 1) dX1_dropOldest_7 rfl (by decide) ?_
  refine aw_istore_n (q := 9) (L' := [some (.ref 1), some (.ref (s.2 0)), some (.int 1)]) dX1_dropOldest_8 rfl (by decide) rfl rfl ?_
  obtain ⟨e2, he2, H⟩ := zbd H
  refine aw_fewer (L' := [some (.ref 1), some (.ref (s.2 0)), some (.int 1)]) ⟨rfl, ⟨rfl, ⟨rfl, trivial⟩⟩⟩ ?_
  refine L_X1_dropOldest_9 R (zX4b_of h1) zFu s 1 e2 he2 ?_
  refine aw_aload_n (q := 35) dX1_dropOldest_34 rfl rfl ?_
  refine aw_getr (q := 38) dX1_dropOldest_35 rfl e_X1_11 (by decide) (o_X1 e2 R) rfl ?_
  refine aw_iconst (q := 39) (v := 3) dX1_dropOldest_38 rfl (by decide) ?_
  refine aw_aload_n (q := 40) dX1_dropOldest_39 rfl rfl ?_
  obtain ⟨s3, q4, H⟩ := zltd H
  refine aw_aast (q := 41) dX1_dropOldest_40 rfl (by decide) (o_X1a0 e2 R) (zX4_lt (zX4b_of h1)) (o_X4 (zX4b_of h1) e2 R) rfl (zin_in (by decide)) (zT_upP.trans (congrArg (fun z => zT z R) q4.symm)) ?_
  refine aw_aload_n (q := 42) dX1_dropOldest_41 rfl rfl ?_
  refine aw_iconst (q := 43) (v := 3) dX1_dropOldest_42 rfl (by decide) ?_
  obtain ⟨s5, q6, H⟩ := zltd H
  refine aw_put (q := 46) dX1_dropOldest_43 rfl f_X1_23 (by decide) (o_X1 s3 R) rfl rfl (Nat.le_of_ble_eq_true rfl) ((p_X1_1).trans (congrArg (fun z => zT z R) q6.symm)) ?_
  cases H
  exact aw_vret dX1_dropOldest_46 rfl rfl rfl ⟨rfl, rfl⟩
def f_X4_copyFrom (s : zs) (x : Nat) (x1 : Nat) : Option zs :=
  Option.bind (f_X0_copyFrom s (sB x) (sB x1)) fun v1 =>
  zlt (zcr v1 (sD x) (va_cpy (v1.1 (sD x1)) (v1.1 (sD x)) 0 0 10)) fun s2 =>
  zlt (zc s2 x 2 (s2.1 x1 2)) fun s4 =>
  zlt (zc s4 x 3 (s4.1 x1 3)) fun s6 =>
  zlt (zc s6 x 4 (s6.1 x1 4)) fun s8 =>
  zlt (zc s8 x 5 (s8.1 x1 5)) fun s10 =>
  zlt (zc s10 x 6 (s10.1 x1 6)) fun s12 =>
  zlt (zc s12 x 7 (s12.1 x1 7)) fun s14 =>
  some s14
set_option maxHeartbeats 4000000 in
set_option maxRecDepth 100000 in
theorem c_X4_copyFrom {G : zG} {sl : Nat} (s : zs) (R : zr) {x : Nat} (hx : zX4 x) {x1 : Nat} (hx1 : zX4 x1) {v9 : zs} (H : f_X4_copyFrom s x x1 = some v9) : zMv G 3 M_X4_copyFrom [.ref x, .ref x1] sl (zT s R) (fun r h' => r = none ∧ h' = zT v9 R) := by
  unfold f_X4_copyFrom at H
  refine zMv_of (L := [some (.ref x), some (.ref x1)]) (by decide) rfl (Nat.le_of_ble_eq_true rfl) rfl ?_
  refine aw_aload_n (q := 1) dX4_copyFrom_0 rfl rfl ?_
  refine aw_getr (q := 4) dX4_copyFrom_1 rfl e_X4_25 (zX4_lt hx) (o_X4 hx s R) rfl ?_
  refine aw_aload_n (q := 5) dX4_copyFrom_4 rfl rfl ?_
  refine aw_getr (q := 8) dX4_copyFrom_5 rfl e_X4_25 (zX4_lt hx1) (o_X4 hx1 s R) rfl ?_
  obtain ⟨v1, hv1, H⟩ := zbd H
  refine aw_cv (M' := M_X0_copyFrom) (as := [.ref (sB x1)]) (q := 11) dX4_copyFrom_8 rfl W_X0_copyFrom k_X4_35 i_X0_copyFrom v_X0_copyFrom (zB_lt0 (zX4_B hx)) (o_X0 (zX4_B hx) s R) rfl rfl rfl (by decide) (Nat.le_of_ble_eq_true rfl) (c_X0_copyFrom s R (zX4_B hx) (zX4_B hx1) hv1) (Nat.le_refl _) (Nat.le_refl _) ?_
  rintro r9 h9 ⟨rfl, rfl⟩
  refine aw_aload_n (q := 12) dX4_copyFrom_11 rfl rfl ?_
  refine aw_getr (q := 15) dX4_copyFrom_12 rfl e_X4_9 (zX4_lt hx1) (o_X4 hx1 v1 R) rfl ?_
  refine aw_iconst (q := 16) (v := 0) dX4_copyFrom_15 rfl (by decide) ?_
  refine aw_aload_n (q := 17) dX4_copyFrom_16 rfl rfl ?_
  refine aw_getr (q := 20) dX4_copyFrom_17 rfl e_X4_9 (zX4_lt hx) (o_X4 hx v1 R) rfl ?_
  refine aw_iconst (q := 21) (v := 0) dX4_copyFrom_20 rfl (by decide) ?_
  refine aw_bipush (q := 23) (v := 10) dX4_copyFrom_21 rfl (by decide) ?_
  obtain ⟨s2, q3, H⟩ := zltd H
  refine aw_copy (q := 26) dX4_copyFrom_23 rfl k_X4_41 (zX4_ltD hx1) (zX4_ltD hx) (o_X4a1 hx1 v1 R) (o_X4a1 hx v1 R) (by decide) (by decide) (by decide) (by decide) (by decide) (by decide) (Nat.le_of_ble_eq_true rfl) ((r_X4a1 hx).trans (congrArg (fun z => zT z R) q3.symm)) ?_
  refine aw_aload_n (q := 27) dX4_copyFrom_26 rfl rfl ?_
  refine aw_aload_n (q := 28) dX4_copyFrom_27 rfl rfl ?_
  refine aw_getr (q := 31) dX4_copyFrom_28 rfl e_X4_47 (zX4_lt hx1) (o_X4 hx1 s2 R) rfl ?_
  obtain ⟨s4, q5, H⟩ := zltd H
  refine aw_put (q := 34) dX4_copyFrom_31 rfl f_X4_47 (zX4_lt hx) (o_X4 hx s2 R) rfl rfl (Nat.le_of_ble_eq_true rfl) ((p_X4_2 hx).trans (congrArg (fun z => zT z R) q5.symm)) ?_
  refine aw_aload_n (q := 35) dX4_copyFrom_34 rfl rfl ?_
  refine aw_aload_n (q := 36) dX4_copyFrom_35 rfl rfl ?_
  refine aw_getr (q := 39) dX4_copyFrom_36 rfl e_X4_15 (zX4_lt hx1) (o_X4 hx1 s4 R) rfl ?_
  obtain ⟨s6, q7, H⟩ := zltd H
  refine aw_put (q := 42) dX4_copyFrom_39 rfl f_X4_15 (zX4_lt hx) (o_X4 hx s4 R) rfl rfl (Nat.le_of_ble_eq_true rfl) ((p_X4_3 hx).trans (congrArg (fun z => zT z R) q7.symm)) ?_
  refine aw_aload_n (q := 43) dX4_copyFrom_42 rfl rfl ?_
  refine aw_aload_n (q := 44) dX4_copyFrom_43 rfl rfl ?_
  refine aw_getr (q := 47) dX4_copyFrom_44 rfl e_X4_19 (zX4_lt hx1) (o_X4 hx1 s6 R) rfl ?_
  obtain ⟨s8, q9, H⟩ := zltd H
  refine aw_put (q := 50) dX4_copyFrom_47 rfl f_X4_19 (zX4_lt hx) (o_X4 hx s6 R) rfl rfl (Nat.le_of_ble_eq_true rfl) ((p_X4_4 hx).trans (congrArg (fun z => zT z R) q9.symm)) ?_
  refine aw_aload_n (q := 51) dX4_copyFrom_50 rfl rfl ?_
  refine aw_aload_n (q := 52) dX4_copyFrom_51 rfl rfl ?_
  refine aw_getr (q := 55) dX4_copyFrom_52 rfl e_X4_22 (zX4_lt hx1) (o_X4 hx1 s8 R) rfl ?_
  obtain ⟨s10, q11, H⟩ := zltd H
  refine aw_put (q := 58) dX4_copyFrom_55 rfl f_X4_22 (zX4_lt hx) (o_X4 hx s8 R) rfl rfl (Nat.le_of_ble_eq_true rfl) ((p_X4_5 hx).trans (congrArg (fun z => zT z R) q11.symm)) ?_
  refine aw_aload_n (q := 59) dX4_copyFrom_58 rfl rfl ?_
  refine aw_aload_n (q := 60) dX4_copyFrom_59 rfl rfl ?_
  refine aw_getr (q := 63) dX4_copyFrom_60 rfl e_X4_50 (zX4_lt hx1) (o_X4 hx1 s10 R) rfl ?_
  obtain ⟨s12, q13, H⟩ := zltd H
  refine aw_put (q := 66) dX4_copyFrom_63 rfl f_X4_50 (zX4_lt hx) (o_X4 hx s10 R) rfl rfl (Nat.le_of_ble_eq_true rfl) ((p_X4_6 hx).trans (congrArg (fun z => zT z R) q13.symm)) ?_
  refine aw_aload_n (q := 67) dX4_copyFrom_66 rfl rfl ?_
  refine aw_aload_n (q := 68) dX4_copyFrom_67 rfl rfl ?_
  refine aw_getr (q := 71) dX4_copyFrom_68 rfl e_X4_53 (zX4_lt hx1) (o_X4 hx1 s12 R) rfl ?_
  obtain ⟨s14, q15, H⟩ := zltd H
  refine aw_put (q := 74) dX4_copyFrom_71 rfl f_X4_53 (zX4_lt hx) (o_X4 hx s12 R) rfl rfl (Nat.le_of_ble_eq_true rfl) ((p_X4_7 hx).trans (congrArg (fun z => zT z R) q15.symm)) ?_
  cases H
  exact aw_vret dX4_copyFrom_74 rfl rfl rfl ⟨rfl, rfl⟩
def f_X1_keep (s : zs) (x1 : Nat) : Option zs :=
  if (s.1 1 1) < 4 then (
    if zin (s.1 1 1) 4 = true then
    if zX4b (s.2 ((s.1 1 1).toNatClampNeg)) = true then
    Option.bind (f_X4_copyFrom s (s.2 ((s.1 1 1).toNatClampNeg)) x1) fun v4 =>
    zlt (zc v4 1 1 ((v4.1 1 1) + 1)) fun s5 =>
    some s5
    else none
    else none
  ) else (
    Option.bind (f_X1_dropOldest s) fun v7 =>
    if zin (v7.1 1 1) 4 = true then
    if zX4b (v7.2 ((v7.1 1 1).toNatClampNeg)) = true then
    Option.bind (f_X4_copyFrom v7 (v7.2 ((v7.1 1 1).toNatClampNeg)) x1) fun v10 =>
    zlt (zc v10 1 1 ((v10.1 1 1) + 1)) fun s11 =>
    some s11
    else none
    else none
  )
set_option maxHeartbeats 4000000 in
set_option maxRecDepth 100000 in
theorem c_X1_keep {G : zG} {sl : Nat} (s : zs) (R : zr) {x1 : Nat} (hx1 : zX4 x1) {v9 : zs} (H : f_X1_keep s x1 = some v9) : zMv G 4 M_X1_keep [.ref 1, .ref x1] sl (zT s R) (fun r h' => r = none ∧ h' = zT v9 R) := by
  unfold f_X1_keep at H
  refine zMv_of (L := [some (.ref 1), some (.ref x1)]) (by decide) rfl (Nat.le_of_ble_eq_true rfl) rfl ?_
  refine aw_aload_n (q := 1) dX1_keep_0 rfl rfl ?_
  refine aw_getr (q := 4) dX1_keep_1 rfl e_X1_23 (by decide) (o_X1 s R) rfl ?_
  refine aw_iconst (q := 5) (v := 4) dX1_keep_4 rfl (by decide) ?_
  refine aw_icmp_lt (q := 8) (t := 12) dX1_keep_5 rfl (by decide) (fun h1 => ?_) (fun h1 => ?_)
  · replace H := zt h1 H
    refine aw_aload_n (q := 13) dX1_keep_12 rfl rfl ?_
    refine aw_getr (q := 16) dX1_keep_13 rfl e_X1_11 (by decide) (o_X1 s R) rfl ?_
    refine aw_aload_n (q := 17) dX1_keep_16 rfl rfl ?_
    refine aw_getr (q := 20) dX1_keep_17 rfl e_X1_23 (by decide) (o_X1 s R) rfl ?_
    obtain ⟨h2, H⟩ := zio H
    obtain ⟨h3, H⟩ := zio H
    refine aw_aald (q := 21) (b := s.2 ((s.1 1 1).toNatClampNeg)) dX1_keep_20 rfl (by decide) (Or.inl rfl) (o_X1a0 s R) (zin_in h2) rfl ?_
    refine aw_aload_n (q := 22) dX1_keep_21 rfl rfl ?_
    obtain ⟨v4, hv4, H⟩ := zbd H
    refine aw_cv (M' := M_X4_copyFrom) (as := [.ref x1]) (q := 25) dX1_keep_22 rfl W_X4_copyFrom k_X1_30 i_X4_copyFrom v_X4_copyFrom (zX4_lt (zX4b_of h3)) (o_X4 (zX4b_of h3) s R) rfl rfl rfl (by decide) (Nat.le_of_ble_eq_true rfl) (c_X4_copyFrom s R (zX4b_of h3) hx1 hv4) (Nat.le_refl _) (Nat.le_refl _) ?_
    rintro r9 h9 ⟨rfl, rfl⟩
    refine aw_aload_n (q := 26) dX1_keep_25 rfl rfl ?_
    refine aw_dup (q := 27) dX1_keep_26 rfl rfl ?_
    refine aw_getr (q := 30) dX1_keep_27 rfl e_X1_23 (by decide) (o_X1 v4 R) rfl ?_
    refine aw_iconst (q := 31) (v := 1) dX1_keep_30 rfl (by decide) ?_
    refine aw_iadd (q := 32) dX1_keep_31 rfl ?_
    obtain ⟨s5, q6, H⟩ := zltd H
    refine aw_put (q := 35) dX1_keep_32 rfl f_X1_23 (by decide) (o_X1 v4 R) rfl rfl (Nat.le_of_ble_eq_true rfl) ((p_X1_1).trans (congrArg (fun z => zT z R) q6.symm)) ?_
    cases H
    exact aw_vret dX1_keep_35 rfl rfl rfl ⟨rfl, rfl⟩
  · replace H := zf h1 H
    refine aw_aload_n (q := 9) dX1_keep_8 rfl rfl ?_
    obtain ⟨v7, hv7, H⟩ := zbd H
    refine aw_cv (M' := M_X1_dropOldest) (as := []) (q := 12) dX1_keep_9 rfl W_X1_dropOldest k_X1_27 i_X1_dropOldest v_X1_dropOldest (by decide) (o_X1 s R) rfl rfl rfl (by decide) (Nat.le_of_ble_eq_true rfl) (c_X1_dropOldest s R hv7) (Nat.le_refl _) (Nat.le_refl _) ?_
    rintro r9 h9 ⟨rfl, rfl⟩
    refine aw_aload_n (q := 13) dX1_keep_12 rfl rfl ?_
    refine aw_getr (q := 16) dX1_keep_13 rfl e_X1_11 (by decide) (o_X1 v7 R) rfl ?_
    refine aw_aload_n (q := 17) dX1_keep_16 rfl rfl ?_
    refine aw_getr (q := 20) dX1_keep_17 rfl e_X1_23 (by decide) (o_X1 v7 R) rfl ?_
    obtain ⟨h8, H⟩ := zio H
    obtain ⟨h9, H⟩ := zio H
    refine aw_aald (q := 21) (b := v7.2 ((v7.1 1 1).toNatClampNeg)) dX1_keep_20 rfl (by decide) (Or.inl rfl) (o_X1a0 v7 R) (zin_in h8) rfl ?_
    refine aw_aload_n (q := 22) dX1_keep_21 rfl rfl ?_
    obtain ⟨v10, hv10, H⟩ := zbd H
    refine aw_cv (M' := M_X4_copyFrom) (as := [.ref x1]) (q := 25) dX1_keep_22 rfl W_X4_copyFrom k_X1_30 i_X4_copyFrom v_X4_copyFrom (zX4_lt (zX4b_of h9)) (o_X4 (zX4b_of h9) v7 R) rfl rfl rfl (by decide) (Nat.le_of_ble_eq_true rfl) (c_X4_copyFrom v7 R (zX4b_of h9) hx1 hv10) (Nat.le_refl _) (Nat.le_refl _) ?_
    rintro r9 h9 ⟨rfl, rfl⟩
    refine aw_aload_n (q := 26) dX1_keep_25 rfl rfl ?_
    refine aw_dup (q := 27) dX1_keep_26 rfl rfl ?_
    refine aw_getr (q := 30) dX1_keep_27 rfl e_X1_23 (by decide) (o_X1 v10 R) rfl ?_
    refine aw_iconst (q := 31) (v := 1) dX1_keep_30 rfl (by decide) ?_
    refine aw_iadd (q := 32) dX1_keep_31 rfl ?_
    obtain ⟨s11, q12, H⟩ := zltd H
    refine aw_put (q := 35) dX1_keep_32 rfl f_X1_23 (by decide) (o_X1 v10 R) rfl rfl (Nat.le_of_ble_eq_true rfl) ((p_X1_1).trans (congrArg (fun z => zT z R) q12.symm)) ?_
    cases H
    exact aw_vret dX1_keep_35 rfl rfl rfl ⟨rfl, rfl⟩
def f_X1_restore (s : zs) (x1 : Nat) : Option zs :=
  if (s.1 1 1) ≤ 0 then (
    some s
  ) else (
    zlt (zc s 1 1 ((s.1 1 1) - 1)) fun s2 =>
    if zin (s2.1 1 1) 4 = true then
    if zX4b (s2.2 ((s2.1 1 1).toNatClampNeg)) = true then
    Option.bind (f_X4_copyFrom s2 x1 (s2.2 ((s2.1 1 1).toNatClampNeg))) fun v6 =>
    some v6
    else none
    else none
  )
set_option maxHeartbeats 4000000 in
set_option maxRecDepth 100000 in
theorem c_X1_restore {G : zG} {sl : Nat} (s : zs) (R : zr) {x1 : Nat} (hx1 : zX4 x1) {v9 : zs} (H : f_X1_restore s x1 = some v9) : zMv G 4 M_X1_restore [.ref 1, .ref x1] sl (zT s R) (fun r h' => r = none ∧ h' = zT v9 R) := by
  unfold f_X1_restore at H
  refine zMv_of (L := [some (.ref 1), some (.ref x1)]) (by decide) rfl (Nat.le_of_ble_eq_true rfl) rfl ?_
  refine aw_aload_n (q := 1) dX1_restore_0 rfl rfl ?_
  refine aw_getr (q := 4) dX1_restore_1 rfl e_X1_23 (by decide) (o_X1 s R) rfl ?_
  refine aw_if_le (q := 7) (t := 30) dX1_restore_4 rfl (by decide) (fun h1 => ?_) (fun h1 => ?_)
  · replace H := zt h1 H
    cases H
    exact aw_vret dX1_restore_30 rfl rfl rfl ⟨rfl, rfl⟩
  · replace H := zf h1 H
    refine aw_aload_n (q := 8) dX1_restore_7 rfl rfl ?_
    refine aw_dup (q := 9) dX1_restore_8 rfl rfl ?_
    refine aw_getr (q := 12) dX1_restore_9 rfl e_X1_23 (by decide) (o_X1 s R) rfl ?_
    refine aw_iconst (q := 13) (v := 1) dX1_restore_12 rfl (by decide) ?_
    refine aw_isub (q := 14) dX1_restore_13 rfl ?_
    obtain ⟨s2, q3, H⟩ := zltd H
    refine aw_put (q := 17) dX1_restore_14 rfl f_X1_23 (by decide) (o_X1 s R) rfl rfl (Nat.le_of_ble_eq_true rfl) ((p_X1_1).trans (congrArg (fun z => zT z R) q3.symm)) ?_
    refine aw_aload_n (q := 18) dX1_restore_17 rfl rfl ?_
    refine aw_aload_n (q := 19) dX1_restore_18 rfl rfl ?_
    refine aw_getr (q := 22) dX1_restore_19 rfl e_X1_11 (by decide) (o_X1 s2 R) rfl ?_
    refine aw_aload_n (q := 23) dX1_restore_22 rfl rfl ?_
    refine aw_getr (q := 26) dX1_restore_23 rfl e_X1_23 (by decide) (o_X1 s2 R) rfl ?_
    obtain ⟨h4, H⟩ := zio H
    obtain ⟨h5, H⟩ := zio H
    refine aw_aald (q := 27) (b := s2.2 ((s2.1 1 1).toNatClampNeg)) dX1_restore_26 rfl (by decide) (Or.inl rfl) (o_X1a0 s2 R) (zin_in h4) rfl ?_
    obtain ⟨v6, hv6, H⟩ := zbd H
    refine aw_cv (M' := M_X4_copyFrom) (as := [.ref (s2.2 ((s2.1 1 1).toNatClampNeg))]) (q := 30) dX1_restore_27 rfl W_X4_copyFrom k_X1_30 i_X4_copyFrom v_X4_copyFrom (zX4_lt hx1) (o_X4 hx1 s2 R) rfl rfl rfl (by decide) (Nat.le_of_ble_eq_true rfl) (c_X4_copyFrom s2 R hx1 (zX4b_of h5) hv6) (Nat.le_refl _) (Nat.le_refl _) ?_
    rintro r9 h9 ⟨rfl, rfl⟩
    cases H
    exact aw_vret dX1_restore_30 rfl rfl rfl ⟨rfl, rfl⟩
def f_X5_linkingNet (s : zs) (u : Nat) (x1 : Int32) : Option Int32 :=
  if zin x1 16 = true then
  zlt (s.1 (64 + 2) x1.toNatClampNeg : Int32) fun y2 =>
  if y2 = (-1) then (
    some 0
  ) else (
    Option.bind (f_X0_suffers s 64 (s.1 u 1) 0 x1) fun v5 =>
    if v5 = true then (
      some 0
    ) else (
      Option.bind (f_X0_suffers s 64 (s.1 u 1) 2 y2) fun v7 =>
      if v7 = true then (
        some 0
      ) else (
        Option.bind (f_X0_suffers s 64 (s.1 u 1) 3 y2) fun v9 =>
        if v9 = true then (
          some 0
        ) else (
          some ((1 : Int32) <<< (y2 &&& 31))
        )
      )
    )
  )
  else none
set_option maxHeartbeats 4000000 in
set_option maxRecDepth 100000 in
theorem c_X5_linkingNet {G : zG} {sl : Nat} (s : zs) (R : zr) {u : Nat} (hu : zU u) (x1 : Int32) {v9 : Int32} (H : f_X5_linkingNet s u x1 = some v9) : zMv G 2 M_X5_linkingNet [.ref u, .int x1] sl (zT s R) (fun r h' => r = some (.int v9) ∧ h' = (zT s R)) := by
  unfold f_X5_linkingNet at H
  refine zMv_of (L := [some (.ref u), some (.int x1), none]) (by decide) rfl (Nat.le_of_ble_eq_true rfl) rfl ?_
  refine aw_aload_n (q := 1) dX5_linkingNet_0 rfl rfl ?_
  refine aw_getr (q := 4) dX5_linkingNet_1 rfl e_X5_18 (zU_lt (k := 0) hu (by decide)) (o_X5 hu s R) rfl ?_
  refine aw_getr (q := 7) dX5_linkingNet_4 rfl e_X5_54 (zB_lt0 zB64) (o_X0 zB64 s R) rfl ?_
  refine aw_iload_n (q := 8) dX5_linkingNet_7 rfl rfl ?_
  obtain ⟨h1, H⟩ := zio H
  refine aw_iald' (q := 9) (v := s.1 (64 + 2) x1.toNatClampNeg) dX5_linkingNet_8 rfl (zB_lt (k := 2) zB64 (by decide)) (o_X0a1 zB64 s R) (zin_in h1) rfl ?_
  obtain ⟨y2, q3, H⟩ := zltd H
  refine aw_nm q3 ?_
  refine aw_istore_n (q := 10) (L' := [some (.ref u), some (.int x1), some (.int y2)]) dX5_linkingNet_9 rfl (by decide) rfl rfl ?_
  refine aw_iload_n (q := 11) dX5_linkingNet_10 rfl rfl ?_
  refine aw_iconst (q := 12) (v := (-1)) dX5_linkingNet_11 rfl (by decide) ?_
  refine aw_icmp_eq (q := 15) (t := 63) dX5_linkingNet_12 rfl (by decide) (fun h4 => ?_) (fun h4 => ?_)
  · replace H := zt h4 H
    refine aw_iconst (q := 64) (v := 0) dX5_linkingNet_63 rfl (by decide) ?_
    cases H
    exact aw_ret dX5_linkingNet_64 rfl rfl rfl rfl ⟨rfl, rfl⟩
  · replace H := zf h4 H
    refine aw_aload_n (q := 16) dX5_linkingNet_15 rfl rfl ?_
    refine aw_getr (q := 19) dX5_linkingNet_16 rfl e_X5_18 (zU_lt (k := 0) hu (by decide)) (o_X5 hu s R) rfl ?_
    refine aw_aload_n (q := 20) dX5_linkingNet_19 rfl rfl ?_
    refine aw_getr (q := 23) dX5_linkingNet_20 rfl e_X5_22 (zU_lt (k := 0) hu (by decide)) (o_X5 hu s R) rfl ?_
    refine aw_iconst (q := 24) (v := 0) dX5_linkingNet_23 rfl (by decide) ?_
    refine aw_iload_n (q := 25) dX5_linkingNet_24 rfl rfl ?_
    obtain ⟨v5, hv5, H⟩ := zbd H
    refine aw_cv (M' := M_X0_suffers) (as := [.int (s.1 u 1), .int 0, .int x1]) (q := 28) dX5_linkingNet_25 rfl W_X0_suffers k_X5_57 i_X0_suffers v_X0_suffers (zB_lt0 zB64) (o_X0 zB64 s R) rfl rfl rfl (by decide) (Nat.le_of_ble_eq_true rfl) (c_X0_suffers s R zB64 (s.1 u 1) 0 x1 hv5) (Nat.le_refl _) (Nat.le_refl _) ?_
    rintro r9 h9 ⟨rfl, rfl⟩
    refine aw_ifneB (q := 31) (t := 63) dX5_linkingNet_28 rfl (by decide) (fun h6 => ?_) (fun h6 => ?_)
    · replace H := zt h6 H
      refine aw_iconst (q := 64) (v := 0) dX5_linkingNet_63 rfl (by decide) ?_
      cases H
      exact aw_ret dX5_linkingNet_64 rfl rfl rfl rfl ⟨rfl, rfl⟩
    · replace H := zf h6 H
      refine aw_aload_n (q := 32) dX5_linkingNet_31 rfl rfl ?_
      refine aw_getr (q := 35) dX5_linkingNet_32 rfl e_X5_18 (zU_lt (k := 0) hu (by decide)) (o_X5 hu s R) rfl ?_
      refine aw_aload_n (q := 36) dX5_linkingNet_35 rfl rfl ?_
      refine aw_getr (q := 39) dX5_linkingNet_36 rfl e_X5_22 (zU_lt (k := 0) hu (by decide)) (o_X5 hu s R) rfl ?_
      refine aw_iconst (q := 40) (v := 2) dX5_linkingNet_39 rfl (by decide) ?_
      refine aw_iload_n (q := 41) dX5_linkingNet_40 rfl rfl ?_
      obtain ⟨v7, hv7, H⟩ := zbd H
      refine aw_cv (M' := M_X0_suffers) (as := [.int (s.1 u 1), .int 2, .int y2]) (q := 44) dX5_linkingNet_41 rfl W_X0_suffers k_X5_57 i_X0_suffers v_X0_suffers (zB_lt0 zB64) (o_X0 zB64 s R) rfl rfl rfl (by decide) (Nat.le_of_ble_eq_true rfl) (c_X0_suffers s R zB64 (s.1 u 1) 2 y2 hv7) (Nat.le_refl _) (Nat.le_refl _) ?_
      rintro r9 h9 ⟨rfl, rfl⟩
      refine aw_ifneB (q := 47) (t := 63) dX5_linkingNet_44 rfl (by decide) (fun h8 => ?_) (fun h8 => ?_)
      · replace H := zt h8 H
        refine aw_iconst (q := 64) (v := 0) dX5_linkingNet_63 rfl (by decide) ?_
        cases H
        exact aw_ret dX5_linkingNet_64 rfl rfl rfl rfl ⟨rfl, rfl⟩
      · replace H := zf h8 H
        refine aw_aload_n (q := 48) dX5_linkingNet_47 rfl rfl ?_
        refine aw_getr (q := 51) dX5_linkingNet_48 rfl e_X5_18 (zU_lt (k := 0) hu (by decide)) (o_X5 hu s R) rfl ?_
        refine aw_aload_n (q := 52) dX5_linkingNet_51 rfl rfl ?_
        refine aw_getr (q := 55) dX5_linkingNet_52 rfl e_X5_22 (zU_lt (k := 0) hu (by decide)) (o_X5 hu s R) rfl ?_
        refine aw_iconst (q := 56) (v := 3) dX5_linkingNet_55 rfl (by decide) ?_
        refine aw_iload_n (q := 57) dX5_linkingNet_56 rfl rfl ?_
        obtain ⟨v9, hv9, H⟩ := zbd H
        refine aw_cv (M' := M_X0_suffers) (as := [.int (s.1 u 1), .int 3, .int y2]) (q := 60) dX5_linkingNet_57 rfl W_X0_suffers k_X5_57 i_X0_suffers v_X0_suffers (zB_lt0 zB64) (o_X0 zB64 s R) rfl rfl rfl (by decide) (Nat.le_of_ble_eq_true rfl) (c_X0_suffers s R zB64 (s.1 u 1) 3 y2 hv9) (Nat.le_refl _) (Nat.le_refl _) ?_
        rintro r9 h9 ⟨rfl, rfl⟩
        refine aw_ifeqB (q := 63) (t := 65) dX5_linkingNet_60 rfl (by decide) (fun h10 => ?_) (fun h10 => ?_)
        · replace H := zt h10 H
          refine aw_iconst (q := 64) (v := 0) dX5_linkingNet_63 rfl (by decide) ?_
          cases H
          exact aw_ret dX5_linkingNet_64 rfl rfl rfl rfl ⟨rfl, rfl⟩
        · replace H := zf h10 H
          refine aw_iconst (q := 66) (v := 1) dX5_linkingNet_65 rfl (by decide) ?_
          refine aw_iload_n (q := 67) dX5_linkingNet_66 rfl rfl ?_
          refine aw_ishl (q := 68) dX5_linkingNet_67 rfl ?_
          cases H
          exact aw_ret dX5_linkingNet_68 rfl rfl rfl rfl ⟨rfl, rfl⟩
def f_X5_followers (s : zs) (u : Nat) (x1 : Int32) : Option Int32 :=
  if zin x1 16 = true then
  zlt (s.1 (64 + 2) x1.toNatClampNeg : Int32) fun y2 =>
  if y2 = (-1) then (
    some ((1 : Int32) <<< (x1 &&& 31))
  ) else (
    Option.bind (f_X0_suffers s 64 (s.1 u 1) 0 x1) fun v5 =>
    if v5 = true then (
      some ((1 : Int32) <<< (x1 &&& 31))
    ) else (
      Option.bind (f_X0_suffers s 64 (s.1 u 1) 2 y2) fun v7 =>
      if v7 = true then (
        some 0
      ) else (
        Option.bind (f_X0_shortedWith s 64 (s.1 u 1) y2) fun v9 =>
        if v9 = (-1) then (
          if zin y2 8 = true then
          zlt (s.1 (64 + 1) y2.toNatClampNeg : Int32) fun y12 =>
          if f_X0_isFault s 64 (s.1 u 1) = true then (
            if zin (s.1 u 1) 10 = true then
            if (s.1 (64 + 6) ((s.1 u 1).toNatClampNeg)) = 0 then (
              zlt (y12 &&& (((1 : Int32) <<< ((s.1 (64 + 7) ((s.1 u 1).toNatClampNeg)) &&& 31)) ^^^ (-1)) : Int32) fun y17 =>
              some y17
            ) else (
              some y12
            )
            else none
          ) else (
            some y12
          )
          else none
        ) else (
          if zin y2 8 = true then
          if zin v9 8 = true then
          zlt ((s.1 (64 + 1) y2.toNatClampNeg) ||| (s.1 (64 + 1) v9.toNatClampNeg) : Int32) fun y21 =>
          if f_X0_isFault s 64 (s.1 u 1) = true then (
            if zin (s.1 u 1) 10 = true then
            if (s.1 (64 + 6) ((s.1 u 1).toNatClampNeg)) = 0 then (
              zlt (y21 &&& (((1 : Int32) <<< ((s.1 (64 + 7) ((s.1 u 1).toNatClampNeg)) &&& 31)) ^^^ (-1)) : Int32) fun y26 =>
              some y26
            ) else (
              some y21
            )
            else none
          ) else (
            some y21
          )
          else none
          else none
        )
      )
    )
  )
  else none
set_option maxHeartbeats 4000000 in
set_option maxRecDepth 100000 in
theorem c_X5_followers {G : zG} {sl : Nat} (s : zs) (R : zr) {u : Nat} (hu : zU u) (x1 : Int32) {v9 : Int32} (H : f_X5_followers s u x1 = some v9) : zMv G 2 M_X5_followers [.ref u, .int x1] sl (zT s R) (fun r h' => r = some (.int v9) ∧ h' = (zT s R)) := by
  unfold f_X5_followers at H
  refine zMv_of (L := [some (.ref u), some (.int x1), none, none, none]) (by decide) rfl (Nat.le_of_ble_eq_true rfl) rfl ?_
  refine aw_aload_n (q := 1) dX5_followers_0 rfl rfl ?_
  refine aw_getr (q := 4) dX5_followers_1 rfl e_X5_18 (zU_lt (k := 0) hu (by decide)) (o_X5 hu s R) rfl ?_
  refine aw_getr (q := 7) dX5_followers_4 rfl e_X5_54 (zB_lt0 zB64) (o_X0 zB64 s R) rfl ?_
  refine aw_iload_n (q := 8) dX5_followers_7 rfl rfl ?_
  obtain ⟨h1, H⟩ := zio H
  refine aw_iald' (q := 9) (v := s.1 (64 + 2) x1.toNatClampNeg) dX5_followers_8 rfl (zB_lt (k := 2) zB64 (by decide)) (o_X0a1 zB64 s R) (zin_in h1) rfl ?_
  obtain ⟨y2, q3, H⟩ := zltd H
  refine aw_nm q3 ?_
  refine aw_istore_n (q := 10) (L' := [some (.ref u), some (.int x1), some (.int y2), none, none]) dX5_followers_9 rfl (by decide) rfl rfl ?_
  refine aw_iload_n (q := 11) dX5_followers_10 rfl rfl ?_
  refine aw_iconst (q := 12) (v := (-1)) dX5_followers_11 rfl (by decide) ?_
  refine aw_icmp_eq (q := 15) (t := 31) dX5_followers_12 rfl (by decide) (fun h4 => ?_) (fun h4 => ?_)
  · replace H := zt h4 H
    refine aw_iconst (q := 32) (v := 1) dX5_followers_31 rfl (by decide) ?_
    refine aw_iload_n (q := 33) dX5_followers_32 rfl rfl ?_
    refine aw_ishl (q := 34) dX5_followers_33 rfl ?_
    cases H
    exact aw_ret dX5_followers_34 rfl rfl rfl rfl ⟨rfl, rfl⟩
  · replace H := zf h4 H
    refine aw_aload_n (q := 16) dX5_followers_15 rfl rfl ?_
    refine aw_getr (q := 19) dX5_followers_16 rfl e_X5_18 (zU_lt (k := 0) hu (by decide)) (o_X5 hu s R) rfl ?_
    refine aw_aload_n (q := 20) dX5_followers_19 rfl rfl ?_
    refine aw_getr (q := 23) dX5_followers_20 rfl e_X5_22 (zU_lt (k := 0) hu (by decide)) (o_X5 hu s R) rfl ?_
    refine aw_iconst (q := 24) (v := 0) dX5_followers_23 rfl (by decide) ?_
    refine aw_iload_n (q := 25) dX5_followers_24 rfl rfl ?_
    obtain ⟨v5, hv5, H⟩ := zbd H
    refine aw_cv (M' := M_X0_suffers) (as := [.int (s.1 u 1), .int 0, .int x1]) (q := 28) dX5_followers_25 rfl W_X0_suffers k_X5_57 i_X0_suffers v_X0_suffers (zB_lt0 zB64) (o_X0 zB64 s R) rfl rfl rfl (by decide) (Nat.le_of_ble_eq_true rfl) (c_X0_suffers s R zB64 (s.1 u 1) 0 x1 hv5) (Nat.le_refl _) (Nat.le_refl _) ?_
    rintro r9 h9 ⟨rfl, rfl⟩
    refine aw_ifeqB (q := 31) (t := 35) dX5_followers_28 rfl (by decide) (fun h6 => ?_) (fun h6 => ?_)
    · replace H := zt h6 H
      refine aw_iconst (q := 32) (v := 1) dX5_followers_31 rfl (by decide) ?_
      refine aw_iload_n (q := 33) dX5_followers_32 rfl rfl ?_
      refine aw_ishl (q := 34) dX5_followers_33 rfl ?_
      cases H
      exact aw_ret dX5_followers_34 rfl rfl rfl rfl ⟨rfl, rfl⟩
    · replace H := zf h6 H
      refine aw_aload_n (q := 36) dX5_followers_35 rfl rfl ?_
      refine aw_getr (q := 39) dX5_followers_36 rfl e_X5_18 (zU_lt (k := 0) hu (by decide)) (o_X5 hu s R) rfl ?_
      refine aw_aload_n (q := 40) dX5_followers_39 rfl rfl ?_
      refine aw_getr (q := 43) dX5_followers_40 rfl e_X5_22 (zU_lt (k := 0) hu (by decide)) (o_X5 hu s R) rfl ?_
      refine aw_iconst (q := 44) (v := 2) dX5_followers_43 rfl (by decide) ?_
      refine aw_iload_n (q := 45) dX5_followers_44 rfl rfl ?_
      obtain ⟨v7, hv7, H⟩ := zbd H
      refine aw_cv (M' := M_X0_suffers) (as := [.int (s.1 u 1), .int 2, .int y2]) (q := 48) dX5_followers_45 rfl W_X0_suffers k_X5_57 i_X0_suffers v_X0_suffers (zB_lt0 zB64) (o_X0 zB64 s R) rfl rfl rfl (by decide) (Nat.le_of_ble_eq_true rfl) (c_X0_suffers s R zB64 (s.1 u 1) 2 y2 hv7) (Nat.le_refl _) (Nat.le_refl _) ?_
      rintro r9 h9 ⟨rfl, rfl⟩
      refine aw_ifeqB (q := 51) (t := 53) dX5_followers_48 rfl (by decide) (fun h8 => ?_) (fun h8 => ?_)
      · replace H := zt h8 H
        refine aw_iconst (q := 52) (v := 0) dX5_followers_51 rfl (by decide) ?_
        cases H
        exact aw_ret dX5_followers_52 rfl rfl rfl rfl ⟨rfl, rfl⟩
      · replace H := zf h8 H
        refine aw_aload_n (q := 54) dX5_followers_53 rfl rfl ?_
        refine aw_getr (q := 57) dX5_followers_54 rfl e_X5_18 (zU_lt (k := 0) hu (by decide)) (o_X5 hu s R) rfl ?_
        refine aw_aload_n (q := 58) dX5_followers_57 rfl rfl ?_
        refine aw_getr (q := 61) dX5_followers_58 rfl e_X5_22 (zU_lt (k := 0) hu (by decide)) (o_X5 hu s R) rfl ?_
        refine aw_iload_n (q := 62) dX5_followers_61 rfl rfl ?_
        obtain ⟨v9, hv9, H⟩ := zbd H
        refine aw_cv (M' := M_X0_shortedWith) (as := [.int (s.1 u 1), .int y2]) (q := 65) dX5_followers_62 rfl W_X0_shortedWith k_X5_61 i_X0_shortedWith v_X0_shortedWith (zB_lt0 zB64) (o_X0 zB64 s R) rfl rfl rfl (by decide) (Nat.le_of_ble_eq_true rfl) (c_X0_shortedWith s R zB64 (s.1 u 1) y2 hv9) (Nat.le_refl _) (Nat.le_refl _) ?_
        rintro r9 h9 ⟨rfl, rfl⟩
        refine aw_istore_n (q := 66) (L' := [some (.ref u), some (.int x1), some (.int y2), some (.int v9), none]) dX5_followers_65 rfl (by decide) rfl rfl ?_
        refine aw_iload_n (q := 67) dX5_followers_66 rfl rfl ?_
        refine aw_iconst (q := 68) (v := (-1)) dX5_followers_67 rfl (by decide) ?_
        refine aw_icmp_neP (q := 71) (t := 83) dX5_followers_68 rfl (by decide) (fun h10 => ?_) (fun h10 => ?_)
        · replace H := zt h10 H
          refine aw_aload_n (q := 72) dX5_followers_71 rfl rfl ?_
          refine aw_getr (q := 75) dX5_followers_72 rfl e_X5_18 (zU_lt (k := 0) hu (by decide)) (o_X5 hu s R) rfl ?_
          refine aw_getr (q := 78) dX5_followers_75 rfl e_X5_35 (zB_lt0 zB64) (o_X0 zB64 s R) rfl ?_
          refine aw_iload_n (q := 79) dX5_followers_78 rfl rfl ?_
          obtain ⟨h11, H⟩ := zio H
          refine aw_iald' (q := 80) (v := s.1 (64 + 1) y2.toNatClampNeg) dX5_followers_79 rfl (zB_lt (k := 1) zB64 (by decide)) (o_X0a0 zB64 s R) (zin_in h11) rfl ?_
          refine aw_goto (q := 102) dX5_followers_80 (by decide) ?_
          obtain ⟨y12, q13, H⟩ := zltd H
          refine aw_nm q13 ?_
          refine aw_istore (q := 104) (L' := [some (.ref u), some (.int x1), some (.int y2), some (.int v9), some (.int y12)]) dX5_followers_102 rfl (by decide) rfl rfl ?_
          refine aw_aload_n (q := 105) dX5_followers_104 rfl rfl ?_
          refine aw_getr (q := 108) dX5_followers_105 rfl e_X5_18 (zU_lt (k := 0) hu (by decide)) (o_X5 hu s R) rfl ?_
          refine aw_aload_n (q := 109) dX5_followers_108 rfl rfl ?_
          refine aw_getr (q := 112) dX5_followers_109 rfl e_X5_22 (zU_lt (k := 0) hu (by decide)) (o_X5 hu s R) rfl ?_
          refine aw_cv (M' := M_X0_isFault) (as := [.int (s.1 u 1)]) (q := 115) dX5_followers_112 rfl W_X0_isFault k_X5_26 i_X0_isFault v_X0_isFault (zB_lt0 zB64) (o_X0 zB64 s R) rfl rfl rfl (by decide) (Nat.le_of_ble_eq_true rfl) (c_X0_isFault s R zB64 (s.1 u 1)) (Nat.le_refl _) (Nat.le_refl _) ?_
          rintro r9 h9 ⟨rfl, rfl⟩
          refine aw_ifeqB (q := 118) (t := 154) dX5_followers_115 rfl (by decide) (fun h14 => ?_) (fun h14 => ?_)
          · replace H := zt h14 H
            refine aw_aload_n (q := 119) dX5_followers_118 rfl rfl ?_
            refine aw_getr (q := 122) dX5_followers_119 rfl e_X5_18 (zU_lt (k := 0) hu (by decide)) (o_X5 hu s R) rfl ?_
            refine aw_getr (q := 125) dX5_followers_122 rfl e_X5_32 (zB_lt0 zB64) (o_X0 zB64 s R) rfl ?_
            refine aw_aload_n (q := 126) dX5_followers_125 rfl rfl ?_
            refine aw_getr (q := 129) dX5_followers_126 rfl e_X5_22 (zU_lt (k := 0) hu (by decide)) (o_X5 hu s R) rfl ?_
            obtain ⟨h15, H⟩ := zio H
            refine aw_iald' (q := 130) (v := s.1 (64 + 6) ((s.1 u 1).toNatClampNeg)) dX5_followers_129 rfl (zB_lt (k := 6) zB64 (by decide)) (o_X0a5 zB64 s R) (zin_in h15) rfl ?_
            refine aw_if_neP (q := 133) (t := 154) dX5_followers_130 rfl (by decide) (fun h16 => ?_) (fun h16 => ?_)
            · replace H := zt h16 H
              refine aw_iload (q := 135) dX5_followers_133 rfl rfl ?_
              refine aw_iconst (q := 136) (v := 1) dX5_followers_135 rfl (by decide) ?_
              refine aw_aload_n (q := 137) dX5_followers_136 rfl rfl ?_
              refine aw_getr (q := 140) dX5_followers_137 rfl e_X5_18 (zU_lt (k := 0) hu (by decide)) (o_X5 hu s R) rfl ?_
              refine aw_getr (q := 143) dX5_followers_140 rfl e_X5_38 (zB_lt0 zB64) (o_X0 zB64 s R) rfl ?_
              refine aw_aload_n (q := 144) dX5_followers_143 rfl rfl ?_
              refine aw_getr (q := 147) dX5_followers_144 rfl e_X5_22 (zU_lt (k := 0) hu (by decide)) (o_X5 hu s R) rfl ?_
              refine aw_iald' (q := 148) (v := s.1 (64 + 7) ((s.1 u 1).toNatClampNeg)) dX5_followers_147 rfl (zB_lt (k := 7) zB64 (by decide)) (o_X0a6 zB64 s R) (zin_in h15) rfl ?_
              refine aw_ishl (q := 149) dX5_followers_148 rfl ?_
              refine aw_iconst (q := 150) (v := (-1)) dX5_followers_149 rfl (by decide) ?_
              refine aw_ixor (q := 151) dX5_followers_150 rfl ?_
              refine aw_iand (q := 152) dX5_followers_151 rfl ?_
              obtain ⟨y17, q18, H⟩ := zltd H
              refine aw_nm q18 ?_
              refine aw_istore (q := 154) (L' := [some (.ref u), some (.int x1), some (.int y2), some (.int v9), some (.int y17)]) dX5_followers_152 rfl (by decide) rfl rfl ?_
              refine aw_iload (q := 156) dX5_followers_154 rfl rfl ?_
              cases H
              exact aw_ret dX5_followers_156 rfl rfl rfl rfl ⟨rfl, rfl⟩
            · replace H := zf h16 H
              refine aw_iload (q := 156) dX5_followers_154 rfl rfl ?_
              cases H
              exact aw_ret dX5_followers_156 rfl rfl rfl rfl ⟨rfl, rfl⟩
          · replace H := zf h14 H
            refine aw_iload (q := 156) dX5_followers_154 rfl rfl ?_
            cases H
            exact aw_ret dX5_followers_156 rfl rfl rfl rfl ⟨rfl, rfl⟩
        · replace H := zf h10 H
          refine aw_aload_n (q := 84) dX5_followers_83 rfl rfl ?_
          refine aw_getr (q := 87) dX5_followers_84 rfl e_X5_18 (zU_lt (k := 0) hu (by decide)) (o_X5 hu s R) rfl ?_
          refine aw_getr (q := 90) dX5_followers_87 rfl e_X5_35 (zB_lt0 zB64) (o_X0 zB64 s R) rfl ?_
          refine aw_iload_n (q := 91) dX5_followers_90 rfl rfl ?_
          obtain ⟨h19, H⟩ := zio H
          refine aw_iald' (q := 92) (v := s.1 (64 + 1) y2.toNatClampNeg) dX5_followers_91 rfl (zB_lt (k := 1) zB64 (by decide)) (o_X0a0 zB64 s R) (zin_in h19) rfl ?_
          refine aw_aload_n (q := 93) dX5_followers_92 rfl rfl ?_
          refine aw_getr (q := 96) dX5_followers_93 rfl e_X5_18 (zU_lt (k := 0) hu (by decide)) (o_X5 hu s R) rfl ?_
          refine aw_getr (q := 99) dX5_followers_96 rfl e_X5_35 (zB_lt0 zB64) (o_X0 zB64 s R) rfl ?_
          refine aw_iload_n (q := 100) dX5_followers_99 rfl rfl ?_
          obtain ⟨h20, H⟩ := zio H
          refine aw_iald' (q := 101) (v := s.1 (64 + 1) v9.toNatClampNeg) dX5_followers_100 rfl (zB_lt (k := 1) zB64 (by decide)) (o_X0a0 zB64 s R) (zin_in h20) rfl ?_
          refine aw_ior (q := 102) dX5_followers_101 rfl ?_
          obtain ⟨y21, q22, H⟩ := zltd H
          refine aw_nm q22 ?_
          refine aw_istore (q := 104) (L' := [some (.ref u), some (.int x1), some (.int y2), some (.int v9), some (.int y21)]) dX5_followers_102 rfl (by decide) rfl rfl ?_
          refine aw_aload_n (q := 105) dX5_followers_104 rfl rfl ?_
          refine aw_getr (q := 108) dX5_followers_105 rfl e_X5_18 (zU_lt (k := 0) hu (by decide)) (o_X5 hu s R) rfl ?_
          refine aw_aload_n (q := 109) dX5_followers_108 rfl rfl ?_
          refine aw_getr (q := 112) dX5_followers_109 rfl e_X5_22 (zU_lt (k := 0) hu (by decide)) (o_X5 hu s R) rfl ?_
          refine aw_cv (M' := M_X0_isFault) (as := [.int (s.1 u 1)]) (q := 115) dX5_followers_112 rfl W_X0_isFault k_X5_26 i_X0_isFault v_X0_isFault (zB_lt0 zB64) (o_X0 zB64 s R) rfl rfl rfl (by decide) (Nat.le_of_ble_eq_true rfl) (c_X0_isFault s R zB64 (s.1 u 1)) (Nat.le_refl _) (Nat.le_refl _) ?_
          rintro r9 h9 ⟨rfl, rfl⟩
          refine aw_ifeqB (q := 118) (t := 154) dX5_followers_115 rfl (by decide) (fun h23 => ?_) (fun h23 => ?_)
          · replace H := zt h23 H
            refine aw_aload_n (q := 119) dX5_followers_118 rfl rfl ?_
            refine aw_getr (q := 122) dX5_followers_119 rfl e_X5_18 (zU_lt (k := 0) hu (by decide)) (o_X5 hu s R) rfl ?_
            refine aw_getr (q := 125) dX5_followers_122 rfl e_X5_32 (zB_lt0 zB64) (o_X0 zB64 s R) rfl ?_
            refine aw_aload_n (q := 126) dX5_followers_125 rfl rfl ?_
            refine aw_getr (q := 129) dX5_followers_126 rfl e_X5_22 (zU_lt (k := 0) hu (by decide)) (o_X5 hu s R) rfl ?_
            obtain ⟨h24, H⟩ := zio H
            refine aw_iald' (q := 130) (v := s.1 (64 + 6) ((s.1 u 1).toNatClampNeg)) dX5_followers_129 rfl (zB_lt (k := 6) zB64 (by decide)) (o_X0a5 zB64 s R) (zin_in h24) rfl ?_
            refine aw_if_neP (q := 133) (t := 154) dX5_followers_130 rfl (by decide) (fun h25 => ?_) (fun h25 => ?_)
            · replace H := zt h25 H
              refine aw_iload (q := 135) dX5_followers_133 rfl rfl ?_
              refine aw_iconst (q := 136) (v := 1) dX5_followers_135 rfl (by decide) ?_
              refine aw_aload_n (q := 137) dX5_followers_136 rfl rfl ?_
              refine aw_getr (q := 140) dX5_followers_137 rfl e_X5_18 (zU_lt (k := 0) hu (by decide)) (o_X5 hu s R) rfl ?_
              refine aw_getr (q := 143) dX5_followers_140 rfl e_X5_38 (zB_lt0 zB64) (o_X0 zB64 s R) rfl ?_
              refine aw_aload_n (q := 144) dX5_followers_143 rfl rfl ?_
              refine aw_getr (q := 147) dX5_followers_144 rfl e_X5_22 (zU_lt (k := 0) hu (by decide)) (o_X5 hu s R) rfl ?_
              refine aw_iald' (q := 148) (v := s.1 (64 + 7) ((s.1 u 1).toNatClampNeg)) dX5_followers_147 rfl (zB_lt (k := 7) zB64 (by decide)) (o_X0a6 zB64 s R) (zin_in h24) rfl ?_
              refine aw_ishl (q := 149) dX5_followers_148 rfl ?_
              refine aw_iconst (q := 150) (v := (-1)) dX5_followers_149 rfl (by decide) ?_
              refine aw_ixor (q := 151) dX5_followers_150 rfl ?_
              refine aw_iand (q := 152) dX5_followers_151 rfl ?_
              obtain ⟨y26, q27, H⟩ := zltd H
              refine aw_nm q27 ?_
              refine aw_istore (q := 154) (L' := [some (.ref u), some (.int x1), some (.int y2), some (.int v9), some (.int y26)]) dX5_followers_152 rfl (by decide) rfl rfl ?_
              refine aw_iload (q := 156) dX5_followers_154 rfl rfl ?_
              cases H
              exact aw_ret dX5_followers_156 rfl rfl rfl rfl ⟨rfl, rfl⟩
            · replace H := zf h25 H
              refine aw_iload (q := 156) dX5_followers_154 rfl rfl ?_
              cases H
              exact aw_ret dX5_followers_156 rfl rfl rfl rfl ⟨rfl, rfl⟩
          · replace H := zf h23 H
            refine aw_iload (q := 156) dX5_followers_154 rfl rfl ?_
            cases H
            exact aw_ret dX5_followers_156 rfl rfl rfl rfl ⟨rfl, rfl⟩
def f_X5_setUp_125 : Nat → zs → Nat → Int32 → Option (zs)
  | 0, _, _, _ => none
  | k + 1, s, u, x4 =>
    if (16 : Int32) ≤ x4 then (
      some s
    ) else (
      Option.bind (f_X5_linkingNet s u x4) fun v2 =>
      if zin x4 16 = true then
      zlt (zc s (u + 1) x4.toNatClampNeg v2) fun s4 =>
      Option.bind (f_X5_followers s4 u x4) fun v6 =>
      zlt (zc s4 (u + 2) x4.toNatClampNeg v6) fun s7 =>
      f_X5_setUp_125 k s7 u (x4 + 1)
      else none
    )
set_option maxHeartbeats 4000000 in
set_option maxRecDepth 100000 in
theorem L_X5_setUp_125 {G : zG} {sl : Nat} {P : Option Value → zH → Prop} (R : zr) {u : Nat} (hu : zU u)  : ∀ (k : Nat) (s : zs) (x4 : Int32) (e : zs), f_X5_setUp_125 k s u x4 = some e → (AV G M_X5_setUp 3 sl P 164 [none, none, none, none, none] [] (zT e R)) → AV G M_X5_setUp 3 sl P 125 [some (.ref u), none, none, none, some (.int x4)] [] (zT s R) := by
  intro k
  induction k with
  | zero =>
    intro s x4 e H
    unfold f_X5_setUp_125 at H
    cases H
  | succ k ih =>
    intro s x4 e H KE
    unfold f_X5_setUp_125 at H
    refine aw_iload (q := 127) dX5_setUp_125 rfl rfl ?_
    refine aw_bipush (q := 129) (v := 16) dX5_setUp_127 rfl (by decide) ?_
    refine aw_icmp_ge (q := 132) (t := 164) dX5_setUp_129 rfl (by decide) (fun h1 => ?_) (fun h1 => ?_)
    · replace H := zt h1 H
      cases H
      exact aw_fewer (L' := [none, none, none, none, none]) trivial KE
    · replace H := zf h1 H
      refine aw_aload_n (q := 133) dX5_setUp_132 rfl rfl ?_
      refine aw_getr (q := 136) dX5_setUp_133 rfl e_X5_9 (zU_lt (k := 0) hu (by decide)) (o_X5 hu s R) rfl ?_
      refine aw_iload (q := 138) dX5_setUp_136 rfl rfl ?_
      refine aw_aload_n (q := 139) dX5_setUp_138 rfl rfl ?_
      refine aw_iload (q := 141) dX5_setUp_139 rfl rfl ?_
      obtain ⟨v2, hv2, H⟩ := zbd H
      refine aw_cv (M' := M_X5_linkingNet) (as := [.int x4]) (q := 144) dX5_setUp_141 rfl W_X5_linkingNet k_X5_47 i_X5_linkingNet v_X5_linkingNet (zU_lt (k := 0) hu (by decide)) (o_X5 hu s R) rfl rfl rfl (by decide) (Nat.le_of_ble_eq_true rfl) (c_X5_linkingNet s R hu x4 hv2) (Nat.le_refl _) (Nat.le_refl _) ?_
      rintro r9 h9 ⟨rfl, rfl⟩
      obtain ⟨h3, H⟩ := zio H
      obtain ⟨s4, q5, H⟩ := zltd H
      refine aw_iast (q := 145) dX5_setUp_144 rfl (zU_lt (k := 1) hu (by decide)) (o_X5a2 hu s R) (zin_in h3) ((p_X5a2 hu).trans (congrArg (fun z => zT z R) q5.symm)) ?_
      refine aw_aload_n (q := 146) dX5_setUp_145 rfl rfl ?_
      refine aw_getr (q := 149) dX5_setUp_146 rfl e_X5_15 (zU_lt (k := 0) hu (by decide)) (o_X5 hu s4 R) rfl ?_
      refine aw_iload (q := 151) dX5_setUp_149 rfl rfl ?_
      refine aw_aload_n (q := 152) dX5_setUp_151 rfl rfl ?_
      refine aw_iload (q := 154) dX5_setUp_152 rfl rfl ?_
      obtain ⟨v6, hv6, H⟩ := zbd H
      refine aw_cv (M' := M_X5_followers) (as := [.int x4]) (q := 157) dX5_setUp_154 rfl W_X5_followers k_X5_51 i_X5_followers v_X5_followers (zU_lt (k := 0) hu (by decide)) (o_X5 hu s4 R) rfl rfl rfl (by decide) (Nat.le_of_ble_eq_true rfl) (c_X5_followers s4 R hu x4 hv6) (Nat.le_refl _) (Nat.le_refl _) ?_
      rintro r9 h9 ⟨rfl, rfl⟩
      obtain ⟨s7, q8, H⟩ := zltd H
      refine aw_iast (q := 158) dX5_setUp_157 rfl (zU_lt (k := 2) hu (by decide)) (o_X5a3 hu s4 R) (zin_in h3) ((p_X5a3 hu).trans (congrArg (fun z => zT z R) q8.symm)) ?_
      refine aw_iinc (q := 161) (v := x4 + 1) (L' := [some (.ref u), none, none, none, some (.int (x4 + 1))]) dX5_setUp_158 rfl rfl (by first | rfl | decide) (by decide) rfl rfl ?_
      refine aw_goto (q := 125) dX5_setUp_161 (by decide) ?_
      exact aw_fewer (L' := [some (.ref u), none, none, none, some (.int (x4 + 1))]) ⟨rfl, ⟨rfl, trivial⟩⟩ (ih s7 (x4 + 1) _ H KE)
def f_X5_setUp (s : zs) (u : Nat) : Option zs :=
  if f_X0_isFault s 64 (s.1 u 1) = true then (
    if zin (s.1 u 1) 10 = true then
    if (s.1 (64 + 6) ((s.1 u 1).toNatClampNeg)) = 3 then (
      if (s.1 (64 + 6) ((s.1 u 1).toNatClampNeg)) = 4 then (
        if zin (s.1 (64 + 7) ((s.1 u 1).toNatClampNeg)) 8 = true then
        zlt (zc s u 4 (s.1 (64 + 1) ((s.1 (64 + 7) ((s.1 u 1).toNatClampNeg)).toNatClampNeg))) fun s6 =>
        if zin (s6.1 u 1) 10 = true then
        zlt (zc s6 u 5 ((1 : Int32) <<< ((s6.1 (64 + 7) ((s6.1 u 1).toNatClampNeg)) &&& 31))) fun s9 =>
        Option.bind (f_X5_setUp_125 zFu s9 u 0) fun e11 =>
        some e11
        else none
        else none
      ) else (
        if zin (s.1 (64 + 7) ((s.1 u 1).toNatClampNeg)) 8 = true then
        zlt (zc s u 4 (s.1 (64 + 1) ((s.1 (64 + 7) ((s.1 u 1).toNatClampNeg)).toNatClampNeg))) fun s13 =>
        zlt (zc s13 u 5 0) fun s15 =>
        Option.bind (f_X5_setUp_125 zFu s15 u 0) fun e17 =>
        some e17
        else none
      )
    ) else (
      if (s.1 (64 + 6) ((s.1 u 1).toNatClampNeg)) = 4 then (
        zlt (zc s u 4 0) fun s19 =>
        if zin (s19.1 u 1) 10 = true then
        zlt (zc s19 u 5 ((1 : Int32) <<< ((s19.1 (64 + 7) ((s19.1 u 1).toNatClampNeg)) &&& 31))) fun s22 =>
        Option.bind (f_X5_setUp_125 zFu s22 u 0) fun e24 =>
        some e24
        else none
      ) else (
        zlt (zc s u 4 0) fun s25 =>
        zlt (zc s25 u 5 0) fun s27 =>
        Option.bind (f_X5_setUp_125 zFu s27 u 0) fun e29 =>
        some e29
      )
    )
    else none
  ) else (
    zlt (zc s u 4 0) fun s30 =>
    zlt (zc s30 u 5 0) fun s32 =>
    Option.bind (f_X5_setUp_125 zFu s32 u 0) fun e34 =>
    some e34
  )
set_option maxHeartbeats 4000000 in
set_option maxRecDepth 100000 in
theorem c_X5_setUp {G : zG} {sl : Nat} (s : zs) (R : zr) {u : Nat} (hu : zU u)  {v9 : zs} (H : f_X5_setUp s u = some v9) : zMv G 3 M_X5_setUp [.ref u] sl (zT s R) (fun r h' => r = none ∧ h' = zT v9 R) := by
  unfold f_X5_setUp at H
  refine zMv_of (L := [some (.ref u), none, none, none, none]) (by decide) rfl (Nat.le_of_ble_eq_true rfl) rfl ?_
  refine aw_aload_n (q := 1) dX5_setUp_0 rfl rfl ?_
  refine aw_getr (q := 4) dX5_setUp_1 rfl e_X5_18 (zU_lt (k := 0) hu (by decide)) (o_X5 hu s R) rfl ?_
  refine aw_aload_n (q := 5) dX5_setUp_4 rfl rfl ?_
  refine aw_getr (q := 8) dX5_setUp_5 rfl e_X5_22 (zU_lt (k := 0) hu (by decide)) (o_X5 hu s R) rfl ?_
  refine aw_cv (M' := M_X0_isFault) (as := [.int (s.1 u 1)]) (q := 11) dX5_setUp_8 rfl W_X0_isFault k_X5_26 i_X0_isFault v_X0_isFault (zB_lt0 zB64) (o_X0 zB64 s R) rfl rfl rfl (by decide) (Nat.le_of_ble_eq_true rfl) (c_X0_isFault s R zB64 (s.1 u 1)) (Nat.le_refl _) (Nat.le_refl _) ?_
  rintro r9 h9 ⟨rfl, rfl⟩
  refine aw_istore_n (q := 12) (L' := [some (.ref u), some (.int (zb (f_X0_isFault s 64 (s.1 u 1)))), none, none, none]) dX5_setUp_11 rfl (by decide) rfl rfl ?_
  refine aw_iload_n (q := 13) dX5_setUp_12 rfl rfl ?_
  refine aw_ifeqB (q := 16) (t := 36) dX5_setUp_13 rfl (by decide) (fun h1 => ?_) (fun h1 => ?_)
  · replace H := zt h1 H
    refine aw_aload_n (q := 17) dX5_setUp_16 rfl rfl ?_
    refine aw_getr (q := 20) dX5_setUp_17 rfl e_X5_18 (zU_lt (k := 0) hu (by decide)) (o_X5 hu s R) rfl ?_
    refine aw_getr (q := 23) dX5_setUp_20 rfl e_X5_32 (zB_lt0 zB64) (o_X0 zB64 s R) rfl ?_
    refine aw_aload_n (q := 24) dX5_setUp_23 rfl rfl ?_
    refine aw_getr (q := 27) dX5_setUp_24 rfl e_X5_22 (zU_lt (k := 0) hu (by decide)) (o_X5 hu s R) rfl ?_
    obtain ⟨h2, H⟩ := zio H
    refine aw_iald' (q := 28) (v := s.1 (64 + 6) ((s.1 u 1).toNatClampNeg)) dX5_setUp_27 rfl (zB_lt (k := 6) zB64 (by decide)) (o_X0a5 zB64 s R) (zin_in h2) rfl ?_
    refine aw_iconst (q := 29) (v := 3) dX5_setUp_28 rfl (by decide) ?_
    refine aw_icmp_neP (q := 32) (t := 36) dX5_setUp_29 rfl (by decide) (fun h3 => ?_) (fun h3 => ?_)
    · replace H := zt h3 H
      refine aw_iconst (q := 33) (v := 1) dX5_setUp_32 rfl (by decide) ?_
      refine aw_goto (q := 37) dX5_setUp_33 (by decide) ?_
      refine aw_istore_n (q := 38) (L' := [some (.ref u), some (.int (zb (f_X0_isFault s 64 (s.1 u 1)))), some (.int 1), none, none]) dX5_setUp_37 rfl (by decide) rfl rfl ?_
      refine aw_iload_n (q := 39) dX5_setUp_38 rfl rfl ?_
      refine aw_ifeqB (q := 42) (t := 62) dX5_setUp_39 rfl (by decide) (fun _ => ?_) (fun z => absurd h1 z)
      refine aw_aload_n (q := 43) dX5_setUp_42 rfl rfl ?_
      refine aw_getr (q := 46) dX5_setUp_43 rfl e_X5_18 (zU_lt (k := 0) hu (by decide)) (o_X5 hu s R) rfl ?_
      refine aw_getr (q := 49) dX5_setUp_46 rfl e_X5_32 (zB_lt0 zB64) (o_X0 zB64 s R) rfl ?_
      refine aw_aload_n (q := 50) dX5_setUp_49 rfl rfl ?_
      refine aw_getr (q := 53) dX5_setUp_50 rfl e_X5_22 (zU_lt (k := 0) hu (by decide)) (o_X5 hu s R) rfl ?_
      refine aw_iald' (q := 54) (v := s.1 (64 + 6) ((s.1 u 1).toNatClampNeg)) dX5_setUp_53 rfl (zB_lt (k := 6) zB64 (by decide)) (o_X0a5 zB64 s R) (zin_in h2) rfl ?_
      refine aw_iconst (q := 55) (v := 4) dX5_setUp_54 rfl (by decide) ?_
      refine aw_icmp_neP (q := 58) (t := 62) dX5_setUp_55 rfl (by decide) (fun h4 => ?_) (fun h4 => ?_)
      · replace H := zt h4 H
        refine aw_iconst (q := 59) (v := 1) dX5_setUp_58 rfl (by decide) ?_
        refine aw_goto (q := 63) dX5_setUp_59 (by decide) ?_
        refine aw_istore_n (q := 64) (L' := [some (.ref u), some (.int (zb (f_X0_isFault s 64 (s.1 u 1)))), some (.int 1), some (.int 1), none]) dX5_setUp_63 rfl (by decide) rfl rfl ?_
        refine aw_aload_n (q := 65) dX5_setUp_64 rfl rfl ?_
        refine aw_iload_n (q := 66) dX5_setUp_65 rfl rfl ?_
        refine aw_if_eq (q := 69) (t := 92) dX5_setUp_66 rfl (by decide) (fun z => absurd z (by decide)) (fun _ => ?_)
        refine aw_aload_n (q := 70) dX5_setUp_69 rfl rfl ?_
        refine aw_getr (q := 73) dX5_setUp_70 rfl e_X5_18 (zU_lt (k := 0) hu (by decide)) (o_X5 hu s R) rfl ?_
        refine aw_getr (q := 76) dX5_setUp_73 rfl e_X5_35 (zB_lt0 zB64) (o_X0 zB64 s R) rfl ?_
        refine aw_aload_n (q := 77) dX5_setUp_76 rfl rfl ?_
        refine aw_getr (q := 80) dX5_setUp_77 rfl e_X5_18 (zU_lt (k := 0) hu (by decide)) (o_X5 hu s R) rfl ?_
        refine aw_getr (q := 83) dX5_setUp_80 rfl e_X5_38 (zB_lt0 zB64) (o_X0 zB64 s R) rfl ?_
        refine aw_aload_n (q := 84) dX5_setUp_83 rfl rfl ?_
        refine aw_getr (q := 87) dX5_setUp_84 rfl e_X5_22 (zU_lt (k := 0) hu (by decide)) (o_X5 hu s R) rfl ?_
        refine aw_iald' (q := 88) (v := s.1 (64 + 7) ((s.1 u 1).toNatClampNeg)) dX5_setUp_87 rfl (zB_lt (k := 7) zB64 (by decide)) (o_X0a6 zB64 s R) (zin_in h2) rfl ?_
        obtain ⟨h5, H⟩ := zio H
        refine aw_iald' (q := 89) (v := s.1 (64 + 1) ((s.1 (64 + 7) ((s.1 u 1).toNatClampNeg)).toNatClampNeg)) dX5_setUp_88 rfl (zB_lt (k := 1) zB64 (by decide)) (o_X0a0 zB64 s R) (zin_in h5) rfl ?_
        refine aw_goto (q := 93) dX5_setUp_89 (by decide) ?_
        obtain ⟨s6, q7, H⟩ := zltd H
        refine aw_put (q := 96) dX5_setUp_93 rfl f_X5_41 (zU_lt (k := 0) hu (by decide)) (o_X5 hu s R) rfl rfl (Nat.le_of_ble_eq_true rfl) ((p_X5_4 hu).trans (congrArg (fun z => zT z R) q7.symm)) ?_
        refine aw_aload_n (q := 97) dX5_setUp_96 rfl rfl ?_
        refine aw_iload_n (q := 98) dX5_setUp_97 rfl rfl ?_
        refine aw_if_eq (q := 101) (t := 118) dX5_setUp_98 rfl (by decide) (fun z => absurd z (by decide)) (fun _ => ?_)
        refine aw_iconst (q := 102) (v := 1) dX5_setUp_101 rfl (by decide) ?_
        refine aw_aload_n (q := 103) dX5_setUp_102 rfl rfl ?_
        refine aw_getr (q := 106) dX5_setUp_103 rfl e_X5_18 (zU_lt (k := 0) hu (by decide)) (o_X5 hu s6 R) rfl ?_
        refine aw_getr (q := 109) dX5_setUp_106 rfl e_X5_38 (zB_lt0 zB64) (o_X0 zB64 s6 R) rfl ?_
        refine aw_aload_n (q := 110) dX5_setUp_109 rfl rfl ?_
        refine aw_getr (q := 113) dX5_setUp_110 rfl e_X5_22 (zU_lt (k := 0) hu (by decide)) (o_X5 hu s6 R) rfl ?_
        obtain ⟨h8, H⟩ := zio H
        refine aw_iald' (q := 114) (v := s6.1 (64 + 7) ((s6.1 u 1).toNatClampNeg)) dX5_setUp_113 rfl (zB_lt (k := 7) zB64 (by decide)) (o_X0a6 zB64 s6 R) (zin_in h8) rfl ?_
        refine aw_ishl (q := 115) dX5_setUp_114 rfl ?_
        refine aw_goto (q := 119) dX5_setUp_115 (by decide) ?_
        obtain ⟨s9, q10, H⟩ := zltd H
        refine aw_put (q := 122) dX5_setUp_119 rfl f_X5_44 (zU_lt (k := 0) hu (by decide)) (o_X5 hu s6 R) rfl rfl (Nat.le_of_ble_eq_true rfl) ((p_X5_5 hu).trans (congrArg (fun z => zT z R) q10.symm)) ?_
        refine aw_iconst (q := 123) (v := 0) dX5_setUp_122 rfl (by decide) ?_
        refine aw_istore (q := 125) (L' := [some (.ref u), some (.int (zb (f_X0_isFault s 64 (s.1 u 1)))), some (.int 1), some (.int 1), some (.int 0)]) dX5_setUp_123 rfl (by decide) rfl rfl ?_
        obtain ⟨e11, he11, H⟩ := zbd H
        refine aw_fewer (L' := [some (.ref u), none, none, none, some (.int 0)]) ⟨rfl, ⟨rfl, trivial⟩⟩ ?_
        refine L_X5_setUp_125 R hu zFu s9 0 e11 he11 ?_
        cases H
        exact aw_vret dX5_setUp_164 rfl rfl rfl ⟨rfl, rfl⟩
      · replace H := zf h4 H
        refine aw_iconst (q := 63) (v := 0) dX5_setUp_62 rfl (by decide) ?_
        refine aw_istore_n (q := 64) (L' := [some (.ref u), some (.int (zb (f_X0_isFault s 64 (s.1 u 1)))), some (.int 1), some (.int 0), none]) dX5_setUp_63 rfl (by decide) rfl rfl ?_
        refine aw_aload_n (q := 65) dX5_setUp_64 rfl rfl ?_
        refine aw_iload_n (q := 66) dX5_setUp_65 rfl rfl ?_
        refine aw_if_eq (q := 69) (t := 92) dX5_setUp_66 rfl (by decide) (fun z => absurd z (by decide)) (fun _ => ?_)
        refine aw_aload_n (q := 70) dX5_setUp_69 rfl rfl ?_
        refine aw_getr (q := 73) dX5_setUp_70 rfl e_X5_18 (zU_lt (k := 0) hu (by decide)) (o_X5 hu s R) rfl ?_
        refine aw_getr (q := 76) dX5_setUp_73 rfl e_X5_35 (zB_lt0 zB64) (o_X0 zB64 s R) rfl ?_
        refine aw_aload_n (q := 77) dX5_setUp_76 rfl rfl ?_
        refine aw_getr (q := 80) dX5_setUp_77 rfl e_X5_18 (zU_lt (k := 0) hu (by decide)) (o_X5 hu s R) rfl ?_
        refine aw_getr (q := 83) dX5_setUp_80 rfl e_X5_38 (zB_lt0 zB64) (o_X0 zB64 s R) rfl ?_
        refine aw_aload_n (q := 84) dX5_setUp_83 rfl rfl ?_
        refine aw_getr (q := 87) dX5_setUp_84 rfl e_X5_22 (zU_lt (k := 0) hu (by decide)) (o_X5 hu s R) rfl ?_
        refine aw_iald' (q := 88) (v := s.1 (64 + 7) ((s.1 u 1).toNatClampNeg)) dX5_setUp_87 rfl (zB_lt (k := 7) zB64 (by decide)) (o_X0a6 zB64 s R) (zin_in h2) rfl ?_
        obtain ⟨h12, H⟩ := zio H
        refine aw_iald' (q := 89) (v := s.1 (64 + 1) ((s.1 (64 + 7) ((s.1 u 1).toNatClampNeg)).toNatClampNeg)) dX5_setUp_88 rfl (zB_lt (k := 1) zB64 (by decide)) (o_X0a0 zB64 s R) (zin_in h12) rfl ?_
        refine aw_goto (q := 93) dX5_setUp_89 (by decide) ?_
        obtain ⟨s13, q14, H⟩ := zltd H
        refine aw_put (q := 96) dX5_setUp_93 rfl f_X5_41 (zU_lt (k := 0) hu (by decide)) (o_X5 hu s R) rfl rfl (Nat.le_of_ble_eq_true rfl) ((p_X5_4 hu).trans (congrArg (fun z => zT z R) q14.symm)) ?_
        refine aw_aload_n (q := 97) dX5_setUp_96 rfl rfl ?_
        refine aw_iload_n (q := 98) dX5_setUp_97 rfl rfl ?_
        refine aw_if_eq (q := 101) (t := 118) dX5_setUp_98 rfl (by decide) (fun _ => ?_) (fun z => absurd (by decide) z)
        refine aw_iconst (q := 119) (v := 0) dX5_setUp_118 rfl (by decide) ?_
        obtain ⟨s15, q16, H⟩ := zltd H
        refine aw_put (q := 122) dX5_setUp_119 rfl f_X5_44 (zU_lt (k := 0) hu (by decide)) (o_X5 hu s13 R) rfl rfl (Nat.le_of_ble_eq_true rfl) ((p_X5_5 hu).trans (congrArg (fun z => zT z R) q16.symm)) ?_
        refine aw_iconst (q := 123) (v := 0) dX5_setUp_122 rfl (by decide) ?_
        refine aw_istore (q := 125) (L' := [some (.ref u), some (.int (zb (f_X0_isFault s 64 (s.1 u 1)))), some (.int 1), some (.int 0), some (.int 0)]) dX5_setUp_123 rfl (by decide) rfl rfl ?_
        obtain ⟨e17, he17, H⟩ := zbd H
        refine aw_fewer (L' := [some (.ref u), none, none, none, some (.int 0)]) ⟨rfl, ⟨rfl, trivial⟩⟩ ?_
        refine L_X5_setUp_125 R hu zFu s15 0 e17 he17 ?_
        cases H
        exact aw_vret dX5_setUp_164 rfl rfl rfl ⟨rfl, rfl⟩
    · replace H := zf h3 H
      refine aw_iconst (q := 37) (v := 0) dX5_setUp_36 rfl (by decide) ?_
      refine aw_istore_n (q := 38) (L' := [some (.ref u), some (.int (zb (f_X0_isFault s 64 (s.1 u 1)))), some (.int 0), none, none]) dX5_setUp_37 rfl (by decide) rfl rfl ?_
      refine aw_iload_n (q := 39) dX5_setUp_38 rfl rfl ?_
      refine aw_ifeqB (q := 42) (t := 62) dX5_setUp_39 rfl (by decide) (fun _ => ?_) (fun z => absurd h1 z)
      refine aw_aload_n (q := 43) dX5_setUp_42 rfl rfl ?_
      refine aw_getr (q := 46) dX5_setUp_43 rfl e_X5_18 (zU_lt (k := 0) hu (by decide)) (o_X5 hu s R) rfl ?_
      refine aw_getr (q := 49) dX5_setUp_46 rfl e_X5_32 (zB_lt0 zB64) (o_X0 zB64 s R) rfl ?_
      refine aw_aload_n (q := 50) dX5_setUp_49 rfl rfl ?_
      refine aw_getr (q := 53) dX5_setUp_50 rfl e_X5_22 (zU_lt (k := 0) hu (by decide)) (o_X5 hu s R) rfl ?_
      refine aw_iald' (q := 54) (v := s.1 (64 + 6) ((s.1 u 1).toNatClampNeg)) dX5_setUp_53 rfl (zB_lt (k := 6) zB64 (by decide)) (o_X0a5 zB64 s R) (zin_in h2) rfl ?_
      refine aw_iconst (q := 55) (v := 4) dX5_setUp_54 rfl (by decide) ?_
      refine aw_icmp_neP (q := 58) (t := 62) dX5_setUp_55 rfl (by decide) (fun h18 => ?_) (fun h18 => ?_)
      · replace H := zt h18 H
        refine aw_iconst (q := 59) (v := 1) dX5_setUp_58 rfl (by decide) ?_
        refine aw_goto (q := 63) dX5_setUp_59 (by decide) ?_
        refine aw_istore_n (q := 64) (L' := [some (.ref u), some (.int (zb (f_X0_isFault s 64 (s.1 u 1)))), some (.int 0), some (.int 1), none]) dX5_setUp_63 rfl (by decide) rfl rfl ?_
        refine aw_aload_n (q := 65) dX5_setUp_64 rfl rfl ?_
        refine aw_iload_n (q := 66) dX5_setUp_65 rfl rfl ?_
        refine aw_if_eq (q := 69) (t := 92) dX5_setUp_66 rfl (by decide) (fun _ => ?_) (fun z => absurd (by decide) z)
        refine aw_iconst (q := 93) (v := 0) dX5_setUp_92 rfl (by decide) ?_
        obtain ⟨s19, q20, H⟩ := zltd H
        refine aw_put (q := 96) dX5_setUp_93 rfl f_X5_41 (zU_lt (k := 0) hu (by decide)) (o_X5 hu s R) rfl rfl (Nat.le_of_ble_eq_true rfl) ((p_X5_4 hu).trans (congrArg (fun z => zT z R) q20.symm)) ?_
        refine aw_aload_n (q := 97) dX5_setUp_96 rfl rfl ?_
        refine aw_iload_n (q := 98) dX5_setUp_97 rfl rfl ?_
        refine aw_if_eq (q := 101) (t := 118) dX5_setUp_98 rfl (by decide) (fun z => absurd z (by decide)) (fun _ => ?_)
        refine aw_iconst (q := 102) (v := 1) dX5_setUp_101 rfl (by decide) ?_
        refine aw_aload_n (q := 103) dX5_setUp_102 rfl rfl ?_
        refine aw_getr (q := 106) dX5_setUp_103 rfl e_X5_18 (zU_lt (k := 0) hu (by decide)) (o_X5 hu s19 R) rfl ?_
        refine aw_getr (q := 109) dX5_setUp_106 rfl e_X5_38 (zB_lt0 zB64) (o_X0 zB64 s19 R) rfl ?_
        refine aw_aload_n (q := 110) dX5_setUp_109 rfl rfl ?_
        refine aw_getr (q := 113) dX5_setUp_110 rfl e_X5_22 (zU_lt (k := 0) hu (by decide)) (o_X5 hu s19 R) rfl ?_
        obtain ⟨h21, H⟩ := zio H
        refine aw_iald' (q := 114) (v := s19.1 (64 + 7) ((s19.1 u 1).toNatClampNeg)) dX5_setUp_113 rfl (zB_lt (k := 7) zB64 (by decide)) (o_X0a6 zB64 s19 R) (zin_in h21) rfl ?_
        refine aw_ishl (q := 115) dX5_setUp_114 rfl ?_
        refine aw_goto (q := 119) dX5_setUp_115 (by decide) ?_
        obtain ⟨s22, q23, H⟩ := zltd H
        refine aw_put (q := 122) dX5_setUp_119 rfl f_X5_44 (zU_lt (k := 0) hu (by decide)) (o_X5 hu s19 R) rfl rfl (Nat.le_of_ble_eq_true rfl) ((p_X5_5 hu).trans (congrArg (fun z => zT z R) q23.symm)) ?_
        refine aw_iconst (q := 123) (v := 0) dX5_setUp_122 rfl (by decide) ?_
        refine aw_istore (q := 125) (L' := [some (.ref u), some (.int (zb (f_X0_isFault s 64 (s.1 u 1)))), some (.int 0), some (.int 1), some (.int 0)]) dX5_setUp_123 rfl (by decide) rfl rfl ?_
        obtain ⟨e24, he24, H⟩ := zbd H
        refine aw_fewer (L' := [some (.ref u), none, none, none, some (.int 0)]) ⟨rfl, ⟨rfl, trivial⟩⟩ ?_
        refine L_X5_setUp_125 R hu zFu s22 0 e24 he24 ?_
        cases H
        exact aw_vret dX5_setUp_164 rfl rfl rfl ⟨rfl, rfl⟩
      · replace H := zf h18 H
        refine aw_iconst (q := 63) (v := 0) dX5_setUp_62 rfl (by decide) ?_
        refine aw_istore_n (q := 64) (L' := [some (.ref u), some (.int (zb (f_X0_isFault s 64 (s.1 u 1)))), some (.int 0), some (.int 0), none]) dX5_setUp_63 rfl (by decide) rfl rfl ?_
        refine aw_aload_n (q := 65) dX5_setUp_64 rfl rfl ?_
        refine aw_iload_n (q := 66) dX5_setUp_65 rfl rfl ?_
        refine aw_if_eq (q := 69) (t := 92) dX5_setUp_66 rfl (by decide) (fun _ => ?_) (fun z => absurd (by decide) z)
        refine aw_iconst (q := 93) (v := 0) dX5_setUp_92 rfl (by decide) ?_
        obtain ⟨s25, q26, H⟩ := zltd H
        refine aw_put (q := 96) dX5_setUp_93 rfl f_X5_41 (zU_lt (k := 0) hu (by decide)) (o_X5 hu s R) rfl rfl (Nat.le_of_ble_eq_true rfl) ((p_X5_4 hu).trans (congrArg (fun z => zT z R) q26.symm)) ?_
        refine aw_aload_n (q := 97) dX5_setUp_96 rfl rfl ?_
        refine aw_iload_n (q := 98) dX5_setUp_97 rfl rfl ?_
        refine aw_if_eq (q := 101) (t := 118) dX5_setUp_98 rfl (by decide) (fun _ => ?_) (fun z => absurd (by decide) z)
        refine aw_iconst (q := 119) (v := 0) dX5_setUp_118 rfl (by decide) ?_
        obtain ⟨s27, q28, H⟩ := zltd H
        refine aw_put (q := 122) dX5_setUp_119 rfl f_X5_44 (zU_lt (k := 0) hu (by decide)) (o_X5 hu s25 R) rfl rfl (Nat.le_of_ble_eq_true rfl) ((p_X5_5 hu).trans (congrArg (fun z => zT z R) q28.symm)) ?_
        refine aw_iconst (q := 123) (v := 0) dX5_setUp_122 rfl (by decide) ?_
        refine aw_istore (q := 125) (L' := [some (.ref u), some (.int (zb (f_X0_isFault s 64 (s.1 u 1)))), some (.int 0), some (.int 0), some (.int 0)]) dX5_setUp_123 rfl (by decide) rfl rfl ?_
        obtain ⟨e29, he29, H⟩ := zbd H
        refine aw_fewer (L' := [some (.ref u), none, none, none, some (.int 0)]) ⟨rfl, ⟨rfl, trivial⟩⟩ ?_
        refine L_X5_setUp_125 R hu zFu s27 0 e29 he29 ?_
        cases H
        exact aw_vret dX5_setUp_164 rfl rfl rfl ⟨rfl, rfl⟩
  · replace H := zf h1 H
    refine aw_iconst (q := 37) (v := 0) dX5_setUp_36 rfl (by decide) ?_
    refine aw_istore_n (q := 38) (L' := [some (.ref u), some (.int (zb (f_X0_isFault s 64 (s.1 u 1)))), some (.int 0), none, none]) dX5_setUp_37 rfl (by decide) rfl rfl ?_
    refine aw_iload_n (q := 39) dX5_setUp_38 rfl rfl ?_
    refine aw_ifeqB (q := 42) (t := 62) dX5_setUp_39 rfl (by decide) (fun z => absurd z h1) (fun _ => ?_)
    refine aw_iconst (q := 63) (v := 0) dX5_setUp_62 rfl (by decide) ?_
    refine aw_istore_n (q := 64) (L' := [some (.ref u), some (.int (zb (f_X0_isFault s 64 (s.1 u 1)))), some (.int 0), some (.int 0), none]) dX5_setUp_63 rfl (by decide) rfl rfl ?_
    refine aw_aload_n (q := 65) dX5_setUp_64 rfl rfl ?_
    refine aw_iload_n (q := 66) dX5_setUp_65 rfl rfl ?_
    refine aw_if_eq (q := 69) (t := 92) dX5_setUp_66 rfl (by decide) (fun _ => ?_) (fun z => absurd (by decide) z)
    refine aw_iconst (q := 93) (v := 0) dX5_setUp_92 rfl (by decide) ?_
    obtain ⟨s30, q31, H⟩ := zltd H
    refine aw_put (q := 96) dX5_setUp_93 rfl f_X5_41 (zU_lt (k := 0) hu (by decide)) (o_X5 hu s R) rfl rfl (Nat.le_of_ble_eq_true rfl) ((p_X5_4 hu).trans (congrArg (fun z => zT z R) q31.symm)) ?_
    refine aw_aload_n (q := 97) dX5_setUp_96 rfl rfl ?_
    refine aw_iload_n (q := 98) dX5_setUp_97 rfl rfl ?_
    refine aw_if_eq (q := 101) (t := 118) dX5_setUp_98 rfl (by decide) (fun _ => ?_) (fun z => absurd (by decide) z)
    refine aw_iconst (q := 119) (v := 0) dX5_setUp_118 rfl (by decide) ?_
    obtain ⟨s32, q33, H⟩ := zltd H
    refine aw_put (q := 122) dX5_setUp_119 rfl f_X5_44 (zU_lt (k := 0) hu (by decide)) (o_X5 hu s30 R) rfl rfl (Nat.le_of_ble_eq_true rfl) ((p_X5_5 hu).trans (congrArg (fun z => zT z R) q33.symm)) ?_
    refine aw_iconst (q := 123) (v := 0) dX5_setUp_122 rfl (by decide) ?_
    refine aw_istore (q := 125) (L' := [some (.ref u), some (.int (zb (f_X0_isFault s 64 (s.1 u 1)))), some (.int 0), some (.int 0), some (.int 0)]) dX5_setUp_123 rfl (by decide) rfl rfl ?_
    obtain ⟨e34, he34, H⟩ := zbd H
    refine aw_fewer (L' := [some (.ref u), none, none, none, some (.int 0)]) ⟨rfl, ⟨rfl, trivial⟩⟩ ?_
    refine L_X5_setUp_125 R hu zFu s32 0 e34 he34 ?_
    cases H
    exact aw_vret dX5_setUp_164 rfl rfl rfl ⟨rfl, rfl⟩
def f_X2_suppose (s : zs) (x1 : Int32) : Option (Nat × zs) :=
  if zin x1 11 = true then
  Option.bind (f_X5_setUp s (87 + 3 * x1.toNatClampNeg)) fun v2 =>
  some (87 + 3 * x1.toNatClampNeg, v2)
  else none
set_option maxHeartbeats 4000000 in
set_option maxRecDepth 100000 in
theorem c_X2_suppose {G : zG} {sl : Nat} (s : zs) (R : zr) (x1 : Int32) {v9 : (Nat × zs)} (H : f_X2_suppose s x1 = some v9) : zMv G 4 M_X2_suppose [.ref 76, .int x1] sl (zT s R) (fun r h' => r = some (.ref v9.1) ∧ h' = zT v9.2 R) := by
  unfold f_X2_suppose at H
  refine zMv_of (L := [some (.ref 76), some (.int x1)]) (by decide) rfl (Nat.le_of_ble_eq_true rfl) rfl ?_
  refine aw_aload_n (q := 1) dX2_suppose_0 rfl rfl ?_
  refine aw_getr (q := 4) dX2_suppose_1 rfl e_X2_11 (by decide) (o_X2 s R) rfl ?_
  refine aw_iload_n (q := 5) dX2_suppose_4 rfl rfl ?_
  obtain ⟨h1, H⟩ := zio H
  refine aw_aald (q := 6) (b := 87 + 3 * x1.toNatClampNeg) dX2_suppose_5 rfl (by decide) (Or.inr (Or.inl rfl)) (o_X2a1 s R) (zin_in h1) rfl ?_
  obtain ⟨v2, hv2, H⟩ := zbd H
  refine aw_cv (M' := M_X5_setUp) (as := []) (q := 9) dX2_suppose_6 rfl W_X5_setUp k_X2_33 i_X5_setUp v_X5_setUp (zU_lt (k := 0) (zU_of h1) (by decide)) (o_X5 (zU_of h1) s R) rfl rfl rfl (by decide) (Nat.le_of_ble_eq_true rfl) (c_X5_setUp s R (zU_of h1) hv2) (Nat.le_refl _) (Nat.le_refl _) ?_
  rintro r9 h9 ⟨rfl, rfl⟩
  refine aw_aload_n (q := 10) dX2_suppose_9 rfl rfl ?_
  refine aw_getr (q := 13) dX2_suppose_10 rfl e_X2_11 (by decide) (o_X2 v2 R) rfl ?_
  refine aw_iload_n (q := 14) dX2_suppose_13 rfl rfl ?_
  refine aw_aald (q := 15) (b := 87 + 3 * x1.toNatClampNeg) dX2_suppose_14 rfl (by decide) (Or.inr (Or.inl rfl)) (o_X2a1 v2 R) (zin_in h1) rfl ?_
  cases H
  exact aw_aret dX2_suppose_15 rfl rfl rfl ⟨rfl, rfl⟩
theorem U_X2_suppose {s : zs} {x1 : Int32} {v : Nat × zs} (H : f_X2_suppose s x1 = some v) : zU v.1 := by
  unfold f_X2_suppose at H
  obtain ⟨h1, H⟩ := zio H
  obtain ⟨v1, -, H⟩ := zbd H
  cases H
  exact zU_of h1
def f_X2_supposeAll_2 : Nat → zs → Int32 → Int32 → Option (zs)
  | 0, _, _, _ => none
  | k + 1, s, x1, x2 =>
    if (11 : Int32) ≤ x2 then (
      some s
    ) else (
      if f_X6_hasBit x1 x2 = true then (
        if zin x2 11 = true then
        Option.bind (f_X5_setUp s (87 + 3 * x2.toNatClampNeg)) fun v4 =>
        f_X2_supposeAll_2 k v4 x1 (x2 + 1)
        else none
      ) else (
        f_X2_supposeAll_2 k s x1 (x2 + 1)
      )
    )
set_option maxHeartbeats 4000000 in
set_option maxRecDepth 100000 in
theorem L_X2_supposeAll_2 {G : zG} {sl : Nat} {P : Option Value → zH → Prop} (R : zr) (x1 : Int32) : ∀ (k : Nat) (s : zs) (x2 : Int32) (e : zs), f_X2_supposeAll_2 k s x1 x2 = some e → (AV G M_X2_supposeAll 4 sl P 31 [none, none, none] [] (zT e R)) → AV G M_X2_supposeAll 4 sl P 2 [some (.ref 76), some (.int x1), some (.int x2)] [] (zT s R) := by
  intro k
  induction k with
  | zero =>
    intro s x2 e H
    unfold f_X2_supposeAll_2 at H
    cases H
  | succ k ih =>
    intro s x2 e H KE
    unfold f_X2_supposeAll_2 at H
    refine aw_iload_n (q := 3) dX2_supposeAll_2 rfl rfl ?_
    refine aw_bipush (q := 5) (v := 11) dX2_supposeAll_3 rfl (by decide) ?_
    refine aw_icmp_ge (q := 8) (t := 31) dX2_supposeAll_5 rfl (by decide) (fun h1 => ?_) (fun h1 => ?_)
    · replace H := zt h1 H
      cases H
      exact aw_fewer (L' := [none, none, none]) trivial KE
    · replace H := zf h1 H
      refine aw_iload_n (q := 9) dX2_supposeAll_8 rfl rfl ?_
      refine aw_iload_n (q := 10) dX2_supposeAll_9 rfl rfl ?_
      refine aw_csN (M' := M_X6_hasBit) (as := [.int x1, .int x2]) (q := 13) dX2_supposeAll_10 rfl W_X6_hasBit (show (RX2, 36, yX6_hasBit) ∈ zNl by decide) s_X6_hasBit rfl rfl (by decide) (Nat.le_of_ble_eq_true rfl) (c_X6_hasBit (zT s R) x1 x2) (Nat.le_refl _) (Nat.le_refl _) ?_
      rintro r9 h9 ⟨rfl, rfl⟩
      refine aw_ifeqB (q := 16) (t := 25) dX2_supposeAll_13 rfl (by decide) (fun h2 => ?_) (fun h2 => ?_)
      · replace H := zt h2 H
        refine aw_aload_n (q := 17) dX2_supposeAll_16 rfl rfl ?_
        refine aw_getr (q := 20) dX2_supposeAll_17 rfl e_X2_11 (by decide) (o_X2 s R) rfl ?_
        refine aw_iload_n (q := 21) dX2_supposeAll_20 rfl rfl ?_
        obtain ⟨h3, H⟩ := zio H
        refine aw_aald (q := 22) (b := 87 + 3 * x2.toNatClampNeg) dX2_supposeAll_21 rfl (by decide) (Or.inr (Or.inl rfl)) (o_X2a1 s R) (zin_in h3) rfl ?_
        obtain ⟨v4, hv4, H⟩ := zbd H
        refine aw_cv (M' := M_X5_setUp) (as := []) (q := 25) dX2_supposeAll_22 rfl W_X5_setUp k_X2_33 i_X5_setUp v_X5_setUp (zU_lt (k := 0) (zU_of h3) (by decide)) (o_X5 (zU_of h3) s R) rfl rfl rfl (by decide) (Nat.le_of_ble_eq_true rfl) (c_X5_setUp s R (zU_of h3) hv4) (Nat.le_refl _) (Nat.le_refl _) ?_
        rintro r9 h9 ⟨rfl, rfl⟩
        refine aw_iinc (q := 28) (v := x2 + 1) (L' := [some (.ref 76), some (.int x1), some (.int (x2 + 1))]) dX2_supposeAll_25 rfl rfl (by first | rfl | decide) (by decide) rfl rfl ?_
        refine aw_goto (q := 2) dX2_supposeAll_28 (by decide) ?_
        exact aw_fewer (L' := [some (.ref 76), some (.int x1), some (.int (x2 + 1))]) ⟨rfl, ⟨rfl, ⟨rfl, trivial⟩⟩⟩ (ih v4 (x2 + 1) _ H KE)
      · replace H := zf h2 H
        refine aw_iinc (q := 28) (v := x2 + 1) (L' := [some (.ref 76), some (.int x1), some (.int (x2 + 1))]) dX2_supposeAll_25 rfl rfl (by first | rfl | decide) (by decide) rfl rfl ?_
        refine aw_goto (q := 2) dX2_supposeAll_28 (by decide) ?_
        exact aw_fewer (L' := [some (.ref 76), some (.int x1), some (.int (x2 + 1))]) ⟨rfl, ⟨rfl, ⟨rfl, trivial⟩⟩⟩ (ih s (x2 + 1) _ H KE)
def f_X2_supposeAll (s : zs) (x1 : Int32) : Option zs :=
  Option.bind (f_X2_supposeAll_2 zFu s x1 0) fun e1 =>
  some e1
set_option maxHeartbeats 4000000 in
set_option maxRecDepth 100000 in
theorem c_X2_supposeAll {G : zG} {sl : Nat} (s : zs) (R : zr) (x1 : Int32) {v9 : zs} (H : f_X2_supposeAll s x1 = some v9) : zMv G 4 M_X2_supposeAll [.ref 76, .int x1] sl (zT s R) (fun r h' => r = none ∧ h' = zT v9 R) := by
  unfold f_X2_supposeAll at H
  refine zMv_of (L := [some (.ref 76), some (.int x1), none]) (by decide) rfl (Nat.le_of_ble_eq_true rfl) rfl ?_
  refine aw_iconst (q := 1) (v := 0) dX2_supposeAll_0 rfl (by decide) ?_
  refine aw_istore_n (q := 2) (L' := [some (.ref 76), some (.int x1), some (.int 0)]) dX2_supposeAll_1 rfl (by decide) rfl rfl ?_
  obtain ⟨e1, he1, H⟩ := zbd H
  refine aw_fewer (L' := [some (.ref 76), some (.int x1), some (.int 0)]) ⟨rfl, ⟨rfl, ⟨rfl, trivial⟩⟩⟩ ?_
  refine L_X2_supposeAll_2 R x1 zFu s 0 e1 he1 ?_
  cases H
  exact aw_vret dX2_supposeAll_31 rfl rfl rfl ⟨rfl, rfl⟩
def f_X5_spread_24 : Nat → zs → Nat → Int32 → Nat → Nat → Int32 → Int32 → Int32 → Int32 → Option (Int32 × Int32)
  | 0, _, _, _, _, _, _, _, _, _ => none
  | k + 1, s, u, x1, x2, x3, x6, x4, x5, x7 =>
    if (s.1 64 10) ≤ x7 then (
      some (x4, x5)
    ) else (
      if zin x7 5 = true then
      if f_X6_hasBit x1 (s.1 x2 x7.toNatClampNeg) = true then (
        if f_X6_hasBit (s.1 u 5) x7 = true then (
          f_X5_spread_24 k s u x1 x2 x3 x6 x4 x5 (x7 + 1)
        ) else (
          zlt (x4 ||| ((1 : Int32) <<< (x7 &&& 31)) : Int32) fun y5 =>
          if zin (s.1 x3 x7.toNatClampNeg) 16 = true then
          zlt (x5 ||| (s.1 (u + 1) ((s.1 x3 x7.toNatClampNeg).toNatClampNeg)) : Int32) fun y8 =>
          f_X5_spread_24 k s u x1 x2 x3 x6 y5 y8 (x7 + 1)
          else none
        )
      ) else (
        if zin (s.1 x2 x7.toNatClampNeg) 16 = true then
        if ((s.1 (u + 1) ((s.1 x2 x7.toNatClampNeg).toNatClampNeg)) &&& x5) = 0 then (
          f_X5_spread_24 k s u x1 x2 x3 x6 x4 x5 (x7 + 1)
        ) else (
          if f_X6_hasBit (s.1 u 5) x7 = true then (
            f_X5_spread_24 k s u x1 x2 x3 x6 x4 x5 (x7 + 1)
          ) else (
            zlt (x4 ||| ((1 : Int32) <<< (x7 &&& 31)) : Int32) fun y13 =>
            if zin (s.1 x3 x7.toNatClampNeg) 16 = true then
            zlt (x5 ||| (s.1 (u + 1) ((s.1 x3 x7.toNatClampNeg).toNatClampNeg)) : Int32) fun y16 =>
            f_X5_spread_24 k s u x1 x2 x3 x6 y13 y16 (x7 + 1)
            else none
          )
        )
        else none
      )
      else none
    )
set_option maxHeartbeats 4000000 in
set_option maxRecDepth 100000 in
theorem L_X5_spread_24 {G : zG} {sl : Nat} {P : Option Value → zH → Prop} (R : zr) {u : Nat} (hu : zU u) (x1 : Int32) {x2 : Nat} (ha2 : zA5 x2) {x3 : Nat} (ha3 : zA5 x3) (x6 : Int32) : ∀ (k : Nat) (s : zs) (x4 : Int32) (x5 : Int32) (x7 : Int32) (e : Int32 × Int32), f_X5_spread_24 k s u x1 x2 x3 x6 x4 x5 x7 = some e → (AV G M_X5_spread 1 sl P 115 [some (.ref u), some (.int x1), some (.ref x2), some (.ref x3), some (.int e.1), some (.int e.2), some (.int x6), none, none] [] (zT s R)) → AV G M_X5_spread 1 sl P 24 [some (.ref u), some (.int x1), some (.ref x2), some (.ref x3), some (.int x4), some (.int x5), some (.int x6), some (.int x7), none] [] (zT s R) := by
  intro k
  induction k with
  | zero =>
    intro s x4 x5 x7 e H
    unfold f_X5_spread_24 at H
    cases H
  | succ k ih =>
    intro s x4 x5 x7 e H KE
    unfold f_X5_spread_24 at H
    refine aw_iload (q := 26) dX5_spread_24 rfl rfl ?_
    refine aw_aload_n (q := 27) dX5_spread_26 rfl rfl ?_
    refine aw_getr (q := 30) dX5_spread_27 rfl e_X5_18 (zU_lt (k := 0) hu (by decide)) (o_X5 hu s R) rfl ?_
    refine aw_getr (q := 33) dX5_spread_30 rfl e_X5_75 (zB_lt0 zB64) (o_X0 zB64 s R) rfl ?_
    refine aw_icmp_ge (q := 36) (t := 115) dX5_spread_33 rfl (by decide) (fun h1 => ?_) (fun h1 => ?_)
    · replace H := zt h1 H
      cases H
      exact aw_fewer (L' := [some (.ref u), some (.int x1), some (.ref x2), some (.ref x3), some (.int x4), some (.int x5), some (.int x6), none, none]) ⟨rfl, ⟨rfl, ⟨rfl, ⟨rfl, ⟨rfl, ⟨rfl, ⟨rfl, trivial⟩⟩⟩⟩⟩⟩⟩ KE
    · replace H := zf h1 H
      refine aw_iload_n (q := 37) dX5_spread_36 rfl rfl ?_
      refine aw_aload_n (q := 38) dX5_spread_37 rfl rfl ?_
      refine aw_iload (q := 40) dX5_spread_38 rfl rfl ?_
      obtain ⟨h2, H⟩ := zio H
      refine aw_iald' (q := 41) (v := s.1 x2 x7.toNatClampNeg) dX5_spread_40 rfl ha2.1 (ha2.2 s R) (zin_in h2) rfl ?_
      refine aw_csN (M' := M_X6_hasBit) (as := [.int x1, .int (s.1 x2 x7.toNatClampNeg)]) (q := 44) dX5_spread_41 rfl W_X6_hasBit (show (RX5, 78, yX6_hasBit) ∈ zNl by decide) s_X6_hasBit rfl rfl (by decide) (Nat.le_of_ble_eq_true rfl) (c_X6_hasBit (zT s R) x1 (s.1 x2 x7.toNatClampNeg)) (Nat.le_refl _) (Nat.le_refl _) ?_
      rintro r9 h9 ⟨rfl, rfl⟩
      refine aw_ifneB (q := 47) (t := 62) dX5_spread_44 rfl (by decide) (fun h3 => ?_) (fun h3 => ?_)
      · replace H := zt h3 H
        refine aw_iconst (q := 63) (v := 1) dX5_spread_62 rfl (by decide) ?_
        refine aw_goto (q := 67) dX5_spread_63 (by decide) ?_
        refine aw_istore (q := 69) (L' := [some (.ref u), some (.int x1), some (.ref x2), some (.ref x3), some (.int x4), some (.int x5), some (.int x6), some (.int x7), some (.int 1)]) dX5_spread_67 rfl (by decide) rfl rfl ?_
        refine aw_iload (q := 71) dX5_spread_69 rfl rfl ?_
        refine aw_if_eq (q := 74) (t := 109) dX5_spread_71 rfl (by decide) (fun z => absurd z (by decide)) (fun _ => ?_)
        refine aw_aload_n (q := 75) dX5_spread_74 rfl rfl ?_
        refine aw_getr (q := 78) dX5_spread_75 rfl e_X5_44 (zU_lt (k := 0) hu (by decide)) (o_X5 hu s R) rfl ?_
        refine aw_iload (q := 80) dX5_spread_78 rfl rfl ?_
        refine aw_csN (M' := M_X6_hasBit) (as := [.int (s.1 u 5), .int x7]) (q := 83) dX5_spread_80 rfl W_X6_hasBit (show (RX5, 78, yX6_hasBit) ∈ zNl by decide) s_X6_hasBit rfl rfl (by decide) (Nat.le_of_ble_eq_true rfl) (c_X6_hasBit (zT s R) (s.1 u 5) x7) (Nat.le_refl _) (Nat.le_refl _) ?_
        rintro r9 h9 ⟨rfl, rfl⟩
        refine aw_ifneB (q := 86) (t := 109) dX5_spread_83 rfl (by decide) (fun h4 => ?_) (fun h4 => ?_)
        · replace H := zt h4 H
          refine aw_iinc (q := 112) (v := x7 + 1) (L' := [some (.ref u), some (.int x1), some (.ref x2), some (.ref x3), some (.int x4), some (.int x5), some (.int x6), some (.int (x7 + 1)), some (.int 1)]) dX5_spread_109 rfl rfl (by first | rfl | decide) (by decide) rfl rfl ?_
          refine aw_goto (q := 24) dX5_spread_112 (by decide) ?_
          exact aw_fewer (L' := [some (.ref u), some (.int x1), some (.ref x2), some (.ref x3), some (.int x4), some (.int x5), some (.int x6), some (.int (x7 + 1)), none]) ⟨rfl, ⟨rfl, ⟨rfl, ⟨rfl, ⟨rfl, ⟨rfl, ⟨rfl, ⟨rfl, trivial⟩⟩⟩⟩⟩⟩⟩⟩ (ih s x4 x5 (x7 + 1) _ H KE)
        · replace H := zf h4 H
          refine aw_iload (q := 88) dX5_spread_86 rfl rfl ?_
          refine aw_iconst (q := 89) (v := 1) dX5_spread_88 rfl (by decide) ?_
          refine aw_iload (q := 91) dX5_spread_89 rfl rfl ?_
          refine aw_ishl (q := 92) dX5_spread_91 rfl ?_
          refine aw_ior (q := 93) dX5_spread_92 rfl ?_
          obtain ⟨y5, q6, H⟩ := zltd H
          refine aw_nm q6 ?_
          refine aw_istore (q := 95) (L' := [some (.ref u), some (.int x1), some (.ref x2), some (.ref x3), some (.int y5), some (.int x5), some (.int x6), some (.int x7), some (.int 1)]) dX5_spread_93 rfl (by decide) rfl rfl ?_
          refine aw_iload (q := 97) dX5_spread_95 rfl rfl ?_
          refine aw_aload_n (q := 98) dX5_spread_97 rfl rfl ?_
          refine aw_getr (q := 101) dX5_spread_98 rfl e_X5_9 (zU_lt (k := 0) hu (by decide)) (o_X5 hu s R) rfl ?_
          refine aw_aload_n (q := 102) dX5_spread_101 rfl rfl ?_
          refine aw_iload (q := 104) dX5_spread_102 rfl rfl ?_
          refine aw_iald' (q := 105) (v := s.1 x3 x7.toNatClampNeg) dX5_spread_104 rfl ha3.1 (ha3.2 s R) (zin_in h2) rfl ?_
          obtain ⟨h7, H⟩ := zio H
          refine aw_iald' (q := 106) (v := s.1 (u + 1) ((s.1 x3 x7.toNatClampNeg).toNatClampNeg)) dX5_spread_105 rfl (zU_lt (k := 1) hu (by decide)) (o_X5a2 hu s R) (zin_in h7) rfl ?_
          refine aw_ior (q := 107) dX5_spread_106 rfl ?_
          obtain ⟨y8, q9, H⟩ := zltd H
          refine aw_nm q9 ?_
          refine aw_istore (q := 109) (L' := [some (.ref u), some (.int x1), some (.ref x2), some (.ref x3), some (.int y5), some (.int y8), some (.int x6), some (.int x7), some (.int 1)]) dX5_spread_107 rfl (by decide) rfl rfl ?_
          refine aw_iinc (q := 112) (v := x7 + 1) (L' := [some (.ref u), some (.int x1), some (.ref x2), some (.ref x3), some (.int y5), some (.int y8), some (.int x6), some (.int (x7 + 1)), some (.int 1)]) dX5_spread_109 rfl rfl (by first | rfl | decide) (by decide) rfl rfl ?_
          refine aw_goto (q := 24) dX5_spread_112 (by decide) ?_
          exact aw_fewer (L' := [some (.ref u), some (.int x1), some (.ref x2), some (.ref x3), some (.int y5), some (.int y8), some (.int x6), some (.int (x7 + 1)), none]) ⟨rfl, ⟨rfl, ⟨rfl, ⟨rfl, ⟨rfl, ⟨rfl, ⟨rfl, ⟨rfl, trivial⟩⟩⟩⟩⟩⟩⟩⟩ (ih s y5 y8 (x7 + 1) _ H KE)
      · replace H := zf h3 H
        refine aw_aload_n (q := 48) dX5_spread_47 rfl rfl ?_
        refine aw_getr (q := 51) dX5_spread_48 rfl e_X5_9 (zU_lt (k := 0) hu (by decide)) (o_X5 hu s R) rfl ?_
        refine aw_aload_n (q := 52) dX5_spread_51 rfl rfl ?_
        refine aw_iload (q := 54) dX5_spread_52 rfl rfl ?_
        refine aw_iald' (q := 55) (v := s.1 x2 x7.toNatClampNeg) dX5_spread_54 rfl ha2.1 (ha2.2 s R) (zin_in h2) rfl ?_
        obtain ⟨h10, H⟩ := zio H
        refine aw_iald' (q := 56) (v := s.1 (u + 1) ((s.1 x2 x7.toNatClampNeg).toNatClampNeg)) dX5_spread_55 rfl (zU_lt (k := 1) hu (by decide)) (o_X5a2 hu s R) (zin_in h10) rfl ?_
        refine aw_iload (q := 58) dX5_spread_56 rfl rfl ?_
        refine aw_iand (q := 59) dX5_spread_58 rfl ?_
        refine aw_if_eq (q := 62) (t := 66) dX5_spread_59 rfl (by decide) (fun h11 => ?_) (fun h11 => ?_)
        · replace H := zt h11 H
          refine aw_iconst (q := 67) (v := 0) dX5_spread_66 rfl (by decide) ?_
          refine aw_istore (q := 69) (L' := [some (.ref u), some (.int x1), some (.ref x2), some (.ref x3), some (.int x4), some (.int x5), some (.int x6), some (.int x7), some (.int 0)]) dX5_spread_67 rfl (by decide) rfl rfl ?_
          refine aw_iload (q := 71) dX5_spread_69 rfl rfl ?_
          refine aw_if_eq (q := 74) (t := 109) dX5_spread_71 rfl (by decide) (fun _ => ?_) (fun z => absurd (by decide) z)
          refine aw_iinc (q := 112) (v := x7 + 1) (L' := [some (.ref u), some (.int x1), some (.ref x2), some (.ref x3), some (.int x4), some (.int x5), some (.int x6), some (.int (x7 + 1)), some (.int 0)]) dX5_spread_109 rfl rfl (by first | rfl | decide) (by decide) rfl rfl ?_
          refine aw_goto (q := 24) dX5_spread_112 (by decide) ?_
          exact aw_fewer (L' := [some (.ref u), some (.int x1), some (.ref x2), some (.ref x3), some (.int x4), some (.int x5), some (.int x6), some (.int (x7 + 1)), none]) ⟨rfl, ⟨rfl, ⟨rfl, ⟨rfl, ⟨rfl, ⟨rfl, ⟨rfl, ⟨rfl, trivial⟩⟩⟩⟩⟩⟩⟩⟩ (ih s x4 x5 (x7 + 1) _ H KE)
        · replace H := zf h11 H
          refine aw_iconst (q := 63) (v := 1) dX5_spread_62 rfl (by decide) ?_
          refine aw_goto (q := 67) dX5_spread_63 (by decide) ?_
          refine aw_istore (q := 69) (L' := [some (.ref u), some (.int x1), some (.ref x2), some (.ref x3), some (.int x4), some (.int x5), some (.int x6), some (.int x7), some (.int 1)]) dX5_spread_67 rfl (by decide) rfl rfl ?_
          refine aw_iload (q := 71) dX5_spread_69 rfl rfl ?_
          refine aw_if_eq (q := 74) (t := 109) dX5_spread_71 rfl (by decide) (fun z => absurd z (by decide)) (fun _ => ?_)
          refine aw_aload_n (q := 75) dX5_spread_74 rfl rfl ?_
          refine aw_getr (q := 78) dX5_spread_75 rfl e_X5_44 (zU_lt (k := 0) hu (by decide)) (o_X5 hu s R) rfl ?_
          refine aw_iload (q := 80) dX5_spread_78 rfl rfl ?_
          refine aw_csN (M' := M_X6_hasBit) (as := [.int (s.1 u 5), .int x7]) (q := 83) dX5_spread_80 rfl W_X6_hasBit (show (RX5, 78, yX6_hasBit) ∈ zNl by decide) s_X6_hasBit rfl rfl (by decide) (Nat.le_of_ble_eq_true rfl) (c_X6_hasBit (zT s R) (s.1 u 5) x7) (Nat.le_refl _) (Nat.le_refl _) ?_
          rintro r9 h9 ⟨rfl, rfl⟩
          refine aw_ifneB (q := 86) (t := 109) dX5_spread_83 rfl (by decide) (fun h12 => ?_) (fun h12 => ?_)
          · replace H := zt h12 H
            refine aw_iinc (q := 112) (v := x7 + 1) (L' := [some (.ref u), some (.int x1), some (.ref x2), some (.ref x3), some (.int x4), some (.int x5), some (.int x6), some (.int (x7 + 1)), some (.int 1)]) dX5_spread_109 rfl rfl (by first | rfl | decide) (by decide) rfl rfl ?_
            refine aw_goto (q := 24) dX5_spread_112 (by decide) ?_
            exact aw_fewer (L' := [some (.ref u), some (.int x1), some (.ref x2), some (.ref x3), some (.int x4), some (.int x5), some (.int x6), some (.int (x7 + 1)), none]) ⟨rfl, ⟨rfl, ⟨rfl, ⟨rfl, ⟨rfl, ⟨rfl, ⟨rfl, ⟨rfl, trivial⟩⟩⟩⟩⟩⟩⟩⟩ (ih s x4 x5 (x7 + 1) _ H KE)
          · replace H := zf h12 H
            refine aw_iload (q := 88) dX5_spread_86 rfl rfl ?_
            refine aw_iconst (q := 89) (v := 1) dX5_spread_88 rfl (by decide) ?_
            refine aw_iload (q := 91) dX5_spread_89 rfl rfl ?_
            refine aw_ishl (q := 92) dX5_spread_91 rfl ?_
            refine aw_ior (q := 93) dX5_spread_92 rfl ?_
            obtain ⟨y13, q14, H⟩ := zltd H
            refine aw_nm q14 ?_
            refine aw_istore (q := 95) (L' := [some (.ref u), some (.int x1), some (.ref x2), some (.ref x3), some (.int y13), some (.int x5), some (.int x6), some (.int x7), some (.int 1)]) dX5_spread_93 rfl (by decide) rfl rfl ?_
            refine aw_iload (q := 97) dX5_spread_95 rfl rfl ?_
            refine aw_aload_n (q := 98) dX5_spread_97 rfl rfl ?_
            refine aw_getr (q := 101) dX5_spread_98 rfl e_X5_9 (zU_lt (k := 0) hu (by decide)) (o_X5 hu s R) rfl ?_
            refine aw_aload_n (q := 102) dX5_spread_101 rfl rfl ?_
            refine aw_iload (q := 104) dX5_spread_102 rfl rfl ?_
            refine aw_iald' (q := 105) (v := s.1 x3 x7.toNatClampNeg) dX5_spread_104 rfl ha3.1 (ha3.2 s R) (zin_in h2) rfl ?_
            obtain ⟨h15, H⟩ := zio H
            refine aw_iald' (q := 106) (v := s.1 (u + 1) ((s.1 x3 x7.toNatClampNeg).toNatClampNeg)) dX5_spread_105 rfl (zU_lt (k := 1) hu (by decide)) (o_X5a2 hu s R) (zin_in h15) rfl ?_
            refine aw_ior (q := 107) dX5_spread_106 rfl ?_
            obtain ⟨y16, q17, H⟩ := zltd H
            refine aw_nm q17 ?_
            refine aw_istore (q := 109) (L' := [some (.ref u), some (.int x1), some (.ref x2), some (.ref x3), some (.int y13), some (.int y16), some (.int x6), some (.int x7), some (.int 1)]) dX5_spread_107 rfl (by decide) rfl rfl ?_
            refine aw_iinc (q := 112) (v := x7 + 1) (L' := [some (.ref u), some (.int x1), some (.ref x2), some (.ref x3), some (.int y13), some (.int y16), some (.int x6), some (.int (x7 + 1)), some (.int 1)]) dX5_spread_109 rfl rfl (by first | rfl | decide) (by decide) rfl rfl ?_
            refine aw_goto (q := 24) dX5_spread_112 (by decide) ?_
            exact aw_fewer (L' := [some (.ref u), some (.int x1), some (.ref x2), some (.ref x3), some (.int y13), some (.int y16), some (.int x6), some (.int (x7 + 1)), none]) ⟨rfl, ⟨rfl, ⟨rfl, ⟨rfl, ⟨rfl, ⟨rfl, ⟨rfl, ⟨rfl, trivial⟩⟩⟩⟩⟩⟩⟩⟩ (ih s y13 y16 (x7 + 1) _ H KE)
def f_X5_spread_9 : Nat → zs → Nat → Int32 → Nat → Nat → Int32 → Int32 → Int32 → Option (Int32)
  | 0, _, _, _, _, _, _, _, _ => none
  | k + 1, s, u, x1, x2, x3, x4, x5, x6 =>
    if (s.1 64 10) ≤ x6 then (
      some x4
    ) else (
      Option.bind (f_X5_spread_24 zFu s u x1 x2 x3 x6 x4 x5 0) fun e2 =>
      f_X5_spread_9 k s u x1 x2 x3 e2.1 e2.2 (x6 + 1)
    )
set_option maxHeartbeats 4000000 in
set_option maxRecDepth 100000 in
theorem L_X5_spread_9 {G : zG} {sl : Nat} {P : Option Value → zH → Prop} (R : zr) {u : Nat} (hu : zU u) (x1 : Int32) {x2 : Nat} (ha2 : zA5 x2) {x3 : Nat} (ha3 : zA5 x3) : ∀ (k : Nat) (s : zs) (x4 : Int32) (x5 : Int32) (x6 : Int32) (e : Int32), f_X5_spread_9 k s u x1 x2 x3 x4 x5 x6 = some e → (AV G M_X5_spread 1 sl P 121 [none, none, none, none, some (.int e), none, none, none, none] [] (zT s R)) → AV G M_X5_spread 1 sl P 9 [some (.ref u), some (.int x1), some (.ref x2), some (.ref x3), some (.int x4), some (.int x5), some (.int x6), none, none] [] (zT s R) := by
  intro k
  induction k with
  | zero =>
    intro s x4 x5 x6 e H
    unfold f_X5_spread_9 at H
    cases H
  | succ k ih =>
    intro s x4 x5 x6 e H KE
    unfold f_X5_spread_9 at H
    refine aw_iload (q := 11) dX5_spread_9 rfl rfl ?_
    refine aw_aload_n (q := 12) dX5_spread_11 rfl rfl ?_
    refine aw_getr (q := 15) dX5_spread_12 rfl e_X5_18 (zU_lt (k := 0) hu (by decide)) (o_X5 hu s R) rfl ?_
    refine aw_getr (q := 18) dX5_spread_15 rfl e_X5_75 (zB_lt0 zB64) (o_X0 zB64 s R) rfl ?_
    refine aw_icmp_ge (q := 21) (t := 121) dX5_spread_18 rfl (by decide) (fun h1 => ?_) (fun h1 => ?_)
    · replace H := zt h1 H
      cases H
      exact aw_fewer (L' := [none, none, none, none, some (.int x4), none, none, none, none]) ⟨rfl, trivial⟩ KE
    · replace H := zf h1 H
      refine aw_iconst (q := 22) (v := 0) dX5_spread_21 rfl (by decide) ?_
      refine aw_istore (q := 24) (L' := [some (.ref u), some (.int x1), some (.ref x2), some (.ref x3), some (.int x4), some (.int x5), some (.int x6), some (.int 0), none]) dX5_spread_22 rfl (by decide) rfl rfl ?_
      obtain ⟨e2, he2, H⟩ := zbd H
      refine aw_fewer (L' := [some (.ref u), some (.int x1), some (.ref x2), some (.ref x3), some (.int x4), some (.int x5), some (.int x6), some (.int 0), none]) ⟨rfl, ⟨rfl, ⟨rfl, ⟨rfl, ⟨rfl, ⟨rfl, ⟨rfl, ⟨rfl, trivial⟩⟩⟩⟩⟩⟩⟩⟩ ?_
      refine L_X5_spread_24 R hu x1 ha2 ha3 x6 zFu s x4 x5 0 e2 he2 ?_
      refine aw_iinc (q := 118) (v := x6 + 1) (L' := [some (.ref u), some (.int x1), some (.ref x2), some (.ref x3), some (.int e2.1), some (.int e2.2), some (.int (x6 + 1)), none, none]) dX5_spread_115 rfl rfl (by first | rfl | decide) (by decide) rfl rfl ?_
      refine aw_goto (q := 9) dX5_spread_118 (by decide) ?_
      exact aw_fewer (L' := [some (.ref u), some (.int x1), some (.ref x2), some (.ref x3), some (.int e2.1), some (.int e2.2), some (.int (x6 + 1)), none, none]) ⟨rfl, ⟨rfl, ⟨rfl, ⟨rfl, ⟨rfl, ⟨rfl, ⟨rfl, trivial⟩⟩⟩⟩⟩⟩⟩ (ih s e2.1 e2.2 (x6 + 1) _ H KE)
def f_X5_spread (s : zs) (u : Nat) (x1 : Int32) (x2 : Nat) (x3 : Nat) : Option Int32 :=
  Option.bind (f_X5_spread_9 zFu s u x1 x2 x3 0 0 0) fun e1 =>
  some e1
set_option maxHeartbeats 4000000 in
set_option maxRecDepth 100000 in
theorem c_X5_spread {G : zG} {sl : Nat} (s : zs) (R : zr) {u : Nat} (hu : zU u) {x3 : Nat} {x2 : Nat} (x1 : Int32) (ha2 : zA5 x2) (ha3 : zA5 x3) {v9 : Int32} (H : f_X5_spread s u x1 x2 x3 = some v9) : zMv G 1 M_X5_spread [.ref u, .int x1, .ref x2, .ref x3] sl (zT s R) (fun r h' => r = some (.int v9) ∧ h' = (zT s R)) := by
  unfold f_X5_spread at H
  refine zMv_of (L := [some (.ref u), some (.int x1), some (.ref x2), some (.ref x3), none, none, none, none, none]) (by decide) rfl (Nat.le_of_ble_eq_true rfl) rfl ?_
  refine aw_iconst (q := 1) (v := 0) dX5_spread_0 rfl (by decide) ?_
  refine aw_istore (q := 3) (L' := [some (.ref u), some (.int x1), some (.ref x2), some (.ref x3), some (.int 0), none, none, none, none]) dX5_spread_1 rfl (by decide) rfl rfl ?_
  refine aw_iconst (q := 4) (v := 0) dX5_spread_3 rfl (by decide) ?_
  refine aw_istore (q := 6) (L' := [some (.ref u), some (.int x1), some (.ref x2), some (.ref x3), some (.int 0), some (.int 0), none, none, none]) dX5_spread_4 rfl (by decide) rfl rfl ?_
  refine aw_iconst (q := 7) (v := 0) dX5_spread_6 rfl (by decide) ?_
  refine aw_istore (q := 9) (L' := [some (.ref u), some (.int x1), some (.ref x2), some (.ref x3), some (.int 0), some (.int 0), some (.int 0), none, none]) dX5_spread_7 rfl (by decide) rfl rfl ?_
  obtain ⟨e1, he1, H⟩ := zbd H
  refine aw_fewer (L' := [some (.ref u), some (.int x1), some (.ref x2), some (.ref x3), some (.int 0), some (.int 0), some (.int 0), none, none]) ⟨rfl, ⟨rfl, ⟨rfl, ⟨rfl, ⟨rfl, ⟨rfl, ⟨rfl, trivial⟩⟩⟩⟩⟩⟩⟩ ?_
  refine L_X5_spread_9 R hu x1 ha2 ha3 zFu s 0 0 0 e1 he1 ?_
  refine aw_iload (q := 123) dX5_spread_121 rfl rfl ?_
  cases H
  exact aw_ret dX5_spread_123 rfl rfl rfl rfl ⟨rfl, rfl⟩
def f_X5_scannedChips (s : zs) (u : Nat) (x1 : Int32) : Option Int32 :=
  Option.bind (f_X5_spread s u x1 (64 + 3) (64 + 4)) fun v1 =>
  Option.bind (f_X5_spread s u x1 (64 + 4) (64 + 3)) fun v2 =>
  some (v1 &&& v2)
set_option maxHeartbeats 4000000 in
set_option maxRecDepth 100000 in
theorem c_X5_scannedChips {G : zG} {sl : Nat} (s : zs) (R : zr) {u : Nat} (hu : zU u) (x1 : Int32) {v9 : Int32} (H : f_X5_scannedChips s u x1 = some v9) : zMv G 2 M_X5_scannedChips [.ref u, .int x1] sl (zT s R) (fun r h' => r = some (.int v9) ∧ h' = (zT s R)) := by
  unfold f_X5_scannedChips at H
  refine zMv_of (L := [some (.ref u), some (.int x1), none, none]) (by decide) rfl (Nat.le_of_ble_eq_true rfl) rfl ?_
  refine aw_aload_n (q := 1) dX5_scannedChips_0 rfl rfl ?_
  refine aw_iload_n (q := 2) dX5_scannedChips_1 rfl rfl ?_
  refine aw_aload_n (q := 3) dX5_scannedChips_2 rfl rfl ?_
  refine aw_getr (q := 6) dX5_scannedChips_3 rfl e_X5_18 (zU_lt (k := 0) hu (by decide)) (o_X5 hu s R) rfl ?_
  refine aw_getr (q := 9) dX5_scannedChips_6 rfl e_X5_65 (zB_lt0 zB64) (o_X0 zB64 s R) rfl ?_
  refine aw_aload_n (q := 10) dX5_scannedChips_9 rfl rfl ?_
  refine aw_getr (q := 13) dX5_scannedChips_10 rfl e_X5_18 (zU_lt (k := 0) hu (by decide)) (o_X5 hu s R) rfl ?_
  refine aw_getr (q := 16) dX5_scannedChips_13 rfl e_X5_68 (zB_lt0 zB64) (o_X0 zB64 s R) rfl ?_
  obtain ⟨v1, hv1, H⟩ := zbd H
  refine aw_cv (M' := M_X5_spread) (as := [.int x1, .ref (64 + 3), .ref (64 + 4)]) (q := 19) dX5_scannedChips_16 rfl W_X5_spread k_X5_71 i_X5_spread v_X5_spread (zU_lt (k := 0) hu (by decide)) (o_X5 hu s R) rfl rfl rfl (by decide) (Nat.le_of_ble_eq_true rfl) (c_X5_spread s R hu x1 ⟨(zB_lt (k := 3) zB64 (by decide)), o_X0a2 zB64⟩ ⟨(zB_lt (k := 4) zB64 (by decide)), o_X0a3 zB64⟩ hv1) (Nat.le_refl _) (Nat.le_refl _) ?_
  rintro r9 h9 ⟨rfl, rfl⟩
  refine aw_istore_n (q := 20) (L' := [some (.ref u), some (.int x1), some (.int v1), none]) dX5_scannedChips_19 rfl (by decide) rfl rfl ?_
  refine aw_aload_n (q := 21) dX5_scannedChips_20 rfl rfl ?_
  refine aw_iload_n (q := 22) dX5_scannedChips_21 rfl rfl ?_
  refine aw_aload_n (q := 23) dX5_scannedChips_22 rfl rfl ?_
  refine aw_getr (q := 26) dX5_scannedChips_23 rfl e_X5_18 (zU_lt (k := 0) hu (by decide)) (o_X5 hu s R) rfl ?_
  refine aw_getr (q := 29) dX5_scannedChips_26 rfl e_X5_68 (zB_lt0 zB64) (o_X0 zB64 s R) rfl ?_
  refine aw_aload_n (q := 30) dX5_scannedChips_29 rfl rfl ?_
  refine aw_getr (q := 33) dX5_scannedChips_30 rfl e_X5_18 (zU_lt (k := 0) hu (by decide)) (o_X5 hu s R) rfl ?_
  refine aw_getr (q := 36) dX5_scannedChips_33 rfl e_X5_65 (zB_lt0 zB64) (o_X0 zB64 s R) rfl ?_
  obtain ⟨v2, hv2, H⟩ := zbd H
  refine aw_cv (M' := M_X5_spread) (as := [.int x1, .ref (64 + 4), .ref (64 + 3)]) (q := 39) dX5_scannedChips_36 rfl W_X5_spread k_X5_71 i_X5_spread v_X5_spread (zU_lt (k := 0) hu (by decide)) (o_X5 hu s R) rfl rfl rfl (by decide) (Nat.le_of_ble_eq_true rfl) (c_X5_spread s R hu x1 ⟨(zB_lt (k := 4) zB64 (by decide)), o_X0a3 zB64⟩ ⟨(zB_lt (k := 3) zB64 (by decide)), o_X0a2 zB64⟩ hv2) (Nat.le_refl _) (Nat.le_refl _) ?_
  rintro r9 h9 ⟨rfl, rfl⟩
  refine aw_istore_n (q := 40) (L' := [some (.ref u), some (.int x1), some (.int v1), some (.int v2)]) dX5_scannedChips_39 rfl (by decide) rfl rfl ?_
  refine aw_iload_n (q := 41) dX5_scannedChips_40 rfl rfl ?_
  refine aw_iload_n (q := 42) dX5_scannedChips_41 rfl rfl ?_
  refine aw_iand (q := 43) dX5_scannedChips_42 rfl ?_
  cases H
  exact aw_ret dX5_scannedChips_43 rfl rfl rfl rfl ⟨rfl, rfl⟩
def f_X5_probe_13 : Nat → zs → Nat → Int32 → Int32 → Option (zs)
  | 0, _, _, _, _ => none
  | k + 1, s, u, x2, x3 =>
    if (s.1 64 10) ≤ x3 then (
      some s
    ) else (
      if f_X6_hasBit x2 x3 = true then (
        if zin x3 5 = true then
        zlt (zc s u 6 ((s.1 u 6) ||| (s.1 (64 + 5) x3.toNatClampNeg))) fun s4 =>
        f_X5_probe_13 k s4 u x2 (x3 + 1)
        else none
      ) else (
        f_X5_probe_13 k s u x2 (x3 + 1)
      )
    )
set_option maxHeartbeats 4000000 in
set_option maxRecDepth 100000 in
theorem L_X5_probe_13 {G : zG} {sl : Nat} {P : Option Value → zH → Prop} (R : zr) {u : Nat} (hu : zU u) (x2 : Int32) : ∀ (k : Nat) (s : zs) (x3 : Int32) (e : zs), f_X5_probe_13 k s u x2 x3 = some e → (AV G M_X5_probe 3 sl P 56 [none, none, none, none] [] (zT e R)) → AV G M_X5_probe 3 sl P 13 [some (.ref u), none, some (.int x2), some (.int x3)] [] (zT s R) := by
  intro k
  induction k with
  | zero =>
    intro s x3 e H
    unfold f_X5_probe_13 at H
    cases H
  | succ k ih =>
    intro s x3 e H KE
    unfold f_X5_probe_13 at H
    refine aw_iload_n (q := 14) dX5_probe_13 rfl rfl ?_
    refine aw_aload_n (q := 15) dX5_probe_14 rfl rfl ?_
    refine aw_getr (q := 18) dX5_probe_15 rfl e_X5_18 (zU_lt (k := 0) hu (by decide)) (o_X5 hu s R) rfl ?_
    refine aw_getr (q := 21) dX5_probe_18 rfl e_X5_75 (zB_lt0 zB64) (o_X0 zB64 s R) rfl ?_
    refine aw_icmp_ge (q := 24) (t := 56) dX5_probe_21 rfl (by decide) (fun h1 => ?_) (fun h1 => ?_)
    · replace H := zt h1 H
      cases H
      exact aw_fewer (L' := [none, none, none, none]) trivial KE
    · replace H := zf h1 H
      refine aw_iload_n (q := 25) dX5_probe_24 rfl rfl ?_
      refine aw_iload_n (q := 26) dX5_probe_25 rfl rfl ?_
      refine aw_csN (M' := M_X6_hasBit) (as := [.int x2, .int x3]) (q := 29) dX5_probe_26 rfl W_X6_hasBit (show (RX5, 78, yX6_hasBit) ∈ zNl by decide) s_X6_hasBit rfl rfl (by decide) (Nat.le_of_ble_eq_true rfl) (c_X6_hasBit (zT s R) x2 x3) (Nat.le_refl _) (Nat.le_refl _) ?_
      rintro r9 h9 ⟨rfl, rfl⟩
      refine aw_ifeqB (q := 32) (t := 50) dX5_probe_29 rfl (by decide) (fun h2 => ?_) (fun h2 => ?_)
      · replace H := zt h2 H
        refine aw_aload_n (q := 33) dX5_probe_32 rfl rfl ?_
        refine aw_dup (q := 34) dX5_probe_33 rfl rfl ?_
        refine aw_getr (q := 37) dX5_probe_34 rfl e_X5_85 (zU_lt (k := 0) hu (by decide)) (o_X5 hu s R) rfl ?_
        refine aw_aload_n (q := 38) dX5_probe_37 rfl rfl ?_
        refine aw_getr (q := 41) dX5_probe_38 rfl e_X5_18 (zU_lt (k := 0) hu (by decide)) (o_X5 hu s R) rfl ?_
        refine aw_getr (q := 44) dX5_probe_41 rfl e_X5_88 (zB_lt0 zB64) (o_X0 zB64 s R) rfl ?_
        refine aw_iload_n (q := 45) dX5_probe_44 rfl rfl ?_
        obtain ⟨h3, H⟩ := zio H
        refine aw_iald' (q := 46) (v := s.1 (64 + 5) x3.toNatClampNeg) dX5_probe_45 rfl (zB_lt (k := 5) zB64 (by decide)) (o_X0a4 zB64 s R) (zin_in h3) rfl ?_
        refine aw_ior (q := 47) dX5_probe_46 rfl ?_
        obtain ⟨s4, q5, H⟩ := zltd H
        refine aw_put (q := 50) dX5_probe_47 rfl f_X5_85 (zU_lt (k := 0) hu (by decide)) (o_X5 hu s R) rfl rfl (Nat.le_of_ble_eq_true rfl) ((p_X5_6 hu).trans (congrArg (fun z => zT z R) q5.symm)) ?_
        refine aw_iinc (q := 53) (v := x3 + 1) (L' := [some (.ref u), none, some (.int x2), some (.int (x3 + 1))]) dX5_probe_50 rfl rfl (by first | rfl | decide) (by decide) rfl rfl ?_
        refine aw_goto (q := 13) dX5_probe_53 (by decide) ?_
        exact aw_fewer (L' := [some (.ref u), none, some (.int x2), some (.int (x3 + 1))]) ⟨rfl, ⟨rfl, ⟨rfl, trivial⟩⟩⟩ (ih s4 (x3 + 1) _ H KE)
      · replace H := zf h2 H
        refine aw_iinc (q := 53) (v := x3 + 1) (L' := [some (.ref u), none, some (.int x2), some (.int (x3 + 1))]) dX5_probe_50 rfl rfl (by first | rfl | decide) (by decide) rfl rfl ?_
        refine aw_goto (q := 13) dX5_probe_53 (by decide) ?_
        exact aw_fewer (L' := [some (.ref u), none, some (.int x2), some (.int (x3 + 1))]) ⟨rfl, ⟨rfl, ⟨rfl, trivial⟩⟩⟩ (ih s (x3 + 1) _ H KE)
def f_X5_probe (s : zs) (u : Nat) (x1 : Int32) : Option zs :=
  Option.bind (f_X5_scannedChips s u x1) fun v1 =>
  zlt (zc s u 6 x1) fun s2 =>
  Option.bind (f_X5_probe_13 zFu s2 u v1 0) fun e4 =>
  some e4
set_option maxHeartbeats 4000000 in
set_option maxRecDepth 100000 in
theorem c_X5_probe {G : zG} {sl : Nat} (s : zs) (R : zr) {u : Nat} (hu : zU u) (x1 : Int32) {v9 : zs} (H : f_X5_probe s u x1 = some v9) : zMv G 3 M_X5_probe [.ref u, .int x1] sl (zT s R) (fun r h' => r = none ∧ h' = zT v9 R) := by
  unfold f_X5_probe at H
  refine zMv_of (L := [some (.ref u), some (.int x1), none, none]) (by decide) rfl (Nat.le_of_ble_eq_true rfl) rfl ?_
  refine aw_aload_n (q := 1) dX5_probe_0 rfl rfl ?_
  refine aw_iload_n (q := 2) dX5_probe_1 rfl rfl ?_
  obtain ⟨v1, hv1, H⟩ := zbd H
  refine aw_cv (M' := M_X5_scannedChips) (as := [.int x1]) (q := 5) dX5_probe_2 rfl W_X5_scannedChips k_X5_82 i_X5_scannedChips v_X5_scannedChips (zU_lt (k := 0) hu (by decide)) (o_X5 hu s R) rfl rfl rfl (by decide) (Nat.le_of_ble_eq_true rfl) (c_X5_scannedChips s R hu x1 hv1) (Nat.le_refl _) (Nat.le_refl _) ?_
  rintro r9 h9 ⟨rfl, rfl⟩
  refine aw_istore_n (q := 6) (L' := [some (.ref u), some (.int x1), some (.int v1), none]) dX5_probe_5 rfl (by decide) rfl rfl ?_
  refine aw_aload_n (q := 7) dX5_probe_6 rfl rfl ?_
  refine aw_iload_n (q := 8) dX5_probe_7 rfl rfl ?_
  obtain ⟨s2, q3, H⟩ := zltd H
  refine aw_put (q := 11) dX5_probe_8 rfl f_X5_85 (zU_lt (k := 0) hu (by decide)) (o_X5 hu s R) rfl rfl (Nat.le_of_ble_eq_true rfl) ((p_X5_6 hu).trans (congrArg (fun z => zT z R) q3.symm)) ?_
  refine aw_iconst (q := 12) (v := 0) dX5_probe_11 rfl (by decide) ?_
  refine aw_istore_n (q := 13) (L' := [some (.ref u), some (.int x1), some (.int v1), some (.int 0)]) dX5_probe_12 rfl (by decide) rfl rfl ?_
  obtain ⟨e4, he4, H⟩ := zbd H
  refine aw_fewer (L' := [some (.ref u), none, some (.int v1), some (.int 0)]) ⟨rfl, ⟨rfl, ⟨rfl, trivial⟩⟩⟩ ?_
  refine L_X5_probe_13 R hu v1 zFu s2 0 e4 he4 ?_
  cases H
  exact aw_vret dX5_probe_56 rfl rfl rfl ⟨rfl, rfl⟩
def f_X2_probeAll_2 : Nat → zs → Int32 → Int32 → Int32 → Option (zs)
  | 0, _, _, _, _ => none
  | k + 1, s, x1, x2, x3 =>
    if (11 : Int32) ≤ x3 then (
      some s
    ) else (
      if f_X6_hasBit x1 x3 = true then (
        if zin x3 11 = true then
        Option.bind (f_X5_probe s (87 + 3 * x3.toNatClampNeg) x2) fun v4 =>
        f_X2_probeAll_2 k v4 x1 x2 (x3 + 1)
        else none
      ) else (
        f_X2_probeAll_2 k s x1 x2 (x3 + 1)
      )
    )
set_option maxHeartbeats 4000000 in
set_option maxRecDepth 100000 in
theorem L_X2_probeAll_2 {G : zG} {sl : Nat} {P : Option Value → zH → Prop} (R : zr) (x1 : Int32) (x2 : Int32) : ∀ (k : Nat) (s : zs) (x3 : Int32) (e : zs), f_X2_probeAll_2 k s x1 x2 x3 = some e → (AV G M_X2_probeAll 4 sl P 32 [none, none, none, none] [] (zT e R)) → AV G M_X2_probeAll 4 sl P 2 [some (.ref 76), some (.int x1), some (.int x2), some (.int x3)] [] (zT s R) := by
  intro k
  induction k with
  | zero =>
    intro s x3 e H
    unfold f_X2_probeAll_2 at H
    cases H
  | succ k ih =>
    intro s x3 e H KE
    unfold f_X2_probeAll_2 at H
    refine aw_iload_n (q := 3) dX2_probeAll_2 rfl rfl ?_
    refine aw_bipush (q := 5) (v := 11) dX2_probeAll_3 rfl (by decide) ?_
    refine aw_icmp_ge (q := 8) (t := 32) dX2_probeAll_5 rfl (by decide) (fun h1 => ?_) (fun h1 => ?_)
    · replace H := zt h1 H
      cases H
      exact aw_fewer (L' := [none, none, none, none]) trivial KE
    · replace H := zf h1 H
      refine aw_iload_n (q := 9) dX2_probeAll_8 rfl rfl ?_
      refine aw_iload_n (q := 10) dX2_probeAll_9 rfl rfl ?_
      refine aw_csN (M' := M_X6_hasBit) (as := [.int x1, .int x3]) (q := 13) dX2_probeAll_10 rfl W_X6_hasBit (show (RX2, 36, yX6_hasBit) ∈ zNl by decide) s_X6_hasBit rfl rfl (by decide) (Nat.le_of_ble_eq_true rfl) (c_X6_hasBit (zT s R) x1 x3) (Nat.le_refl _) (Nat.le_refl _) ?_
      rintro r9 h9 ⟨rfl, rfl⟩
      refine aw_ifeqB (q := 16) (t := 26) dX2_probeAll_13 rfl (by decide) (fun h2 => ?_) (fun h2 => ?_)
      · replace H := zt h2 H
        refine aw_aload_n (q := 17) dX2_probeAll_16 rfl rfl ?_
        refine aw_getr (q := 20) dX2_probeAll_17 rfl e_X2_11 (by decide) (o_X2 s R) rfl ?_
        refine aw_iload_n (q := 21) dX2_probeAll_20 rfl rfl ?_
        obtain ⟨h3, H⟩ := zio H
        refine aw_aald (q := 22) (b := 87 + 3 * x3.toNatClampNeg) dX2_probeAll_21 rfl (by decide) (Or.inr (Or.inl rfl)) (o_X2a1 s R) (zin_in h3) rfl ?_
        refine aw_iload_n (q := 23) dX2_probeAll_22 rfl rfl ?_
        obtain ⟨v4, hv4, H⟩ := zbd H
        refine aw_cv (M' := M_X5_probe) (as := [.int x2]) (q := 26) dX2_probeAll_23 rfl W_X5_probe k_X2_40 i_X5_probe v_X5_probe (zU_lt (k := 0) (zU_of h3) (by decide)) (o_X5 (zU_of h3) s R) rfl rfl rfl (by decide) (Nat.le_of_ble_eq_true rfl) (c_X5_probe s R (zU_of h3) x2 hv4) (Nat.le_refl _) (Nat.le_refl _) ?_
        rintro r9 h9 ⟨rfl, rfl⟩
        refine aw_iinc (q := 29) (v := x3 + 1) (L' := [some (.ref 76), some (.int x1), some (.int x2), some (.int (x3 + 1))]) dX2_probeAll_26 rfl rfl (by first | rfl | decide) (by decide) rfl rfl ?_
        refine aw_goto (q := 2) dX2_probeAll_29 (by decide) ?_
        exact aw_fewer (L' := [some (.ref 76), some (.int x1), some (.int x2), some (.int (x3 + 1))]) ⟨rfl, ⟨rfl, ⟨rfl, ⟨rfl, trivial⟩⟩⟩⟩ (ih v4 (x3 + 1) _ H KE)
      · replace H := zf h2 H
        refine aw_iinc (q := 29) (v := x3 + 1) (L' := [some (.ref 76), some (.int x1), some (.int x2), some (.int (x3 + 1))]) dX2_probeAll_26 rfl rfl (by first | rfl | decide) (by decide) rfl rfl ?_
        refine aw_goto (q := 2) dX2_probeAll_29 (by decide) ?_
        exact aw_fewer (L' := [some (.ref 76), some (.int x1), some (.int x2), some (.int (x3 + 1))]) ⟨rfl, ⟨rfl, ⟨rfl, ⟨rfl, trivial⟩⟩⟩⟩ (ih s (x3 + 1) _ H KE)
def f_X2_probeAll (s : zs) (x1 : Int32) (x2 : Int32) : Option zs :=
  Option.bind (f_X2_probeAll_2 zFu s x1 x2 0) fun e1 =>
  some e1
set_option maxHeartbeats 4000000 in
set_option maxRecDepth 100000 in
theorem c_X2_probeAll {G : zG} {sl : Nat} (s : zs) (R : zr) (x1 : Int32) (x2 : Int32) {v9 : zs} (H : f_X2_probeAll s x1 x2 = some v9) : zMv G 4 M_X2_probeAll [.ref 76, .int x1, .int x2] sl (zT s R) (fun r h' => r = none ∧ h' = zT v9 R) := by
  unfold f_X2_probeAll at H
  refine zMv_of (L := [some (.ref 76), some (.int x1), some (.int x2), none]) (by decide) rfl (Nat.le_of_ble_eq_true rfl) rfl ?_
  refine aw_iconst (q := 1) (v := 0) dX2_probeAll_0 rfl (by decide) ?_
  refine aw_istore_n (q := 2) (L' := [some (.ref 76), some (.int x1), some (.int x2), some (.int 0)]) dX2_probeAll_1 rfl (by decide) rfl rfl ?_
  obtain ⟨e1, he1, H⟩ := zbd H
  refine aw_fewer (L' := [some (.ref 76), some (.int x1), some (.int x2), some (.int 0)]) ⟨rfl, ⟨rfl, ⟨rfl, ⟨rfl, trivial⟩⟩⟩⟩ ?_
  refine L_X2_probeAll_2 R x1 x2 zFu s 0 e1 he1 ?_
  cases H
  exact aw_vret dX2_probeAll_32 rfl rfl rfl ⟨rfl, rfl⟩
def f_X5_pinsAtOne (s : zs) (u : Nat) (x1 : Int32) (x2 : Int32) : Option Int32 :=
  if x2 = 1 then (
    if zin x1 16 = true then
    zlt ((s.1 (u + 2) x1.toNatClampNeg) ||| (s.1 u 4) : Int32) fun y3 =>
    some (y3 &&& (s.1 u 6))
    else none
  ) else (
    zlt (s.1 u 4 : Int32) fun y5 =>
    some (y5 &&& (s.1 u 6))
  )
set_option maxHeartbeats 4000000 in
set_option maxRecDepth 100000 in
theorem c_X5_pinsAtOne {G : zG} {sl : Nat} (s : zs) (R : zr) {u : Nat} (hu : zU u) (x1 : Int32) (x2 : Int32) {v9 : Int32} (H : f_X5_pinsAtOne s u x1 x2 = some v9) : zMv G 0 M_X5_pinsAtOne [.ref u, .int x1, .int x2] sl (zT s R) (fun r h' => r = some (.int v9) ∧ h' = (zT s R)) := by
  unfold f_X5_pinsAtOne at H
  refine zMv_of (L := [some (.ref u), some (.int x1), some (.int x2), none]) (by decide) rfl (Nat.le_of_ble_eq_true rfl) rfl ?_
  refine aw_iload_n (q := 1) dX5_pinsAtOne_0 rfl rfl ?_
  refine aw_iconst (q := 2) (v := 1) dX5_pinsAtOne_1 rfl (by decide) ?_
  refine aw_icmp_neP (q := 5) (t := 19) dX5_pinsAtOne_2 rfl (by decide) (fun h1 => ?_) (fun h1 => ?_)
  · replace H := zt h1 H
    refine aw_aload_n (q := 6) dX5_pinsAtOne_5 rfl rfl ?_
    refine aw_getr (q := 9) dX5_pinsAtOne_6 rfl e_X5_15 (zU_lt (k := 0) hu (by decide)) (o_X5 hu s R) rfl ?_
    refine aw_iload_n (q := 10) dX5_pinsAtOne_9 rfl rfl ?_
    obtain ⟨h2, H⟩ := zio H
    refine aw_iald' (q := 11) (v := s.1 (u + 2) x1.toNatClampNeg) dX5_pinsAtOne_10 rfl (zU_lt (k := 2) hu (by decide)) (o_X5a3 hu s R) (zin_in h2) rfl ?_
    refine aw_aload_n (q := 12) dX5_pinsAtOne_11 rfl rfl ?_
    refine aw_getr (q := 15) dX5_pinsAtOne_12 rfl e_X5_41 (zU_lt (k := 0) hu (by decide)) (o_X5 hu s R) rfl ?_
    refine aw_ior (q := 16) dX5_pinsAtOne_15 rfl ?_
    refine aw_goto (q := 23) dX5_pinsAtOne_16 (by decide) ?_
    obtain ⟨y3, q4, H⟩ := zltd H
    refine aw_nm q4 ?_
    refine aw_istore_n (q := 24) (L' := [some (.ref u), some (.int x1), some (.int x2), some (.int y3)]) dX5_pinsAtOne_23 rfl (by decide) rfl rfl ?_
    refine aw_iload_n (q := 25) dX5_pinsAtOne_24 rfl rfl ?_
    refine aw_aload_n (q := 26) dX5_pinsAtOne_25 rfl rfl ?_
    refine aw_getr (q := 29) dX5_pinsAtOne_26 rfl e_X5_85 (zU_lt (k := 0) hu (by decide)) (o_X5 hu s R) rfl ?_
    refine aw_iand (q := 30) dX5_pinsAtOne_29 rfl ?_
    cases H
    exact aw_ret dX5_pinsAtOne_30 rfl rfl rfl rfl ⟨rfl, rfl⟩
  · replace H := zf h1 H
    refine aw_aload_n (q := 20) dX5_pinsAtOne_19 rfl rfl ?_
    refine aw_getr (q := 23) dX5_pinsAtOne_20 rfl e_X5_41 (zU_lt (k := 0) hu (by decide)) (o_X5 hu s R) rfl ?_
    obtain ⟨y5, q6, H⟩ := zltd H
    refine aw_nm q6 ?_
    refine aw_istore_n (q := 24) (L' := [some (.ref u), some (.int x1), some (.int x2), some (.int y5)]) dX5_pinsAtOne_23 rfl (by decide) rfl rfl ?_
    refine aw_iload_n (q := 25) dX5_pinsAtOne_24 rfl rfl ?_
    refine aw_aload_n (q := 26) dX5_pinsAtOne_25 rfl rfl ?_
    refine aw_getr (q := 29) dX5_pinsAtOne_26 rfl e_X5_85 (zU_lt (k := 0) hu (by decide)) (o_X5 hu s R) rfl ?_
    refine aw_iand (q := 30) dX5_pinsAtOne_29 rfl ?_
    cases H
    exact aw_ret dX5_pinsAtOne_30 rfl rfl rfl rfl ⟨rfl, rfl⟩
end
section
def f_X5_sameOutcome_36 : Nat → zs → Nat → Nat → Int32 → Option ((Unit) ⊕ (Bool))
  | 0, _, _, _, _ => none
  | k + 1, s, u, x1, x2 =>
    if (16 : Int32) ≤ x2 then (
      some (Sum.inl ())
    ) else (
      if f_X6_hasBit (s.1 u 6) x2 = true then (
        Option.bind (f_X5_pinsAtOne s u x2 1) fun v3 =>
        Option.bind (f_X5_pinsAtOne s x1 x2 1) fun v4 =>
        if v3 = v4 then (
          f_X5_sameOutcome_36 k s u x1 (x2 + 1)
        ) else (
          some (Sum.inr false)
        )
      ) else (
        f_X5_sameOutcome_36 k s u x1 (x2 + 1)
      )
    )
set_option maxHeartbeats 4000000 in
set_option maxRecDepth 100000 in
theorem L_X5_sameOutcome_36 {G : zG} {sl : Nat} {P : Option Value → zH → Prop} (R : zr) {u : Nat} (hu : zU u) {x1 : Nat} (hx1 : zU x1) : ∀ (k : Nat) (s : zs) (x2 : Int32) (e : (Unit) ⊕ (Bool)), f_X5_sameOutcome_36 k s u x1 x2 = some e → (∀ x9, e = Sum.inl x9 → AV G M_X5_sameOutcome 1 sl P 76 [none, none, none] [] (zT s R)) → (∀ v9, e = Sum.inr v9 → P (some (.int (zb v9))) (zT s R)) → AV G M_X5_sameOutcome 1 sl P 36 [some (.ref u), some (.ref x1), some (.int x2)] [] (zT s R) := by
  intro k
  induction k with
  | zero =>
    intro s x2 e H
    unfold f_X5_sameOutcome_36 at H
    cases H
  | succ k ih =>
    intro s x2 e H KE KR
    unfold f_X5_sameOutcome_36 at H
    refine aw_iload_n (q := 37) dX5_sameOutcome_36 rfl rfl ?_
    refine aw_bipush (q := 39) (v := 16) dX5_sameOutcome_37 rfl (by decide) ?_
    refine aw_icmp_ge (q := 42) (t := 76) dX5_sameOutcome_39 rfl (by decide) (fun h1 => ?_) (fun h1 => ?_)
    · replace H := zt h1 H
      cases H
      exact aw_fewer (L' := [none, none, none]) trivial (KE _ rfl)
    · replace H := zf h1 H
      refine aw_aload_n (q := 43) dX5_sameOutcome_42 rfl rfl ?_
      refine aw_getr (q := 46) dX5_sameOutcome_43 rfl e_X5_85 (zU_lt (k := 0) hu (by decide)) (o_X5 hu s R) rfl ?_
      refine aw_iload_n (q := 47) dX5_sameOutcome_46 rfl rfl ?_
      refine aw_csN (M' := M_X6_hasBit) (as := [.int (s.1 u 6), .int x2]) (q := 50) dX5_sameOutcome_47 rfl W_X6_hasBit (show (RX5, 78, yX6_hasBit) ∈ zNl by decide) s_X6_hasBit rfl rfl (by decide) (Nat.le_of_ble_eq_true rfl) (c_X6_hasBit (zT s R) (s.1 u 6) x2) (Nat.le_refl _) (Nat.le_refl _) ?_
      rintro r9 h9 ⟨rfl, rfl⟩
      refine aw_ifeqB (q := 53) (t := 70) dX5_sameOutcome_50 rfl (by decide) (fun h2 => ?_) (fun h2 => ?_)
      · replace H := zt h2 H
        refine aw_aload_n (q := 54) dX5_sameOutcome_53 rfl rfl ?_
        refine aw_iload_n (q := 55) dX5_sameOutcome_54 rfl rfl ?_
        refine aw_iconst (q := 56) (v := 1) dX5_sameOutcome_55 rfl (by decide) ?_
        obtain ⟨v3, hv3, H⟩ := zbd H
        refine aw_cv (M' := M_X5_pinsAtOne) (as := [.int x2, .int 1]) (q := 59) dX5_sameOutcome_56 rfl W_X5_pinsAtOne k_X5_91 i_X5_pinsAtOne v_X5_pinsAtOne (zU_lt (k := 0) hu (by decide)) (o_X5 hu s R) rfl rfl rfl (by decide) (Nat.le_of_ble_eq_true rfl) (c_X5_pinsAtOne s R hu x2 1 hv3) (Nat.le_refl _) (Nat.le_refl _) ?_
        rintro r9 h9 ⟨rfl, rfl⟩
        refine aw_aload_n (q := 60) dX5_sameOutcome_59 rfl rfl ?_
        refine aw_iload_n (q := 61) dX5_sameOutcome_60 rfl rfl ?_
        refine aw_iconst (q := 62) (v := 1) dX5_sameOutcome_61 rfl (by decide) ?_
        obtain ⟨v4, hv4, H⟩ := zbd H
        refine aw_cv (M' := M_X5_pinsAtOne) (as := [.int x2, .int 1]) (q := 65) dX5_sameOutcome_62 rfl W_X5_pinsAtOne k_X5_91 i_X5_pinsAtOne v_X5_pinsAtOne (zU_lt (k := 0) hx1 (by decide)) (o_X5 hx1 s R) rfl rfl rfl (by decide) (Nat.le_of_ble_eq_true rfl) (c_X5_pinsAtOne s R hx1 x2 1 hv4) (Nat.le_refl _) (Nat.le_refl _) ?_
        rintro r9 h9 ⟨rfl, rfl⟩
        refine aw_icmp_eq (q := 68) (t := 70) dX5_sameOutcome_65 rfl (by decide) (fun h5 => ?_) (fun h5 => ?_)
        · replace H := zt h5 H
          refine aw_iinc (q := 73) (v := x2 + 1) (L' := [some (.ref u), some (.ref x1), some (.int (x2 + 1))]) dX5_sameOutcome_70 rfl rfl (by first | rfl | decide) (by decide) rfl rfl ?_
          refine aw_goto (q := 36) dX5_sameOutcome_73 (by decide) ?_
          exact aw_fewer (L' := [some (.ref u), some (.ref x1), some (.int (x2 + 1))]) ⟨rfl, ⟨rfl, ⟨rfl, trivial⟩⟩⟩ (ih s (x2 + 1) _ H KE KR)
        · replace H := zf h5 H
          refine aw_iconst (q := 69) (v := 0) dX5_sameOutcome_68 rfl (by decide) ?_
          cases H
          exact aw_ret dX5_sameOutcome_69 rfl rfl rfl rfl (KR _ rfl)
      · replace H := zf h2 H
        refine aw_iinc (q := 73) (v := x2 + 1) (L' := [some (.ref u), some (.ref x1), some (.int (x2 + 1))]) dX5_sameOutcome_70 rfl rfl (by first | rfl | decide) (by decide) rfl rfl ?_
        refine aw_goto (q := 36) dX5_sameOutcome_73 (by decide) ?_
        exact aw_fewer (L' := [some (.ref u), some (.ref x1), some (.int (x2 + 1))]) ⟨rfl, ⟨rfl, ⟨rfl, trivial⟩⟩⟩ (ih s (x2 + 1) _ H KE KR)
def f_X5_sameOutcome (s : zs) (u : Nat) (x1 : Nat) : Option Bool :=
  if (s.1 u 6) = (s.1 x1 6) then (
    if ((s.1 u 4) &&& (s.1 u 6)) = ((s.1 x1 4) &&& (s.1 u 6)) then (
      Option.bind (f_X5_sameOutcome_36 zFu s u x1 0) fun e3 => match e3 with
      | Sum.inr r4 => some r4
      | Sum.inl e3i =>
      some true
    ) else (
      some false
    )
  ) else (
    some false
  )
set_option maxHeartbeats 4000000 in
set_option maxRecDepth 100000 in
theorem c_X5_sameOutcome {G : zG} {sl : Nat} (s : zs) (R : zr) {u : Nat} (hu : zU u) {x1 : Nat} (hx1 : zU x1) {v9 : Bool} (H : f_X5_sameOutcome s u x1 = some v9) : zMv G 1 M_X5_sameOutcome [.ref u, .ref x1] sl (zT s R) (fun r h' => r = some (.int (zb v9)) ∧ h' = (zT s R)) := by
  unfold f_X5_sameOutcome at H
  refine zMv_of (L := [some (.ref u), some (.ref x1), none]) (by decide) rfl (Nat.le_of_ble_eq_true rfl) rfl ?_
  refine aw_aload_n (q := 1) dX5_sameOutcome_0 rfl rfl ?_
  refine aw_getr (q := 4) dX5_sameOutcome_1 rfl e_X5_85 (zU_lt (k := 0) hu (by decide)) (o_X5 hu s R) rfl ?_
  refine aw_aload_n (q := 5) dX5_sameOutcome_4 rfl rfl ?_
  refine aw_getr (q := 8) dX5_sameOutcome_5 rfl e_X5_85 (zU_lt (k := 0) hx1 (by decide)) (o_X5 hx1 s R) rfl ?_
  refine aw_icmp_neP (q := 11) (t := 32) dX5_sameOutcome_8 rfl (by decide) (fun h1 => ?_) (fun h1 => ?_)
  · replace H := zt h1 H
    refine aw_aload_n (q := 12) dX5_sameOutcome_11 rfl rfl ?_
    refine aw_getr (q := 15) dX5_sameOutcome_12 rfl e_X5_41 (zU_lt (k := 0) hu (by decide)) (o_X5 hu s R) rfl ?_
    refine aw_aload_n (q := 16) dX5_sameOutcome_15 rfl rfl ?_
    refine aw_getr (q := 19) dX5_sameOutcome_16 rfl e_X5_85 (zU_lt (k := 0) hu (by decide)) (o_X5 hu s R) rfl ?_
    refine aw_iand (q := 20) dX5_sameOutcome_19 rfl ?_
    refine aw_aload_n (q := 21) dX5_sameOutcome_20 rfl rfl ?_
    refine aw_getr (q := 24) dX5_sameOutcome_21 rfl e_X5_41 (zU_lt (k := 0) hx1 (by decide)) (o_X5 hx1 s R) rfl ?_
    refine aw_aload_n (q := 25) dX5_sameOutcome_24 rfl rfl ?_
    refine aw_getr (q := 28) dX5_sameOutcome_25 rfl e_X5_85 (zU_lt (k := 0) hu (by decide)) (o_X5 hu s R) rfl ?_
    refine aw_iand (q := 29) dX5_sameOutcome_28 rfl ?_
    refine aw_icmp_eq (q := 32) (t := 34) dX5_sameOutcome_29 rfl (by decide) (fun h2 => ?_) (fun h2 => ?_)
    · replace H := zt h2 H
      refine aw_iconst (q := 35) (v := 0) dX5_sameOutcome_34 rfl (by decide) ?_
      refine aw_istore_n (q := 36) (L' := [some (.ref u), some (.ref x1), some (.int 0)]) dX5_sameOutcome_35 rfl (by decide) rfl rfl ?_
      obtain ⟨e3, he3, H⟩ := zbd H
      refine aw_fewer (L' := [some (.ref u), some (.ref x1), some (.int 0)]) ⟨rfl, ⟨rfl, ⟨rfl, trivial⟩⟩⟩ ?_
      refine L_X5_sameOutcome_36 R hu hx1 zFu s 0 e3 he3 (fun e3i h9 => ?_) (fun r4 h9 => ?_)
      · subst h9
        replace H : _ = _ := H
        refine aw_iconst (q := 77) (v := 1) dX5_sameOutcome_76 rfl (by decide) ?_
        cases H
        exact aw_ret dX5_sameOutcome_77 rfl rfl rfl rfl ⟨rfl, rfl⟩
      · subst h9
        cases H
        exact ⟨rfl, rfl⟩
    · replace H := zf h2 H
      refine aw_iconst (q := 33) (v := 0) dX5_sameOutcome_32 rfl (by decide) ?_
      cases H
      exact aw_ret dX5_sameOutcome_33 rfl rfl rfl rfl ⟨rfl, rfl⟩
  · replace H := zf h1 H
    refine aw_iconst (q := 33) (v := 0) dX5_sameOutcome_32 rfl (by decide) ?_
    cases H
    exact aw_ret dX5_sameOutcome_33 rfl rfl rfl rfl ⟨rfl, rfl⟩
def f_X2_probedLike_5 : Nat → zs → Int32 → Int32 → Int32 → Int32 → Option (Int32)
  | 0, _, _, _, _, _ => none
  | k + 1, s, x1, x2, x3, x4 =>
    if (11 : Int32) ≤ x4 then (
      some x3
    ) else (
      if f_X6_hasBit x2 x4 = true then (
        if zin x1 11 = true then
        if zin x4 11 = true then
        Option.bind (f_X5_sameOutcome s (87 + 3 * x1.toNatClampNeg) (87 + 3 * x4.toNatClampNeg)) fun v5 =>
        if v5 = true then (
          zlt (x3 ||| ((1 : Int32) <<< (x4 &&& 31)) : Int32) fun y7 =>
          f_X2_probedLike_5 k s x1 x2 y7 (x4 + 1)
        ) else (
          f_X2_probedLike_5 k s x1 x2 x3 (x4 + 1)
        )
        else none
        else none
      ) else (
        f_X2_probedLike_5 k s x1 x2 x3 (x4 + 1)
      )
    )
set_option maxHeartbeats 4000000 in
set_option maxRecDepth 100000 in
theorem L_X2_probedLike_5 {G : zG} {sl : Nat} {P : Option Value → zH → Prop} (R : zr) (x1 : Int32) (x2 : Int32) : ∀ (k : Nat) (s : zs) (x3 : Int32) (x4 : Int32) (e : Int32), f_X2_probedLike_5 k s x1 x2 x3 x4 = some e → (AV G M_X2_probedLike 2 sl P 53 [none, none, none, some (.int e), none] [] (zT s R)) → AV G M_X2_probedLike 2 sl P 5 [some (.ref 76), some (.int x1), some (.int x2), some (.int x3), some (.int x4)] [] (zT s R) := by
  intro k
  induction k with
  | zero =>
    intro s x3 x4 e H
    unfold f_X2_probedLike_5 at H
    cases H
  | succ k ih =>
    intro s x3 x4 e H KE
    unfold f_X2_probedLike_5 at H
    refine aw_iload (q := 7) dX2_probedLike_5 rfl rfl ?_
    refine aw_bipush (q := 9) (v := 11) dX2_probedLike_7 rfl (by decide) ?_
    refine aw_icmp_ge (q := 12) (t := 53) dX2_probedLike_9 rfl (by decide) (fun h1 => ?_) (fun h1 => ?_)
    · replace H := zt h1 H
      cases H
      exact aw_fewer (L' := [none, none, none, some (.int x3), none]) ⟨rfl, trivial⟩ KE
    · replace H := zf h1 H
      refine aw_iload_n (q := 13) dX2_probedLike_12 rfl rfl ?_
      refine aw_iload (q := 15) dX2_probedLike_13 rfl rfl ?_
      refine aw_csN (M' := M_X6_hasBit) (as := [.int x2, .int x4]) (q := 18) dX2_probedLike_15 rfl W_X6_hasBit (show (RX2, 36, yX6_hasBit) ∈ zNl by decide) s_X6_hasBit rfl rfl (by decide) (Nat.le_of_ble_eq_true rfl) (c_X6_hasBit (zT s R) x2 x4) (Nat.le_refl _) (Nat.le_refl _) ?_
      rintro r9 h9 ⟨rfl, rfl⟩
      refine aw_ifeqB (q := 21) (t := 47) dX2_probedLike_18 rfl (by decide) (fun h2 => ?_) (fun h2 => ?_)
      · replace H := zt h2 H
        refine aw_aload_n (q := 22) dX2_probedLike_21 rfl rfl ?_
        refine aw_getr (q := 25) dX2_probedLike_22 rfl e_X2_11 (by decide) (o_X2 s R) rfl ?_
        refine aw_iload_n (q := 26) dX2_probedLike_25 rfl rfl ?_
        obtain ⟨h3, H⟩ := zio H
        refine aw_aald (q := 27) (b := 87 + 3 * x1.toNatClampNeg) dX2_probedLike_26 rfl (by decide) (Or.inr (Or.inl rfl)) (o_X2a1 s R) (zin_in h3) rfl ?_
        refine aw_aload_n (q := 28) dX2_probedLike_27 rfl rfl ?_
        refine aw_getr (q := 31) dX2_probedLike_28 rfl e_X2_11 (by decide) (o_X2 s R) rfl ?_
        refine aw_iload (q := 33) dX2_probedLike_31 rfl rfl ?_
        obtain ⟨h4, H⟩ := zio H
        refine aw_aald (q := 34) (b := 87 + 3 * x4.toNatClampNeg) dX2_probedLike_33 rfl (by decide) (Or.inr (Or.inl rfl)) (o_X2a1 s R) (zin_in h4) rfl ?_
        obtain ⟨v5, hv5, H⟩ := zbd H
        refine aw_cv (M' := M_X5_sameOutcome) (as := [.ref (87 + 3 * x4.toNatClampNeg)]) (q := 37) dX2_probedLike_34 rfl W_X5_sameOutcome k_X2_44 i_X5_sameOutcome v_X5_sameOutcome (zU_lt (k := 0) (zU_of h3) (by decide)) (o_X5 (zU_of h3) s R) rfl rfl rfl (by decide) (Nat.le_of_ble_eq_true rfl) (c_X5_sameOutcome s R (zU_of h3) (zU_of h4) hv5) (Nat.le_refl _) (Nat.le_refl _) ?_
        rintro r9 h9 ⟨rfl, rfl⟩
        refine aw_ifeqB (q := 40) (t := 47) dX2_probedLike_37 rfl (by decide) (fun h6 => ?_) (fun h6 => ?_)
        · replace H := zt h6 H
          refine aw_iload_n (q := 41) dX2_probedLike_40 rfl rfl ?_
          refine aw_iconst (q := 42) (v := 1) dX2_probedLike_41 rfl (by decide) ?_
          refine aw_iload (q := 44) dX2_probedLike_42 rfl rfl ?_
          refine aw_ishl (q := 45) dX2_probedLike_44 rfl ?_
          refine aw_ior (q := 46) dX2_probedLike_45 rfl ?_
          obtain ⟨y7, q8, H⟩ := zltd H
          refine aw_nm q8 ?_
          refine aw_istore_n (q := 47) (L' := [some (.ref 76), some (.int x1), some (.int x2), some (.int y7), some (.int x4)]) dX2_probedLike_46 rfl (by decide) rfl rfl ?_
          refine aw_iinc (q := 50) (v := x4 + 1) (L' := [some (.ref 76), some (.int x1), some (.int x2), some (.int y7), some (.int (x4 + 1))]) dX2_probedLike_47 rfl rfl (by first | rfl | decide) (by decide) rfl rfl ?_
          refine aw_goto (q := 5) dX2_probedLike_50 (by decide) ?_
          exact aw_fewer (L' := [some (.ref 76), some (.int x1), some (.int x2), some (.int y7), some (.int (x4 + 1))]) ⟨rfl, ⟨rfl, ⟨rfl, ⟨rfl, ⟨rfl, trivial⟩⟩⟩⟩⟩ (ih s y7 (x4 + 1) _ H KE)
        · replace H := zf h6 H
          refine aw_iinc (q := 50) (v := x4 + 1) (L' := [some (.ref 76), some (.int x1), some (.int x2), some (.int x3), some (.int (x4 + 1))]) dX2_probedLike_47 rfl rfl (by first | rfl | decide) (by decide) rfl rfl ?_
          refine aw_goto (q := 5) dX2_probedLike_50 (by decide) ?_
          exact aw_fewer (L' := [some (.ref 76), some (.int x1), some (.int x2), some (.int x3), some (.int (x4 + 1))]) ⟨rfl, ⟨rfl, ⟨rfl, ⟨rfl, ⟨rfl, trivial⟩⟩⟩⟩⟩ (ih s x3 (x4 + 1) _ H KE)
      · replace H := zf h2 H
        refine aw_iinc (q := 50) (v := x4 + 1) (L' := [some (.ref 76), some (.int x1), some (.int x2), some (.int x3), some (.int (x4 + 1))]) dX2_probedLike_47 rfl rfl (by first | rfl | decide) (by decide) rfl rfl ?_
        refine aw_goto (q := 5) dX2_probedLike_50 (by decide) ?_
        exact aw_fewer (L' := [some (.ref 76), some (.int x1), some (.int x2), some (.int x3), some (.int (x4 + 1))]) ⟨rfl, ⟨rfl, ⟨rfl, ⟨rfl, ⟨rfl, trivial⟩⟩⟩⟩⟩ (ih s x3 (x4 + 1) _ H KE)
def f_X2_probedLike (s : zs) (x1 : Int32) (x2 : Int32) : Option Int32 :=
  Option.bind (f_X2_probedLike_5 zFu s x1 x2 0 0) fun e1 =>
  some e1
set_option maxHeartbeats 4000000 in
set_option maxRecDepth 100000 in
theorem c_X2_probedLike {G : zG} {sl : Nat} (s : zs) (R : zr) (x1 : Int32) (x2 : Int32) {v9 : Int32} (H : f_X2_probedLike s x1 x2 = some v9) : zMv G 2 M_X2_probedLike [.ref 76, .int x1, .int x2] sl (zT s R) (fun r h' => r = some (.int v9) ∧ h' = (zT s R)) := by
  unfold f_X2_probedLike at H
  refine zMv_of (L := [some (.ref 76), some (.int x1), some (.int x2), none, none]) (by decide) rfl (Nat.le_of_ble_eq_true rfl) rfl ?_
  refine aw_iconst (q := 1) (v := 0) dX2_probedLike_0 rfl (by decide) ?_
  refine aw_istore_n (q := 2) (L' := [some (.ref 76), some (.int x1), some (.int x2), some (.int 0), none]) dX2_probedLike_1 rfl (by decide) rfl rfl ?_
  refine aw_iconst (q := 3) (v := 0) dX2_probedLike_2 rfl (by decide) ?_
  refine aw_istore (q := 5) (L' := [some (.ref 76), some (.int x1), some (.int x2), some (.int 0), some (.int 0)]) dX2_probedLike_3 rfl (by decide) rfl rfl ?_
  obtain ⟨e1, he1, H⟩ := zbd H
  refine aw_fewer (L' := [some (.ref 76), some (.int x1), some (.int x2), some (.int 0), some (.int 0)]) ⟨rfl, ⟨rfl, ⟨rfl, ⟨rfl, ⟨rfl, trivial⟩⟩⟩⟩⟩ ?_
  refine L_X2_probedLike_5 R x1 x2 zFu s 0 0 e1 he1 ?_
  refine aw_iload_n (q := 54) dX2_probedLike_53 rfl rfl ?_
  cases H
  exact aw_ret dX2_probedLike_54 rfl rfl rfl rfl ⟨rfl, rfl⟩
def f_X2_leftBy (s : zs) (x1 : Int32) (x2 : Int32) (x3 : Int32) : Option (Int32 × zs) :=
  Option.bind (f_X2_supposeAll s (x3 ||| ((1 : Int32) <<< (x2 &&& 31)))) fun v1 =>
  Option.bind (f_X2_probeAll v1 (x3 ||| ((1 : Int32) <<< (x2 &&& 31))) x1) fun v2 =>
  Option.bind (f_X2_probedLike v2 x2 x3) fun v3 =>
  some (v3, v2)
set_option maxHeartbeats 4000000 in
set_option maxRecDepth 100000 in
theorem c_X2_leftBy {G : zG} {sl : Nat} (s : zs) (R : zr) (x1 : Int32) (x2 : Int32) (x3 : Int32) {v9 : (Int32 × zs)} (H : f_X2_leftBy s x1 x2 x3 = some v9) : zMv G 5 M_X2_leftBy [.ref 76, .int x1, .int x2, .int x3] sl (zT s R) (fun r h' => r = some (.int v9.1) ∧ h' = zT v9.2 R) := by
  unfold f_X2_leftBy at H
  refine zMv_of (L := [some (.ref 76), some (.int x1), some (.int x2), some (.int x3)]) (by decide) rfl (Nat.le_of_ble_eq_true rfl) rfl ?_
  refine aw_aload_n (q := 1) dX2_leftBy_0 rfl rfl ?_
  refine aw_iload_n (q := 2) dX2_leftBy_1 rfl rfl ?_
  refine aw_iconst (q := 3) (v := 1) dX2_leftBy_2 rfl (by decide) ?_
  refine aw_iload_n (q := 4) dX2_leftBy_3 rfl rfl ?_
  refine aw_ishl (q := 5) dX2_leftBy_4 rfl ?_
  refine aw_ior (q := 6) dX2_leftBy_5 rfl ?_
  obtain ⟨v1, hv1, H⟩ := zbd H
  refine aw_cv (M' := M_X2_supposeAll) (as := [.int (x3 ||| ((1 : Int32) <<< (x2 &&& 31)))]) (q := 9) dX2_leftBy_6 rfl W_X2_supposeAll k_X2_48 i_X2_supposeAll v_X2_supposeAll (by decide) (o_X2 s R) rfl rfl rfl (by decide) (Nat.le_of_ble_eq_true rfl) (c_X2_supposeAll s R (x3 ||| ((1 : Int32) <<< (x2 &&& 31))) hv1) (Nat.le_refl _) (Nat.le_refl _) ?_
  rintro r9 h9 ⟨rfl, rfl⟩
  refine aw_aload_n (q := 10) dX2_leftBy_9 rfl rfl ?_
  refine aw_iload_n (q := 11) dX2_leftBy_10 rfl rfl ?_
  refine aw_iconst (q := 12) (v := 1) dX2_leftBy_11 rfl (by decide) ?_
  refine aw_iload_n (q := 13) dX2_leftBy_12 rfl rfl ?_
  refine aw_ishl (q := 14) dX2_leftBy_13 rfl ?_
  refine aw_ior (q := 15) dX2_leftBy_14 rfl ?_
  refine aw_iload_n (q := 16) dX2_leftBy_15 rfl rfl ?_
  obtain ⟨v2, hv2, H⟩ := zbd H
  refine aw_cv (M' := M_X2_probeAll) (as := [.int (x3 ||| ((1 : Int32) <<< (x2 &&& 31))), .int x1]) (q := 19) dX2_leftBy_16 rfl W_X2_probeAll k_X2_51 i_X2_probeAll v_X2_probeAll (by decide) (o_X2 v1 R) rfl rfl rfl (by decide) (Nat.le_of_ble_eq_true rfl) (c_X2_probeAll v1 R (x3 ||| ((1 : Int32) <<< (x2 &&& 31))) x1 hv2) (Nat.le_refl _) (Nat.le_refl _) ?_
  rintro r9 h9 ⟨rfl, rfl⟩
  refine aw_aload_n (q := 20) dX2_leftBy_19 rfl rfl ?_
  refine aw_iload_n (q := 21) dX2_leftBy_20 rfl rfl ?_
  refine aw_iload_n (q := 22) dX2_leftBy_21 rfl rfl ?_
  obtain ⟨v3, hv3, H⟩ := zbd H
  refine aw_cv (M' := M_X2_probedLike) (as := [.int x2, .int x3]) (q := 25) dX2_leftBy_22 rfl W_X2_probedLike k_X2_55 i_X2_probedLike v_X2_probedLike (by decide) (o_X2 v2 R) rfl rfl rfl (by decide) (Nat.le_of_ble_eq_true rfl) (c_X2_probedLike v2 R x2 x3 hv3) (Nat.le_refl _) (Nat.le_refl _) ?_
  rintro r9 h9 ⟨rfl, rfl⟩
  cases H
  exact aw_ret dX2_leftBy_25 rfl rfl rfl rfl ⟨rfl, rfl⟩
def f_X4_weekday (s : zs) (x : Nat) : Int32 :=
  (s.1 x 2) - (s.1 x 2) / 7 * 7
set_option maxHeartbeats 4000000 in
set_option maxRecDepth 100000 in
theorem c_X4_weekday {G : zG} {sl : Nat} (s : zs) (R : zr) {x : Nat} (hx : zX4 x)   : zMv G 0 M_X4_weekday [.ref x] sl (zT s R) (fun r h' => r = some (.int (f_X4_weekday s x)) ∧ h' = (zT s R)) := by
  generalize H : f_X4_weekday s x = r0
  unfold f_X4_weekday at H
  refine zMv_of (L := [some (.ref x)]) (by decide) rfl (Nat.le_of_ble_eq_true rfl) rfl ?_
  refine aw_aload_n (q := 1) dX4_weekday_0 rfl rfl ?_
  refine aw_getr (q := 4) dX4_weekday_1 rfl e_X4_47 (zX4_lt hx) (o_X4 hx s R) rfl ?_
  refine aw_bipush (q := 6) (v := 7) dX4_weekday_4 rfl (by decide) ?_
  refine aw_irem (q := 7) dX4_weekday_6 rfl (by decide) ?_
  subst H
  exact aw_ret dX4_weekday_7 rfl rfl rfl rfl ⟨rfl, rfl⟩
def f_X4_touchedNow (s : zs) (x : Nat) : Option Int32 :=
  Option.bind (f_X0_blessedOn s (sB x) (f_X4_weekday s x)) fun v1 =>
  some (v1 ||| (s.1 x 6))
set_option maxHeartbeats 4000000 in
set_option maxRecDepth 100000 in
theorem c_X4_touchedNow {G : zG} {sl : Nat} (s : zs) (R : zr) {x : Nat} (hx : zX4 x)  {v9 : Int32} (H : f_X4_touchedNow s x = some v9) : zMv G 2 M_X4_touchedNow [.ref x] sl (zT s R) (fun r h' => r = some (.int v9) ∧ h' = (zT s R)) := by
  unfold f_X4_touchedNow at H
  refine zMv_of (L := [some (.ref x)]) (by decide) rfl (Nat.le_of_ble_eq_true rfl) rfl ?_
  refine aw_aload_n (q := 1) dX4_touchedNow_0 rfl rfl ?_
  refine aw_getr (q := 4) dX4_touchedNow_1 rfl e_X4_25 (zX4_lt hx) (o_X4 hx s R) rfl ?_
  refine aw_aload_n (q := 5) dX4_touchedNow_4 rfl rfl ?_
  refine aw_cv (M' := M_X4_weekday) (as := []) (q := 8) dX4_touchedNow_5 rfl W_X4_weekday k_X4_56 i_X4_weekday v_X4_weekday (zX4_lt hx) (o_X4 hx s R) rfl rfl rfl (by decide) (Nat.le_of_ble_eq_true rfl) (c_X4_weekday s R hx) (Nat.le_refl _) (Nat.le_refl _) ?_
  rintro r9 h9 ⟨rfl, rfl⟩
  obtain ⟨v1, hv1, H⟩ := zbd H
  refine aw_cv (M' := M_X0_blessedOn) (as := [.int (f_X4_weekday s x)]) (q := 11) dX4_touchedNow_8 rfl W_X0_blessedOn k_X4_60 i_X0_blessedOn v_X0_blessedOn (zB_lt0 (zX4_B hx)) (o_X0 (zX4_B hx) s R) rfl rfl rfl (by decide) (Nat.le_of_ble_eq_true rfl) (c_X0_blessedOn s R (zX4_B hx) (f_X4_weekday s x) hv1) (Nat.le_refl _) (Nat.le_refl _) ?_
  rintro r9 h9 ⟨rfl, rfl⟩
  refine aw_aload_n (q := 12) dX4_touchedNow_11 rfl rfl ?_
  refine aw_getr (q := 15) dX4_touchedNow_12 rfl e_X4_50 (zX4_lt hx) (o_X4 hx s R) rfl ?_
  refine aw_ior (q := 16) dX4_touchedNow_15 rfl ?_
  cases H
  exact aw_ret dX4_touchedNow_16 rfl rfl rfl rfl ⟨rfl, rfl⟩
def f_X4_filedIn_4 : Nat → zs → Nat → Int32 → Int32 → Int32 → Option (Int32)
  | 0, _, _, _, _, _ => none
  | k + 1, s, x, x1, x2, x3 =>
    if (s.1 (sB x) 11) ≤ x3 then (
      some x2
    ) else (
      if zin x3 10 = true then
      if (s.1 (sD x) x3.toNatClampNeg) = x1 then (
        f_X4_filedIn_4 k s x x1 (x2 + 1) (x3 + 1)
      ) else (
        f_X4_filedIn_4 k s x x1 x2 (x3 + 1)
      )
      else none
    )
set_option maxHeartbeats 4000000 in
set_option maxRecDepth 100000 in
theorem L_X4_filedIn_4 {G : zG} {sl : Nat} {P : Option Value → zH → Prop} (R : zr) {x : Nat} (hx : zX4 x) (x1 : Int32) : ∀ (k : Nat) (s : zs) (x2 : Int32) (x3 : Int32) (e : Int32), f_X4_filedIn_4 k s x x1 x2 x3 = some e → (AV G M_X4_filedIn 0 sl P 34 [none, none, some (.int e), none] [] (zT s R)) → AV G M_X4_filedIn 0 sl P 4 [some (.ref x), some (.int x1), some (.int x2), some (.int x3)] [] (zT s R) := by
  intro k
  induction k with
  | zero =>
    intro s x2 x3 e H
    unfold f_X4_filedIn_4 at H
    cases H
  | succ k ih =>
    intro s x2 x3 e H KE
    unfold f_X4_filedIn_4 at H
    refine aw_iload_n (q := 5) dX4_filedIn_4 rfl rfl ?_
    refine aw_aload_n (q := 6) dX4_filedIn_5 rfl rfl ?_
    refine aw_getr (q := 9) dX4_filedIn_6 rfl e_X4_25 (zX4_lt hx) (o_X4 hx s R) rfl ?_
    refine aw_getr (q := 12) dX4_filedIn_9 rfl e_X4_64 (zB_lt0 (zX4_B hx)) (o_X0 (zX4_B hx) s R) rfl ?_
    refine aw_icmp_ge (q := 15) (t := 34) dX4_filedIn_12 rfl (by decide) (fun h1 => ?_) (fun h1 => ?_)
    · replace H := zt h1 H
      cases H
      exact aw_fewer (L' := [none, none, some (.int x2), none]) ⟨rfl, trivial⟩ KE
    · replace H := zf h1 H
      refine aw_aload_n (q := 16) dX4_filedIn_15 rfl rfl ?_
      refine aw_getr (q := 19) dX4_filedIn_16 rfl e_X4_9 (zX4_lt hx) (o_X4 hx s R) rfl ?_
      refine aw_iload_n (q := 20) dX4_filedIn_19 rfl rfl ?_
      obtain ⟨h2, H⟩ := zio H
      refine aw_iald' (q := 21) (v := s.1 (sD x) x3.toNatClampNeg) dX4_filedIn_20 rfl (zX4_ltD hx) (o_X4a1 hx s R) (zin_in h2) rfl ?_
      refine aw_iload_n (q := 22) dX4_filedIn_21 rfl rfl ?_
      refine aw_icmp_neP (q := 25) (t := 28) dX4_filedIn_22 rfl (by decide) (fun h3 => ?_) (fun h3 => ?_)
      · replace H := zt h3 H
        refine aw_iinc (q := 28) (v := x2 + 1) (L' := [some (.ref x), some (.int x1), some (.int (x2 + 1)), some (.int x3)]) dX4_filedIn_25 rfl rfl (by first | rfl | decide) (by decide) rfl rfl ?_
        refine aw_iinc (q := 31) (v := x3 + 1) (L' := [some (.ref x), some (.int x1), some (.int (x2 + 1)), some (.int (x3 + 1))]) dX4_filedIn_28 rfl rfl (by first | rfl | decide) (by decide) rfl rfl ?_
        refine aw_goto (q := 4) dX4_filedIn_31 (by decide) ?_
        exact aw_fewer (L' := [some (.ref x), some (.int x1), some (.int (x2 + 1)), some (.int (x3 + 1))]) ⟨rfl, ⟨rfl, ⟨rfl, ⟨rfl, trivial⟩⟩⟩⟩ (ih s (x2 + 1) (x3 + 1) _ H KE)
      · replace H := zf h3 H
        refine aw_iinc (q := 31) (v := x3 + 1) (L' := [some (.ref x), some (.int x1), some (.int x2), some (.int (x3 + 1))]) dX4_filedIn_28 rfl rfl (by first | rfl | decide) (by decide) rfl rfl ?_
        refine aw_goto (q := 4) dX4_filedIn_31 (by decide) ?_
        exact aw_fewer (L' := [some (.ref x), some (.int x1), some (.int x2), some (.int (x3 + 1))]) ⟨rfl, ⟨rfl, ⟨rfl, ⟨rfl, trivial⟩⟩⟩⟩ (ih s x2 (x3 + 1) _ H KE)
def f_X4_filedIn (s : zs) (x : Nat) (x1 : Int32) : Option Int32 :=
  Option.bind (f_X4_filedIn_4 zFu s x x1 0 0) fun e1 =>
  some e1
set_option maxHeartbeats 4000000 in
set_option maxRecDepth 100000 in
theorem c_X4_filedIn {G : zG} {sl : Nat} (s : zs) (R : zr) {x : Nat} (hx : zX4 x) (x1 : Int32) {v9 : Int32} (H : f_X4_filedIn s x x1 = some v9) : zMv G 0 M_X4_filedIn [.ref x, .int x1] sl (zT s R) (fun r h' => r = some (.int v9) ∧ h' = (zT s R)) := by
  unfold f_X4_filedIn at H
  refine zMv_of (L := [some (.ref x), some (.int x1), none, none]) (by decide) rfl (Nat.le_of_ble_eq_true rfl) rfl ?_
  refine aw_iconst (q := 1) (v := 0) dX4_filedIn_0 rfl (by decide) ?_
  refine aw_istore_n (q := 2) (L' := [some (.ref x), some (.int x1), some (.int 0), none]) dX4_filedIn_1 rfl (by decide) rfl rfl ?_
  refine aw_iconst (q := 3) (v := 0) dX4_filedIn_2 rfl (by decide) ?_
  refine aw_istore_n (q := 4) (L' := [some (.ref x), some (.int x1), some (.int 0), some (.int 0)]) dX4_filedIn_3 rfl (by decide) rfl rfl ?_
  obtain ⟨e1, he1, H⟩ := zbd H
  refine aw_fewer (L' := [some (.ref x), some (.int x1), some (.int 0), some (.int 0)]) ⟨rfl, ⟨rfl, ⟨rfl, ⟨rfl, trivial⟩⟩⟩⟩ ?_
  refine L_X4_filedIn_4 R hx x1 zFu s 0 0 e1 he1 ?_
  refine aw_iload_n (q := 35) dX4_filedIn_34 rfl rfl ?_
  cases H
  exact aw_ret dX4_filedIn_35 rfl rfl rfl rfl ⟨rfl, rfl⟩
def f_X6_net (s : zs) (x1 : Int32) : Option (Int32 × zs) :=
  zlt (f_X0_refusalOfNet s (sB 74) x1 : Int32) fun y1 =>
  if y1 = 0 then (
    Option.bind (f_X1_keep s 74) fun v4 =>
    Option.bind (f_X0_addNet v4 (sB 74) x1) fun v5 =>
    some (v5.1, v5.2)
  ) else (
    some (y1, s)
  )
set_option maxHeartbeats 4000000 in
set_option maxRecDepth 100000 in
theorem c_X6_net {G : zG} {sl : Nat} (s : zs) (R : zr) (x1 : Int32) {v9 : (Int32 × zs)} (H : f_X6_net s x1 = some v9) : zMv G 5 M_X6_net [.ref 0, .int x1] sl (zT s R) (fun r h' => r = some (.int v9.1) ∧ h' = zT v9.2 R) := by
  unfold f_X6_net at H
  refine zMv_of (L := [some (.ref 0), some (.int x1), none]) (by decide) rfl (Nat.le_of_ble_eq_true rfl) rfl ?_
  refine aw_aload_n (q := 1) dX6_net_0 rfl rfl ?_
  refine aw_getr (q := 4) dX6_net_1 rfl e_X6_31 (by decide) (o_X6 s R) rfl ?_
  refine aw_getr (q := 7) dX6_net_4 rfl e_X6_42 (zX4_lt zX4_74) (o_X4 zX4_74 s R) rfl ?_
  refine aw_iload_n (q := 8) dX6_net_7 rfl rfl ?_
  refine aw_cv (M' := M_X0_refusalOfNet) (as := [.int x1]) (q := 11) dX6_net_8 rfl W_X0_refusalOfNet k_X6_46 i_X0_refusalOfNet v_X0_refusalOfNet (zB_lt0 (zX4_B zX4_74)) (o_X0 (zX4_B zX4_74) s R) rfl rfl rfl (by decide) (Nat.le_of_ble_eq_true rfl) (c_X0_refusalOfNet s R (zX4_B zX4_74) x1) (Nat.le_refl _) (Nat.le_refl _) ?_
  rintro r9 h9 ⟨rfl, rfl⟩
  obtain ⟨y1, q2, H⟩ := zltd H
  refine aw_nm q2 ?_
  refine aw_istore_n (q := 12) (L' := [some (.ref 0), some (.int x1), some (.int y1)]) dX6_net_11 rfl (by decide) rfl rfl ?_
  refine aw_iload_n (q := 13) dX6_net_12 rfl rfl ?_
  refine aw_if_eq (q := 16) (t := 18) dX6_net_13 rfl (by decide) (fun h3 => ?_) (fun h3 => ?_)
  · replace H := zt h3 H
    refine aw_aload_n (q := 19) dX6_net_18 rfl rfl ?_
    refine aw_getr (q := 22) dX6_net_19 rfl e_X6_12 (by decide) (o_X6 s R) rfl ?_
    refine aw_aload_n (q := 23) dX6_net_22 rfl rfl ?_
    refine aw_getr (q := 26) dX6_net_23 rfl e_X6_31 (by decide) (o_X6 s R) rfl ?_
    obtain ⟨v4, hv4, H⟩ := zbd H
    refine aw_cv (M' := M_X1_keep) (as := [.ref 74]) (q := 29) dX6_net_26 rfl W_X1_keep k_X6_50 i_X1_keep v_X1_keep (by decide) (o_X1 s R) rfl rfl rfl (by decide) (Nat.le_of_ble_eq_true rfl) (c_X1_keep s R zX4_74 hv4) (Nat.le_refl _) (Nat.le_refl _) ?_
    rintro r9 h9 ⟨rfl, rfl⟩
    refine aw_aload_n (q := 30) dX6_net_29 rfl rfl ?_
    refine aw_getr (q := 33) dX6_net_30 rfl e_X6_31 (by decide) (o_X6 v4 R) rfl ?_
    refine aw_getr (q := 36) dX6_net_33 rfl e_X6_42 (zX4_lt zX4_74) (o_X4 zX4_74 v4 R) rfl ?_
    refine aw_iload_n (q := 37) dX6_net_36 rfl rfl ?_
    obtain ⟨v5, hv5, H⟩ := zbd H
    refine aw_cv (M' := M_X0_addNet) (as := [.int x1]) (q := 40) dX6_net_37 rfl W_X0_addNet k_X6_54 i_X0_addNet v_X0_addNet (zB_lt0 (zX4_B zX4_74)) (o_X0 (zX4_B zX4_74) v4 R) rfl rfl rfl (by decide) (Nat.le_of_ble_eq_true rfl) (c_X0_addNet v4 R (zX4_B zX4_74) x1 hv5) (Nat.le_refl _) (Nat.le_refl _) ?_
    rintro r9 h9 ⟨rfl, rfl⟩
    cases H
    exact aw_ret dX6_net_40 rfl rfl rfl rfl ⟨rfl, rfl⟩
  · replace H := zf h3 H
    refine aw_iload_n (q := 17) dX6_net_16 rfl rfl ?_
    cases H
    exact aw_ret dX6_net_17 rfl rfl rfl rfl ⟨rfl, rfl⟩
def f_X6_chip (s : zs) (x1 : Int32) (x2 : Int32) (x3 : Int32) : Option (Int32 × zs) :=
  zlt (f_X0_refusalOfChip s (sB 74) x1 x2 x3 : Int32) fun y1 =>
  if y1 = 0 then (
    Option.bind (f_X1_keep s 74) fun v4 =>
    Option.bind (f_X0_addChip v4 (sB 74) x1 x2 x3) fun v5 =>
    some (v5.1, v5.2)
  ) else (
    some (y1, s)
  )
set_option maxHeartbeats 4000000 in
set_option maxRecDepth 100000 in
theorem c_X6_chip {G : zG} {sl : Nat} (s : zs) (R : zr) (x1 : Int32) (x2 : Int32) (x3 : Int32) {v9 : (Int32 × zs)} (H : f_X6_chip s x1 x2 x3 = some v9) : zMv G 5 M_X6_chip [.ref 0, .int x1, .int x2, .int x3] sl (zT s R) (fun r h' => r = some (.int v9.1) ∧ h' = zT v9.2 R) := by
  unfold f_X6_chip at H
  refine zMv_of (L := [some (.ref 0), some (.int x1), some (.int x2), some (.int x3), none]) (by decide) rfl (Nat.le_of_ble_eq_true rfl) rfl ?_
  refine aw_aload_n (q := 1) dX6_chip_0 rfl rfl ?_
  refine aw_getr (q := 4) dX6_chip_1 rfl e_X6_31 (by decide) (o_X6 s R) rfl ?_
  refine aw_getr (q := 7) dX6_chip_4 rfl e_X6_42 (zX4_lt zX4_74) (o_X4 zX4_74 s R) rfl ?_
  refine aw_iload_n (q := 8) dX6_chip_7 rfl rfl ?_
  refine aw_iload_n (q := 9) dX6_chip_8 rfl rfl ?_
  refine aw_iload_n (q := 10) dX6_chip_9 rfl rfl ?_
  refine aw_cv (M' := M_X0_refusalOfChip) (as := [.int x1, .int x2, .int x3]) (q := 13) dX6_chip_10 rfl W_X0_refusalOfChip k_X6_57 i_X0_refusalOfChip v_X0_refusalOfChip (zB_lt0 (zX4_B zX4_74)) (o_X0 (zX4_B zX4_74) s R) rfl rfl rfl (by decide) (Nat.le_of_ble_eq_true rfl) (c_X0_refusalOfChip s R (zX4_B zX4_74) x1 x2 x3) (Nat.le_refl _) (Nat.le_refl _) ?_
  rintro r9 h9 ⟨rfl, rfl⟩
  obtain ⟨y1, q2, H⟩ := zltd H
  refine aw_nm q2 ?_
  refine aw_istore (q := 15) (L' := [some (.ref 0), some (.int x1), some (.int x2), some (.int x3), some (.int y1)]) dX6_chip_13 rfl (by decide) rfl rfl ?_
  refine aw_iload (q := 17) dX6_chip_15 rfl rfl ?_
  refine aw_if_eq (q := 20) (t := 23) dX6_chip_17 rfl (by decide) (fun h3 => ?_) (fun h3 => ?_)
  · replace H := zt h3 H
    refine aw_aload_n (q := 24) dX6_chip_23 rfl rfl ?_
    refine aw_getr (q := 27) dX6_chip_24 rfl e_X6_12 (by decide) (o_X6 s R) rfl ?_
    refine aw_aload_n (q := 28) dX6_chip_27 rfl rfl ?_
    refine aw_getr (q := 31) dX6_chip_28 rfl e_X6_31 (by decide) (o_X6 s R) rfl ?_
    obtain ⟨v4, hv4, H⟩ := zbd H
    refine aw_cv (M' := M_X1_keep) (as := [.ref 74]) (q := 34) dX6_chip_31 rfl W_X1_keep k_X6_50 i_X1_keep v_X1_keep (by decide) (o_X1 s R) rfl rfl rfl (by decide) (Nat.le_of_ble_eq_true rfl) (c_X1_keep s R zX4_74 hv4) (Nat.le_refl _) (Nat.le_refl _) ?_
    rintro r9 h9 ⟨rfl, rfl⟩
    refine aw_aload_n (q := 35) dX6_chip_34 rfl rfl ?_
    refine aw_getr (q := 38) dX6_chip_35 rfl e_X6_31 (by decide) (o_X6 v4 R) rfl ?_
    refine aw_getr (q := 41) dX6_chip_38 rfl e_X6_42 (zX4_lt zX4_74) (o_X4 zX4_74 v4 R) rfl ?_
    refine aw_iload_n (q := 42) dX6_chip_41 rfl rfl ?_
    refine aw_iload_n (q := 43) dX6_chip_42 rfl rfl ?_
    refine aw_iload_n (q := 44) dX6_chip_43 rfl rfl ?_
    obtain ⟨v5, hv5, H⟩ := zbd H
    refine aw_cv (M' := M_X0_addChip) (as := [.int x1, .int x2, .int x3]) (q := 47) dX6_chip_44 rfl W_X0_addChip k_X6_61 i_X0_addChip v_X0_addChip (zB_lt0 (zX4_B zX4_74)) (o_X0 (zX4_B zX4_74) v4 R) rfl rfl rfl (by decide) (Nat.le_of_ble_eq_true rfl) (c_X0_addChip v4 R (zX4_B zX4_74) x1 x2 x3 hv5) (Nat.le_refl _) (Nat.le_refl _) ?_
    rintro r9 h9 ⟨rfl, rfl⟩
    cases H
    exact aw_ret dX6_chip_47 rfl rfl rfl rfl ⟨rfl, rfl⟩
  · replace H := zf h3 H
    refine aw_iload (q := 22) dX6_chip_20 rfl rfl ?_
    cases H
    exact aw_ret dX6_chip_22 rfl rfl rfl rfl ⟨rfl, rfl⟩
def f_X6_fault (s : zs) (x1 : Int32) (x2 : Int32) (x3 : Int32) : Option (Int32 × zs) :=
  Option.bind (f_X0_refusalOfFault s (sB 74) x1 x2 x3) fun v1 =>
  if v1 = 0 then (
    Option.bind (f_X1_keep s 74) fun v3 =>
    Option.bind (f_X0_addFault v3 (sB 74) x1 x2 x3) fun v4 =>
    some (v4.1, v4.2)
  ) else (
    some (v1, s)
  )
set_option maxHeartbeats 4000000 in
set_option maxRecDepth 100000 in
theorem c_X6_fault {G : zG} {sl : Nat} (s : zs) (R : zr) (x1 : Int32) (x2 : Int32) (x3 : Int32) {v9 : (Int32 × zs)} (H : f_X6_fault s x1 x2 x3 = some v9) : zMv G 5 M_X6_fault [.ref 0, .int x1, .int x2, .int x3] sl (zT s R) (fun r h' => r = some (.int v9.1) ∧ h' = zT v9.2 R) := by
  unfold f_X6_fault at H
  refine zMv_of (L := [some (.ref 0), some (.int x1), some (.int x2), some (.int x3), none]) (by decide) rfl (Nat.le_of_ble_eq_true rfl) rfl ?_
  refine aw_aload_n (q := 1) dX6_fault_0 rfl rfl ?_
  refine aw_getr (q := 4) dX6_fault_1 rfl e_X6_31 (by decide) (o_X6 s R) rfl ?_
  refine aw_getr (q := 7) dX6_fault_4 rfl e_X6_42 (zX4_lt zX4_74) (o_X4 zX4_74 s R) rfl ?_
  refine aw_iload_n (q := 8) dX6_fault_7 rfl rfl ?_
  refine aw_iload_n (q := 9) dX6_fault_8 rfl rfl ?_
  refine aw_iload_n (q := 10) dX6_fault_9 rfl rfl ?_
  obtain ⟨v1, hv1, H⟩ := zbd H
  refine aw_cv (M' := M_X0_refusalOfFault) (as := [.int x1, .int x2, .int x3]) (q := 13) dX6_fault_10 rfl W_X0_refusalOfFault k_X6_64 i_X0_refusalOfFault v_X0_refusalOfFault (zB_lt0 (zX4_B zX4_74)) (o_X0 (zX4_B zX4_74) s R) rfl rfl rfl (by decide) (Nat.le_of_ble_eq_true rfl) (c_X0_refusalOfFault s R (zX4_B zX4_74) x1 x2 x3 hv1) (Nat.le_refl _) (Nat.le_refl _) ?_
  rintro r9 h9 ⟨rfl, rfl⟩
  refine aw_istore (q := 15) (L' := [some (.ref 0), some (.int x1), some (.int x2), some (.int x3), some (.int v1)]) dX6_fault_13 rfl (by decide) rfl rfl ?_
  refine aw_iload (q := 17) dX6_fault_15 rfl rfl ?_
  refine aw_if_eq (q := 20) (t := 23) dX6_fault_17 rfl (by decide) (fun h2 => ?_) (fun h2 => ?_)
  · replace H := zt h2 H
    refine aw_aload_n (q := 24) dX6_fault_23 rfl rfl ?_
    refine aw_getr (q := 27) dX6_fault_24 rfl e_X6_12 (by decide) (o_X6 s R) rfl ?_
    refine aw_aload_n (q := 28) dX6_fault_27 rfl rfl ?_
    refine aw_getr (q := 31) dX6_fault_28 rfl e_X6_31 (by decide) (o_X6 s R) rfl ?_
    obtain ⟨v3, hv3, H⟩ := zbd H
    refine aw_cv (M' := M_X1_keep) (as := [.ref 74]) (q := 34) dX6_fault_31 rfl W_X1_keep k_X6_50 i_X1_keep v_X1_keep (by decide) (o_X1 s R) rfl rfl rfl (by decide) (Nat.le_of_ble_eq_true rfl) (c_X1_keep s R zX4_74 hv3) (Nat.le_refl _) (Nat.le_refl _) ?_
    rintro r9 h9 ⟨rfl, rfl⟩
    refine aw_aload_n (q := 35) dX6_fault_34 rfl rfl ?_
    refine aw_getr (q := 38) dX6_fault_35 rfl e_X6_31 (by decide) (o_X6 v3 R) rfl ?_
    refine aw_getr (q := 41) dX6_fault_38 rfl e_X6_42 (zX4_lt zX4_74) (o_X4 zX4_74 v3 R) rfl ?_
    refine aw_iload_n (q := 42) dX6_fault_41 rfl rfl ?_
    refine aw_iload_n (q := 43) dX6_fault_42 rfl rfl ?_
    refine aw_iload_n (q := 44) dX6_fault_43 rfl rfl ?_
    obtain ⟨v4, hv4, H⟩ := zbd H
    refine aw_cv (M' := M_X0_addFault) (as := [.int x1, .int x2, .int x3]) (q := 47) dX6_fault_44 rfl W_X0_addFault k_X6_67 i_X0_addFault v_X0_addFault (zB_lt0 (zX4_B zX4_74)) (o_X0 (zX4_B zX4_74) v3 R) rfl rfl rfl (by decide) (Nat.le_of_ble_eq_true rfl) (c_X0_addFault v3 R (zX4_B zX4_74) x1 x2 x3 hv4) (Nat.le_refl _) (Nat.le_refl _) ?_
    rintro r9 h9 ⟨rfl, rfl⟩
    cases H
    exact aw_ret dX6_fault_47 rfl rfl rfl rfl ⟨rfl, rfl⟩
  · replace H := zf h2 H
    refine aw_iload (q := 22) dX6_fault_20 rfl rfl ?_
    cases H
    exact aw_ret dX6_fault_22 rfl rfl rfl rfl ⟨rfl, rfl⟩
def f_X6_bless (s : zs) (x1 : Int32) (x2 : Int32) : Option (Int32 × zs) :=
  if f_X6_isPin x1 = true then (
    if (x2 &&& (-128)) = 0 then (
      Option.bind (f_X1_keep s 74) fun v3 =>
      Option.bind (f_X0_setBlessing v3 (sB 74) x1 x2) fun v4 =>
      some (v4.1, v4.2)
    ) else (
      some ((-1000001), s)
    )
  ) else (
    some ((-1000001), s)
  )
set_option maxHeartbeats 4000000 in
set_option maxRecDepth 100000 in
theorem c_X6_bless {G : zG} {sl : Nat} (s : zs) (R : zr) (x1 : Int32) (x2 : Int32) {v9 : (Int32 × zs)} (H : f_X6_bless s x1 x2 = some v9) : zMv G 5 M_X6_bless [.ref 0, .int x1, .int x2] sl (zT s R) (fun r h' => r = some (.int v9.1) ∧ h' = zT v9.2 R) := by
  unfold f_X6_bless at H
  refine zMv_of (L := [some (.ref 0), some (.int x1), some (.int x2)]) (by decide) rfl (Nat.le_of_ble_eq_true rfl) rfl ?_
  refine aw_iload_n (q := 1) dX6_bless_0 rfl rfl ?_
  refine aw_cs (M' := M_X6_isPin) (as := [.int x1]) (q := 4) dX6_bless_1 rfl W_X6_isPin k_X6_70 s_X6_isPin rfl rfl (by decide) (Nat.le_of_ble_eq_true rfl) (c_X6_isPin (zT s R) x1) (Nat.le_refl _) (Nat.le_refl _) ?_
  rintro r9 h9 ⟨rfl, rfl⟩
  refine aw_ifeqB (q := 7) (t := 14) dX6_bless_4 rfl (by decide) (fun h1 => ?_) (fun h1 => ?_)
  · replace H := zt h1 H
    refine aw_iload_n (q := 8) dX6_bless_7 rfl rfl ?_
    refine aw_bipush (q := 10) (v := (-128)) dX6_bless_8 rfl (by decide) ?_
    refine aw_iand (q := 11) dX6_bless_10 rfl ?_
    refine aw_if_eq (q := 14) (t := 17) dX6_bless_11 rfl (by decide) (fun h2 => ?_) (fun h2 => ?_)
    · replace H := zt h2 H
      refine aw_aload_n (q := 18) dX6_bless_17 rfl rfl ?_
      refine aw_getr (q := 21) dX6_bless_18 rfl e_X6_12 (by decide) (o_X6 s R) rfl ?_
      refine aw_aload_n (q := 22) dX6_bless_21 rfl rfl ?_
      refine aw_getr (q := 25) dX6_bless_22 rfl e_X6_31 (by decide) (o_X6 s R) rfl ?_
      obtain ⟨v3, hv3, H⟩ := zbd H
      refine aw_cv (M' := M_X1_keep) (as := [.ref 74]) (q := 28) dX6_bless_25 rfl W_X1_keep k_X6_50 i_X1_keep v_X1_keep (by decide) (o_X1 s R) rfl rfl rfl (by decide) (Nat.le_of_ble_eq_true rfl) (c_X1_keep s R zX4_74 hv3) (Nat.le_refl _) (Nat.le_refl _) ?_
      rintro r9 h9 ⟨rfl, rfl⟩
      refine aw_aload_n (q := 29) dX6_bless_28 rfl rfl ?_
      refine aw_getr (q := 32) dX6_bless_29 rfl e_X6_31 (by decide) (o_X6 v3 R) rfl ?_
      refine aw_getr (q := 35) dX6_bless_32 rfl e_X6_42 (zX4_lt zX4_74) (o_X4 zX4_74 v3 R) rfl ?_
      refine aw_iload_n (q := 36) dX6_bless_35 rfl rfl ?_
      refine aw_iload_n (q := 37) dX6_bless_36 rfl rfl ?_
      obtain ⟨v4, hv4, H⟩ := zbd H
      refine aw_cv (M' := M_X0_setBlessing) (as := [.int x1, .int x2]) (q := 40) dX6_bless_37 rfl W_X0_setBlessing k_X6_75 i_X0_setBlessing v_X0_setBlessing (zB_lt0 (zX4_B zX4_74)) (o_X0 (zX4_B zX4_74) v3 R) rfl rfl rfl (by decide) (Nat.le_of_ble_eq_true rfl) (c_X0_setBlessing v3 R (zX4_B zX4_74) x1 x2 hv4) (Nat.le_refl _) (Nat.le_refl _) ?_
      rintro r9 h9 ⟨rfl, rfl⟩
      cases H
      exact aw_ret dX6_bless_40 rfl rfl rfl rfl ⟨rfl, rfl⟩
    · replace H := zf h2 H
      refine aw_ldc (q := 16) dX6_bless_14 rfl q_X6_74 ?_
      cases H
      exact aw_ret dX6_bless_16 rfl rfl rfl rfl ⟨rfl, rfl⟩
  · replace H := zf h1 H
    refine aw_ldc (q := 16) dX6_bless_14 rfl q_X6_74 ?_
    cases H
    exact aw_ret dX6_bless_16 rfl rfl rfl rfl ⟨rfl, rfl⟩
def f_X6_foundOrNot (x0 : Int32) : Int32 :=
  if x0 = (-1) then (
    (-1000004)
  ) else (
    x0
  )
set_option maxHeartbeats 4000000 in
set_option maxRecDepth 100000 in
theorem c_X6_foundOrNot {G : zG} {sl : Nat} (h : zH) (x0 : Int32)  : zMv G 0 M_X6_foundOrNot [.int x0] sl h (fun r h' => r = some (.int (f_X6_foundOrNot x0)) ∧ h' = h) := by
  generalize H : f_X6_foundOrNot x0 = r0
  unfold f_X6_foundOrNot at H
  refine zMv_of (L := [some (.int x0)]) (by decide) rfl (Nat.le_of_ble_eq_true rfl) rfl ?_
  refine aw_iload_n (q := 1) dX6_foundOrNot_0 rfl rfl ?_
  refine aw_iconst (q := 2) (v := (-1)) dX6_foundOrNot_1 rfl (by decide) ?_
  refine aw_icmp_neP (q := 5) (t := 10) dX6_foundOrNot_2 rfl (by decide) (fun h1 => ?_) (fun h1 => ?_)
  · replace H := zt h1 H
    refine aw_ldc (q := 7) dX6_foundOrNot_5 rfl q_X6_115 ?_
    refine aw_goto (q := 11) dX6_foundOrNot_7 (by decide) ?_
    subst H
    exact aw_ret dX6_foundOrNot_11 rfl rfl rfl rfl ⟨rfl, rfl⟩
  · replace H := zf h1 H
    refine aw_iload_n (q := 11) dX6_foundOrNot_10 rfl rfl ?_
    subst H
    exact aw_ret dX6_foundOrNot_11 rfl rfl rfl rfl ⟨rfl, rfl⟩
def f_X6_pinOf (s : zs) (x1 : Int32) (x2 : Int32) : Option Int32 :=
  if f_X6_isPin x1 = true then (
    if x2 = 0 then (
      if zin x1 16 = true then
      some (f_X6_foundOrNot (s.1 (sB 74 + 2) x1.toNatClampNeg))
      else none
    ) else (
      if x2 = 1 then (
        Option.bind (f_X0_chipWith s (sB 74) x1) fun v8 =>
        some (f_X6_foundOrNot v8)
      ) else (
        if x2 = 2 then (
          Option.bind (f_X0_roleOf s (sB 74) x1) fun v9 =>
          some (f_X6_foundOrNot v9)
        ) else (
          if x2 = 3 then (
            if zin x1 16 = true then
            some (s.1 (sB 74 + 9) x1.toNatClampNeg)
            else none
          ) else (
            if x2 = 4 then (
              Option.bind (f_X4_touchedNow s 74) fun v11 =>
              if f_X6_hasBit v11 x1 = true then (
                some 1
              ) else (
                some 0
              )
            ) else (
              some (-1000001)
            )
          )
        )
      )
    )
  ) else (
    some (-1000001)
  )
set_option maxHeartbeats 4000000 in
set_option maxRecDepth 100000 in
theorem c_X6_pinOf {G : zG} {sl : Nat} (s : zs) (R : zr) (x1 : Int32) (x2 : Int32) {v9 : Int32} (H : f_X6_pinOf s x1 x2 = some v9) : zMv G 3 M_X6_pinOf [.ref 0, .int x1, .int x2] sl (zT s R) (fun r h' => r = some (.int v9) ∧ h' = (zT s R)) := by
  unfold f_X6_pinOf at H
  refine zMv_of (L := [some (.ref 0), some (.int x1), some (.int x2), none]) (by decide) rfl (Nat.le_of_ble_eq_true rfl) rfl ?_
  refine aw_iload_n (q := 1) dX6_pinOf_0 rfl rfl ?_
  refine aw_cs (M' := M_X6_isPin) (as := [.int x1]) (q := 4) dX6_pinOf_1 rfl W_X6_isPin k_X6_70 s_X6_isPin rfl rfl (by decide) (Nat.le_of_ble_eq_true rfl) (c_X6_isPin (zT s R) x1) (Nat.le_refl _) (Nat.le_refl _) ?_
  rintro r9 h9 ⟨rfl, rfl⟩
  refine aw_ifneB (q := 7) (t := 10) dX6_pinOf_4 rfl (by decide) (fun h1 => ?_) (fun h1 => ?_)
  · replace H := zt h1 H
    refine aw_aload_n (q := 11) dX6_pinOf_10 rfl rfl ?_
    refine aw_getr (q := 14) dX6_pinOf_11 rfl e_X6_31 (by decide) (o_X6 s R) rfl ?_
    refine aw_getr (q := 17) dX6_pinOf_14 rfl e_X6_42 (zX4_lt zX4_74) (o_X4 zX4_74 s R) rfl ?_
    refine aw_astore_n (q := 18) (L' := [some (.ref 0), some (.int x1), some (.int x2), some (.ref (sB 74))]) dX6_pinOf_17 rfl (by decide) rfl rfl ?_
    refine aw_iload_n (q := 19) dX6_pinOf_18 rfl rfl ?_
    by_cases h2 : x2 = 0
    · replace H := zt h2 H
      refine aw_tabIn (q := 52) (off := 33) dX6_pinOf_19 (by rw [h2]; decide) (by rw [h2]; decide) (by rw [h2]; rfl) (by decide) ?_
      refine aw_aload_n (q := 53) dX6_pinOf_52 rfl rfl ?_
      refine aw_getr (q := 56) dX6_pinOf_53 rfl e_X6_79 (zB_lt0 (zX4_B zX4_74)) (o_X0 (zX4_B zX4_74) s R) rfl ?_
      refine aw_iload_n (q := 57) dX6_pinOf_56 rfl rfl ?_
      obtain ⟨h7, H⟩ := zio H
      refine aw_iald' (q := 58) (v := s.1 (sB 74 + 2) x1.toNatClampNeg) dX6_pinOf_57 rfl (zB_lt (k := 2) (zX4_B zX4_74) (by decide)) (o_X0a1 (zX4_B zX4_74) s R) (zin_in h7) rfl ?_
      refine aw_cs (M' := M_X6_foundOrNot) (as := [.int (s.1 (sB 74 + 2) x1.toNatClampNeg)]) (q := 61) dX6_pinOf_58 rfl W_X6_foundOrNot k_X6_83 s_X6_foundOrNot rfl rfl (by decide) (Nat.le_of_ble_eq_true rfl) (c_X6_foundOrNot (zT s R) (s.1 (sB 74 + 2) x1.toNatClampNeg)) (Nat.le_refl _) (Nat.le_refl _) ?_
      rintro r9 h9 ⟨rfl, rfl⟩
      cases H
      exact aw_ret dX6_pinOf_61 rfl rfl rfl rfl ⟨rfl, rfl⟩
    · replace H := zf h2 H
      by_cases h3 : x2 = 1
      · replace H := zt h3 H
        refine aw_tabIn (q := 62) (off := 43) dX6_pinOf_19 (by rw [h3]; decide) (by rw [h3]; decide) (by rw [h3]; rfl) (by decide) ?_
        refine aw_aload_n (q := 63) dX6_pinOf_62 rfl rfl ?_
        refine aw_iload_n (q := 64) dX6_pinOf_63 rfl rfl ?_
        obtain ⟨v8, hv8, H⟩ := zbd H
        refine aw_cv (M' := M_X0_chipWith) (as := [.int x1]) (q := 67) dX6_pinOf_64 rfl W_X0_chipWith k_X6_86 i_X0_chipWith v_X0_chipWith (zB_lt0 (zX4_B zX4_74)) (o_X0 (zX4_B zX4_74) s R) rfl rfl rfl (by decide) (Nat.le_of_ble_eq_true rfl) (c_X0_chipWith s R (zX4_B zX4_74) x1 hv8) (Nat.le_refl _) (Nat.le_refl _) ?_
        rintro r9 h9 ⟨rfl, rfl⟩
        refine aw_cs (M' := M_X6_foundOrNot) (as := [.int v8]) (q := 70) dX6_pinOf_67 rfl W_X6_foundOrNot k_X6_83 s_X6_foundOrNot rfl rfl (by decide) (Nat.le_of_ble_eq_true rfl) (c_X6_foundOrNot (zT s R) v8) (Nat.le_refl _) (Nat.le_refl _) ?_
        rintro r9 h9 ⟨rfl, rfl⟩
        cases H
        exact aw_ret dX6_pinOf_70 rfl rfl rfl rfl ⟨rfl, rfl⟩
      · replace H := zf h3 H
        by_cases h4 : x2 = 2
        · replace H := zt h4 H
          refine aw_tabIn (q := 71) (off := 52) dX6_pinOf_19 (by rw [h4]; decide) (by rw [h4]; decide) (by rw [h4]; rfl) (by decide) ?_
          refine aw_aload_n (q := 72) dX6_pinOf_71 rfl rfl ?_
          refine aw_iload_n (q := 73) dX6_pinOf_72 rfl rfl ?_
          obtain ⟨v9, hv9, H⟩ := zbd H
          refine aw_cv (M' := M_X0_roleOf) (as := [.int x1]) (q := 76) dX6_pinOf_73 rfl W_X0_roleOf k_X6_89 i_X0_roleOf v_X0_roleOf (zB_lt0 (zX4_B zX4_74)) (o_X0 (zX4_B zX4_74) s R) rfl rfl rfl (by decide) (Nat.le_of_ble_eq_true rfl) (c_X0_roleOf s R (zX4_B zX4_74) x1 hv9) (Nat.le_refl _) (Nat.le_refl _) ?_
          rintro r9 h9 ⟨rfl, rfl⟩
          refine aw_cs (M' := M_X6_foundOrNot) (as := [.int v9]) (q := 79) dX6_pinOf_76 rfl W_X6_foundOrNot k_X6_83 s_X6_foundOrNot rfl rfl (by decide) (Nat.le_of_ble_eq_true rfl) (c_X6_foundOrNot (zT s R) v9) (Nat.le_refl _) (Nat.le_refl _) ?_
          rintro r9 h9 ⟨rfl, rfl⟩
          cases H
          exact aw_ret dX6_pinOf_79 rfl rfl rfl rfl ⟨rfl, rfl⟩
        · replace H := zf h4 H
          by_cases h5 : x2 = 3
          · replace H := zt h5 H
            refine aw_tabIn (q := 80) (off := 61) dX6_pinOf_19 (by rw [h5]; decide) (by rw [h5]; decide) (by rw [h5]; rfl) (by decide) ?_
            refine aw_aload_n (q := 81) dX6_pinOf_80 rfl rfl ?_
            refine aw_getr (q := 84) dX6_pinOf_81 rfl e_X6_92 (zB_lt0 (zX4_B zX4_74)) (o_X0 (zX4_B zX4_74) s R) rfl ?_
            refine aw_iload_n (q := 85) dX6_pinOf_84 rfl rfl ?_
            obtain ⟨h10, H⟩ := zio H
            refine aw_iald' (q := 86) (v := s.1 (sB 74 + 9) x1.toNatClampNeg) dX6_pinOf_85 rfl (zB_lt (k := 9) (zX4_B zX4_74) (by decide)) (o_X0a8 (zX4_B zX4_74) s R) (zin_in h10) rfl ?_
            cases H
            exact aw_ret dX6_pinOf_86 rfl rfl rfl rfl ⟨rfl, rfl⟩
          · replace H := zf h5 H
            by_cases h6 : x2 = 4
            · replace H := zt h6 H
              refine aw_tabIn (q := 87) (off := 68) dX6_pinOf_19 (by rw [h6]; decide) (by rw [h6]; decide) (by rw [h6]; rfl) (by decide) ?_
              refine aw_aload_n (q := 88) dX6_pinOf_87 rfl rfl ?_
              refine aw_getr (q := 91) dX6_pinOf_88 rfl e_X6_31 (by decide) (o_X6 s R) rfl ?_
              obtain ⟨v11, hv11, H⟩ := zbd H
              refine aw_cv (M' := M_X4_touchedNow) (as := []) (q := 94) dX6_pinOf_91 rfl W_X4_touchedNow k_X6_95 i_X4_touchedNow v_X4_touchedNow (zX4_lt zX4_74) (o_X4 zX4_74 s R) rfl rfl rfl (by decide) (Nat.le_of_ble_eq_true rfl) (c_X4_touchedNow s R zX4_74 hv11) (Nat.le_refl _) (Nat.le_refl _) ?_
              rintro r9 h9 ⟨rfl, rfl⟩
              refine aw_iload_n (q := 95) dX6_pinOf_94 rfl rfl ?_
              refine aw_cs (M' := M_X6_hasBit) (as := [.int v11, .int x1]) (q := 98) dX6_pinOf_95 rfl W_X6_hasBit k_X6_99 s_X6_hasBit rfl rfl (by decide) (Nat.le_of_ble_eq_true rfl) (c_X6_hasBit (zT s R) v11 x1) (Nat.le_refl _) (Nat.le_refl _) ?_
              rintro r9 h9 ⟨rfl, rfl⟩
              refine aw_ifeqB (q := 101) (t := 105) dX6_pinOf_98 rfl (by decide) (fun h12 => ?_) (fun h12 => ?_)
              · replace H := zt h12 H
                refine aw_iconst (q := 102) (v := 1) dX6_pinOf_101 rfl (by decide) ?_
                refine aw_goto (q := 106) dX6_pinOf_102 (by decide) ?_
                cases H
                exact aw_ret dX6_pinOf_106 rfl rfl rfl rfl ⟨rfl, rfl⟩
              · replace H := zf h12 H
                refine aw_iconst (q := 106) (v := 0) dX6_pinOf_105 rfl (by decide) ?_
                cases H
                exact aw_ret dX6_pinOf_106 rfl rfl rfl rfl ⟨rfl, rfl⟩
            · replace H := zf h6 H
              refine aw_tabOut (q := 107) dX6_pinOf_19 (by have w0 : ¬ x2.toInt = 0 := zne h2; have w1 : ¬ x2.toInt = 1 := zne h3; have w2 : ¬ x2.toInt = 2 := zne h4; have w3 : ¬ x2.toInt = 3 := zne h5; have w4 : ¬ x2.toInt = 4 := zne h6; omega) (by decide) ?_
              refine aw_ldc (q := 109) dX6_pinOf_107 rfl q_X6_74 ?_
              cases H
              exact aw_ret dX6_pinOf_109 rfl rfl rfl rfl ⟨rfl, rfl⟩
  · replace H := zf h1 H
    refine aw_ldc (q := 9) dX6_pinOf_7 rfl q_X6_74 ?_
    cases H
    exact aw_ret dX6_pinOf_9 rfl rfl rfl rfl ⟨rfl, rfl⟩
def f_X6_faultOf (s : zs) (x1 : Int32) (x2 : Int32) : Option Int32 :=
  if f_X0_isFault s (sB 74) x1 = true then (
    if x2 = 0 then (
      if zin x1 10 = true then
      some (s.1 (sB 74 + 6) x1.toNatClampNeg)
      else none
    ) else (
      if x2 = 1 then (
        if zin x1 10 = true then
        some (s.1 (sB 74 + 7) x1.toNatClampNeg)
        else none
      ) else (
        if x2 = 2 then (
          if zin x1 10 = true then
          if (s.1 (sB 74 + 6) x1.toNatClampNeg) = 1 then (
            some (s.1 (sB 74 + 8) x1.toNatClampNeg)
          ) else (
            some (-1000004)
          )
          else none
        ) else (
          if x2 = 3 then (
            if zin x1 10 = true then
            some (f_X6_foundOrNot (s.1 (sD 74) x1.toNatClampNeg))
            else none
          ) else (
            some (-1000001)
          )
        )
      )
    )
  ) else (
    some (-1000001)
  )
set_option maxHeartbeats 4000000 in
set_option maxRecDepth 100000 in
theorem c_X6_faultOf {G : zG} {sl : Nat} (s : zs) (R : zr) (x1 : Int32) (x2 : Int32) {v9 : Int32} (H : f_X6_faultOf s x1 x2 = some v9) : zMv G 1 M_X6_faultOf [.ref 0, .int x1, .int x2] sl (zT s R) (fun r h' => r = some (.int v9) ∧ h' = (zT s R)) := by
  unfold f_X6_faultOf at H
  refine zMv_of (L := [some (.ref 0), some (.int x1), some (.int x2), none]) (by decide) rfl (Nat.le_of_ble_eq_true rfl) rfl ?_
  refine aw_aload_n (q := 1) dX6_faultOf_0 rfl rfl ?_
  refine aw_getr (q := 4) dX6_faultOf_1 rfl e_X6_31 (by decide) (o_X6 s R) rfl ?_
  refine aw_getr (q := 7) dX6_faultOf_4 rfl e_X6_42 (zX4_lt zX4_74) (o_X4 zX4_74 s R) rfl ?_
  refine aw_astore_n (q := 8) (L' := [some (.ref 0), some (.int x1), some (.int x2), some (.ref (sB 74))]) dX6_faultOf_7 rfl (by decide) rfl rfl ?_
  refine aw_aload_n (q := 9) dX6_faultOf_8 rfl rfl ?_
  refine aw_iload_n (q := 10) dX6_faultOf_9 rfl rfl ?_
  refine aw_cv (M' := M_X0_isFault) (as := [.int x1]) (q := 13) dX6_faultOf_10 rfl W_X0_isFault k_X6_103 i_X0_isFault v_X0_isFault (zB_lt0 (zX4_B zX4_74)) (o_X0 (zX4_B zX4_74) s R) rfl rfl rfl (by decide) (Nat.le_of_ble_eq_true rfl) (c_X0_isFault s R (zX4_B zX4_74) x1) (Nat.le_refl _) (Nat.le_refl _) ?_
  rintro r9 h9 ⟨rfl, rfl⟩
  refine aw_ifneB (q := 16) (t := 19) dX6_faultOf_13 rfl (by decide) (fun h1 => ?_) (fun h1 => ?_)
  · replace H := zt h1 H
    refine aw_iload_n (q := 20) dX6_faultOf_19 rfl rfl ?_
    by_cases h2 : x2 = 0
    · replace H := zt h2 H
      refine aw_tabIn (q := 52) (off := 32) dX6_faultOf_20 (by rw [h2]; decide) (by rw [h2]; decide) (by rw [h2]; rfl) (by decide) ?_
      refine aw_aload_n (q := 53) dX6_faultOf_52 rfl rfl ?_
      refine aw_getr (q := 56) dX6_faultOf_53 rfl e_X6_106 (zB_lt0 (zX4_B zX4_74)) (o_X0 (zX4_B zX4_74) s R) rfl ?_
      refine aw_iload_n (q := 57) dX6_faultOf_56 rfl rfl ?_
      obtain ⟨h6, H⟩ := zio H
      refine aw_iald' (q := 58) (v := s.1 (sB 74 + 6) x1.toNatClampNeg) dX6_faultOf_57 rfl (zB_lt (k := 6) (zX4_B zX4_74) (by decide)) (o_X0a5 (zX4_B zX4_74) s R) (zin_in h6) rfl ?_
      cases H
      exact aw_ret dX6_faultOf_58 rfl rfl rfl rfl ⟨rfl, rfl⟩
    · replace H := zf h2 H
      by_cases h3 : x2 = 1
      · replace H := zt h3 H
        refine aw_tabIn (q := 59) (off := 39) dX6_faultOf_20 (by rw [h3]; decide) (by rw [h3]; decide) (by rw [h3]; rfl) (by decide) ?_
        refine aw_aload_n (q := 60) dX6_faultOf_59 rfl rfl ?_
        refine aw_getr (q := 63) dX6_faultOf_60 rfl e_X6_109 (zB_lt0 (zX4_B zX4_74)) (o_X0 (zX4_B zX4_74) s R) rfl ?_
        refine aw_iload_n (q := 64) dX6_faultOf_63 rfl rfl ?_
        obtain ⟨h7, H⟩ := zio H
        refine aw_iald' (q := 65) (v := s.1 (sB 74 + 7) x1.toNatClampNeg) dX6_faultOf_64 rfl (zB_lt (k := 7) (zX4_B zX4_74) (by decide)) (o_X0a6 (zX4_B zX4_74) s R) (zin_in h7) rfl ?_
        cases H
        exact aw_ret dX6_faultOf_65 rfl rfl rfl rfl ⟨rfl, rfl⟩
      · replace H := zf h3 H
        by_cases h4 : x2 = 2
        · replace H := zt h4 H
          refine aw_tabIn (q := 66) (off := 46) dX6_faultOf_20 (by rw [h4]; decide) (by rw [h4]; decide) (by rw [h4]; rfl) (by decide) ?_
          refine aw_aload_n (q := 67) dX6_faultOf_66 rfl rfl ?_
          refine aw_getr (q := 70) dX6_faultOf_67 rfl e_X6_106 (zB_lt0 (zX4_B zX4_74)) (o_X0 (zX4_B zX4_74) s R) rfl ?_
          refine aw_iload_n (q := 71) dX6_faultOf_70 rfl rfl ?_
          obtain ⟨h8, H⟩ := zio H
          refine aw_iald' (q := 72) (v := s.1 (sB 74 + 6) x1.toNatClampNeg) dX6_faultOf_71 rfl (zB_lt (k := 6) (zX4_B zX4_74) (by decide)) (o_X0a5 (zX4_B zX4_74) s R) (zin_in h8) rfl ?_
          refine aw_iconst (q := 73) (v := 1) dX6_faultOf_72 rfl (by decide) ?_
          refine aw_icmp_neP (q := 76) (t := 85) dX6_faultOf_73 rfl (by decide) (fun h9 => ?_) (fun h9 => ?_)
          · replace H := zt h9 H
            refine aw_aload_n (q := 77) dX6_faultOf_76 rfl rfl ?_
            refine aw_getr (q := 80) dX6_faultOf_77 rfl e_X6_112 (zB_lt0 (zX4_B zX4_74)) (o_X0 (zX4_B zX4_74) s R) rfl ?_
            refine aw_iload_n (q := 81) dX6_faultOf_80 rfl rfl ?_
            refine aw_iald' (q := 82) (v := s.1 (sB 74 + 8) x1.toNatClampNeg) dX6_faultOf_81 rfl (zB_lt (k := 8) (zX4_B zX4_74) (by decide)) (o_X0a7 (zX4_B zX4_74) s R) (zin_in h8) rfl ?_
            refine aw_goto (q := 87) dX6_faultOf_82 (by decide) ?_
            cases H
            exact aw_ret dX6_faultOf_87 rfl rfl rfl rfl ⟨rfl, rfl⟩
          · replace H := zf h9 H
            refine aw_ldc (q := 87) dX6_faultOf_85 rfl q_X6_115 ?_
            cases H
            exact aw_ret dX6_faultOf_87 rfl rfl rfl rfl ⟨rfl, rfl⟩
        · replace H := zf h4 H
          by_cases h5 : x2 = 3
          · replace H := zt h5 H
            refine aw_tabIn (q := 88) (off := 68) dX6_faultOf_20 (by rw [h5]; decide) (by rw [h5]; decide) (by rw [h5]; rfl) (by decide) ?_
            refine aw_aload_n (q := 89) dX6_faultOf_88 rfl rfl ?_
            refine aw_getr (q := 92) dX6_faultOf_89 rfl e_X6_31 (by decide) (o_X6 s R) rfl ?_
            refine aw_getr (q := 95) dX6_faultOf_92 rfl e_X6_116 (zX4_lt zX4_74) (o_X4 zX4_74 s R) rfl ?_
            refine aw_iload_n (q := 96) dX6_faultOf_95 rfl rfl ?_
            obtain ⟨h10, H⟩ := zio H
            refine aw_iald' (q := 97) (v := s.1 (sD 74) x1.toNatClampNeg) dX6_faultOf_96 rfl (zX4_ltD zX4_74) (o_X4a1 zX4_74 s R) (zin_in h10) rfl ?_
            refine aw_cs (M' := M_X6_foundOrNot) (as := [.int (s.1 (sD 74) x1.toNatClampNeg)]) (q := 100) dX6_faultOf_97 rfl W_X6_foundOrNot k_X6_83 s_X6_foundOrNot rfl rfl (by decide) (Nat.le_of_ble_eq_true rfl) (c_X6_foundOrNot (zT s R) (s.1 (sD 74) x1.toNatClampNeg)) (Nat.le_refl _) (Nat.le_refl _) ?_
            rintro r9 h9 ⟨rfl, rfl⟩
            cases H
            exact aw_ret dX6_faultOf_100 rfl rfl rfl rfl ⟨rfl, rfl⟩
          · replace H := zf h5 H
            refine aw_tabOut (q := 101) dX6_faultOf_20 (by have w0 : ¬ x2.toInt = 0 := zne h2; have w1 : ¬ x2.toInt = 1 := zne h3; have w2 : ¬ x2.toInt = 2 := zne h4; have w3 : ¬ x2.toInt = 3 := zne h5; omega) (by decide) ?_
            refine aw_ldc (q := 103) dX6_faultOf_101 rfl q_X6_74 ?_
            cases H
            exact aw_ret dX6_faultOf_103 rfl rfl rfl rfl ⟨rfl, rfl⟩
  · replace H := zf h1 H
    refine aw_ldc (q := 18) dX6_faultOf_16 rfl q_X6_74 ?_
    cases H
    exact aw_ret dX6_faultOf_18 rfl rfl rfl rfl ⟨rfl, rfl⟩
def f_X6_isFaultOrNone (s : zs) (x1 : Int32) : Bool :=
  if x1 = (-1) then (
    true
  ) else (
    if f_X0_isFault s (sB 74) x1 = true then (
      true
    ) else (
      false
    )
  )
set_option maxHeartbeats 4000000 in
set_option maxRecDepth 100000 in
theorem c_X6_isFaultOrNone {G : zG} {sl : Nat} (s : zs) (R : zr) (x1 : Int32)  : zMv G 1 M_X6_isFaultOrNone [.ref 0, .int x1] sl (zT s R) (fun r h' => r = some (.int (zb (f_X6_isFaultOrNone s x1))) ∧ h' = (zT s R)) := by
  generalize H : f_X6_isFaultOrNone s x1 = r0
  unfold f_X6_isFaultOrNone at H
  refine zMv_of (L := [some (.ref 0), some (.int x1)]) (by decide) rfl (Nat.le_of_ble_eq_true rfl) rfl ?_
  refine aw_iload_n (q := 1) dX6_isFaultOrNone_0 rfl rfl ?_
  refine aw_iconst (q := 2) (v := (-1)) dX6_isFaultOrNone_1 rfl (by decide) ?_
  refine aw_icmp_eq (q := 5) (t := 19) dX6_isFaultOrNone_2 rfl (by decide) (fun h1 => ?_) (fun h1 => ?_)
  · replace H := zt h1 H
    refine aw_iconst (q := 20) (v := 1) dX6_isFaultOrNone_19 rfl (by decide) ?_
    refine aw_goto (q := 24) dX6_isFaultOrNone_20 (by decide) ?_
    subst H
    exact aw_ret dX6_isFaultOrNone_24 rfl rfl rfl rfl ⟨rfl, rfl⟩
  · replace H := zf h1 H
    refine aw_aload_n (q := 6) dX6_isFaultOrNone_5 rfl rfl ?_
    refine aw_getr (q := 9) dX6_isFaultOrNone_6 rfl e_X6_31 (by decide) (o_X6 s R) rfl ?_
    refine aw_getr (q := 12) dX6_isFaultOrNone_9 rfl e_X6_42 (zX4_lt zX4_74) (o_X4 zX4_74 s R) rfl ?_
    refine aw_iload_n (q := 13) dX6_isFaultOrNone_12 rfl rfl ?_
    refine aw_cv (M' := M_X0_isFault) (as := [.int x1]) (q := 16) dX6_isFaultOrNone_13 rfl W_X0_isFault k_X6_103 i_X0_isFault v_X0_isFault (zB_lt0 (zX4_B zX4_74)) (o_X0 (zX4_B zX4_74) s R) rfl rfl rfl (by decide) (Nat.le_of_ble_eq_true rfl) (c_X0_isFault s R (zX4_B zX4_74) x1) (Nat.le_refl _) (Nat.le_refl _) ?_
    rintro r9 h9 ⟨rfl, rfl⟩
    refine aw_ifeqB (q := 19) (t := 23) dX6_isFaultOrNone_16 rfl (by decide) (fun h2 => ?_) (fun h2 => ?_)
    · replace H := zt h2 H
      refine aw_iconst (q := 20) (v := 1) dX6_isFaultOrNone_19 rfl (by decide) ?_
      refine aw_goto (q := 24) dX6_isFaultOrNone_20 (by decide) ?_
      subst H
      exact aw_ret dX6_isFaultOrNone_24 rfl rfl rfl rfl ⟨rfl, rfl⟩
    · replace H := zf h2 H
      refine aw_iconst (q := 24) (v := 0) dX6_isFaultOrNone_23 rfl (by decide) ?_
      subst H
      exact aw_ret dX6_isFaultOrNone_24 rfl rfl rfl rfl ⟨rfl, rfl⟩
def f_X6_suspectFor (x0 : Int32) : Int32 :=
  if x0 = (-1) then (
    10
  ) else (
    x0
  )
set_option maxHeartbeats 4000000 in
set_option maxRecDepth 100000 in
theorem c_X6_suspectFor {G : zG} {sl : Nat} (h : zH) (x0 : Int32)  : zMv G 0 M_X6_suspectFor [.int x0] sl h (fun r h' => r = some (.int (f_X6_suspectFor x0)) ∧ h' = h) := by
  generalize H : f_X6_suspectFor x0 = r0
  unfold f_X6_suspectFor at H
  refine zMv_of (L := [some (.int x0)]) (by decide) rfl (Nat.le_of_ble_eq_true rfl) rfl ?_
  refine aw_iload_n (q := 1) dX6_suspectFor_0 rfl rfl ?_
  refine aw_iconst (q := 2) (v := (-1)) dX6_suspectFor_1 rfl (by decide) ?_
  refine aw_icmp_neP (q := 5) (t := 10) dX6_suspectFor_2 rfl (by decide) (fun h1 => ?_) (fun h1 => ?_)
  · replace H := zt h1 H
    refine aw_bipush (q := 7) (v := 10) dX6_suspectFor_5 rfl (by decide) ?_
    refine aw_goto (q := 11) dX6_suspectFor_7 (by decide) ?_
    subst H
    exact aw_ret dX6_suspectFor_11 rfl rfl rfl rfl ⟨rfl, rfl⟩
  · replace H := zf h1 H
    refine aw_iload_n (q := 11) dX6_suspectFor_10 rfl rfl ?_
    subst H
    exact aw_ret dX6_suspectFor_11 rfl rfl rfl rfl ⟨rfl, rfl⟩
def f_X6_plant (s : zs) (x1 : Int32) : Option (Int32 × zs) :=
  if f_X6_isFaultOrNone s x1 = true then (
    Option.bind (f_X1_keep s 74) fun v2 =>
    zlt (zc v2 74 3 (f_X6_suspectFor x1)) fun s3 =>
    zlt (zc s3 74 4 (f_X0_allSuspects s3 (sB 74))) fun s5 =>
    some (f_J6_bitCount_0f7a4 (s5.1 74 4), s5)
  ) else (
    some ((-1000001), s)
  )
set_option maxHeartbeats 4000000 in
set_option maxRecDepth 100000 in
theorem c_X6_plant {G : zG} {sl : Nat} (s : zs) (R : zr) (x1 : Int32) {v9 : (Int32 × zs)} (H : f_X6_plant s x1 = some v9) : zMv G 5 M_X6_plant [.ref 0, .int x1] sl (zT s R) (fun r h' => r = some (.int v9.1) ∧ h' = zT v9.2 R) := by
  unfold f_X6_plant at H
  refine zMv_of (L := [some (.ref 0), some (.int x1)]) (by decide) rfl (Nat.le_of_ble_eq_true rfl) rfl ?_
  refine aw_aload_n (q := 1) dX6_plant_0 rfl rfl ?_
  refine aw_iload_n (q := 2) dX6_plant_1 rfl rfl ?_
  refine aw_cv (M' := M_X6_isFaultOrNone) (as := [.int x1]) (q := 5) dX6_plant_2 rfl W_X6_isFaultOrNone k_X6_122 i_X6_isFaultOrNone v_X6_isFaultOrNone (by decide) (o_X6 s R) rfl rfl rfl (by decide) (Nat.le_of_ble_eq_true rfl) (c_X6_isFaultOrNone s R x1) (Nat.le_refl _) (Nat.le_refl _) ?_
  rintro r9 h9 ⟨rfl, rfl⟩
  refine aw_ifneB (q := 8) (t := 11) dX6_plant_5 rfl (by decide) (fun h1 => ?_) (fun h1 => ?_)
  · replace H := zt h1 H
    refine aw_aload_n (q := 12) dX6_plant_11 rfl rfl ?_
    refine aw_getr (q := 15) dX6_plant_12 rfl e_X6_12 (by decide) (o_X6 s R) rfl ?_
    refine aw_aload_n (q := 16) dX6_plant_15 rfl rfl ?_
    refine aw_getr (q := 19) dX6_plant_16 rfl e_X6_31 (by decide) (o_X6 s R) rfl ?_
    obtain ⟨v2, hv2, H⟩ := zbd H
    refine aw_cv (M' := M_X1_keep) (as := [.ref 74]) (q := 22) dX6_plant_19 rfl W_X1_keep k_X6_50 i_X1_keep v_X1_keep (by decide) (o_X1 s R) rfl rfl rfl (by decide) (Nat.le_of_ble_eq_true rfl) (c_X1_keep s R zX4_74 hv2) (Nat.le_refl _) (Nat.le_refl _) ?_
    rintro r9 h9 ⟨rfl, rfl⟩
    refine aw_aload_n (q := 23) dX6_plant_22 rfl rfl ?_
    refine aw_getr (q := 26) dX6_plant_23 rfl e_X6_31 (by decide) (o_X6 v2 R) rfl ?_
    refine aw_iload_n (q := 27) dX6_plant_26 rfl rfl ?_
    refine aw_cs (M' := M_X6_suspectFor) (as := [.int x1]) (q := 30) dX6_plant_27 rfl W_X6_suspectFor k_X6_125 s_X6_suspectFor rfl rfl (by decide) (Nat.le_of_ble_eq_true rfl) (c_X6_suspectFor (zT v2 R) x1) (Nat.le_refl _) (Nat.le_refl _) ?_
    rintro r9 h9 ⟨rfl, rfl⟩
    obtain ⟨s3, q4, H⟩ := zltd H
    refine aw_put (q := 33) dX6_plant_30 rfl f_X6_191 (zX4_lt zX4_74) (o_X4 zX4_74 v2 R) rfl rfl (Nat.le_of_ble_eq_true rfl) ((p_X4_3 zX4_74).trans (congrArg (fun z => zT z R) q4.symm)) ?_
    refine aw_aload_n (q := 34) dX6_plant_33 rfl rfl ?_
    refine aw_getr (q := 37) dX6_plant_34 rfl e_X6_31 (by decide) (o_X6 s3 R) rfl ?_
    refine aw_aload_n (q := 38) dX6_plant_37 rfl rfl ?_
    refine aw_getr (q := 41) dX6_plant_38 rfl e_X6_31 (by decide) (o_X6 s3 R) rfl ?_
    refine aw_getr (q := 44) dX6_plant_41 rfl e_X6_42 (zX4_lt zX4_74) (o_X4 zX4_74 s3 R) rfl ?_
    refine aw_cv (M' := M_X0_allSuspects) (as := []) (q := 47) dX6_plant_44 rfl W_X0_allSuspects k_X6_194 i_X0_allSuspects v_X0_allSuspects (zB_lt0 (zX4_B zX4_74)) (o_X0 (zX4_B zX4_74) s3 R) rfl rfl rfl (by decide) (Nat.le_of_ble_eq_true rfl) (c_X0_allSuspects s3 R (zX4_B zX4_74)) (Nat.le_refl _) (Nat.le_refl _) ?_
    rintro r9 h9 ⟨rfl, rfl⟩
    obtain ⟨s5, q6, H⟩ := zltd H
    refine aw_put (q := 50) dX6_plant_47 rfl f_X6_197 (zX4_lt zX4_74) (o_X4 zX4_74 s3 R) rfl rfl (Nat.le_of_ble_eq_true rfl) ((p_X4_4 zX4_74).trans (congrArg (fun z => zT z R) q6.symm)) ?_
    refine aw_aload_n (q := 51) dX6_plant_50 rfl rfl ?_
    refine aw_getr (q := 54) dX6_plant_51 rfl e_X6_31 (by decide) (o_X6 s5 R) rfl ?_
    refine aw_getr (q := 57) dX6_plant_54 rfl e_X6_197 (zX4_lt zX4_74) (o_X4 zX4_74 s5 R) rfl ?_
    refine aw_cs (M' := M_J6_bitCount_0f7a4) (as := [.int (s5.1 74 4)]) (q := 60) dX6_plant_57 rfl W_J6_bitCount_0f7a4 k_X6_186 s_J6_bitCount_0f7a4 rfl rfl (by decide) (Nat.le_of_ble_eq_true rfl) (c_J6_bitCount_0f7a4 (zT s5 R) (s5.1 74 4)) (Nat.le_refl _) (Nat.le_refl _) ?_
    rintro r9 h9 ⟨rfl, rfl⟩
    cases H
    exact aw_ret dX6_plant_60 rfl rfl rfl rfl ⟨rfl, rfl⟩
  · replace H := zf h1 H
    refine aw_ldc (q := 10) dX6_plant_8 rfl q_X6_74 ?_
    cases H
    exact aw_ret dX6_plant_10 rfl rfl rfl rfl ⟨rfl, rfl⟩
def f_X6_test (s : zs) : Option (Int32 × zs) :=
  Option.bind (f_X1_keep s 74) fun v1 =>
  zlt (zc v1 74 7 ((v1.1 74 7) + 1)) fun s2 =>
  Option.bind (f_X4_touchedNow s2 74) fun v4 =>
  Option.bind (f_X2_leftBy s2 v4 (s2.1 74 3) (s2.1 74 4)) fun v5 =>
  zlt (zc v5.2 74 4 v5.1) fun s6 =>
  some (f_J6_bitCount_0f7a4 (s6.1 74 4), s6)
set_option maxHeartbeats 4000000 in
set_option maxRecDepth 100000 in
theorem c_X6_test {G : zG} {sl : Nat} (s : zs) (R : zr)  {v9 : (Int32 × zs)} (H : f_X6_test s = some v9) : zMv G 6 M_X6_test [.ref 0] sl (zT s R) (fun r h' => r = some (.int v9.1) ∧ h' = zT v9.2 R) := by
  unfold f_X6_test at H
  refine zMv_of (L := [some (.ref 0)]) (by decide) rfl (Nat.le_of_ble_eq_true rfl) rfl ?_
  refine aw_aload_n (q := 1) dX6_test_0 rfl rfl ?_
  refine aw_getr (q := 4) dX6_test_1 rfl e_X6_12 (by decide) (o_X6 s R) rfl ?_
  refine aw_aload_n (q := 5) dX6_test_4 rfl rfl ?_
  refine aw_getr (q := 8) dX6_test_5 rfl e_X6_31 (by decide) (o_X6 s R) rfl ?_
  obtain ⟨v1, hv1, H⟩ := zbd H
  refine aw_cv (M' := M_X1_keep) (as := [.ref 74]) (q := 11) dX6_test_8 rfl W_X1_keep k_X6_50 i_X1_keep v_X1_keep (by decide) (o_X1 s R) rfl rfl rfl (by decide) (Nat.le_of_ble_eq_true rfl) (c_X1_keep s R zX4_74 hv1) (Nat.le_refl _) (Nat.le_refl _) ?_
  rintro r9 h9 ⟨rfl, rfl⟩
  refine aw_aload_n (q := 12) dX6_test_11 rfl rfl ?_
  refine aw_getr (q := 15) dX6_test_12 rfl e_X6_31 (by decide) (o_X6 v1 R) rfl ?_
  refine aw_dup (q := 16) dX6_test_15 rfl rfl ?_
  refine aw_getr (q := 19) dX6_test_16 rfl e_X6_200 (zX4_lt zX4_74) (o_X4 zX4_74 v1 R) rfl ?_
  refine aw_iconst (q := 20) (v := 1) dX6_test_19 rfl (by decide) ?_
  refine aw_iadd (q := 21) dX6_test_20 rfl ?_
  obtain ⟨s2, q3, H⟩ := zltd H
  refine aw_put (q := 24) dX6_test_21 rfl f_X6_200 (zX4_lt zX4_74) (o_X4 zX4_74 v1 R) rfl rfl (Nat.le_of_ble_eq_true rfl) ((p_X4_7 zX4_74).trans (congrArg (fun z => zT z R) q3.symm)) ?_
  refine aw_aload_n (q := 25) dX6_test_24 rfl rfl ?_
  refine aw_getr (q := 28) dX6_test_25 rfl e_X6_31 (by decide) (o_X6 s2 R) rfl ?_
  refine aw_aload_n (q := 29) dX6_test_28 rfl rfl ?_
  refine aw_getr (q := 32) dX6_test_29 rfl e_X6_38 (by decide) (o_X6 s2 R) rfl ?_
  refine aw_aload_n (q := 33) dX6_test_32 rfl rfl ?_
  refine aw_getr (q := 36) dX6_test_33 rfl e_X6_31 (by decide) (o_X6 s2 R) rfl ?_
  obtain ⟨v4, hv4, H⟩ := zbd H
  refine aw_cv (M' := M_X4_touchedNow) (as := []) (q := 39) dX6_test_36 rfl W_X4_touchedNow k_X6_95 i_X4_touchedNow v_X4_touchedNow (zX4_lt zX4_74) (o_X4 zX4_74 s2 R) rfl rfl rfl (by decide) (Nat.le_of_ble_eq_true rfl) (c_X4_touchedNow s2 R zX4_74 hv4) (Nat.le_refl _) (Nat.le_refl _) ?_
  rintro r9 h9 ⟨rfl, rfl⟩
  refine aw_aload_n (q := 40) dX6_test_39 rfl rfl ?_
  refine aw_getr (q := 43) dX6_test_40 rfl e_X6_31 (by decide) (o_X6 s2 R) rfl ?_
  refine aw_getr (q := 46) dX6_test_43 rfl e_X6_191 (zX4_lt zX4_74) (o_X4 zX4_74 s2 R) rfl ?_
  refine aw_aload_n (q := 47) dX6_test_46 rfl rfl ?_
  refine aw_getr (q := 50) dX6_test_47 rfl e_X6_31 (by decide) (o_X6 s2 R) rfl ?_
  refine aw_getr (q := 53) dX6_test_50 rfl e_X6_197 (zX4_lt zX4_74) (o_X4 zX4_74 s2 R) rfl ?_
  obtain ⟨v5, hv5, H⟩ := zbd H
  refine aw_cv (M' := M_X2_leftBy) (as := [.int v4, .int (s2.1 74 3), .int (s2.1 74 4)]) (q := 56) dX6_test_53 rfl W_X2_leftBy k_X6_203 i_X2_leftBy v_X2_leftBy (by decide) (o_X2 s2 R) rfl rfl rfl (by decide) (Nat.le_of_ble_eq_true rfl) (c_X2_leftBy s2 R v4 (s2.1 74 3) (s2.1 74 4) hv5) (Nat.le_refl _) (Nat.le_refl _) ?_
  rintro r9 h9 ⟨rfl, rfl⟩
  obtain ⟨s6, q7, H⟩ := zltd H
  refine aw_put (q := 59) dX6_test_56 rfl f_X6_197 (zX4_lt zX4_74) (o_X4 zX4_74 v5.2 R) rfl rfl (Nat.le_of_ble_eq_true rfl) ((p_X4_4 zX4_74).trans (congrArg (fun z => zT z R) q7.symm)) ?_
  refine aw_aload_n (q := 60) dX6_test_59 rfl rfl ?_
  refine aw_getr (q := 63) dX6_test_60 rfl e_X6_31 (by decide) (o_X6 s6 R) rfl ?_
  refine aw_getr (q := 66) dX6_test_63 rfl e_X6_197 (zX4_lt zX4_74) (o_X4 zX4_74 s6 R) rfl ?_
  refine aw_cs (M' := M_J6_bitCount_0f7a4) (as := [.int (s6.1 74 4)]) (q := 69) dX6_test_66 rfl W_J6_bitCount_0f7a4 k_X6_186 s_J6_bitCount_0f7a4 rfl rfl (by decide) (Nat.le_of_ble_eq_true rfl) (c_J6_bitCount_0f7a4 (zT s6 R) (s6.1 74 4)) (Nat.le_refl _) (Nat.le_refl _) ?_
  rintro r9 h9 ⟨rfl, rfl⟩
  cases H
  exact aw_ret dX6_test_69 rfl rfl rfl rfl ⟨rfl, rfl⟩
def f_X6_vouch (s : zs) (x1 : Int32) : Option (Int32 × zs) :=
  if f_X6_isPin x1 = true then (
    Option.bind (f_X4_touchedNow s 74) fun v2 =>
    if f_X6_hasBit v2 x1 = true then (
      some ((-1000002), s)
    ) else (
      if (s.1 74 5) = 0 then (
        some ((-1000003), s)
      ) else (
        Option.bind (f_X1_keep s 74) fun v5 =>
        zlt (zc v5 74 6 ((v5.1 74 6) ||| ((1 : Int32) <<< (x1 &&& 31)))) fun s6 =>
        zlt (zc s6 74 5 ((s6.1 74 5) - 1)) fun s8 =>
        some (s8.1 74 5, s8)
      )
    )
  ) else (
    some ((-1000001), s)
  )
set_option maxHeartbeats 4000000 in
set_option maxRecDepth 100000 in
theorem c_X6_vouch {G : zG} {sl : Nat} (s : zs) (R : zr) (x1 : Int32) {v9 : (Int32 × zs)} (H : f_X6_vouch s x1 = some v9) : zMv G 5 M_X6_vouch [.ref 0, .int x1] sl (zT s R) (fun r h' => r = some (.int v9.1) ∧ h' = zT v9.2 R) := by
  unfold f_X6_vouch at H
  refine zMv_of (L := [some (.ref 0), some (.int x1)]) (by decide) rfl (Nat.le_of_ble_eq_true rfl) rfl ?_
  refine aw_iload_n (q := 1) dX6_vouch_0 rfl rfl ?_
  refine aw_cs (M' := M_X6_isPin) (as := [.int x1]) (q := 4) dX6_vouch_1 rfl W_X6_isPin k_X6_70 s_X6_isPin rfl rfl (by decide) (Nat.le_of_ble_eq_true rfl) (c_X6_isPin (zT s R) x1) (Nat.le_refl _) (Nat.le_refl _) ?_
  rintro r9 h9 ⟨rfl, rfl⟩
  refine aw_ifneB (q := 7) (t := 10) dX6_vouch_4 rfl (by decide) (fun h1 => ?_) (fun h1 => ?_)
  · replace H := zt h1 H
    refine aw_aload_n (q := 11) dX6_vouch_10 rfl rfl ?_
    refine aw_getr (q := 14) dX6_vouch_11 rfl e_X6_31 (by decide) (o_X6 s R) rfl ?_
    obtain ⟨v2, hv2, H⟩ := zbd H
    refine aw_cv (M' := M_X4_touchedNow) (as := []) (q := 17) dX6_vouch_14 rfl W_X4_touchedNow k_X6_95 i_X4_touchedNow v_X4_touchedNow (zX4_lt zX4_74) (o_X4 zX4_74 s R) rfl rfl rfl (by decide) (Nat.le_of_ble_eq_true rfl) (c_X4_touchedNow s R zX4_74 hv2) (Nat.le_refl _) (Nat.le_refl _) ?_
    rintro r9 h9 ⟨rfl, rfl⟩
    refine aw_iload_n (q := 18) dX6_vouch_17 rfl rfl ?_
    refine aw_cs (M' := M_X6_hasBit) (as := [.int v2, .int x1]) (q := 21) dX6_vouch_18 rfl W_X6_hasBit k_X6_99 s_X6_hasBit rfl rfl (by decide) (Nat.le_of_ble_eq_true rfl) (c_X6_hasBit (zT s R) v2 x1) (Nat.le_refl _) (Nat.le_refl _) ?_
    rintro r9 h9 ⟨rfl, rfl⟩
    refine aw_ifeqB (q := 24) (t := 27) dX6_vouch_21 rfl (by decide) (fun h3 => ?_) (fun h3 => ?_)
    · replace H := zt h3 H
      refine aw_ldc (q := 26) dX6_vouch_24 rfl q_X6_206 ?_
      cases H
      exact aw_ret dX6_vouch_26 rfl rfl rfl rfl ⟨rfl, rfl⟩
    · replace H := zf h3 H
      refine aw_aload_n (q := 28) dX6_vouch_27 rfl rfl ?_
      refine aw_getr (q := 31) dX6_vouch_28 rfl e_X6_31 (by decide) (o_X6 s R) rfl ?_
      refine aw_getr (q := 34) dX6_vouch_31 rfl e_X6_207 (zX4_lt zX4_74) (o_X4 zX4_74 s R) rfl ?_
      refine aw_if_neP (q := 37) (t := 40) dX6_vouch_34 rfl (by decide) (fun h4 => ?_) (fun h4 => ?_)
      · replace H := zt h4 H
        refine aw_ldc (q := 39) dX6_vouch_37 rfl q_X6_210 ?_
        cases H
        exact aw_ret dX6_vouch_39 rfl rfl rfl rfl ⟨rfl, rfl⟩
      · replace H := zf h4 H
        refine aw_aload_n (q := 41) dX6_vouch_40 rfl rfl ?_
        refine aw_getr (q := 44) dX6_vouch_41 rfl e_X6_12 (by decide) (o_X6 s R) rfl ?_
        refine aw_aload_n (q := 45) dX6_vouch_44 rfl rfl ?_
        refine aw_getr (q := 48) dX6_vouch_45 rfl e_X6_31 (by decide) (o_X6 s R) rfl ?_
        obtain ⟨v5, hv5, H⟩ := zbd H
        refine aw_cv (M' := M_X1_keep) (as := [.ref 74]) (q := 51) dX6_vouch_48 rfl W_X1_keep k_X6_50 i_X1_keep v_X1_keep (by decide) (o_X1 s R) rfl rfl rfl (by decide) (Nat.le_of_ble_eq_true rfl) (c_X1_keep s R zX4_74 hv5) (Nat.le_refl _) (Nat.le_refl _) ?_
        rintro r9 h9 ⟨rfl, rfl⟩
        refine aw_aload_n (q := 52) dX6_vouch_51 rfl rfl ?_
        refine aw_getr (q := 55) dX6_vouch_52 rfl e_X6_31 (by decide) (o_X6 v5 R) rfl ?_
        refine aw_dup (q := 56) dX6_vouch_55 rfl rfl ?_
        refine aw_getr (q := 59) dX6_vouch_56 rfl e_X6_211 (zX4_lt zX4_74) (o_X4 zX4_74 v5 R) rfl ?_
        refine aw_iconst (q := 60) (v := 1) dX6_vouch_59 rfl (by decide) ?_
        refine aw_iload_n (q := 61) dX6_vouch_60 rfl rfl ?_
        refine aw_ishl (q := 62) dX6_vouch_61 rfl ?_
        refine aw_ior (q := 63) dX6_vouch_62 rfl ?_
        obtain ⟨s6, q7, H⟩ := zltd H
        refine aw_put (q := 66) dX6_vouch_63 rfl f_X6_211 (zX4_lt zX4_74) (o_X4 zX4_74 v5 R) rfl rfl (Nat.le_of_ble_eq_true rfl) ((p_X4_6 zX4_74).trans (congrArg (fun z => zT z R) q7.symm)) ?_
        refine aw_aload_n (q := 67) dX6_vouch_66 rfl rfl ?_
        refine aw_getr (q := 70) dX6_vouch_67 rfl e_X6_31 (by decide) (o_X6 s6 R) rfl ?_
        refine aw_dup (q := 71) dX6_vouch_70 rfl rfl ?_
        refine aw_getr (q := 74) dX6_vouch_71 rfl e_X6_207 (zX4_lt zX4_74) (o_X4 zX4_74 s6 R) rfl ?_
        refine aw_iconst (q := 75) (v := 1) dX6_vouch_74 rfl (by decide) ?_
        refine aw_isub (q := 76) dX6_vouch_75 rfl ?_
        obtain ⟨s8, q9, H⟩ := zltd H
        refine aw_put (q := 79) dX6_vouch_76 rfl f_X6_207 (zX4_lt zX4_74) (o_X4 zX4_74 s6 R) rfl rfl (Nat.le_of_ble_eq_true rfl) ((p_X4_5 zX4_74).trans (congrArg (fun z => zT z R) q9.symm)) ?_
        refine aw_aload_n (q := 80) dX6_vouch_79 rfl rfl ?_
        refine aw_getr (q := 83) dX6_vouch_80 rfl e_X6_31 (by decide) (o_X6 s8 R) rfl ?_
        refine aw_getr (q := 86) dX6_vouch_83 rfl e_X6_207 (zX4_lt zX4_74) (o_X4 zX4_74 s8 R) rfl ?_
        cases H
        exact aw_ret dX6_vouch_86 rfl rfl rfl rfl ⟨rfl, rfl⟩
  · replace H := zf h1 H
    refine aw_ldc (q := 9) dX6_vouch_7 rfl q_X6_74 ?_
    cases H
    exact aw_ret dX6_vouch_9 rfl rfl rfl rfl ⟨rfl, rfl⟩
def f_X6_vouchers (s : zs) (x1 : Int32) : Option (Int32 × zs) :=
  if x1 < 0 then (
    some ((-1000001), s)
  ) else (
    if x1 ≤ 20 then (
      Option.bind (f_X1_keep s 74) fun v3 =>
      zlt (v3.1 74 5 : Int32) fun y4 =>
      zlt (zc v3 74 5 x1) fun s6 =>
      some (y4, s6)
    ) else (
      some ((-1000001), s)
    )
  )
set_option maxHeartbeats 4000000 in
set_option maxRecDepth 100000 in
theorem c_X6_vouchers {G : zG} {sl : Nat} (s : zs) (R : zr) (x1 : Int32) {v9 : (Int32 × zs)} (H : f_X6_vouchers s x1 = some v9) : zMv G 5 M_X6_vouchers [.ref 0, .int x1] sl (zT s R) (fun r h' => r = some (.int v9.1) ∧ h' = zT v9.2 R) := by
  unfold f_X6_vouchers at H
  refine zMv_of (L := [some (.ref 0), some (.int x1), none]) (by decide) rfl (Nat.le_of_ble_eq_true rfl) rfl ?_
  refine aw_iload_n (q := 1) dX6_vouchers_0 rfl rfl ?_
  refine aw_if_lt (q := 4) (t := 10) dX6_vouchers_1 rfl (by decide) (fun h1 => ?_) (fun h1 => ?_)
  · replace H := zt h1 H
    refine aw_ldc (q := 12) dX6_vouchers_10 rfl q_X6_74 ?_
    cases H
    exact aw_ret dX6_vouchers_12 rfl rfl rfl rfl ⟨rfl, rfl⟩
  · replace H := zf h1 H
    refine aw_iload_n (q := 5) dX6_vouchers_4 rfl rfl ?_
    refine aw_bipush (q := 7) (v := 20) dX6_vouchers_5 rfl (by decide) ?_
    refine aw_icmp_le (q := 10) (t := 13) dX6_vouchers_7 rfl (by decide) (fun h2 => ?_) (fun h2 => ?_)
    · replace H := zt h2 H
      refine aw_aload_n (q := 14) dX6_vouchers_13 rfl rfl ?_
      refine aw_getr (q := 17) dX6_vouchers_14 rfl e_X6_12 (by decide) (o_X6 s R) rfl ?_
      refine aw_aload_n (q := 18) dX6_vouchers_17 rfl rfl ?_
      refine aw_getr (q := 21) dX6_vouchers_18 rfl e_X6_31 (by decide) (o_X6 s R) rfl ?_
      obtain ⟨v3, hv3, H⟩ := zbd H
      refine aw_cv (M' := M_X1_keep) (as := [.ref 74]) (q := 24) dX6_vouchers_21 rfl W_X1_keep k_X6_50 i_X1_keep v_X1_keep (by decide) (o_X1 s R) rfl rfl rfl (by decide) (Nat.le_of_ble_eq_true rfl) (c_X1_keep s R zX4_74 hv3) (Nat.le_refl _) (Nat.le_refl _) ?_
      rintro r9 h9 ⟨rfl, rfl⟩
      refine aw_aload_n (q := 25) dX6_vouchers_24 rfl rfl ?_
      refine aw_getr (q := 28) dX6_vouchers_25 rfl e_X6_31 (by decide) (o_X6 v3 R) rfl ?_
      refine aw_getr (q := 31) dX6_vouchers_28 rfl e_X6_207 (zX4_lt zX4_74) (o_X4 zX4_74 v3 R) rfl ?_
      obtain ⟨y4, q5, H⟩ := zltd H
      refine aw_nm q5 ?_
      refine aw_istore_n (q := 32) (L' := [some (.ref 0), some (.int x1), some (.int y4)]) dX6_vouchers_31 rfl (by decide) rfl rfl ?_
      refine aw_aload_n (q := 33) dX6_vouchers_32 rfl rfl ?_
      refine aw_getr (q := 36) dX6_vouchers_33 rfl e_X6_31 (by decide) (o_X6 v3 R) rfl ?_
      refine aw_iload_n (q := 37) dX6_vouchers_36 rfl rfl ?_
      obtain ⟨s6, q7, H⟩ := zltd H
      refine aw_put (q := 40) dX6_vouchers_37 rfl f_X6_207 (zX4_lt zX4_74) (o_X4 zX4_74 v3 R) rfl rfl (Nat.le_of_ble_eq_true rfl) ((p_X4_5 zX4_74).trans (congrArg (fun z => zT z R) q7.symm)) ?_
      refine aw_iload_n (q := 41) dX6_vouchers_40 rfl rfl ?_
      cases H
      exact aw_ret dX6_vouchers_41 rfl rfl rfl rfl ⟨rfl, rfl⟩
    · replace H := zf h2 H
      refine aw_ldc (q := 12) dX6_vouchers_10 rfl q_X6_74 ?_
      cases H
      exact aw_ret dX6_vouchers_12 rfl rfl rfl rfl ⟨rfl, rfl⟩
def f_X6_pass (s : zs) (x1 : Int32) : Option (Int32 × zs) :=
  if x1 < 1 then (
    some ((-1000001), s)
  ) else (
    if x1 ≤ 60 then (
      if ((s.1 74 2) + x1) ≤ 10000 then (
        Option.bind (f_X1_keep s 74) fun v4 =>
        zlt (zc v4 74 2 ((v4.1 74 2) + x1)) fun s5 =>
        zlt (zc s5 74 6 0) fun s7 =>
        some (f_X4_weekday s7 74, s7)
      ) else (
        some ((-1000003), s)
      )
    ) else (
      some ((-1000001), s)
    )
  )
set_option maxHeartbeats 4000000 in
set_option maxRecDepth 100000 in
theorem c_X6_pass {G : zG} {sl : Nat} (s : zs) (R : zr) (x1 : Int32) {v9 : (Int32 × zs)} (H : f_X6_pass s x1 = some v9) : zMv G 5 M_X6_pass [.ref 0, .int x1] sl (zT s R) (fun r h' => r = some (.int v9.1) ∧ h' = zT v9.2 R) := by
  unfold f_X6_pass at H
  refine zMv_of (L := [some (.ref 0), some (.int x1)]) (by decide) rfl (Nat.le_of_ble_eq_true rfl) rfl ?_
  refine aw_iload_n (q := 1) dX6_pass_0 rfl rfl ?_
  refine aw_iconst (q := 2) (v := 1) dX6_pass_1 rfl (by decide) ?_
  refine aw_icmp_lt (q := 5) (t := 11) dX6_pass_2 rfl (by decide) (fun h1 => ?_) (fun h1 => ?_)
  · replace H := zt h1 H
    refine aw_ldc (q := 13) dX6_pass_11 rfl q_X6_74 ?_
    cases H
    exact aw_ret dX6_pass_13 rfl rfl rfl rfl ⟨rfl, rfl⟩
  · replace H := zf h1 H
    refine aw_iload_n (q := 6) dX6_pass_5 rfl rfl ?_
    refine aw_bipush (q := 8) (v := 60) dX6_pass_6 rfl (by decide) ?_
    refine aw_icmp_le (q := 11) (t := 14) dX6_pass_8 rfl (by decide) (fun h2 => ?_) (fun h2 => ?_)
    · replace H := zt h2 H
      refine aw_aload_n (q := 15) dX6_pass_14 rfl rfl ?_
      refine aw_getr (q := 18) dX6_pass_15 rfl e_X6_31 (by decide) (o_X6 s R) rfl ?_
      refine aw_getr (q := 21) dX6_pass_18 rfl e_X6_214 (zX4_lt zX4_74) (o_X4 zX4_74 s R) rfl ?_
      refine aw_iload_n (q := 22) dX6_pass_21 rfl rfl ?_
      refine aw_iadd (q := 23) dX6_pass_22 rfl ?_
      refine aw_sipush (q := 26) (v := 10000) dX6_pass_23 rfl (by decide) ?_
      refine aw_icmp_le (q := 29) (t := 32) dX6_pass_26 rfl (by decide) (fun h3 => ?_) (fun h3 => ?_)
      · replace H := zt h3 H
        refine aw_aload_n (q := 33) dX6_pass_32 rfl rfl ?_
        refine aw_getr (q := 36) dX6_pass_33 rfl e_X6_12 (by decide) (o_X6 s R) rfl ?_
        refine aw_aload_n (q := 37) dX6_pass_36 rfl rfl ?_
        refine aw_getr (q := 40) dX6_pass_37 rfl e_X6_31 (by decide) (o_X6 s R) rfl ?_
        obtain ⟨v4, hv4, H⟩ := zbd H
        refine aw_cv (M' := M_X1_keep) (as := [.ref 74]) (q := 43) dX6_pass_40 rfl W_X1_keep k_X6_50 i_X1_keep v_X1_keep (by decide) (o_X1 s R) rfl rfl rfl (by decide) (Nat.le_of_ble_eq_true rfl) (c_X1_keep s R zX4_74 hv4) (Nat.le_refl _) (Nat.le_refl _) ?_
        rintro r9 h9 ⟨rfl, rfl⟩
        refine aw_aload_n (q := 44) dX6_pass_43 rfl rfl ?_
        refine aw_getr (q := 47) dX6_pass_44 rfl e_X6_31 (by decide) (o_X6 v4 R) rfl ?_
        refine aw_dup (q := 48) dX6_pass_47 rfl rfl ?_
        refine aw_getr (q := 51) dX6_pass_48 rfl e_X6_214 (zX4_lt zX4_74) (o_X4 zX4_74 v4 R) rfl ?_
        refine aw_iload_n (q := 52) dX6_pass_51 rfl rfl ?_
        refine aw_iadd (q := 53) dX6_pass_52 rfl ?_
        obtain ⟨s5, q6, H⟩ := zltd H
        refine aw_put (q := 56) dX6_pass_53 rfl f_X6_214 (zX4_lt zX4_74) (o_X4 zX4_74 v4 R) rfl rfl (Nat.le_of_ble_eq_true rfl) ((p_X4_2 zX4_74).trans (congrArg (fun z => zT z R) q6.symm)) ?_
        refine aw_aload_n (q := 57) dX6_pass_56 rfl rfl ?_
        refine aw_getr (q := 60) dX6_pass_57 rfl e_X6_31 (by decide) (o_X6 s5 R) rfl ?_
        refine aw_iconst (q := 61) (v := 0) dX6_pass_60 rfl (by decide) ?_
        obtain ⟨s7, q8, H⟩ := zltd H
        refine aw_put (q := 64) dX6_pass_61 rfl f_X6_211 (zX4_lt zX4_74) (o_X4 zX4_74 s5 R) rfl rfl (Nat.le_of_ble_eq_true rfl) ((p_X4_6 zX4_74).trans (congrArg (fun z => zT z R) q8.symm)) ?_
        refine aw_aload_n (q := 65) dX6_pass_64 rfl rfl ?_
        refine aw_getr (q := 68) dX6_pass_65 rfl e_X6_31 (by decide) (o_X6 s7 R) rfl ?_
        refine aw_cv (M' := M_X4_weekday) (as := []) (q := 71) dX6_pass_68 rfl W_X4_weekday k_X6_217 i_X4_weekday v_X4_weekday (zX4_lt zX4_74) (o_X4 zX4_74 s7 R) rfl rfl rfl (by decide) (Nat.le_of_ble_eq_true rfl) (c_X4_weekday s7 R zX4_74) (Nat.le_refl _) (Nat.le_refl _) ?_
        rintro r9 h9 ⟨rfl, rfl⟩
        cases H
        exact aw_ret dX6_pass_71 rfl rfl rfl rfl ⟨rfl, rfl⟩
      · replace H := zf h3 H
        refine aw_ldc (q := 31) dX6_pass_29 rfl q_X6_210 ?_
        cases H
        exact aw_ret dX6_pass_31 rfl rfl rfl rfl ⟨rfl, rfl⟩
    · replace H := zf h2 H
      refine aw_ldc (q := 13) dX6_pass_11 rfl q_X6_74 ?_
      cases H
      exact aw_ret dX6_pass_13 rfl rfl rfl rfl ⟨rfl, rfl⟩
def f_X6_suspects (s : zs) : Int32 :=
  s.1 74 4
set_option maxHeartbeats 4000000 in
set_option maxRecDepth 100000 in
theorem c_X6_suspects {G : zG} {sl : Nat} (s : zs) (R : zr)   : zMv G 0 M_X6_suspects [.ref 0] sl (zT s R) (fun r h' => r = some (.int (f_X6_suspects s)) ∧ h' = (zT s R)) := by
  generalize H : f_X6_suspects s = r0
  unfold f_X6_suspects at H
  refine zMv_of (L := [some (.ref 0)]) (by decide) rfl (Nat.le_of_ble_eq_true rfl) rfl ?_
  refine aw_aload_n (q := 1) dX6_suspects_0 rfl rfl ?_
  refine aw_getr (q := 4) dX6_suspects_1 rfl e_X6_31 (by decide) (o_X6 s R) rfl ?_
  refine aw_getr (q := 7) dX6_suspects_4 rfl e_X6_197 (zX4_lt zX4_74) (o_X4 zX4_74 s R) rfl ?_
  subst H
  exact aw_ret dX6_suspects_7 rfl rfl rfl rfl ⟨rfl, rfl⟩
def f_X6_file (s : zs) (x1 : Int32) (x2 : Int32) : Option (Int32 × zs) :=
  if f_X0_isFault s (sB 74) x1 = true then (
    if x2 < 0 then (
      some ((-1000001), s)
    ) else (
      if x2 < 5 then (
        if zin x1 10 = true then
        if (s.1 (sD 74) x1.toNatClampNeg) = (-1) then (
          if (s.1 (sB 74 + 6) x1.toNatClampNeg) = x2 then (
            Option.bind (f_X4_filedIn s 74 x2) fun v7 =>
            if v7 < 3 then (
              Option.bind (f_X1_keep s 74) fun v9 =>
              zlt (zc v9 (sD 74) x1.toNatClampNeg x2) fun s10 =>
              Option.bind (f_X4_filedIn s10 74 x2) fun v12 =>
              some (v12, s10)
            ) else (
              some ((-1000003), s)
            )
          ) else (
            some ((-1000002), s)
          )
        ) else (
          some ((-1000002), s)
        )
        else none
      ) else (
        some ((-1000001), s)
      )
    )
  ) else (
    some ((-1000001), s)
  )
set_option maxHeartbeats 4000000 in
set_option maxRecDepth 100000 in
theorem c_X6_file {G : zG} {sl : Nat} (s : zs) (R : zr) (x1 : Int32) (x2 : Int32) {v9 : (Int32 × zs)} (H : f_X6_file s x1 x2 = some v9) : zMv G 5 M_X6_file [.ref 0, .int x1, .int x2] sl (zT s R) (fun r h' => r = some (.int v9.1) ∧ h' = zT v9.2 R) := by
  unfold f_X6_file at H
  refine zMv_of (L := [some (.ref 0), some (.int x1), some (.int x2)]) (by decide) rfl (Nat.le_of_ble_eq_true rfl) rfl ?_
  refine aw_aload_n (q := 1) dX6_file_0 rfl rfl ?_
  refine aw_getr (q := 4) dX6_file_1 rfl e_X6_31 (by decide) (o_X6 s R) rfl ?_
  refine aw_getr (q := 7) dX6_file_4 rfl e_X6_42 (zX4_lt zX4_74) (o_X4 zX4_74 s R) rfl ?_
  refine aw_iload_n (q := 8) dX6_file_7 rfl rfl ?_
  refine aw_cv (M' := M_X0_isFault) (as := [.int x1]) (q := 11) dX6_file_8 rfl W_X0_isFault k_X6_103 i_X0_isFault v_X0_isFault (zB_lt0 (zX4_B zX4_74)) (o_X0 (zX4_B zX4_74) s R) rfl rfl rfl (by decide) (Nat.le_of_ble_eq_true rfl) (c_X0_isFault s R (zX4_B zX4_74) x1) (Nat.le_refl _) (Nat.le_refl _) ?_
  rintro r9 h9 ⟨rfl, rfl⟩
  refine aw_ifeqB (q := 14) (t := 23) dX6_file_11 rfl (by decide) (fun h1 => ?_) (fun h1 => ?_)
  · replace H := zt h1 H
    refine aw_iload_n (q := 15) dX6_file_14 rfl rfl ?_
    refine aw_if_lt (q := 18) (t := 23) dX6_file_15 rfl (by decide) (fun h2 => ?_) (fun h2 => ?_)
    · replace H := zt h2 H
      refine aw_ldc (q := 25) dX6_file_23 rfl q_X6_74 ?_
      cases H
      exact aw_ret dX6_file_25 rfl rfl rfl rfl ⟨rfl, rfl⟩
    · replace H := zf h2 H
      refine aw_iload_n (q := 19) dX6_file_18 rfl rfl ?_
      refine aw_iconst (q := 20) (v := 5) dX6_file_19 rfl (by decide) ?_
      refine aw_icmp_lt (q := 23) (t := 26) dX6_file_20 rfl (by decide) (fun h3 => ?_) (fun h3 => ?_)
      · replace H := zt h3 H
        refine aw_aload_n (q := 27) dX6_file_26 rfl rfl ?_
        refine aw_getr (q := 30) dX6_file_27 rfl e_X6_31 (by decide) (o_X6 s R) rfl ?_
        refine aw_getr (q := 33) dX6_file_30 rfl e_X6_116 (zX4_lt zX4_74) (o_X4 zX4_74 s R) rfl ?_
        refine aw_iload_n (q := 34) dX6_file_33 rfl rfl ?_
        obtain ⟨h4, H⟩ := zio H
        refine aw_iald' (q := 35) (v := s.1 (sD 74) x1.toNatClampNeg) dX6_file_34 rfl (zX4_ltD zX4_74) (o_X4a1 zX4_74 s R) (zin_in h4) rfl ?_
        refine aw_iconst (q := 36) (v := (-1)) dX6_file_35 rfl (by decide) ?_
        refine aw_icmp_neP (q := 39) (t := 55) dX6_file_36 rfl (by decide) (fun h5 => ?_) (fun h5 => ?_)
        · replace H := zt h5 H
          refine aw_aload_n (q := 40) dX6_file_39 rfl rfl ?_
          refine aw_getr (q := 43) dX6_file_40 rfl e_X6_31 (by decide) (o_X6 s R) rfl ?_
          refine aw_getr (q := 46) dX6_file_43 rfl e_X6_42 (zX4_lt zX4_74) (o_X4 zX4_74 s R) rfl ?_
          refine aw_getr (q := 49) dX6_file_46 rfl e_X6_106 (zB_lt0 (zX4_B zX4_74)) (o_X0 (zX4_B zX4_74) s R) rfl ?_
          refine aw_iload_n (q := 50) dX6_file_49 rfl rfl ?_
          refine aw_iald' (q := 51) (v := s.1 (sB 74 + 6) x1.toNatClampNeg) dX6_file_50 rfl (zB_lt (k := 6) (zX4_B zX4_74) (by decide)) (o_X0a5 (zX4_B zX4_74) s R) (zin_in h4) rfl ?_
          refine aw_iload_n (q := 52) dX6_file_51 rfl rfl ?_
          refine aw_icmp_eq (q := 55) (t := 58) dX6_file_52 rfl (by decide) (fun h6 => ?_) (fun h6 => ?_)
          · replace H := zt h6 H
            refine aw_aload_n (q := 59) dX6_file_58 rfl rfl ?_
            refine aw_getr (q := 62) dX6_file_59 rfl e_X6_31 (by decide) (o_X6 s R) rfl ?_
            refine aw_iload_n (q := 63) dX6_file_62 rfl rfl ?_
            obtain ⟨v7, hv7, H⟩ := zbd H
            refine aw_cv (M' := M_X4_filedIn) (as := [.int x2]) (q := 66) dX6_file_63 rfl W_X4_filedIn k_X6_223 i_X4_filedIn v_X4_filedIn (zX4_lt zX4_74) (o_X4 zX4_74 s R) rfl rfl rfl (by decide) (Nat.le_of_ble_eq_true rfl) (c_X4_filedIn s R zX4_74 x2 hv7) (Nat.le_refl _) (Nat.le_refl _) ?_
            rintro r9 h9 ⟨rfl, rfl⟩
            refine aw_iconst (q := 67) (v := 3) dX6_file_66 rfl (by decide) ?_
            refine aw_icmp_lt (q := 70) (t := 73) dX6_file_67 rfl (by decide) (fun h8 => ?_) (fun h8 => ?_)
            · replace H := zt h8 H
              refine aw_aload_n (q := 74) dX6_file_73 rfl rfl ?_
              refine aw_getr (q := 77) dX6_file_74 rfl e_X6_12 (by decide) (o_X6 s R) rfl ?_
              refine aw_aload_n (q := 78) dX6_file_77 rfl rfl ?_
              refine aw_getr (q := 81) dX6_file_78 rfl e_X6_31 (by decide) (o_X6 s R) rfl ?_
              obtain ⟨v9, hv9, H⟩ := zbd H
              refine aw_cv (M' := M_X1_keep) (as := [.ref 74]) (q := 84) dX6_file_81 rfl W_X1_keep k_X6_50 i_X1_keep v_X1_keep (by decide) (o_X1 s R) rfl rfl rfl (by decide) (Nat.le_of_ble_eq_true rfl) (c_X1_keep s R zX4_74 hv9) (Nat.le_refl _) (Nat.le_refl _) ?_
              rintro r9 h9 ⟨rfl, rfl⟩
              refine aw_aload_n (q := 85) dX6_file_84 rfl rfl ?_
              refine aw_getr (q := 88) dX6_file_85 rfl e_X6_31 (by decide) (o_X6 v9 R) rfl ?_
              refine aw_getr (q := 91) dX6_file_88 rfl e_X6_116 (zX4_lt zX4_74) (o_X4 zX4_74 v9 R) rfl ?_
              refine aw_iload_n (q := 92) dX6_file_91 rfl rfl ?_
              refine aw_iload_n (q := 93) dX6_file_92 rfl rfl ?_
              obtain ⟨s10, q11, H⟩ := zltd H
              refine aw_iast (q := 94) dX6_file_93 rfl (zX4_ltD zX4_74) (o_X4a1 zX4_74 v9 R) (zin_in h4) ((p_X4a1 zX4_74).trans (congrArg (fun z => zT z R) q11.symm)) ?_
              refine aw_aload_n (q := 95) dX6_file_94 rfl rfl ?_
              refine aw_getr (q := 98) dX6_file_95 rfl e_X6_31 (by decide) (o_X6 s10 R) rfl ?_
              refine aw_iload_n (q := 99) dX6_file_98 rfl rfl ?_
              obtain ⟨v12, hv12, H⟩ := zbd H
              refine aw_cv (M' := M_X4_filedIn) (as := [.int x2]) (q := 102) dX6_file_99 rfl W_X4_filedIn k_X6_223 i_X4_filedIn v_X4_filedIn (zX4_lt zX4_74) (o_X4 zX4_74 s10 R) rfl rfl rfl (by decide) (Nat.le_of_ble_eq_true rfl) (c_X4_filedIn s10 R zX4_74 x2 hv12) (Nat.le_refl _) (Nat.le_refl _) ?_
              rintro r9 h9 ⟨rfl, rfl⟩
              cases H
              exact aw_ret dX6_file_102 rfl rfl rfl rfl ⟨rfl, rfl⟩
            · replace H := zf h8 H
              refine aw_ldc (q := 72) dX6_file_70 rfl q_X6_210 ?_
              cases H
              exact aw_ret dX6_file_72 rfl rfl rfl rfl ⟨rfl, rfl⟩
          · replace H := zf h6 H
            refine aw_ldc (q := 57) dX6_file_55 rfl q_X6_206 ?_
            cases H
            exact aw_ret dX6_file_57 rfl rfl rfl rfl ⟨rfl, rfl⟩
        · replace H := zf h5 H
          refine aw_ldc (q := 57) dX6_file_55 rfl q_X6_206 ?_
          cases H
          exact aw_ret dX6_file_57 rfl rfl rfl rfl ⟨rfl, rfl⟩
      · replace H := zf h3 H
        refine aw_ldc (q := 25) dX6_file_23 rfl q_X6_74 ?_
        cases H
        exact aw_ret dX6_file_25 rfl rfl rfl rfl ⟨rfl, rfl⟩
  · replace H := zf h1 H
    refine aw_ldc (q := 25) dX6_file_23 rfl q_X6_74 ?_
    cases H
    exact aw_ret dX6_file_25 rfl rfl rfl rfl ⟨rfl, rfl⟩
def f_X6_reachedNow (s : zs) : Option (Int32 × zs) :=
  Option.bind (f_X2_suppose s 10) fun v1 =>
  Option.bind (f_X4_touchedNow v1.2 74) fun v2 =>
  Option.bind (f_X5_probe v1.2 v1.1 v2) fun v3 =>
  some (f_J6_bitCount_0f7a4 (v3.1 v1.1 6), v3)
set_option maxHeartbeats 4000000 in
set_option maxRecDepth 100000 in
theorem c_X6_reachedNow {G : zG} {sl : Nat} (s : zs) (R : zr)  {v9 : (Int32 × zs)} (H : f_X6_reachedNow s = some v9) : zMv G 5 M_X6_reachedNow [.ref 0] sl (zT s R) (fun r h' => r = some (.int v9.1) ∧ h' = zT v9.2 R) := by
  unfold f_X6_reachedNow at H
  refine zMv_of (L := [some (.ref 0), none]) (by decide) rfl (Nat.le_of_ble_eq_true rfl) rfl ?_
  refine aw_aload_n (q := 1) dX6_reachedNow_0 rfl rfl ?_
  refine aw_getr (q := 4) dX6_reachedNow_1 rfl e_X6_38 (by decide) (o_X6 s R) rfl ?_
  refine aw_bipush (q := 6) (v := 10) dX6_reachedNow_4 rfl (by decide) ?_
  obtain ⟨v1, hv1, H⟩ := zbd H
  refine aw_cv (M' := M_X2_suppose) (as := [.int 10]) (q := 9) dX6_reachedNow_6 rfl W_X2_suppose k_X6_128 i_X2_suppose v_X2_suppose (by decide) (o_X2 s R) rfl rfl rfl (by decide) (Nat.le_of_ble_eq_true rfl) (c_X2_suppose s R 10 hv1) (Nat.le_refl _) (Nat.le_refl _) ?_
  rintro r9 h9 ⟨rfl, rfl⟩
  refine aw_astore_n (q := 10) (L' := [some (.ref 0), some (.ref v1.1)]) dX6_reachedNow_9 rfl (by decide) rfl rfl ?_
  refine aw_aload_n (q := 11) dX6_reachedNow_10 rfl rfl ?_
  refine aw_aload_n (q := 12) dX6_reachedNow_11 rfl rfl ?_
  refine aw_getr (q := 15) dX6_reachedNow_12 rfl e_X6_31 (by decide) (o_X6 v1.2 R) rfl ?_
  obtain ⟨v2, hv2, H⟩ := zbd H
  refine aw_cv (M' := M_X4_touchedNow) (as := []) (q := 18) dX6_reachedNow_15 rfl W_X4_touchedNow k_X6_95 i_X4_touchedNow v_X4_touchedNow (zX4_lt zX4_74) (o_X4 zX4_74 v1.2 R) rfl rfl rfl (by decide) (Nat.le_of_ble_eq_true rfl) (c_X4_touchedNow v1.2 R zX4_74 hv2) (Nat.le_refl _) (Nat.le_refl _) ?_
  rintro r9 h9 ⟨rfl, rfl⟩
  obtain ⟨v3, hv3, H⟩ := zbd H
  refine aw_cv (M' := M_X5_probe) (as := [.int v2]) (q := 21) dX6_reachedNow_18 rfl W_X5_probe k_X6_135 i_X5_probe v_X5_probe (zU_lt (k := 0) (U_X2_suppose hv1) (by decide)) (o_X5 (U_X2_suppose hv1) v1.2 R) rfl rfl rfl (by decide) (Nat.le_of_ble_eq_true rfl) (c_X5_probe v1.2 R (U_X2_suppose hv1) v2 hv3) (Nat.le_refl _) (Nat.le_refl _) ?_
  rintro r9 h9 ⟨rfl, rfl⟩
  refine aw_aload_n (q := 22) dX6_reachedNow_21 rfl rfl ?_
  refine aw_getr (q := 25) dX6_reachedNow_22 rfl e_X6_141 (zU_lt (k := 0) (U_X2_suppose hv1) (by decide)) (o_X5 (U_X2_suppose hv1) v3 R) rfl ?_
  refine aw_cs (M' := M_J6_bitCount_0f7a4) (as := [.int (v3.1 v1.1 6)]) (q := 28) dX6_reachedNow_25 rfl W_J6_bitCount_0f7a4 k_X6_186 s_J6_bitCount_0f7a4 rfl rfl (by decide) (Nat.le_of_ble_eq_true rfl) (c_J6_bitCount_0f7a4 (zT v3 R) (v3.1 v1.1 6)) (Nat.le_refl _) (Nat.le_refl _) ?_
  rintro r9 h9 ⟨rfl, rfl⟩
  cases H
  exact aw_ret dX6_reachedNow_28 rfl rfl rfl rfl ⟨rfl, rfl⟩
end
section
def f_X6_count (s : zs) (x1 : Int32) : Option (Int32 × zs) :=
  if x1 = 0 then (
    some (s.1 (sB 74) 9, s)
  ) else (
    if x1 = 1 then (
      some (s.1 (sB 74) 10, s)
    ) else (
      if x1 = 2 then (
        some (s.1 (sB 74) 11, s)
      ) else (
        if x1 = 3 then (
          some (s.1 74 2, s)
        ) else (
          if x1 = 4 then (
            some (f_X4_weekday s 74, s)
          ) else (
            if x1 = 5 then (
              some (s.1 74 5, s)
            ) else (
              if x1 = 6 then (
                Option.bind (f_X4_touchedNow s 74) fun v17 =>
                some (f_J6_bitCount_0f7a4 v17, s)
              ) else (
                if x1 = 7 then (
                  Option.bind (f_X6_reachedNow s) fun v18 =>
                  some (v18.1, v18.2)
                ) else (
                  if x1 = 8 then (
                    some (s.1 74 7, s)
                  ) else (
                    if x1 = 9 then (
                      some (s.1 1 1, s)
                    ) else (
                      if x1 = 10 then (
                        some (s.1 51 3, s)
                      ) else (
                        if x1 = 11 then (
                          Option.bind (f_X4_filedIn s 74 (x1 - 11)) fun v19 =>
                          some (v19, s)
                        ) else (
                          if x1 = 12 then (
                            Option.bind (f_X4_filedIn s 74 (x1 - 11)) fun v20 =>
                            some (v20, s)
                          ) else (
                            if x1 = 13 then (
                              Option.bind (f_X4_filedIn s 74 (x1 - 11)) fun v21 =>
                              some (v21, s)
                            ) else (
                              if x1 = 14 then (
                                Option.bind (f_X4_filedIn s 74 (x1 - 11)) fun v22 =>
                                some (v22, s)
                              ) else (
                                if x1 = 15 then (
                                  Option.bind (f_X4_filedIn s 74 (x1 - 11)) fun v23 =>
                                  some (v23, s)
                                ) else (
                                  some ((-1000001), s)
                                )
                              )
                            )
                          )
                        )
                      )
                    )
                  )
                )
              )
            )
          )
        )
      )
    )
  )
set_option maxHeartbeats 4000000 in
set_option maxRecDepth 100000 in
theorem c_X6_count {G : zG} {sl : Nat} (s : zs) (R : zr) (x1 : Int32) {v9 : (Int32 × zs)} (H : f_X6_count s x1 = some v9) : zMv G 6 M_X6_count [.ref 0, .int x1] sl (zT s R) (fun r h' => r = some (.int v9.1) ∧ h' = zT v9.2 R) := by
  unfold f_X6_count at H
  refine zMv_of (L := [some (.ref 0), some (.int x1)]) (by decide) rfl (Nat.le_of_ble_eq_true rfl) rfl ?_
  refine aw_iload_n (q := 1) dX6_count_0 rfl rfl ?_
  by_cases h1 : x1 = 0
  · replace H := zt h1 H
    refine aw_tabIn (q := 80) (off := 79) dX6_count_1 (by rw [h1]; decide) (by rw [h1]; decide) (by rw [h1]; rfl) (by decide) ?_
    refine aw_aload_n (q := 81) dX6_count_80 rfl rfl ?_
    refine aw_getr (q := 84) dX6_count_81 rfl e_X6_31 (by decide) (o_X6 s R) rfl ?_
    refine aw_getr (q := 87) dX6_count_84 rfl e_X6_42 (zX4_lt zX4_74) (o_X4 zX4_74 s R) rfl ?_
    refine aw_getr (q := 90) dX6_count_87 rfl e_X6_226 (zB_lt0 (zX4_B zX4_74)) (o_X0 (zX4_B zX4_74) s R) rfl ?_
    cases H
    exact aw_ret dX6_count_90 rfl rfl rfl rfl ⟨rfl, rfl⟩
  · replace H := zf h1 H
    by_cases h2 : x1 = 1
    · replace H := zt h2 H
      refine aw_tabIn (q := 91) (off := 90) dX6_count_1 (by rw [h2]; decide) (by rw [h2]; decide) (by rw [h2]; rfl) (by decide) ?_
      refine aw_aload_n (q := 92) dX6_count_91 rfl rfl ?_
      refine aw_getr (q := 95) dX6_count_92 rfl e_X6_31 (by decide) (o_X6 s R) rfl ?_
      refine aw_getr (q := 98) dX6_count_95 rfl e_X6_42 (zX4_lt zX4_74) (o_X4 zX4_74 s R) rfl ?_
      refine aw_getr (q := 101) dX6_count_98 rfl e_X6_229 (zB_lt0 (zX4_B zX4_74)) (o_X0 (zX4_B zX4_74) s R) rfl ?_
      cases H
      exact aw_ret dX6_count_101 rfl rfl rfl rfl ⟨rfl, rfl⟩
    · replace H := zf h2 H
      by_cases h3 : x1 = 2
      · replace H := zt h3 H
        refine aw_tabIn (q := 102) (off := 101) dX6_count_1 (by rw [h3]; decide) (by rw [h3]; decide) (by rw [h3]; rfl) (by decide) ?_
        refine aw_aload_n (q := 103) dX6_count_102 rfl rfl ?_
        refine aw_getr (q := 106) dX6_count_103 rfl e_X6_31 (by decide) (o_X6 s R) rfl ?_
        refine aw_getr (q := 109) dX6_count_106 rfl e_X6_42 (zX4_lt zX4_74) (o_X4 zX4_74 s R) rfl ?_
        refine aw_getr (q := 112) dX6_count_109 rfl e_X6_163 (zB_lt0 (zX4_B zX4_74)) (o_X0 (zX4_B zX4_74) s R) rfl ?_
        cases H
        exact aw_ret dX6_count_112 rfl rfl rfl rfl ⟨rfl, rfl⟩
      · replace H := zf h3 H
        by_cases h4 : x1 = 3
        · replace H := zt h4 H
          refine aw_tabIn (q := 113) (off := 112) dX6_count_1 (by rw [h4]; decide) (by rw [h4]; decide) (by rw [h4]; rfl) (by decide) ?_
          refine aw_aload_n (q := 114) dX6_count_113 rfl rfl ?_
          refine aw_getr (q := 117) dX6_count_114 rfl e_X6_31 (by decide) (o_X6 s R) rfl ?_
          refine aw_getr (q := 120) dX6_count_117 rfl e_X6_214 (zX4_lt zX4_74) (o_X4 zX4_74 s R) rfl ?_
          cases H
          exact aw_ret dX6_count_120 rfl rfl rfl rfl ⟨rfl, rfl⟩
        · replace H := zf h4 H
          by_cases h5 : x1 = 4
          · replace H := zt h5 H
            refine aw_tabIn (q := 121) (off := 120) dX6_count_1 (by rw [h5]; decide) (by rw [h5]; decide) (by rw [h5]; rfl) (by decide) ?_
            refine aw_aload_n (q := 122) dX6_count_121 rfl rfl ?_
            refine aw_getr (q := 125) dX6_count_122 rfl e_X6_31 (by decide) (o_X6 s R) rfl ?_
            refine aw_cv (M' := M_X4_weekday) (as := []) (q := 128) dX6_count_125 rfl W_X4_weekday k_X6_217 i_X4_weekday v_X4_weekday (zX4_lt zX4_74) (o_X4 zX4_74 s R) rfl rfl rfl (by decide) (Nat.le_of_ble_eq_true rfl) (c_X4_weekday s R zX4_74) (Nat.le_refl _) (Nat.le_refl _) ?_
            rintro r9 h9 ⟨rfl, rfl⟩
            cases H
            exact aw_ret dX6_count_128 rfl rfl rfl rfl ⟨rfl, rfl⟩
          · replace H := zf h5 H
            by_cases h6 : x1 = 5
            · replace H := zt h6 H
              refine aw_tabIn (q := 129) (off := 128) dX6_count_1 (by rw [h6]; decide) (by rw [h6]; decide) (by rw [h6]; rfl) (by decide) ?_
              refine aw_aload_n (q := 130) dX6_count_129 rfl rfl ?_
              refine aw_getr (q := 133) dX6_count_130 rfl e_X6_31 (by decide) (o_X6 s R) rfl ?_
              refine aw_getr (q := 136) dX6_count_133 rfl e_X6_207 (zX4_lt zX4_74) (o_X4 zX4_74 s R) rfl ?_
              cases H
              exact aw_ret dX6_count_136 rfl rfl rfl rfl ⟨rfl, rfl⟩
            · replace H := zf h6 H
              by_cases h7 : x1 = 6
              · replace H := zt h7 H
                refine aw_tabIn (q := 137) (off := 136) dX6_count_1 (by rw [h7]; decide) (by rw [h7]; decide) (by rw [h7]; rfl) (by decide) ?_
                refine aw_aload_n (q := 138) dX6_count_137 rfl rfl ?_
                refine aw_getr (q := 141) dX6_count_138 rfl e_X6_31 (by decide) (o_X6 s R) rfl ?_
                obtain ⟨v17, hv17, H⟩ := zbd H
                refine aw_cv (M' := M_X4_touchedNow) (as := []) (q := 144) dX6_count_141 rfl W_X4_touchedNow k_X6_95 i_X4_touchedNow v_X4_touchedNow (zX4_lt zX4_74) (o_X4 zX4_74 s R) rfl rfl rfl (by decide) (Nat.le_of_ble_eq_true rfl) (c_X4_touchedNow s R zX4_74 hv17) (Nat.le_refl _) (Nat.le_refl _) ?_
                rintro r9 h9 ⟨rfl, rfl⟩
                refine aw_cs (M' := M_J6_bitCount_0f7a4) (as := [.int v17]) (q := 147) dX6_count_144 rfl W_J6_bitCount_0f7a4 k_X6_186 s_J6_bitCount_0f7a4 rfl rfl (by decide) (Nat.le_of_ble_eq_true rfl) (c_J6_bitCount_0f7a4 (zT s R) v17) (Nat.le_refl _) (Nat.le_refl _) ?_
                rintro r9 h9 ⟨rfl, rfl⟩
                cases H
                exact aw_ret dX6_count_147 rfl rfl rfl rfl ⟨rfl, rfl⟩
              · replace H := zf h7 H
                by_cases h8 : x1 = 7
                · replace H := zt h8 H
                  refine aw_tabIn (q := 148) (off := 147) dX6_count_1 (by rw [h8]; decide) (by rw [h8]; decide) (by rw [h8]; rfl) (by decide) ?_
                  refine aw_aload_n (q := 149) dX6_count_148 rfl rfl ?_
                  obtain ⟨v18, hv18, H⟩ := zbd H
                  refine aw_cv (M' := M_X6_reachedNow) (as := []) (q := 152) dX6_count_149 rfl W_X6_reachedNow k_X6_232 i_X6_reachedNow v_X6_reachedNow (by decide) (o_X6 s R) rfl rfl rfl (by decide) (Nat.le_of_ble_eq_true rfl) (c_X6_reachedNow s R hv18) (Nat.le_refl _) (Nat.le_refl _) ?_
                  rintro r9 h9 ⟨rfl, rfl⟩
                  cases H
                  exact aw_ret dX6_count_152 rfl rfl rfl rfl ⟨rfl, rfl⟩
                · replace H := zf h8 H
                  by_cases h9 : x1 = 8
                  · replace H := zt h9 H
                    refine aw_tabIn (q := 153) (off := 152) dX6_count_1 (by rw [h9]; decide) (by rw [h9]; decide) (by rw [h9]; rfl) (by decide) ?_
                    refine aw_aload_n (q := 154) dX6_count_153 rfl rfl ?_
                    refine aw_getr (q := 157) dX6_count_154 rfl e_X6_31 (by decide) (o_X6 s R) rfl ?_
                    refine aw_getr (q := 160) dX6_count_157 rfl e_X6_200 (zX4_lt zX4_74) (o_X4 zX4_74 s R) rfl ?_
                    cases H
                    exact aw_ret dX6_count_160 rfl rfl rfl rfl ⟨rfl, rfl⟩
                  · replace H := zf h9 H
                    by_cases h10 : x1 = 9
                    · replace H := zt h10 H
                      refine aw_tabIn (q := 161) (off := 160) dX6_count_1 (by rw [h10]; decide) (by rw [h10]; decide) (by rw [h10]; rfl) (by decide) ?_
                      refine aw_aload_n (q := 162) dX6_count_161 rfl rfl ?_
                      refine aw_getr (q := 165) dX6_count_162 rfl e_X6_12 (by decide) (o_X6 s R) rfl ?_
                      refine aw_getr (q := 168) dX6_count_165 rfl e_X6_235 (by decide) (o_X1 s R) rfl ?_
                      cases H
                      exact aw_ret dX6_count_168 rfl rfl rfl rfl ⟨rfl, rfl⟩
                    · replace H := zf h10 H
                      by_cases h11 : x1 = 10
                      · replace H := zt h11 H
                        refine aw_tabIn (q := 169) (off := 168) dX6_count_1 (by rw [h11]; decide) (by rw [h11]; decide) (by rw [h11]; rfl) (by decide) ?_
                        refine aw_aload_n (q := 170) dX6_count_169 rfl rfl ?_
                        refine aw_getr (q := 173) dX6_count_170 rfl e_X6_19 (by decide) (o_X6 s R) rfl ?_
                        refine aw_getr (q := 176) dX6_count_173 rfl e_X6_238 (by decide) (o_X3 s R) rfl ?_
                        cases H
                        exact aw_ret dX6_count_176 rfl rfl rfl rfl ⟨rfl, rfl⟩
                      · replace H := zf h11 H
                        by_cases h12 : x1 = 11
                        · replace H := zt h12 H
                          refine aw_tabIn (q := 177) (off := 176) dX6_count_1 (by rw [h12]; decide) (by rw [h12]; decide) (by rw [h12]; rfl) (by decide) ?_
                          refine aw_aload_n (q := 178) dX6_count_177 rfl rfl ?_
                          refine aw_getr (q := 181) dX6_count_178 rfl e_X6_31 (by decide) (o_X6 s R) rfl ?_
                          refine aw_iload_n (q := 182) dX6_count_181 rfl rfl ?_
                          refine aw_bipush (q := 184) (v := 11) dX6_count_182 rfl (by decide) ?_
                          refine aw_isub (q := 185) dX6_count_184 rfl ?_
                          obtain ⟨v19, hv19, H⟩ := zbd H
                          refine aw_cv (M' := M_X4_filedIn) (as := [.int (x1 - 11)]) (q := 188) dX6_count_185 rfl W_X4_filedIn k_X6_223 i_X4_filedIn v_X4_filedIn (zX4_lt zX4_74) (o_X4 zX4_74 s R) rfl rfl rfl (by decide) (Nat.le_of_ble_eq_true rfl) (c_X4_filedIn s R zX4_74 (x1 - 11) hv19) (Nat.le_refl _) (Nat.le_refl _) ?_
                          rintro r9 h9 ⟨rfl, rfl⟩
                          cases H
                          exact aw_ret dX6_count_188 rfl rfl rfl rfl ⟨rfl, rfl⟩
                        · replace H := zf h12 H
                          by_cases h13 : x1 = 12
                          · replace H := zt h13 H
                            refine aw_tabIn (q := 177) (off := 176) dX6_count_1 (by rw [h13]; decide) (by rw [h13]; decide) (by rw [h13]; rfl) (by decide) ?_
                            refine aw_aload_n (q := 178) dX6_count_177 rfl rfl ?_
                            refine aw_getr (q := 181) dX6_count_178 rfl e_X6_31 (by decide) (o_X6 s R) rfl ?_
                            refine aw_iload_n (q := 182) dX6_count_181 rfl rfl ?_
                            refine aw_bipush (q := 184) (v := 11) dX6_count_182 rfl (by decide) ?_
                            refine aw_isub (q := 185) dX6_count_184 rfl ?_
                            obtain ⟨v20, hv20, H⟩ := zbd H
                            refine aw_cv (M' := M_X4_filedIn) (as := [.int (x1 - 11)]) (q := 188) dX6_count_185 rfl W_X4_filedIn k_X6_223 i_X4_filedIn v_X4_filedIn (zX4_lt zX4_74) (o_X4 zX4_74 s R) rfl rfl rfl (by decide) (Nat.le_of_ble_eq_true rfl) (c_X4_filedIn s R zX4_74 (x1 - 11) hv20) (Nat.le_refl _) (Nat.le_refl _) ?_
                            rintro r9 h9 ⟨rfl, rfl⟩
                            cases H
                            exact aw_ret dX6_count_188 rfl rfl rfl rfl ⟨rfl, rfl⟩
                          · replace H := zf h13 H
                            by_cases h14 : x1 = 13
                            · replace H := zt h14 H
                              refine aw_tabIn (q := 177) (off := 176) dX6_count_1 (by rw [h14]; decide) (by rw [h14]; decide) (by rw [h14]; rfl) (by decide) ?_
                              refine aw_aload_n (q := 178) dX6_count_177 rfl rfl ?_
                              refine aw_getr (q := 181) dX6_count_178 rfl e_X6_31 (by decide) (o_X6 s R) rfl ?_
                              refine aw_iload_n (q := 182) dX6_count_181 rfl rfl ?_
                              refine aw_bipush (q := 184) (v := 11) dX6_count_182 rfl (by decide) ?_
                              refine aw_isub (q := 185) dX6_count_184 rfl ?_
                              obtain ⟨v21, hv21, H⟩ := zbd H
                              refine aw_cv (M' := M_X4_filedIn) (as := [.int (x1 - 11)]) (q := 188) dX6_count_185 rfl W_X4_filedIn k_X6_223 i_X4_filedIn v_X4_filedIn (zX4_lt zX4_74) (o_X4 zX4_74 s R) rfl rfl rfl (by decide) (Nat.le_of_ble_eq_true rfl) (c_X4_filedIn s R zX4_74 (x1 - 11) hv21) (Nat.le_refl _) (Nat.le_refl _) ?_
                              rintro r9 h9 ⟨rfl, rfl⟩
                              cases H
                              exact aw_ret dX6_count_188 rfl rfl rfl rfl ⟨rfl, rfl⟩
                            · replace H := zf h14 H
                              by_cases h15 : x1 = 14
                              · replace H := zt h15 H
                                refine aw_tabIn (q := 177) (off := 176) dX6_count_1 (by rw [h15]; decide) (by rw [h15]; decide) (by rw [h15]; rfl) (by decide) ?_
                                refine aw_aload_n (q := 178) dX6_count_177 rfl rfl ?_
                                refine aw_getr (q := 181) dX6_count_178 rfl e_X6_31 (by decide) (o_X6 s R) rfl ?_
                                refine aw_iload_n (q := 182) dX6_count_181 rfl rfl ?_
                                refine aw_bipush (q := 184) (v := 11) dX6_count_182 rfl (by decide) ?_
                                refine aw_isub (q := 185) dX6_count_184 rfl ?_
                                obtain ⟨v22, hv22, H⟩ := zbd H
                                refine aw_cv (M' := M_X4_filedIn) (as := [.int (x1 - 11)]) (q := 188) dX6_count_185 rfl W_X4_filedIn k_X6_223 i_X4_filedIn v_X4_filedIn (zX4_lt zX4_74) (o_X4 zX4_74 s R) rfl rfl rfl (by decide) (Nat.le_of_ble_eq_true rfl) (c_X4_filedIn s R zX4_74 (x1 - 11) hv22) (Nat.le_refl _) (Nat.le_refl _) ?_
                                rintro r9 h9 ⟨rfl, rfl⟩
                                cases H
                                exact aw_ret dX6_count_188 rfl rfl rfl rfl ⟨rfl, rfl⟩
                              · replace H := zf h15 H
                                by_cases h16 : x1 = 15
                                · replace H := zt h16 H
                                  refine aw_tabIn (q := 177) (off := 176) dX6_count_1 (by rw [h16]; decide) (by rw [h16]; decide) (by rw [h16]; rfl) (by decide) ?_
                                  refine aw_aload_n (q := 178) dX6_count_177 rfl rfl ?_
                                  refine aw_getr (q := 181) dX6_count_178 rfl e_X6_31 (by decide) (o_X6 s R) rfl ?_
                                  refine aw_iload_n (q := 182) dX6_count_181 rfl rfl ?_
                                  refine aw_bipush (q := 184) (v := 11) dX6_count_182 rfl (by decide) ?_
                                  refine aw_isub (q := 185) dX6_count_184 rfl ?_
                                  obtain ⟨v23, hv23, H⟩ := zbd H
                                  refine aw_cv (M' := M_X4_filedIn) (as := [.int (x1 - 11)]) (q := 188) dX6_count_185 rfl W_X4_filedIn k_X6_223 i_X4_filedIn v_X4_filedIn (zX4_lt zX4_74) (o_X4 zX4_74 s R) rfl rfl rfl (by decide) (Nat.le_of_ble_eq_true rfl) (c_X4_filedIn s R zX4_74 (x1 - 11) hv23) (Nat.le_refl _) (Nat.le_refl _) ?_
                                  rintro r9 h9 ⟨rfl, rfl⟩
                                  cases H
                                  exact aw_ret dX6_count_188 rfl rfl rfl rfl ⟨rfl, rfl⟩
                                · replace H := zf h16 H
                                  refine aw_tabOut (q := 189) dX6_count_1 (by have w0 : ¬ x1.toInt = 0 := zne h1; have w1 : ¬ x1.toInt = 1 := zne h2; have w2 : ¬ x1.toInt = 2 := zne h3; have w3 : ¬ x1.toInt = 3 := zne h4; have w4 : ¬ x1.toInt = 4 := zne h5; have w5 : ¬ x1.toInt = 5 := zne h6; have w6 : ¬ x1.toInt = 6 := zne h7; have w7 : ¬ x1.toInt = 7 := zne h8; have w8 : ¬ x1.toInt = 8 := zne h9; have w9 : ¬ x1.toInt = 9 := zne h10; have w10 : ¬ x1.toInt = 10 := zne h11; have w11 : ¬ x1.toInt = 11 := zne h12; have w12 : ¬ x1.toInt = 12 := zne h13; have w13 : ¬ x1.toInt = 13 := zne h14; have w14 : ¬ x1.toInt = 14 := zne h15; have w15 : ¬ x1.toInt = 15 := zne h16; omega) (by decide) ?_
                                  refine aw_ldc (q := 191) dX6_count_189 rfl q_X6_74 ?_
                                  cases H
                                  exact aw_ret dX6_count_191 rfl rfl rfl rfl ⟨rfl, rfl⟩
def f_X6_undo (s : zs) : Option (Int32 × zs) :=
  if (s.1 1 1) = 0 then (
    some ((-1000002), s)
  ) else (
    Option.bind (f_X1_restore s 74) fun v2 =>
    some (v2.1 1 1, v2)
  )
set_option maxHeartbeats 4000000 in
set_option maxRecDepth 100000 in
theorem c_X6_undo {G : zG} {sl : Nat} (s : zs) (R : zr)  {v9 : (Int32 × zs)} (H : f_X6_undo s = some v9) : zMv G 5 M_X6_undo [.ref 0] sl (zT s R) (fun r h' => r = some (.int v9.1) ∧ h' = zT v9.2 R) := by
  unfold f_X6_undo at H
  refine zMv_of (L := [some (.ref 0)]) (by decide) rfl (Nat.le_of_ble_eq_true rfl) rfl ?_
  refine aw_aload_n (q := 1) dX6_undo_0 rfl rfl ?_
  refine aw_getr (q := 4) dX6_undo_1 rfl e_X6_12 (by decide) (o_X6 s R) rfl ?_
  refine aw_getr (q := 7) dX6_undo_4 rfl e_X6_235 (by decide) (o_X1 s R) rfl ?_
  refine aw_if_neP (q := 10) (t := 13) dX6_undo_7 rfl (by decide) (fun h1 => ?_) (fun h1 => ?_)
  · replace H := zt h1 H
    refine aw_ldc (q := 12) dX6_undo_10 rfl q_X6_206 ?_
    cases H
    exact aw_ret dX6_undo_12 rfl rfl rfl rfl ⟨rfl, rfl⟩
  · replace H := zf h1 H
    refine aw_aload_n (q := 14) dX6_undo_13 rfl rfl ?_
    refine aw_getr (q := 17) dX6_undo_14 rfl e_X6_12 (by decide) (o_X6 s R) rfl ?_
    refine aw_aload_n (q := 18) dX6_undo_17 rfl rfl ?_
    refine aw_getr (q := 21) dX6_undo_18 rfl e_X6_31 (by decide) (o_X6 s R) rfl ?_
    obtain ⟨v2, hv2, H⟩ := zbd H
    refine aw_cv (M' := M_X1_restore) (as := [.ref 74]) (q := 24) dX6_undo_21 rfl W_X1_restore k_X6_241 i_X1_restore v_X1_restore (by decide) (o_X1 s R) rfl rfl rfl (by decide) (Nat.le_of_ble_eq_true rfl) (c_X1_restore s R zX4_74 hv2) (Nat.le_refl _) (Nat.le_refl _) ?_
    rintro r9 h9 ⟨rfl, rfl⟩
    refine aw_aload_n (q := 25) dX6_undo_24 rfl rfl ?_
    refine aw_getr (q := 28) dX6_undo_25 rfl e_X6_12 (by decide) (o_X6 v2 R) rfl ?_
    refine aw_getr (q := 31) dX6_undo_28 rfl e_X6_235 (by decide) (o_X1 v2 R) rfl ?_
    cases H
    exact aw_ret dX6_undo_31 rfl rfl rfl rfl ⟨rfl, rfl⟩
end

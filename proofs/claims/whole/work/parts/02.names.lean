/-! ===== BEGIN words of one list among another's, by their places ===== -/
theorem goodIn_r {big : List Cond} (ws : List Cond) (ps : List Nat) (hp : ws = ps.filterMap (fun i => big[i]?)) (h : ws.all goodWord = true) : GoodIn big ws := by
  intro w hw
  have h1 := List.all_eq_true.mp h w hw
  rw [hp] at hw
  obtain ⟨i, -, hi⟩ := List.mem_filterMap.mp hw
  have hm : w ∈ big := by first | exact List.mem_of_getElem? hi | exact List.getElem?_mem hi
  exact ⟨hm, good_of_word h1⟩
/-! ===== END ===== -/

/-! ===== BEGIN printed: names, fields, word lists, decode rows ===== -/
def RX0 : String := "TrialStair$Failure"
def TX0 : u_T := fun k => match k with
  | 0 => ("TrialStair$Failure", "kind", "I", true)
  | _ => ("TrialStair$Failure", "cause", "LTrialStair$Failure;", true)
def tyX0 : Nat → FieldType := fun k => match k with
  | 0 => .int
  | _ => .object "TrialStair$Failure"
abbrev wsX00 : List Cond := u_ws RX0 TX0 2
theorem nmX0 : ∀ a, a < 2 → ∀ b, b < 2 → a ≠ b → (TX0 a).2.1 ≠ (TX0 b).2.1 := by decide +kernel
theorem tyX0_ok : ∀ k, k < 2 → parseFieldDescriptor (TX0 k).2.2.1 = some (tyX0 k) := by decide +kernel
abbrev cX0_init : ByteArray := prog_2_method_1_code
def yX0_init : MethodName := ⟨RX0, "<init>", "(ILTrialStair$Failure;)V"⟩
def RX1 : String := "TrialStair$Frame"
def TX1 : u_T := fun k => match k with
  | 0 => ("TrialStair$Frame", "step", "LTrialStair$Step;", true)
  | 1 => ("TrialStair$Frame", "around", "LTrialStair$Frame;", true)
  | 2 => ("TrialStair$Frame", "routineEnd", "I", true)
  | 3 => ("TrialStair$Frame", "until", "I", false)
  | 4 => ("TrialStair$Frame", "stage", "I", false)
  | 5 => ("TrialStair$Frame", "taken", "LTrialStair$Failure;", false)
  | 6 => ("TrialStair$Frame", "heldCome", "I", false)
  | 7 => ("TrialStair$Frame", "heldValue", "J", false)
  | _ => ("TrialStair$Frame", "heldFailure", "LTrialStair$Failure;", false)
def tyX1 : Nat → FieldType := fun k => match k with
  | 0 => .object "TrialStair$Step"
  | 1 => .object "TrialStair$Frame"
  | 2 => .int
  | 3 => .int
  | 4 => .int
  | 5 => .object "TrialStair$Failure"
  | 6 => .int
  | 7 => .long
  | _ => .object "TrialStair$Failure"
abbrev wsX10 : List Cond := u_ws RX1 TX1 9
theorem nmX1 : ∀ a, a < 9 → ∀ b, b < 9 → a ≠ b → (TX1 a).2.1 ≠ (TX1 b).2.1 := by decide +kernel
theorem tyX1_ok : ∀ k, k < 9 → parseFieldDescriptor (TX1 k).2.2.1 = some (tyX1 k) := by decide +kernel
abbrev cX1_init : ByteArray := prog_3_method_1_code
def yX1_init : MethodName := ⟨RX1, "<init>", "(LTrialStair$Step;LTrialStair$Frame;I)V"⟩
abbrev cX1_blockEnd : ByteArray := prog_3_method_2_code
def yX1_blockEnd : MethodName := ⟨RX1, "blockEnd", "()I"⟩
abbrev cX1_placeBehind : ByteArray := prog_3_method_3_code
def yX1_placeBehind : MethodName := ⟨RX1, "placeBehind", "()I"⟩
abbrev cX1_takerEnd : ByteArray := prog_3_method_4_code
def yX1_takerEnd : MethodName := ⟨RX1, "takerEnd", "()I"⟩
abbrev cX1_bodyEnd : ByteArray := prog_3_method_5_code
def yX1_bodyEnd : MethodName := ⟨RX1, "bodyEnd", "()I"⟩
def RX2 : String := "TrialStair$Grid"
def TX2 : u_T := fun k => match k with
  | 0 => ("TrialStair$Grid", "cells", "[I", true)
  | 1 => ("TrialStair$Grid", "made", "Z", false)
  | 2 => ("TrialStair$Grid", "rows", "I", false)
  | _ => ("TrialStair$Grid", "places", "I", false)
def tyX2 : Nat → FieldType := fun k => match k with
  | 0 => .array .int
  | 1 => .boolean
  | 2 => .int
  | _ => .int
abbrev wsX20 : List Cond := u_ws RX2 TX2 4
theorem nmX2 : ∀ a, a < 4 → ∀ b, b < 4 → a ≠ b → (TX2 a).2.1 ≠ (TX2 b).2.1 := by decide +kernel
theorem tyX2_ok : ∀ k, k < 4 → parseFieldDescriptor (TX2 k).2.2.1 = some (tyX2 k) := by decide +kernel
abbrev cX2_init : ByteArray := prog_4_method_1_code
def yX2_init : MethodName := ⟨RX2, "<init>", "()V"⟩
abbrev cX2_make : ByteArray := prog_4_method_2_code
def yX2_make : MethodName := ⟨RX2, "make", "(II)V"⟩
abbrev cX2_has : ByteArray := prog_4_method_3_code
def yX2_has : MethodName := ⟨RX2, "has", "(II)Z"⟩
abbrev cX2_cellAt : ByteArray := prog_4_method_4_code
def yX2_cellAt : MethodName := ⟨RX2, "cellAt", "(II)I"⟩
abbrev cX2_putCell : ByteArray := prog_4_method_5_code
def yX2_putCell : MethodName := ⟨RX2, "putCell", "(III)V"⟩
def RX3 : String := "TrialStair$House"
def TX3 : u_T := fun k => match k with
  | 0 => ("TrialStair$House", "numbers", "[J", true)
  | 1 => ("TrialStair$House", "hands", "[LTrialStair$Thing;", true)
  | 2 => ("TrialStair$House", "rows", "[LTrialStair$Row;", true)
  | _ => ("TrialStair$House", "grid", "LTrialStair$Grid;", true)
def tyX3 : Nat → FieldType := fun k => match k with
  | 0 => .array .long
  | 1 => .array (.object "TrialStair$Thing")
  | 2 => .array (.object "TrialStair$Row")
  | _ => .object "TrialStair$Grid"
abbrev wsX30 : List Cond := u_ws RX3 TX3 4
theorem nmX3 : ∀ a, a < 4 → ∀ b, b < 4 → a ≠ b → (TX3 a).2.1 ≠ (TX3 b).2.1 := by decide +kernel
theorem tyX3_ok : ∀ k, k < 4 → parseFieldDescriptor (TX3 k).2.2.1 = some (tyX3 k) := by decide +kernel
abbrev cX3_init : ByteArray := prog_5_method_1_code
def yX3_init : MethodName := ⟨RX3, "<init>", "()V"⟩
abbrev cX3_numberOf : ByteArray := prog_5_method_2_code
def yX3_numberOf : MethodName := ⟨RX3, "numberOf", "(I)J"⟩
abbrev cX3_setNumber : ByteArray := prog_5_method_3_code
def yX3_setNumber : MethodName := ⟨RX3, "setNumber", "(IJ)V"⟩
abbrev cX3_thingOf : ByteArray := prog_5_method_4_code
def yX3_thingOf : MethodName := ⟨RX3, "thingOf", "(I)LTrialStair$Thing;"⟩
abbrev cX3_rowOf : ByteArray := prog_5_method_5_code
def yX3_rowOf : MethodName := ⟨RX3, "rowOf", "(II)LTrialStair$Row;"⟩
abbrev cX3_intOf : ByteArray := prog_5_method_6_code
def yX3_intOf : MethodName := ⟨RX3, "intOf", "(I)I"⟩
abbrev cX3_workStep : ByteArray := prog_5_method_7_code
def yX3_workStep : MethodName := ⟨RX3, "workStep", "(LTrialStair$Step;)I"⟩
abbrev cX3_reckon : ByteArray := prog_5_method_8_code
def yX3_reckon : MethodName := ⟨RX3, "reckon", "(LTrialStair$Step;)I"⟩
abbrev cX3_reckoned : ByteArray := prog_5_method_9_code
def yX3_reckoned : MethodName := ⟨RX3, "reckoned", "(LTrialStair$Step;JJ)J"⟩
abbrev cX3_workRow : ByteArray := prog_5_method_10_code
def yX3_workRow : MethodName := ⟨RX3, "workRow", "(LTrialStair$Step;)I"⟩
abbrev cX3_makeRow : ByteArray := prog_5_method_11_code
def yX3_makeRow : MethodName := ⟨RX3, "makeRow", "(LTrialStair$Step;)I"⟩
abbrev cX3_takeThing : ByteArray := prog_5_method_12_code
def yX3_takeThing : MethodName := ⟨RX3, "takeThing", "(LTrialStair$Row;II)I"⟩
abbrev cX3_putThing : ByteArray := prog_5_method_13_code
def yX3_putThing : MethodName := ⟨RX3, "putThing", "(LTrialStair$Row;II)I"⟩
abbrev cX3_workGrid : ByteArray := prog_5_method_14_code
def yX3_workGrid : MethodName := ⟨RX3, "workGrid", "(LTrialStair$Step;)I"⟩
abbrev cX3_workHand : ByteArray := prog_5_method_15_code
def yX3_workHand : MethodName := ⟨RX3, "workHand", "(LTrialStair$Step;)I"⟩
abbrev cX3_newThing : ByteArray := prog_5_method_16_code
def yX3_newThing : MethodName := ⟨RX3, "newThing", "(IJ)LTrialStair$Thing;"⟩
abbrev cX3_workMark : ByteArray := prog_5_method_17_code
def yX3_workMark : MethodName := ⟨RX3, "workMark", "(LTrialStair$Step;LTrialStair$Thing;)I"⟩
abbrev cX3_workTool : ByteArray := prog_5_method_18_code
def yX3_workTool : MethodName := ⟨RX3, "workTool", "(LTrialStair$Step;)I"⟩
def RX4 : String := "TrialStair$Report"
def TX4 : u_T := fun k => match k with
  | 0 => ("TrialStair$Report", "outputs", "[J", true)
  | 1 => ("TrialStair$Report", "finishedTrials", "[I", true)
  | 2 => ("TrialStair$Report", "ending", "I", false)
  | 3 => ("TrialStair$Report", "returned", "J", false)
  | 4 => ("TrialStair$Report", "failure", "LTrialStair$Failure;", false)
  | 5 => ("TrialStair$Report", "told", "I", false)
  | 6 => ("TrialStair$Report", "finishes", "I", false)
  | 7 => ("TrialStair$Report", "deepest", "I", false)
  | _ => ("TrialStair$Report", "taken", "I", false)
def tyX4 : Nat → FieldType := fun k => match k with
  | 0 => .array .long
  | 1 => .array .int
  | 2 => .int
  | 3 => .long
  | 4 => .object "TrialStair$Failure"
  | 5 => .int
  | 6 => .int
  | 7 => .int
  | _ => .int
abbrev wsX40 : List Cond := u_ws RX4 TX4 9
theorem nmX4 : ∀ a, a < 9 → ∀ b, b < 9 → a ≠ b → (TX4 a).2.1 ≠ (TX4 b).2.1 := by decide +kernel
theorem tyX4_ok : ∀ k, k < 9 → parseFieldDescriptor (TX4 k).2.2.1 = some (tyX4 k) := by decide +kernel
abbrev cX4_init : ByteArray := prog_6_method_1_code
def yX4_init : MethodName := ⟨RX4, "<init>", "()V"⟩
abbrev cX4_begin : ByteArray := prog_6_method_2_code
def yX4_begin : MethodName := ⟨RX4, "begin", "()V"⟩
abbrev cX4_tell : ByteArray := prog_6_method_3_code
def yX4_tell : MethodName := ⟨RX4, "tell", "(J)V"⟩
abbrev cX4_noteFinish : ByteArray := prog_6_method_4_code
def yX4_noteFinish : MethodName := ⟨RX4, "noteFinish", "(I)V"⟩
abbrev cX4_countCauses : ByteArray := prog_6_method_5_code
def yX4_countCauses : MethodName := ⟨RX4, "countCauses", "()I"⟩
def RX5 : String := "TrialStair$Row"
def TX5 : u_T := fun k => match k with
  | 0 => ("TrialStair$Row", "sort", "I", true)
  | 1 => ("TrialStair$Row", "numbers", "[J", true)
  | 2 => ("TrialStair$Row", "things", "[LTrialStair$Thing;", true)
  | 3 => ("TrialStair$Row", "places", "I", false)
  | _ => ("TrialStair$Row", "sawsAlone", "Z", false)
def tyX5 : Nat → FieldType := fun k => match k with
  | 0 => .int
  | 1 => .array .long
  | 2 => .array (.object "TrialStair$Thing")
  | 3 => .int
  | _ => .boolean
abbrev wsX50 : List Cond := u_ws RX5 TX5 5
theorem nmX5 : ∀ a, a < 5 → ∀ b, b < 5 → a ≠ b → (TX5 a).2.1 ≠ (TX5 b).2.1 := by decide +kernel
theorem tyX5_ok : ∀ k, k < 5 → parseFieldDescriptor (TX5 k).2.2.1 = some (tyX5 k) := by decide +kernel
abbrev cX5_init : ByteArray := prog_7_method_1_code
def yX5_init : MethodName := ⟨RX5, "<init>", "(I)V"⟩
abbrev cX5_empty : ByteArray := prog_7_method_2_code
def yX5_empty : MethodName := ⟨RX5, "empty", "(IZ)V"⟩
abbrev cX5_has : ByteArray := prog_7_method_3_code
def yX5_has : MethodName := ⟨RX5, "has", "(I)Z"⟩
abbrev cX5_numberAt : ByteArray := prog_7_method_4_code
def yX5_numberAt : MethodName := ⟨RX5, "numberAt", "(I)J"⟩
abbrev cX5_thingAt : ByteArray := prog_7_method_5_code
def yX5_thingAt : MethodName := ⟨RX5, "thingAt", "(I)LTrialStair$Thing;"⟩
abbrev cX5_putNumber : ByteArray := prog_7_method_6_code
def yX5_putNumber : MethodName := ⟨RX5, "putNumber", "(IJ)V"⟩
abbrev cX5_putThing : ByteArray := prog_7_method_7_code
def yX5_putThing : MethodName := ⟨RX5, "putThing", "(ILTrialStair$Thing;)V"⟩
abbrev cX5_narrowed : ByteArray := prog_7_method_8_code
def yX5_narrowed : MethodName := ⟨RX5, "narrowed", "(J)J"⟩
def RX6 : String := "TrialStair$Script"
def TX6 : u_T := fun k => match k with
  | 0 => ("TrialStair$Script", "steps", "[LTrialStair$Step;", true)
  | 1 => ("TrialStair$Script", "marks", "[I", true)
  | 2 => ("TrialStair$Script", "innermost", "LTrialStair$Step;", false)
  | 3 => ("TrialStair$Script", "length", "I", false)
  | _ => ("TrialStair$Script", "routines", "I", false)
def tyX6 : Nat → FieldType := fun k => match k with
  | 0 => .array (.object "TrialStair$Step")
  | 1 => .array .int
  | 2 => .object "TrialStair$Step"
  | 3 => .int
  | _ => .int
abbrev wsX60 : List Cond := u_ws RX6 TX6 5
theorem nmX6 : ∀ a, a < 5 → ∀ b, b < 5 → a ≠ b → (TX6 a).2.1 ≠ (TX6 b).2.1 := by decide +kernel
theorem tyX6_ok : ∀ k, k < 5 → parseFieldDescriptor (TX6 k).2.2.1 = some (tyX6 k) := by decide +kernel
abbrev cX6_init : ByteArray := prog_8_method_1_code
def yX6_init : MethodName := ⟨RX6, "<init>", "()V"⟩
abbrev cX6_clear : ByteArray := prog_8_method_2_code
def yX6_clear : MethodName := ⟨RX6, "clear", "()V"⟩
abbrev cX6_add : ByteArray := prog_8_method_3_code
def yX6_add : MethodName := ⟨RX6, "add", "(IIII)V"⟩
abbrev cX6_beginRoutine : ByteArray := prog_8_method_4_code
def yX6_beginRoutine : MethodName := ⟨RX6, "beginRoutine", "(I)V"⟩
abbrev cX6_fit : ByteArray := prog_8_method_5_code
def yX6_fit : MethodName := ⟨RX6, "fit", "(LTrialStair$Step;)V"⟩
abbrev cX6_hasRoutine : ByteArray := prog_8_method_6_code
def yX6_hasRoutine : MethodName := ⟨RX6, "hasRoutine", "(I)Z"⟩
abbrev cX6_firstPlaceOf : ByteArray := prog_8_method_7_code
def yX6_firstPlaceOf : MethodName := ⟨RX6, "firstPlaceOf", "(I)I"⟩
abbrev cX6_placeBehind : ByteArray := prog_8_method_8_code
def yX6_placeBehind : MethodName := ⟨RX6, "placeBehind", "(I)I"⟩
abbrev cX6_stepAt : ByteArray := prog_8_method_9_code
def yX6_stepAt : MethodName := ⟨RX6, "stepAt", "(I)LTrialStair$Step;"⟩
def RX7 : String := "TrialStair$Step"
def TX7 : u_T := fun k => match k with
  | 0 => ("TrialStair$Step", "place", "I", true)
  | 1 => ("TrialStair$Step", "op", "I", true)
  | 2 => ("TrialStair$Step", "a", "I", true)
  | 3 => ("TrialStair$Step", "b", "I", true)
  | 4 => ("TrialStair$Step", "c", "I", true)
  | 5 => ("TrialStair$Step", "around", "LTrialStair$Step;", false)
  | 6 => ("TrialStair$Step", "taker", "I", false)
  | 7 => ("TrialStair$Step", "finish", "I", false)
  | _ => ("TrialStair$Step", "close", "I", false)
def tyX7 : Nat → FieldType := fun k => match k with
  | 0 => .int
  | 1 => .int
  | 2 => .int
  | 3 => .int
  | 4 => .int
  | 5 => .object "TrialStair$Step"
  | 6 => .int
  | 7 => .int
  | _ => .int
abbrev wsX70 : List Cond := u_ws RX7 TX7 9
theorem nmX7 : ∀ a, a < 9 → ∀ b, b < 9 → a ≠ b → (TX7 a).2.1 ≠ (TX7 b).2.1 := by decide +kernel
theorem tyX7_ok : ∀ k, k < 9 → parseFieldDescriptor (TX7 k).2.2.1 = some (tyX7 k) := by decide +kernel
abbrev cX7_init : ByteArray := prog_9_method_1_code
def yX7_init : MethodName := ⟨RX7, "<init>", "(IIIII)V"⟩
def RX8 : String := "TrialStair$Thing"
def TX8 : u_T := fun k => match k with
  | 0 => ("TrialStair$Thing", "kind", "I", true)
  | _ => ("TrialStair$Thing", "mark", "J", false)
def tyX8 : Nat → FieldType := fun k => match k with
  | 0 => .int
  | _ => .long
abbrev wsX80 : List Cond := u_ws RX8 TX8 2
theorem nmX8 : ∀ a, a < 2 → ∀ b, b < 2 → a ≠ b → (TX8 a).2.1 ≠ (TX8 b).2.1 := by decide +kernel
theorem tyX8_ok : ∀ k, k < 2 → parseFieldDescriptor (TX8 k).2.2.1 = some (tyX8 k) := by decide +kernel
abbrev cX8_init : ByteArray := prog_10_method_1_code
def yX8_init : MethodName := ⟨RX8, "<init>", "(IJ)V"⟩
abbrev cX8_rings : ByteArray := prog_10_method_2_code
def yX8_rings : MethodName := ⟨RX8, "rings", "()Z"⟩
abbrev cX8_isCastAs : ByteArray := prog_10_method_3_code
def yX8_isCastAs : MethodName := ⟨RX8, "isCastAs", "(I)Z"⟩
abbrev cX8_use : ByteArray := prog_10_method_4_code
def yX8_use : MethodName := ⟨RX8, "use", "(J)J"⟩
abbrev cX8_ring : ByteArray := prog_10_method_5_code
def yX8_ring : MethodName := ⟨RX8, "ring", "(J)J"⟩
def RX9 : String := "TrialStair$Worker"
def TX9 : u_T := fun k => match k with
  | 0 => ("TrialStair$Worker", "script", "LTrialStair$Script;", true)
  | 1 => ("TrialStair$Worker", "house", "LTrialStair$House;", true)
  | 2 => ("TrialStair$Worker", "report", "LTrialStair$Report;", true)
  | 3 => ("TrialStair$Worker", "beginning", "LTrialStair$Step;", true)
  | 4 => ("TrialStair$Worker", "top", "LTrialStair$Frame;", false)
  | 5 => ("TrialStair$Worker", "open", "I", false)
  | 6 => ("TrialStair$Worker", "place", "I", false)
  | 7 => ("TrialStair$Worker", "stepsLeft", "I", false)
  | 8 => ("TrialStair$Worker", "come", "I", false)
  | 9 => ("TrialStair$Worker", "value", "J", false)
  | _ => ("TrialStair$Worker", "failure", "LTrialStair$Failure;", false)
def tyX9 : Nat → FieldType := fun k => match k with
  | 0 => .object "TrialStair$Script"
  | 1 => .object "TrialStair$House"
  | 2 => .object "TrialStair$Report"
  | 3 => .object "TrialStair$Step"
  | 4 => .object "TrialStair$Frame"
  | 5 => .int
  | 6 => .int
  | 7 => .int
  | 8 => .int
  | 9 => .long
  | _ => .object "TrialStair$Failure"
abbrev wsX90 : List Cond := u_ws RX9 TX9 11
theorem nmX9 : ∀ a, a < 11 → ∀ b, b < 11 → a ≠ b → (TX9 a).2.1 ≠ (TX9 b).2.1 := by decide +kernel
theorem tyX9_ok : ∀ k, k < 11 → parseFieldDescriptor (TX9 k).2.2.1 = some (tyX9 k) := by decide +kernel
abbrev cX9_init : ByteArray := prog_11_method_1_code
def yX9_init : MethodName := ⟨RX9, "<init>", "(LTrialStair$Script;LTrialStair$House;LTrialStair$Report;)V"⟩
abbrev cX9_workRun : ByteArray := prog_11_method_2_code
def yX9_workRun : MethodName := ⟨RX9, "workRun", "(II)I"⟩
abbrev cX9_takeStep : ByteArray := prog_11_method_3_code
def yX9_takeStep : MethodName := ⟨RX9, "takeStep", "()Z"⟩
abbrev cX9_stop : ByteArray := prog_11_method_4_code
def yX9_stop : MethodName := ⟨RX9, "stop", "(I)V"⟩
abbrev cX9_workStep : ByteArray := prog_11_method_5_code
def yX9_workStep : MethodName := ⟨RX9, "workStep", "(LTrialStair$Frame;LTrialStair$Step;)V"⟩
abbrev cX9_goBehind : ByteArray := prog_11_method_6_code
def yX9_goBehind : MethodName := ⟨RX9, "goBehind", "(I)V"⟩
abbrev cX9_fail : ByteArray := prog_11_method_7_code
def yX9_fail : MethodName := ⟨RX9, "fail", "(ILTrialStair$Failure;)V"⟩
abbrev cX9_failureAtWork : ByteArray := prog_11_method_8_code
def yX9_failureAtWork : MethodName := ⟨RX9, "failureAtWork", "()LTrialStair$Failure;"⟩
abbrev cX9_callRoutine : ByteArray := prog_11_method_9_code
def yX9_callRoutine : MethodName := ⟨RX9, "callRoutine", "(LTrialStair$Step;)V"⟩
abbrev cX9_enterRoutine : ByteArray := prog_11_method_10_code
def yX9_enterRoutine : MethodName := ⟨RX9, "enterRoutine", "(ILTrialStair$Step;)V"⟩
abbrev cX9_beginBlock : ByteArray := prog_11_method_11_code
def yX9_beginBlock : MethodName := ⟨RX9, "beginBlock", "(LTrialStair$Frame;LTrialStair$Step;)V"⟩
abbrev cX9_enter : ByteArray := prog_11_method_12_code
def yX9_enter : MethodName := ⟨RX9, "enter", "(LTrialStair$Frame;I)Z"⟩
abbrev cX9_look : ByteArray := prog_11_method_13_code
def yX9_look : MethodName := ⟨RX9, "look", "(LTrialStair$Frame;)V"⟩
abbrev cX9_settle : ByteArray := prog_11_method_14_code
def yX9_settle : MethodName := ⟨RX9, "settle", "(LTrialStair$Frame;)V"⟩
abbrev cX9_leaveBlock : ByteArray := prog_11_method_15_code
def yX9_leaveBlock : MethodName := ⟨RX9, "leaveBlock", "(LTrialStair$Frame;)V"⟩
abbrev cX9_settleLoop : ByteArray := prog_11_method_16_code
def yX9_settleLoop : MethodName := ⟨RX9, "settleLoop", "(LTrialStair$Frame;)V"⟩
abbrev cX9_settleTrial : ByteArray := prog_11_method_17_code
def yX9_settleTrial : MethodName := ⟨RX9, "settleTrial", "(LTrialStair$Frame;)V"⟩
abbrev cX9_takes : ByteArray := prog_11_method_18_code
def yX9_takes : MethodName := ⟨RX9, "takes", "(LTrialStair$Step;LTrialStair$Failure;)Z"⟩
abbrev cX9_beginTaker : ByteArray := prog_11_method_19_code
def yX9_beginTaker : MethodName := ⟨RX9, "beginTaker", "(LTrialStair$Frame;)V"⟩
abbrev cX9_beginFinish : ByteArray := prog_11_method_20_code
def yX9_beginFinish : MethodName := ⟨RX9, "beginFinish", "(LTrialStair$Frame;)V"⟩
abbrev cX9_beginPart : ByteArray := prog_11_method_21_code
def yX9_beginPart : MethodName := ⟨RX9, "beginPart", "(LTrialStair$Frame;III)V"⟩
abbrev cX9_settleRoutine : ByteArray := prog_11_method_22_code
def yX9_settleRoutine : MethodName := ⟨RX9, "settleRoutine", "(LTrialStair$Frame;)V"⟩
abbrev cX9_reportEnd : ByteArray := prog_11_method_23_code
def yX9_reportEnd : MethodName := ⟨RX9, "reportEnd", "()V"⟩
def RX10 : String := "TrialStair"
def TX10 : u_T := fun k => match k with
  | 0 => ("TrialStair", "script", "LTrialStair$Script;", true)
  | 1 => ("TrialStair", "house", "LTrialStair$House;", true)
  | 2 => ("TrialStair", "report", "LTrialStair$Report;", true)
  | 3 => ("TrialStair", "worker", "LTrialStair$Worker;", true)
  | 4 => ("TrialStair", "stepsOfAllRuns", "I", false)
  | _ => ("TrialStair", "runs", "I", false)
def tyX10 : Nat → FieldType := fun k => match k with
  | 0 => .object "TrialStair$Script"
  | 1 => .object "TrialStair$House"
  | 2 => .object "TrialStair$Report"
  | 3 => .object "TrialStair$Worker"
  | 4 => .int
  | _ => .int
abbrev wsX100 : List Cond := u_ws RX10 TX10 6
theorem nmX10 : ∀ a, a < 6 → ∀ b, b < 6 → a ≠ b → (TX10 a).2.1 ≠ (TX10 b).2.1 := by decide +kernel
theorem tyX10_ok : ∀ k, k < 6 → parseFieldDescriptor (TX10 k).2.2.1 = some (tyX10 k) := by decide +kernel
abbrev cX10_init : ByteArray := prog_1_method_1_code
def yX10_init : MethodName := ⟨RX10, "<init>", "()V"⟩
abbrev cX10_step : ByteArray := prog_1_method_2_code
def yX10_step : MethodName := ⟨RX10, "step", "(IIII)I"⟩
abbrev cX10_wipe : ByteArray := prog_1_method_3_code
def yX10_wipe : MethodName := ⟨RX10, "wipe", "()I"⟩
abbrev cX10_run : ByteArray := prog_1_method_4_code
def yX10_run : MethodName := ⟨RX10, "run", "(II)I"⟩
abbrev cX10_end : ByteArray := prog_1_method_5_code
def yX10_end : MethodName := ⟨RX10, "end", "()I"⟩
abbrev cX10_result : ByteArray := prog_1_method_6_code
def yX10_result : MethodName := ⟨RX10, "result", "()J"⟩
abbrev cX10_kind : ByteArray := prog_1_method_7_code
def yX10_kind : MethodName := ⟨RX10, "kind", "()I"⟩
abbrev cX10_cause : ByteArray := prog_1_method_8_code
def yX10_cause : MethodName := ⟨RX10, "cause", "(I)I"⟩
abbrev cX10_out : ByteArray := prog_1_method_9_code
def yX10_out : MethodName := ⟨RX10, "out", "(I)J"⟩
abbrev cX10_finished : ByteArray := prog_1_method_10_code
def yX10_finished : MethodName := ⟨RX10, "finished", "(I)I"⟩
abbrev cX10_depth : ByteArray := prog_1_method_11_code
def yX10_depth : MethodName := ⟨RX10, "depth", "()I"⟩
abbrev cX10_status : ByteArray := prog_1_method_12_code
def yX10_status : MethodName := ⟨RX10, "status", "(I)I"⟩
abbrev cX10_number : ByteArray := prog_1_method_13_code
def yX10_number : MethodName := ⟨RX10, "number", "(I)J"⟩
abbrev cX10_hand : ByteArray := prog_1_method_14_code
def yX10_hand : MethodName := ⟨RX10, "hand", "(I)I"⟩
abbrev cX10_mark : ByteArray := prog_1_method_15_code
def yX10_mark : MethodName := ⟨RX10, "mark", "(I)J"⟩
abbrev cX10_size : ByteArray := prog_1_method_16_code
def yX10_size : MethodName := ⟨RX10, "size", "(II)I"⟩
abbrev cX10_value : ByteArray := prog_1_method_17_code
def yX10_value : MethodName := ⟨RX10, "value", "(III)J"⟩
abbrev cX10_grid : ByteArray := prog_1_method_18_code
def yX10_grid : MethodName := ⟨RX10, "grid", "(II)I"⟩
abbrev cX10_isOfEight : ByteArray := prog_1_method_19_code
def yX10_isOfEight : MethodName := ⟨RX10, "isOfEight", "(I)Z"⟩
abbrev cX10_kindOf : ByteArray := prog_1_method_20_code
def yX10_kindOf : MethodName := ⟨RX10, "kindOf", "(LTrialStair$Thing;)I"⟩
def RX11 : String := "TrialStairModel"
def TX11 : u_T := fun k => match k with
  | 0 => ("TrialStairModel", "ops", "[I", true)
  | 1 => ("TrialStairModel", "as", "[I", true)
  | 2 => ("TrialStairModel", "bs", "[I", true)
  | 3 => ("TrialStairModel", "cs", "[I", true)
  | 4 => ("TrialStairModel", "steps", "I", false)
  | 5 => ("TrialStairModel", "blockEnd", "[I", true)
  | 6 => ("TrialStairModel", "takerOf", "[I", true)
  | 7 => ("TrialStairModel", "finishOf", "[I", true)
  | 8 => ("TrialStairModel", "behind", "[I", true)
  | 9 => ("TrialStairModel", "begun", "[I", true)
  | 10 => ("TrialStairModel", "routineFrom", "[I", true)
  | 11 => ("TrialStairModel", "routineTo", "[I", true)
  | 12 => ("TrialStairModel", "routines", "I", false)
  | 13 => ("TrialStairModel", "numbers", "[J", true)
  | 14 => ("TrialStairModel", "hands", "[I", true)
  | 15 => ("TrialStairModel", "thingKind", "[I", true)
  | 16 => ("TrialStairModel", "thingMark", "[J", true)
  | 17 => ("TrialStairModel", "things", "I", false)
  | 18 => ("TrialStairModel", "rowSize", "[I", true)
  | 19 => ("TrialStairModel", "sawsAlone", "[Z", true)
  | 20 => ("TrialStairModel", "rowValues", "[J", true)
  | 21 => ("TrialStairModel", "hasGrid", "Z", false)
  | 22 => ("TrialStairModel", "gridRows", "I", false)
  | 23 => ("TrialStairModel", "gridPlaces", "I", false)
  | 24 => ("TrialStairModel", "gridValues", "[I", true)
  | 25 => ("TrialStairModel", "openKind", "[I", true)
  | 26 => ("TrialStairModel", "openAt", "[I", true)
  | 27 => ("TrialStairModel", "openEnd", "[I", true)
  | 28 => ("TrialStairModel", "openPart", "[I", true)
  | 29 => ("TrialStairModel", "openTaken", "[I", true)
  | 30 => ("TrialStairModel", "openWhat", "[I", true)
  | 31 => ("TrialStairModel", "openValue", "[J", true)
  | 32 => ("TrialStairModel", "openFailure", "[I", true)
  | 33 => ("TrialStairModel", "open", "I", false)
  | 34 => ("TrialStairModel", "at", "I", false)
  | 35 => ("TrialStairModel", "works", "Z", false)
  | 36 => ("TrialStairModel", "what", "I", false)
  | 37 => ("TrialStairModel", "value", "J", false)
  | 38 => ("TrialStairModel", "failure", "I", false)
  | 39 => ("TrialStairModel", "failureKind", "[I", true)
  | 40 => ("TrialStairModel", "failureCause", "[I", true)
  | 41 => ("TrialStairModel", "failures", "I", false)
  | 42 => ("TrialStairModel", "left", "I", false)
  | 43 => ("TrialStairModel", "took", "I", false)
  | 44 => ("TrialStairModel", "runs", "I", false)
  | 45 => ("TrialStairModel", "allSteps", "I", false)
  | 46 => ("TrialStairModel", "ended", "I", false)
  | 47 => ("TrialStairModel", "result", "J", false)
  | 48 => ("TrialStairModel", "lastFailure", "I", false)
  | 49 => ("TrialStairModel", "outs", "[J", true)
  | 50 => ("TrialStairModel", "outCount", "I", false)
  | 51 => ("TrialStairModel", "finishedAt", "[I", true)
  | 52 => ("TrialStairModel", "finishedCount", "I", false)
  | 53 => ("TrialStairModel", "takenCount", "I", false)
  | _ => ("TrialStairModel", "deepest", "I", false)
def tyX11 : Nat → FieldType := fun k => match k with
  | 0 => .array .int
  | 1 => .array .int
  | 2 => .array .int
  | 3 => .array .int
  | 4 => .int
  | 5 => .array .int
  | 6 => .array .int
  | 7 => .array .int
  | 8 => .array .int
  | 9 => .array .int
  | 10 => .array .int
  | 11 => .array .int
  | 12 => .int
  | 13 => .array .long
  | 14 => .array .int
  | 15 => .array .int
  | 16 => .array .long
  | 17 => .int
  | 18 => .array .int
  | 19 => .array .boolean
  | 20 => .array .long
  | 21 => .boolean
  | 22 => .int
  | 23 => .int
  | 24 => .array .int
  | 25 => .array .int
  | 26 => .array .int
  | 27 => .array .int
  | 28 => .array .int
  | 29 => .array .int
  | 30 => .array .int
  | 31 => .array .long
  | 32 => .array .int
  | 33 => .int
  | 34 => .int
  | 35 => .boolean
  | 36 => .int
  | 37 => .long
  | 38 => .int
  | 39 => .array .int
  | 40 => .array .int
  | 41 => .int
  | 42 => .int
  | 43 => .int
  | 44 => .int
  | 45 => .int
  | 46 => .int
  | 47 => .long
  | 48 => .int
  | 49 => .array .long
  | 50 => .int
  | 51 => .array .int
  | 52 => .int
  | 53 => .int
  | _ => .int
abbrev wsX110 : List Cond := u_ws RX11 TX11 55
theorem nmX11 : ∀ a, a < 55 → ∀ b, b < 55 → a ≠ b → (TX11 a).2.1 ≠ (TX11 b).2.1 := by decide +kernel
theorem tyX11_ok : ∀ k, k < 55 → parseFieldDescriptor (TX11 k).2.2.1 = some (tyX11 k) := by decide +kernel
abbrev cX11_init : ByteArray := prog_13_method_1_code
def yX11_init : MethodName := ⟨RX11, "<init>", "()V"⟩
abbrev cX11_step : ByteArray := prog_13_method_2_code
def yX11_step : MethodName := ⟨RX11, "step", "(IIII)I"⟩
abbrev cX11_wipe : ByteArray := prog_13_method_3_code
def yX11_wipe : MethodName := ⟨RX11, "wipe", "()I"⟩
abbrev cX11_isMark : ByteArray := prog_13_method_4_code
def yX11_isMark : MethodName := ⟨RX11, "isMark", "(I)Z"⟩
abbrev cX11_layOut : ByteArray := prog_13_method_5_code
def yX11_layOut : MethodName := ⟨RX11, "layOut", "()V"⟩
abbrev cX11_layOutRoutine : ByteArray := prog_13_method_6_code
def yX11_layOutRoutine : MethodName := ⟨RX11, "layOutRoutine", "(II)V"⟩
abbrev cX11_belongs : ByteArray := prog_13_method_7_code
def yX11_belongs : MethodName := ⟨RX11, "belongs", "(III)Z"⟩
abbrev cX11_run : ByteArray := prog_13_method_8_code
def yX11_run : MethodName := ⟨RX11, "run", "(II)I"⟩
abbrev cX11_begin : ByteArray := prog_13_method_9_code
def yX11_begin : MethodName := ⟨RX11, "begin", "(I)V"⟩
abbrev cX11_stop : ByteArray := prog_13_method_10_code
def yX11_stop : MethodName := ⟨RX11, "stop", "(I)V"⟩
abbrev cX11_takes : ByteArray := prog_13_method_11_code
def yX11_takes : MethodName := ⟨RX11, "takes", "()Z"⟩
abbrev cX11_opens : ByteArray := prog_13_method_12_code
def yX11_opens : MethodName := ⟨RX11, "opens", "(III)Z"⟩
abbrev cX11_enter : ByteArray := prog_13_method_13_code
def yX11_enter : MethodName := ⟨RX11, "enter", "(II)V"⟩
abbrev cX11_partEnd : ByteArray := prog_13_method_14_code
def yX11_partEnd : MethodName := ⟨RX11, "partEnd", "()I"⟩
abbrev cX11_goes : ByteArray := prog_13_method_15_code
def yX11_goes : MethodName := ⟨RX11, "goes", "()V"⟩
abbrev cX11_goOn : ByteArray := prog_13_method_16_code
def yX11_goOn : MethodName := ⟨RX11, "goOn", "(II)V"⟩
abbrev cX11_makeFailure : ByteArray := prog_13_method_17_code
def yX11_makeFailure : MethodName := ⟨RX11, "makeFailure", "(II)V"⟩
abbrev cX11_block : ByteArray := prog_13_method_18_code
def yX11_block : MethodName := ⟨RX11, "block", "(II)V"⟩
abbrev cX11_looks : ByteArray := prog_13_method_19_code
def yX11_looks : MethodName := ⟨RX11, "looks", "(I)V"⟩
abbrev cX11_call : ByteArray := prog_13_method_20_code
def yX11_call : MethodName := ⟨RX11, "call", "(I)V"⟩
abbrev cX11_comes : ByteArray := prog_13_method_21_code
def yX11_comes : MethodName := ⟨RX11, "comes", "()V"⟩
abbrev cX11_over : ByteArray := prog_13_method_22_code
def yX11_over : MethodName := ⟨RX11, "over", "(I)Z"⟩
abbrev cX11_comesOfLoop : ByteArray := prog_13_method_23_code
def yX11_comesOfLoop : MethodName := ⟨RX11, "comesOfLoop", "(I)Z"⟩
abbrev cX11_comesOfTrial : ByteArray := prog_13_method_24_code
def yX11_comesOfTrial : MethodName := ⟨RX11, "comesOfTrial", "(I)Z"⟩
abbrev cX11_isTaken : ByteArray := prog_13_method_25_code
def yX11_isTaken : MethodName := ⟨RX11, "isTaken", "(II)Z"⟩
abbrev cX11_comesOfRoutine : ByteArray := prog_13_method_26_code
def yX11_comesOfRoutine : MethodName := ⟨RX11, "comesOfRoutine", "(I)Z"⟩
abbrev cX11_reckons : ByteArray := prog_13_method_27_code
def yX11_reckons : MethodName := ⟨RX11, "reckons", "(I)I"⟩
abbrev cX11_divides : ByteArray := prog_13_method_28_code
def yX11_divides : MethodName := ⟨RX11, "divides", "(IIJJ)I"⟩
abbrev cX11_intOf : ByteArray := prog_13_method_29_code
def yX11_intOf : MethodName := ⟨RX11, "intOf", "(I)I"⟩
abbrev cX11_rows : ByteArray := prog_13_method_30_code
def yX11_rows : MethodName := ⟨RX11, "rows", "(I)I"⟩
abbrev cX11_makes : ByteArray := prog_13_method_31_code
def yX11_makes : MethodName := ⟨RX11, "makes", "(II)I"⟩
abbrev cX11_looksAt : ByteArray := prog_13_method_32_code
def yX11_looksAt : MethodName := ⟨RX11, "looksAt", "(III)I"⟩
abbrev cX11_puts : ByteArray := prog_13_method_33_code
def yX11_puts : MethodName := ⟨RX11, "puts", "(III)I"⟩
abbrev cX11_fitted : ByteArray := prog_13_method_34_code
def yX11_fitted : MethodName := ⟨RX11, "fitted", "(IJ)J"⟩
abbrev cX11_rounded : ByteArray := prog_13_method_35_code
def yX11_rounded : MethodName := ⟨RX11, "rounded", "(JI)J"⟩
abbrev cX11_grids : ByteArray := prog_13_method_36_code
def yX11_grids : MethodName := ⟨RX11, "grids", "(I)I"⟩
abbrev cX11_withThings : ByteArray := prog_13_method_37_code
def yX11_withThings : MethodName := ⟨RX11, "withThings", "(I)I"⟩
abbrev cX11_newThing : ByteArray := prog_13_method_38_code
def yX11_newThing : MethodName := ⟨RX11, "newThing", "(IJ)I"⟩
abbrev cX11_casts : ByteArray := prog_13_method_39_code
def yX11_casts : MethodName := ⟨RX11, "casts", "(II)I"⟩
abbrev cX11_makesOf : ByteArray := prog_13_method_40_code
def yX11_makesOf : MethodName := ⟨RX11, "makesOf", "(III)I"⟩
abbrev cX11_throwsAt : ByteArray := prog_13_method_41_code
def yX11_throwsAt : MethodName := ⟨RX11, "throwsAt", "(I)I"⟩
abbrev cX11_end : ByteArray := prog_13_method_42_code
def yX11_end : MethodName := ⟨RX11, "end", "()I"⟩
abbrev cX11_result : ByteArray := prog_13_method_43_code
def yX11_result : MethodName := ⟨RX11, "result", "()J"⟩
abbrev cX11_kind : ByteArray := prog_13_method_44_code
def yX11_kind : MethodName := ⟨RX11, "kind", "()I"⟩
abbrev cX11_cause : ByteArray := prog_13_method_45_code
def yX11_cause : MethodName := ⟨RX11, "cause", "(I)I"⟩
abbrev cX11_out : ByteArray := prog_13_method_46_code
def yX11_out : MethodName := ⟨RX11, "out", "(I)J"⟩
abbrev cX11_finished : ByteArray := prog_13_method_47_code
def yX11_finished : MethodName := ⟨RX11, "finished", "(I)I"⟩
abbrev cX11_depth : ByteArray := prog_13_method_48_code
def yX11_depth : MethodName := ⟨RX11, "depth", "()I"⟩
abbrev cX11_status : ByteArray := prog_13_method_49_code
def yX11_status : MethodName := ⟨RX11, "status", "(I)I"⟩
abbrev cX11_causes : ByteArray := prog_13_method_50_code
def yX11_causes : MethodName := ⟨RX11, "causes", "()I"⟩
abbrev cX11_number : ByteArray := prog_13_method_51_code
def yX11_number : MethodName := ⟨RX11, "number", "(I)J"⟩
abbrev cX11_hand : ByteArray := prog_13_method_52_code
def yX11_hand : MethodName := ⟨RX11, "hand", "(I)I"⟩
abbrev cX11_mark : ByteArray := prog_13_method_53_code
def yX11_mark : MethodName := ⟨RX11, "mark", "(I)J"⟩
abbrev cX11_size : ByteArray := prog_13_method_54_code
def yX11_size : MethodName := ⟨RX11, "size", "(II)I"⟩
abbrev cX11_value : ByteArray := prog_13_method_55_code
def yX11_value : MethodName := ⟨RX11, "value", "(III)J"⟩
abbrev cX11_grid : ByteArray := prog_13_method_56_code
def yX11_grid : MethodName := ⟨RX11, "grid", "(II)I"⟩
def RJ9 : String := "java/lang/Math"
abbrev cJ9_max_7cf53 : ByteArray := prog_14_method_65_code
def yJ9_max_7cf53 : MethodName := ⟨RJ9, "max", "(II)I"⟩
def RJ7 : String := "java/util/Arrays"
abbrev cJ7_fill_d0a16 : ByteArray := prog_15_method_101_code
def yJ7_fill_d0a16 : MethodName := ⟨RJ7, "fill", "([JJ)V"⟩
abbrev cJ7_fill_53178 : ByteArray := prog_15_method_103_code
def yJ7_fill_53178 : MethodName := ⟨RJ7, "fill", "([II)V"⟩
def RL : String := "TrialStairLaw"
abbrev cL_law : ByteArray := code
def yL_law : MethodName := ⟨RL, "law", "([I)Z"⟩
def wsL_law_r1 : List Cond := [Cond.classLink RL 7 RX10, Cond.instantiable RX10 6, Cond.initialized RX10, Cond.classLink RL 10 RX11, Cond.instantiable RX11 55, Cond.initialized RX11, Cond.methodLink RL 9 yX10_init, Cond.instanceMethod yX10_init, Cond.code yX10_init cX10_init 1 none, Cond.methodLink RX10 1 objectInit, Cond.instanceMethod objectInit, Cond.code objectInit ⟨#[0xb1]⟩ 1 none, Cond.classLink RX10 7 RX6, Cond.instantiable RX6 5, Cond.initialized RX6, Cond.fieldLink RX10 10 "TrialStair" "script" "LTrialStair$Script;", Cond.classLink RX10 16 RX3, Cond.instantiable RX3 4, Cond.initialized RX3, Cond.fieldLink RX10 19 "TrialStair" "house" "LTrialStair$House;", Cond.classLink RX10 23 RX4, Cond.instantiable RX4 9, Cond.initialized RX4, Cond.fieldLink RX10 26 "TrialStair" "report" "LTrialStair$Report;"]
def wsL_law_r2 : List Cond := [Cond.classLink RX10 30 RX9, Cond.instantiable RX9 11, Cond.initialized RX9, Cond.fieldLink RX10 35 "TrialStair" "worker" "LTrialStair$Worker;", Cond.instanceMethod yX6_init, Cond.code yX6_init cX6_init 1 none, Cond.methodLink RX6 3 objectInit, Cond.classLink RX6 9 RX7, Cond.fieldLink RX6 11 "TrialStair$Script" "steps" "[LTrialStair$Step;", Cond.arrayClass .int, Cond.fieldLink RX6 17 "TrialStair$Script" "marks" "[I", Cond.instanceMethod yX3_init, Cond.code yX3_init cX3_init 1 none, Cond.methodLink RX3 3 objectInit, Cond.arrayClass .long, Cond.fieldLink RX3 9 "TrialStair$House" "numbers" "[J", Cond.classLink RX3 15 RX8, Cond.fieldLink RX3 17 "TrialStair$House" "hands" "[LTrialStair$Thing;", Cond.classLink RX3 21 RX5, Cond.fieldLink RX3 23 "TrialStair$House" "rows" "[LTrialStair$Row;", Cond.classLink RX3 27 RX2, Cond.instantiable RX2 4, Cond.initialized RX2, Cond.fieldLink RX3 30 "TrialStair$House" "grid" "LTrialStair$Grid;"]
def wsL_law_r3 : List Cond := [Cond.instanceMethod yX2_init, Cond.code yX2_init cX2_init 1 none, Cond.methodLink RX2 3 objectInit, Cond.fieldLink RX2 9 "TrialStair$Grid" "cells" "[I", Cond.instanceMethod yX4_init, Cond.code yX4_init cX4_init 1 none, Cond.methodLink RX4 3 objectInit, Cond.fieldLink RX4 9 "TrialStair$Report" "outputs" "[J", Cond.fieldLink RX4 15 "TrialStair$Report" "finishedTrials" "[I", Cond.fieldLink RX4 19 "TrialStair$Report" "ending" "I", Cond.methodLink RX10 32 yX9_init, Cond.instanceMethod yX9_init, Cond.code yX9_init cX9_init 4 none, Cond.methodLink RX9 3 objectInit, Cond.classLink RX9 9 RX7, Cond.instantiable RX7 9, Cond.initialized RX7, Cond.fieldLink RX9 14 "TrialStair$Worker" "beginning" "LTrialStair$Step;", Cond.fieldLink RX9 20 "TrialStair$Worker" "script" "LTrialStair$Script;", Cond.fieldLink RX9 24 "TrialStair$Worker" "house" "LTrialStair$House;", Cond.fieldLink RX9 28 "TrialStair$Worker" "report" "LTrialStair$Report;", Cond.methodLink RX9 11 yX7_init, Cond.instanceMethod yX7_init, Cond.code yX7_init cX7_init 6 none]
def wsL_law_r4 : List Cond := [Cond.methodLink RX7 1 objectInit, Cond.fieldLink RX7 7 "TrialStair$Step" "taker" "I", Cond.fieldLink RX7 13 "TrialStair$Step" "finish" "I", Cond.fieldLink RX7 16 "TrialStair$Step" "close" "I", Cond.fieldLink RX7 19 "TrialStair$Step" "place" "I", Cond.fieldLink RX7 22 "TrialStair$Step" "op" "I", Cond.fieldLink RX7 25 "TrialStair$Step" "a" "I", Cond.fieldLink RX7 28 "TrialStair$Step" "b" "I", Cond.fieldLink RX7 31 "TrialStair$Step" "c" "I", Cond.methodLink RL 12 yX11_init, Cond.instanceMethod yX11_init, Cond.code yX11_init cX11_init 2 none, Cond.methodLink RX11 1 objectInit, Cond.fieldLink RX11 7 "TrialStairModel" "ops" "[I", Cond.fieldLink RX11 13 "TrialStairModel" "as" "[I", Cond.fieldLink RX11 16 "TrialStairModel" "bs" "[I", Cond.fieldLink RX11 19 "TrialStairModel" "cs" "[I", Cond.fieldLink RX11 22 "TrialStairModel" "blockEnd" "[I", Cond.fieldLink RX11 25 "TrialStairModel" "takerOf" "[I", Cond.fieldLink RX11 28 "TrialStairModel" "finishOf" "[I", Cond.fieldLink RX11 31 "TrialStairModel" "behind" "[I", Cond.fieldLink RX11 34 "TrialStairModel" "begun" "[I", Cond.fieldLink RX11 37 "TrialStairModel" "routineFrom" "[I", Cond.fieldLink RX11 40 "TrialStairModel" "routineTo" "[I"]
def wsL_law_r5 : List Cond := [Cond.fieldLink RX11 43 "TrialStairModel" "numbers" "[J", Cond.fieldLink RX11 47 "TrialStairModel" "hands" "[I", Cond.fieldLink RX11 50 "TrialStairModel" "thingKind" "[I", Cond.fieldLink RX11 53 "TrialStairModel" "thingMark" "[J", Cond.fieldLink RX11 56 "TrialStairModel" "rowSize" "[I", Cond.arrayClass .boolean, Cond.fieldLink RX11 59 "TrialStairModel" "sawsAlone" "[Z", Cond.fieldLink RX11 63 "TrialStairModel" "rowValues" "[J", Cond.fieldLink RX11 66 "TrialStairModel" "gridValues" "[I", Cond.fieldLink RX11 69 "TrialStairModel" "openKind" "[I", Cond.fieldLink RX11 72 "TrialStairModel" "openAt" "[I", Cond.fieldLink RX11 75 "TrialStairModel" "openEnd" "[I", Cond.fieldLink RX11 78 "TrialStairModel" "openPart" "[I", Cond.fieldLink RX11 81 "TrialStairModel" "openTaken" "[I", Cond.fieldLink RX11 84 "TrialStairModel" "openWhat" "[I", Cond.fieldLink RX11 87 "TrialStairModel" "openValue" "[J", Cond.fieldLink RX11 90 "TrialStairModel" "openFailure" "[I", Cond.fieldLink RX11 93 "TrialStairModel" "failureKind" "[I", Cond.fieldLink RX11 96 "TrialStairModel" "failureCause" "[I", Cond.fieldLink RX11 99 "TrialStairModel" "ended" "I", Cond.fieldLink RX11 103 "TrialStairModel" "outs" "[J", Cond.fieldLink RX11 106 "TrialStairModel" "finishedAt" "[I", Cond.methodLink RL 13 yX10_step, Cond.instanceMethod yX10_step]
def wsL_law_r6 : List Cond := [Cond.selects RX10 yX10_step yX10_step, Cond.code yX10_step cX10_step 5 (some .int), Cond.fieldLink RX10 39 "TrialStair$Script" "length" "I", Cond.methodLink RX10 43 yX6_add, Cond.instanceMethod yX6_add, Cond.selects RX6 yX6_add yX6_add, Cond.code yX6_add cX6_add 6 none, Cond.fieldLink RX6 21 "TrialStair$Script" "length" "I", Cond.fieldLink RX6 28 "TrialStair$Script" "innermost" "LTrialStair$Step;", Cond.fieldLink RX6 35 "TrialStair$Step" "around" "LTrialStair$Step;", Cond.fieldLink RX6 42 "TrialStair$Step" "place" "I", Cond.methodLink RX6 32 yX7_init, Cond.methodLink RX6 38 yX6_fit, Cond.instanceMethod yX6_fit, Cond.selects RX6 yX6_fit yX6_fit, Cond.code yX6_fit cX6_fit 3 none, Cond.fieldLink RX6 49 "TrialStair$Step" "op" "I", Cond.fieldLink RX6 52 "TrialStair$Step" "taker" "I", Cond.fieldLink RX6 55 "TrialStair$Step" "finish" "I", Cond.fieldLink RX6 58 "TrialStair$Step" "close" "I", Cond.methodLink RX6 45 yX6_beginRoutine, Cond.instanceMethod yX6_beginRoutine, Cond.selects RX6 yX6_beginRoutine yX6_beginRoutine, Cond.code yX6_beginRoutine cX6_beginRoutine 2 none]
def wsL_law_r7 : List Cond := [Cond.fieldLink RX6 25 "TrialStair$Script" "routines" "I", Cond.methodLink RL 17 yX11_step, Cond.instanceMethod yX11_step, Cond.selects RX11 yX11_step yX11_step, Cond.code yX11_step cX11_step 5 (some .int), Cond.fieldLink RX11 109 "TrialStairModel" "steps" "I", Cond.methodLink RL 18 yX10_wipe, Cond.instanceMethod yX10_wipe, Cond.selects RX10 yX10_wipe yX10_wipe, Cond.code yX10_wipe cX10_wipe 2 (some .int), Cond.methodLink RX10 47 yX6_clear, Cond.instanceMethod yX6_clear, Cond.selects RX6 yX6_clear yX6_clear, Cond.code yX6_clear cX6_clear 1 none, Cond.methodLink RL 22 yX11_wipe, Cond.instanceMethod yX11_wipe, Cond.selects RX11 yX11_wipe yX11_wipe, Cond.code yX11_wipe cX11_wipe 2 (some .int), Cond.methodLink RL 23 yX10_run, Cond.instanceMethod yX10_run, Cond.selects RX10 yX10_run yX10_run, Cond.code yX10_run cX10_run 4 (some .int), Cond.fieldLink RX10 54 "TrialStair" "stepsOfAllRuns" "I", Cond.fieldLink RX10 61 "TrialStair" "runs" "I"]
def wsL_law_r8 : List Cond := [Cond.methodLink RX10 50 yX6_hasRoutine, Cond.instanceMethod yX6_hasRoutine, Cond.selects RX6 yX6_hasRoutine yX6_hasRoutine, Cond.code yX6_hasRoutine cX6_hasRoutine 2 (some .boolean), Cond.methodLink RX10 57 yX9_workRun, Cond.instanceMethod yX9_workRun, Cond.selects RX9 yX9_workRun yX9_workRun, Cond.code yX9_workRun cX9_workRun 6 (some .int), Cond.fieldLink RX9 37 "TrialStair$Worker" "stepsLeft" "I", Cond.fieldLink RX9 41 "TrialStair$Worker" "open" "I", Cond.fieldLink RX9 44 "TrialStair$Worker" "top" "LTrialStair$Frame;", Cond.constant RX9 52 (1000000), Cond.fieldLink RX9 53 "TrialStair$Worker" "place" "I", Cond.fieldLink RX9 56 "TrialStair$Frame" "until" "I", Cond.fieldLink RX9 67 "TrialStair$Worker" "come" "I", Cond.methodLink RX9 32 yX4_begin, Cond.instanceMethod yX4_begin, Cond.selects RX4 yX4_begin yX4_begin, Cond.code yX4_begin cX4_begin 1 none, Cond.fieldLink RX4 23 "TrialStair$Report" "returned" "J", Cond.fieldLink RX4 27 "TrialStair$Report" "failure" "LTrialStair$Failure;", Cond.fieldLink RX4 31 "TrialStair$Report" "told" "I", Cond.fieldLink RX4 34 "TrialStair$Report" "finishes" "I", Cond.fieldLink RX4 37 "TrialStair$Report" "deepest" "I"]
def wsL_law_r9 : List Cond := [Cond.fieldLink RX4 40 "TrialStair$Report" "taken" "I", Cond.methodLink RX9 48 yX9_enterRoutine, Cond.instanceMethod yX9_enterRoutine, Cond.selects RX9 yX9_enterRoutine yX9_enterRoutine, Cond.code yX9_enterRoutine cX9_enterRoutine 3 none, Cond.classLink RX9 57 RX1, Cond.instantiable RX1 9, Cond.initialized RX1, Cond.methodLink RX9 151 yX6_placeBehind, Cond.instanceMethod yX6_placeBehind, Cond.selects RX6 yX6_placeBehind yX6_placeBehind, Cond.code yX6_placeBehind cX6_placeBehind 2 (some .int), Cond.methodLink RX6 61 yX6_hasRoutine, Cond.methodLink RX9 155 yX1_init, Cond.instanceMethod yX1_init, Cond.code yX1_init cX1_init 4 none, Cond.methodLink RX1 3 objectInit, Cond.fieldLink RX1 9 "TrialStair$Frame" "stage" "I", Cond.fieldLink RX1 15 "TrialStair$Frame" "step" "LTrialStair$Step;", Cond.fieldLink RX1 19 "TrialStair$Frame" "around" "LTrialStair$Frame;", Cond.fieldLink RX1 23 "TrialStair$Frame" "routineEnd" "I", Cond.fieldLink RX1 26 "TrialStair$Frame" "until" "I", Cond.methodLink RX9 158 yX6_firstPlaceOf, Cond.instanceMethod yX6_firstPlaceOf]
def wsL_law_r10 : List Cond := [Cond.selects RX6 yX6_firstPlaceOf yX6_firstPlaceOf, Cond.code yX6_firstPlaceOf cX6_firstPlaceOf 2 (some .int), Cond.methodLink RX9 161 yX9_enter, Cond.instanceMethod yX9_enter, Cond.selects RX9 yX9_enter yX9_enter, Cond.code yX9_enter cX9_enter 3 (some .boolean), Cond.fieldLink RX9 179 "TrialStair$Report" "deepest" "I", Cond.methodLink RX9 182 Lib.Math.max.name, Cond.static Lib.Math.max.name, Cond.initialized "java/lang/Math", Cond.code Lib.Math.max.name Lib.Math.max.code 2 (some .int), Cond.methodLink RX9 82 yX9_stop, Cond.instanceMethod yX9_stop, Cond.selects RX9 yX9_stop yX9_stop, Cond.code yX9_stop cX9_stop 2 none, Cond.fieldLink RX9 86 "TrialStair$Report" "ending" "I", Cond.methodLink RX9 61 yX6_stepAt, Cond.instanceMethod yX6_stepAt, Cond.selects RX6 yX6_stepAt yX6_stepAt, Cond.code yX6_stepAt cX6_stepAt 2 (some (.object "TrialStair$Step")), Cond.methodLink RX9 70 yX9_settle, Cond.instanceMethod yX9_settle, Cond.selects RX9 yX9_settle yX9_settle, Cond.code yX9_settle cX9_settle 2 none]
def wsL_law_r11 : List Cond := [Cond.fieldLink RX9 188 "TrialStair$Frame" "step" "LTrialStair$Step;", Cond.fieldLink RX9 89 "TrialStair$Step" "op" "I", Cond.methodLink RX9 198 yX9_settleTrial, Cond.instanceMethod yX9_settleTrial, Cond.selects RX9 yX9_settleTrial yX9_settleTrial, Cond.code yX9_settleTrial cX9_settleTrial 2 none, Cond.fieldLink RX9 138 "TrialStair$Frame" "stage" "I", Cond.fieldLink RX9 209 "TrialStair$Frame" "heldCome" "I", Cond.fieldLink RX9 212 "TrialStair$Frame" "heldValue" "J", Cond.fieldLink RX9 116 "TrialStair$Worker" "value" "J", Cond.fieldLink RX9 215 "TrialStair$Frame" "heldFailure" "LTrialStair$Failure;", Cond.fieldLink RX9 134 "TrialStair$Worker" "failure" "LTrialStair$Failure;", Cond.fieldLink RX9 225 "TrialStair$Step" "finish" "I", Cond.methodLink RX9 195 yX9_leaveBlock, Cond.instanceMethod yX9_leaveBlock, Cond.selects RX9 yX9_leaveBlock yX9_leaveBlock, Cond.code yX9_leaveBlock cX9_leaveBlock 2 none, Cond.fieldLink RX9 144 "TrialStair$Frame" "around" "LTrialStair$Frame;", Cond.methodLink RX9 207 yX1_placeBehind, Cond.instanceMethod yX1_placeBehind, Cond.selects RX1 yX1_placeBehind yX1_placeBehind, Cond.code yX1_placeBehind cX1_placeBehind 1 (some .int), Cond.fieldLink RX1 29 "TrialStair$Step" "close" "I", Cond.methodLink RX9 218 yX9_takes]
def wsL_law_r12 : List Cond := [Cond.static yX9_takes, Cond.code yX9_takes cX9_takes 4 (some .boolean), Cond.fieldLink RX9 231 "TrialStair$Step" "taker" "I", Cond.fieldLink RX9 234 "TrialStair$Failure" "kind" "I", Cond.fieldLink RX9 92 "TrialStair$Step" "a" "I", Cond.methodLink RX9 222 yX9_beginTaker, Cond.instanceMethod yX9_beginTaker, Cond.selects RX9 yX9_beginTaker yX9_beginTaker, Cond.code yX9_beginTaker cX9_beginTaker 2 none, Cond.fieldLink RX9 237 "TrialStair$Report" "taken" "I", Cond.fieldLink RX9 141 "TrialStair$Frame" "taken" "LTrialStair$Failure;", Cond.methodLink RX9 239 yX1_takerEnd, Cond.instanceMethod yX1_takerEnd, Cond.selects RX1 yX1_takerEnd yX1_takerEnd, Cond.code yX1_takerEnd cX1_takerEnd 1 (some .int), Cond.fieldLink RX1 34 "TrialStair$Step" "finish" "I", Cond.methodLink RX1 37 yX1_blockEnd, Cond.instanceMethod yX1_blockEnd, Cond.selects RX1 yX1_blockEnd yX1_blockEnd, Cond.code yX1_blockEnd cX1_blockEnd 1 (some .int), Cond.methodLink RX9 242 yX9_beginPart, Cond.instanceMethod yX9_beginPart, Cond.selects RX9 yX9_beginPart yX9_beginPart, Cond.code yX9_beginPart cX9_beginPart 5 none]
def wsL_law_r13 : List Cond := [Cond.methodLink RX9 228 yX9_beginFinish, Cond.instanceMethod yX9_beginFinish, Cond.selects RX9 yX9_beginFinish yX9_beginFinish, Cond.code yX9_beginFinish cX9_beginFinish 2 none, Cond.fieldLink RX9 172 "TrialStair$Step" "place" "I", Cond.methodLink RX9 246 yX4_noteFinish, Cond.instanceMethod yX4_noteFinish, Cond.selects RX4 yX4_noteFinish yX4_noteFinish, Cond.code yX4_noteFinish cX4_noteFinish 2 none, Cond.methodLink RX9 249 yX1_blockEnd, Cond.methodLink RX9 201 yX9_settleLoop, Cond.instanceMethod yX9_settleLoop, Cond.selects RX9 yX9_settleLoop yX9_settleLoop, Cond.code yX9_settleLoop cX9_settleLoop 2 none, Cond.methodLink RX9 74 yX9_takeStep, Cond.instanceMethod yX9_takeStep, Cond.selects RX9 yX9_takeStep yX9_takeStep, Cond.code yX9_takeStep cX9_takeStep 1 (some .boolean), Cond.methodLink RX9 173 yX9_look, Cond.instanceMethod yX9_look, Cond.selects RX9 yX9_look yX9_look, Cond.code yX9_look cX9_look 5 none, Cond.methodLink RX9 95 yX3_numberOf, Cond.instanceMethod yX3_numberOf]
def wsL_law_r14 : List Cond := [Cond.selects RX3 yX3_numberOf yX3_numberOf, Cond.code yX3_numberOf cX3_numberOf 2 (some .long), Cond.methodLink RX9 191 yX3_setNumber, Cond.instanceMethod yX3_setNumber, Cond.selects RX3 yX3_setNumber yX3_setNumber, Cond.code yX3_setNumber cX3_setNumber 4 none, Cond.methodLink RX9 204 yX9_settleRoutine, Cond.instanceMethod yX9_settleRoutine, Cond.selects RX9 yX9_settleRoutine yX9_settleRoutine, Cond.code yX9_settleRoutine cX9_settleRoutine 2 none, Cond.fieldLink RX9 176 "TrialStair$Step" "b" "I", Cond.methodLink RX9 252 yX9_reportEnd, Cond.instanceMethod yX9_reportEnd, Cond.selects RX9 yX9_reportEnd yX9_reportEnd, Cond.code yX9_reportEnd cX9_reportEnd 1 none, Cond.fieldLink RX9 255 "TrialStair$Report" "failure" "LTrialStair$Failure;", Cond.fieldLink RX9 256 "TrialStair$Report" "returned" "J", Cond.methodLink RX9 78 yX9_workStep, Cond.instanceMethod yX9_workStep, Cond.selects RX9 yX9_workStep yX9_workStep, Cond.code yX9_workStep cX9_workStep 3 none, Cond.methodLink RX9 101 yX4_tell, Cond.instanceMethod yX4_tell, Cond.selects RX4 yX4_tell yX4_tell]
def wsL_law_r15 : List Cond := [Cond.code yX4_tell cX4_tell 3 none, Cond.methodLink RX9 105 yX9_fail, Cond.instanceMethod yX9_fail, Cond.selects RX9 yX9_fail yX9_fail, Cond.code yX9_fail cX9_fail 3 none, Cond.classLink RX9 130 RX0, Cond.instantiable RX0 2, Cond.initialized RX0, Cond.methodLink RX9 132 yX0_init, Cond.instanceMethod yX0_init, Cond.code yX0_init cX0_init 3 none, Cond.methodLink RX0 1 objectInit, Cond.fieldLink RX0 7 "TrialStair$Failure" "kind" "I", Cond.fieldLink RX0 13 "TrialStair$Failure" "cause" "LTrialStair$Failure;", Cond.methodLink RX9 109 yX9_failureAtWork, Cond.instanceMethod yX9_failureAtWork, Cond.selects RX9 yX9_failureAtWork yX9_failureAtWork, Cond.code yX9_failureAtWork cX9_failureAtWork 2 (some (.object "TrialStair$Failure")), Cond.methodLink RX9 113 yX9_beginBlock, Cond.instanceMethod yX9_beginBlock, Cond.selects RX9 yX9_beginBlock yX9_beginBlock, Cond.code yX9_beginBlock cX9_beginBlock 4 none, Cond.fieldLink RX9 165 "TrialStair$Frame" "routineEnd" "I", Cond.methodLink RX9 168 yX1_bodyEnd]
def wsL_law_r16 : List Cond := [Cond.instanceMethod yX1_bodyEnd, Cond.selects RX1 yX1_bodyEnd yX1_bodyEnd, Cond.code yX1_bodyEnd cX1_bodyEnd 1 (some .int), Cond.fieldLink RX1 41 "TrialStair$Step" "taker" "I", Cond.methodLink RX1 44 yX1_takerEnd, Cond.methodLink RX9 120 yX9_callRoutine, Cond.instanceMethod yX9_callRoutine, Cond.selects RX9 yX9_callRoutine yX9_callRoutine, Cond.code yX9_callRoutine cX9_callRoutine 2 none, Cond.methodLink RX9 147 yX6_hasRoutine, Cond.methodLink RX9 124 yX3_workStep, Cond.instanceMethod yX3_workStep, Cond.selects RX3 yX3_workStep yX3_workStep, Cond.code yX3_workStep cX3_workStep 2 (some .int), Cond.fieldLink RX3 38 "TrialStair$Step" "op" "I", Cond.methodLink RX3 44 yX3_reckon, Cond.instanceMethod yX3_reckon, Cond.selects RX3 yX3_reckon yX3_reckon, Cond.code yX3_reckon cX3_reckon 6 (some .int), Cond.fieldLink RX3 63 "TrialStair$Step" "b" "I", Cond.fieldLink RX3 66 "TrialStair$Step" "c" "I", Cond.fieldLink RX3 69 "TrialStair$Step" "a" "I", Cond.methodLink RX3 34 yX3_numberOf, Cond.methodLink RX3 72 yX3_reckoned]
def wsL_law_r17 : List Cond := [Cond.static yX3_reckoned, Cond.code yX3_reckoned cX3_reckoned 5 (some .long), Cond.methodLink RX3 76 yX3_setNumber, Cond.methodLink RX3 48 yX3_makeRow, Cond.instanceMethod yX3_makeRow, Cond.selects RX3 yX3_makeRow yX3_makeRow, Cond.code yX3_makeRow cX3_makeRow 5 (some .int), Cond.instantiable RX5 5, Cond.initialized RX5, Cond.methodLink RX3 87 yX3_intOf, Cond.instanceMethod yX3_intOf, Cond.selects RX3 yX3_intOf yX3_intOf, Cond.code yX3_intOf cX3_intOf 2 (some .int), Cond.methodLink RX3 80 yX3_rowOf, Cond.instanceMethod yX3_rowOf, Cond.selects RX3 yX3_rowOf yX3_rowOf, Cond.code yX3_rowOf cX3_rowOf 3 (some (.object "TrialStair$Row")), Cond.methodLink RX3 108 yX5_init, Cond.instanceMethod yX5_init, Cond.code yX5_init cX5_init 2 none, Cond.methodLink RX5 3 objectInit, Cond.fieldLink RX5 9 "TrialStair$Row" "sort" "I", Cond.fieldLink RX5 15 "TrialStair$Row" "numbers" "[J", Cond.classLink RX5 19 RX8]
def wsL_law_r18 : List Cond := [Cond.fieldLink RX5 21 "TrialStair$Row" "things" "[LTrialStair$Thing;", Cond.methodLink RX3 111 yX5_empty, Cond.instanceMethod yX5_empty, Cond.selects RX5 yX5_empty yX5_empty, Cond.code yX5_empty cX5_empty 4 none, Cond.fieldLink RX5 25 "TrialStair$Row" "places" "I", Cond.fieldLink RX5 28 "TrialStair$Row" "sawsAlone" "Z", Cond.methodLink RX5 32 yJ7_fill_d0a16, Cond.static yJ7_fill_d0a16, Cond.initialized RJ7, Cond.code yJ7_fill_d0a16 cJ7_fill_d0a16 5 none, Cond.methodLink RX3 51 yX3_workRow, Cond.instanceMethod yX3_workRow, Cond.selects RX3 yX3_workRow yX3_workRow, Cond.code yX3_workRow cX3_workRow 5 (some .int), Cond.fieldLink RX3 84 "TrialStair$Row" "places" "I", Cond.methodLink RX3 91 yX5_has, Cond.instanceMethod yX5_has, Cond.selects RX5 yX5_has yX5_has, Cond.code yX5_has cX5_has 2 (some .boolean), Cond.methodLink RX3 95 yX3_takeThing, Cond.instanceMethod yX3_takeThing, Cond.selects RX3 yX3_takeThing yX3_takeThing, Cond.code yX3_takeThing cX3_takeThing 4 (some .int)]
def wsL_law_r19 : List Cond := [Cond.methodLink RX3 115 yX5_thingAt, Cond.instanceMethod yX5_thingAt, Cond.selects RX5 yX5_thingAt yX5_thingAt, Cond.code yX5_thingAt cX5_thingAt 2 (some (.object "TrialStair$Thing")), Cond.methodLink RX3 99 yX3_putThing, Cond.instanceMethod yX3_putThing, Cond.selects RX3 yX3_putThing yX3_putThing, Cond.code yX3_putThing cX3_putThing 5 (some .int), Cond.fieldLink RX3 122 "TrialStair$Row" "sawsAlone" "Z", Cond.fieldLink RX3 126 "TrialStair$Thing" "kind" "I", Cond.methodLink RX3 119 yX3_thingOf, Cond.instanceMethod yX3_thingOf, Cond.selects RX3 yX3_thingOf yX3_thingOf, Cond.code yX3_thingOf cX3_thingOf 2 (some (.object "TrialStair$Thing")), Cond.methodLink RX3 129 yX5_putThing, Cond.instanceMethod yX5_putThing, Cond.selects RX5 yX5_putThing yX5_putThing, Cond.code yX5_putThing cX5_putThing 3 none, Cond.methodLink RX3 102 yX5_numberAt, Cond.instanceMethod yX5_numberAt, Cond.selects RX5 yX5_numberAt yX5_numberAt, Cond.code yX5_numberAt cX5_numberAt 2 (some .long), Cond.methodLink RX3 105 yX5_putNumber, Cond.instanceMethod yX5_putNumber]
def wsL_law_r20 : List Cond := [Cond.selects RX5 yX5_putNumber yX5_putNumber, Cond.code yX5_putNumber cX5_putNumber 4 none, Cond.methodLink RX5 38 yX5_narrowed, Cond.instanceMethod yX5_narrowed, Cond.selects RX5 yX5_narrowed yX5_narrowed, Cond.code yX5_narrowed cX5_narrowed 3 (some .long), Cond.methodLink RX3 54 yX3_workGrid, Cond.instanceMethod yX3_workGrid, Cond.selects RX3 yX3_workGrid yX3_workGrid, Cond.code yX3_workGrid cX3_workGrid 4 (some .int), Cond.fieldLink RX3 136 "TrialStair$Grid" "made" "Z", Cond.methodLink RX3 132 yX2_make, Cond.instanceMethod yX2_make, Cond.selects RX2 yX2_make yX2_make, Cond.code yX2_make cX2_make 3 none, Cond.fieldLink RX2 15 "TrialStair$Grid" "made" "Z", Cond.fieldLink RX2 19 "TrialStair$Grid" "rows" "I", Cond.fieldLink RX2 23 "TrialStair$Grid" "places" "I", Cond.methodLink RX2 26 yJ7_fill_53178, Cond.static yJ7_fill_53178, Cond.code yJ7_fill_53178 cJ7_fill_53178 4 none, Cond.methodLink RX3 139 yX2_has, Cond.instanceMethod yX2_has, Cond.selects RX2 yX2_has yX2_has]
def wsL_law_r21 : List Cond := [Cond.code yX2_has cX2_has 3 (some .boolean), Cond.methodLink RX3 142 yX2_cellAt, Cond.instanceMethod yX2_cellAt, Cond.selects RX2 yX2_cellAt yX2_cellAt, Cond.code yX2_cellAt cX2_cellAt 4 (some .int), Cond.methodLink RX3 146 yX2_putCell, Cond.instanceMethod yX2_putCell, Cond.selects RX2 yX2_putCell yX2_putCell, Cond.code yX2_putCell cX2_putCell 5 none, Cond.methodLink RX3 57 yX3_workHand, Cond.instanceMethod yX3_workHand, Cond.selects RX3 yX3_workHand yX3_workHand, Cond.code yX3_workHand cX3_workHand 3 (some .int), Cond.methodLink RX3 150 yX3_newThing, Cond.static yX3_newThing, Cond.code yX3_newThing cX3_newThing 3 (some (.object "TrialStair$Thing")), Cond.instantiable RX8 2, Cond.initialized RX8, Cond.methodLink RX3 161 yX8_init, Cond.instanceMethod yX8_init, Cond.code yX8_init cX8_init 4 none, Cond.methodLink RX8 3 objectInit, Cond.fieldLink RX8 9 "TrialStair$Thing" "kind" "I", Cond.fieldLink RX8 15 "TrialStair$Thing" "mark" "J"]
def wsL_law_r22 : List Cond := [Cond.methodLink RX3 154 yX8_isCastAs, Cond.instanceMethod yX8_isCastAs, Cond.selects RX8 yX8_isCastAs yX8_isCastAs, Cond.code yX8_isCastAs cX8_isCastAs 2 (some .boolean), Cond.methodLink RX8 19 yX8_rings, Cond.instanceMethod yX8_rings, Cond.selects RX8 yX8_rings yX8_rings, Cond.code yX8_rings cX8_rings 1 (some .boolean), Cond.methodLink RX3 157 yX3_workMark, Cond.instanceMethod yX3_workMark, Cond.selects RX3 yX3_workMark yX3_workMark, Cond.code yX3_workMark cX3_workMark 3 (some .int), Cond.fieldLink RX3 163 "TrialStair$Thing" "mark" "J", Cond.methodLink RX3 60 yX3_workTool, Cond.instanceMethod yX3_workTool, Cond.selects RX3 yX3_workTool yX3_workTool, Cond.code yX3_workTool cX3_workTool 5 (some .int), Cond.constantLong RX3 171 (3), Cond.methodLink RX3 167 yX8_use, Cond.instanceMethod yX8_use, Cond.selects RX8 yX8_use yX8_use, Cond.code yX8_use cX8_use 3 (some .long), Cond.constantLong RX8 23 (2), Cond.methodLink RX3 173 yX8_rings]
def wsL_law_r23 : List Cond := [Cond.methodLink RX3 177 yX8_ring, Cond.instanceMethod yX8_ring, Cond.selects RX8 yX8_ring yX8_ring, Cond.code yX8_ring cX8_ring 5 (some .long), Cond.methodLink RX9 127 yX9_goBehind, Cond.instanceMethod yX9_goBehind, Cond.selects RX9 yX9_goBehind yX9_goBehind, Cond.code yX9_goBehind cX9_goBehind 2 none, Cond.methodLink RL 27 yX11_run, Cond.instanceMethod yX11_run, Cond.selects RX11 yX11_run yX11_run, Cond.code yX11_run cX11_run 4 (some .int), Cond.fieldLink RX11 112 "TrialStairModel" "routines" "I", Cond.fieldLink RX11 130 "TrialStairModel" "allSteps" "I", Cond.fieldLink RX11 140 "TrialStairModel" "works" "Z", Cond.fieldLink RX11 147 "TrialStairModel" "runs" "I", Cond.fieldLink RX11 150 "TrialStairModel" "took" "I", Cond.methodLink RX11 127 yX11_layOut, Cond.instanceMethod yX11_layOut, Cond.selects RX11 yX11_layOut yX11_layOut, Cond.code yX11_layOut cX11_layOut 2 none, Cond.methodLink RX11 115 yX11_isMark, Cond.instanceMethod yX11_isMark, Cond.selects RX11 yX11_isMark yX11_isMark]
def wsL_law_r24 : List Cond := [Cond.code yX11_isMark cX11_isMark 2 (some .boolean), Cond.methodLink RX11 119 yX11_layOutRoutine, Cond.instanceMethod yX11_layOutRoutine, Cond.selects RX11 yX11_layOutRoutine yX11_layOutRoutine, Cond.code yX11_layOutRoutine cX11_layOutRoutine 6 none, Cond.methodLink RX11 123 yX11_belongs, Cond.instanceMethod yX11_belongs, Cond.selects RX11 yX11_belongs yX11_belongs, Cond.code yX11_belongs cX11_belongs 6 (some .boolean), Cond.methodLink RX11 133 yX11_begin, Cond.instanceMethod yX11_begin, Cond.selects RX11 yX11_begin yX11_begin, Cond.code yX11_begin cX11_begin 2 none, Cond.fieldLink RX11 153 "TrialStairModel" "left" "I", Cond.fieldLink RX11 156 "TrialStairModel" "open" "I", Cond.fieldLink RX11 159 "TrialStairModel" "failures" "I", Cond.fieldLink RX11 162 "TrialStairModel" "outCount" "I", Cond.fieldLink RX11 165 "TrialStairModel" "finishedCount" "I", Cond.fieldLink RX11 168 "TrialStairModel" "takenCount" "I", Cond.fieldLink RX11 171 "TrialStairModel" "deepest" "I", Cond.fieldLink RX11 174 "TrialStairModel" "result" "J", Cond.fieldLink RX11 178 "TrialStairModel" "lastFailure" "I", Cond.methodLink RX11 137 yX11_enter, Cond.instanceMethod yX11_enter]
def wsL_law_r25 : List Cond := [Cond.selects RX11 yX11_enter yX11_enter, Cond.code yX11_enter cX11_enter 3 none, Cond.fieldLink RX11 187 "TrialStairModel" "at" "I", Cond.methodLink RX11 184 yX11_opens, Cond.instanceMethod yX11_opens, Cond.selects RX11 yX11_opens yX11_opens, Cond.code yX11_opens cX11_opens 4 (some .boolean), Cond.methodLink RX11 181 yX11_stop, Cond.instanceMethod yX11_stop, Cond.selects RX11 yX11_stop yX11_stop, Cond.code yX11_stop cX11_stop 2 none, Cond.methodLink RX11 144 yX11_goes, Cond.instanceMethod yX11_goes, Cond.selects RX11 yX11_goes yX11_goes, Cond.code yX11_goes cX11_goes 4 none, Cond.fieldLink RX11 194 "TrialStairModel" "what" "I", Cond.fieldLink RX11 226 "TrialStairModel" "value" "J", Cond.methodLink RX11 190 yX11_partEnd, Cond.instanceMethod yX11_partEnd, Cond.selects RX11 yX11_partEnd yX11_partEnd, Cond.code yX11_partEnd cX11_partEnd 4 (some .int), Cond.methodLink RX11 197 yX11_comes, Cond.instanceMethod yX11_comes, Cond.selects RX11 yX11_comes yX11_comes]
def wsL_law_r26 : List Cond := [Cond.code yX11_comes cX11_comes 5 none, Cond.methodLink RX11 238 yX11_comesOfRoutine, Cond.instanceMethod yX11_comesOfRoutine, Cond.selects RX11 yX11_comesOfRoutine yX11_comesOfRoutine, Cond.code yX11_comesOfRoutine cX11_comesOfRoutine 3 (some .boolean), Cond.fieldLink RX11 232 "TrialStairModel" "failure" "I", Cond.methodLink RX11 241 yX11_comesOfTrial, Cond.instanceMethod yX11_comesOfTrial, Cond.selects RX11 yX11_comesOfTrial yX11_comesOfTrial, Cond.code yX11_comesOfTrial cX11_comesOfTrial 3 (some .boolean), Cond.methodLink RX11 247 yX11_over, Cond.instanceMethod yX11_over, Cond.selects RX11 yX11_over yX11_over, Cond.code yX11_over cX11_over 2 (some .boolean), Cond.methodLink RX11 250 yX11_isTaken, Cond.static yX11_isTaken, Cond.code yX11_isTaken cX11_isTaken 4 (some .boolean), Cond.methodLink RX11 244 yX11_comesOfLoop, Cond.instanceMethod yX11_comesOfLoop, Cond.selects RX11 yX11_comesOfLoop yX11_comesOfLoop, Cond.code yX11_comesOfLoop cX11_comesOfLoop 3 (some .boolean), Cond.methodLink RX11 200 yX11_takes, Cond.instanceMethod yX11_takes, Cond.selects RX11 yX11_takes yX11_takes]
def wsL_law_r27 : List Cond := [Cond.code yX11_takes cX11_takes 1 (some .boolean), Cond.methodLink RX11 235 yX11_looks, Cond.instanceMethod yX11_looks, Cond.selects RX11 yX11_looks yX11_looks, Cond.code yX11_looks cX11_looks 3 none, Cond.methodLink RX11 204 yX11_reckons, Cond.instanceMethod yX11_reckons, Cond.selects RX11 yX11_reckons yX11_reckons, Cond.code yX11_reckons cX11_reckons 7 (some .int), Cond.methodLink RX11 254 yX11_divides, Cond.instanceMethod yX11_divides, Cond.selects RX11 yX11_divides yX11_divides, Cond.code yX11_divides cX11_divides 9 (some .int), Cond.constantLong RX11 258 (-1), Cond.methodLink RX11 208 yX11_rows, Cond.instanceMethod yX11_rows, Cond.selects RX11 yX11_rows yX11_rows, Cond.code yX11_rows cX11_rows 5 (some .int), Cond.methodLink RX11 260 yX11_grids, Cond.instanceMethod yX11_grids, Cond.selects RX11 yX11_grids yX11_grids, Cond.code yX11_grids cX11_grids 5 (some .int), Cond.fieldLink RX11 289 "TrialStairModel" "hasGrid" "Z", Cond.fieldLink RX11 292 "TrialStairModel" "gridRows" "I"]
def wsL_law_r28 : List Cond := [Cond.fieldLink RX11 295 "TrialStairModel" "gridPlaces" "I", Cond.methodLink RX11 267 yX11_intOf, Cond.instanceMethod yX11_intOf, Cond.selects RX11 yX11_intOf yX11_intOf, Cond.code yX11_intOf cX11_intOf 2 (some .int), Cond.methodLink RX11 263 yX11_makes, Cond.instanceMethod yX11_makes, Cond.selects RX11 yX11_makes yX11_makes, Cond.code yX11_makes cX11_makes 5 (some .int), Cond.methodLink RX11 270 yX11_looksAt, Cond.instanceMethod yX11_looksAt, Cond.selects RX11 yX11_looksAt yX11_looksAt, Cond.code yX11_looksAt cX11_looksAt 6 (some .int), Cond.methodLink RX11 274 yX11_puts, Cond.instanceMethod yX11_puts, Cond.selects RX11 yX11_puts yX11_puts, Cond.code yX11_puts cX11_puts 8 (some .int), Cond.methodLink RX11 277 yX11_fitted, Cond.static yX11_fitted, Cond.code yX11_fitted cX11_fitted 3 (some .long), Cond.constantLong RX11 281 (65535), Cond.methodLink RX11 283 yX11_rounded, Cond.static yX11_rounded, Cond.code yX11_rounded cX11_rounded 14 (some .long)]
def wsL_law_r29 : List Cond := [Cond.constantLong RX11 287 (9223372036854775807), Cond.methodLink RX11 211 yX11_withThings, Cond.instanceMethod yX11_withThings, Cond.selects RX11 yX11_withThings yX11_withThings, Cond.code yX11_withThings cX11_withThings 4 (some .int), Cond.methodLink RX11 298 yX11_newThing, Cond.instanceMethod yX11_newThing, Cond.selects RX11 yX11_newThing yX11_newThing, Cond.code yX11_newThing cX11_newThing 4 (some .int), Cond.fieldLink RX11 308 "TrialStairModel" "things" "I", Cond.methodLink RX11 302 yX11_casts, Cond.instanceMethod yX11_casts, Cond.selects RX11 yX11_casts yX11_casts, Cond.code yX11_casts cX11_casts 6 (some .int), Cond.methodLink RX11 305 yX11_makesOf, Cond.instanceMethod yX11_makesOf, Cond.selects RX11 yX11_makesOf yX11_makesOf, Cond.code yX11_makesOf cX11_makesOf 11 (some .int), Cond.constantLong RX11 311 (3), Cond.constantLong RX11 313 (2), Cond.methodLink RX11 214 yX11_throwsAt, Cond.instanceMethod yX11_throwsAt, Cond.selects RX11 yX11_throwsAt yX11_throwsAt, Cond.code yX11_throwsAt cX11_throwsAt 4 (some .int)]
def wsL_law_r30 : List Cond := [Cond.methodLink RX11 229 yX11_makeFailure, Cond.instanceMethod yX11_makeFailure, Cond.selects RX11 yX11_makeFailure yX11_makeFailure, Cond.code yX11_makeFailure cX11_makeFailure 3 none, Cond.methodLink RX11 217 yX11_goOn, Cond.instanceMethod yX11_goOn, Cond.selects RX11 yX11_goOn yX11_goOn, Cond.code yX11_goOn cX11_goOn 3 none, Cond.methodLink RX11 220 yX11_block, Cond.instanceMethod yX11_block, Cond.selects RX11 yX11_block yX11_block, Cond.code yX11_block cX11_block 4 none, Cond.methodLink RX11 223 yX11_call, Cond.instanceMethod yX11_call, Cond.selects RX11 yX11_call yX11_call, Cond.code yX11_call cX11_call 3 none, Cond.methodLink RL 28 yX10_end, Cond.instanceMethod yX10_end, Cond.selects RX10 yX10_end yX10_end, Cond.code yX10_end cX10_end 1 (some .int), Cond.fieldLink RX10 64 "TrialStair$Report" "ending" "I", Cond.methodLink RL 31 yX11_end, Cond.instanceMethod yX11_end, Cond.selects RX11 yX11_end yX11_end]
def wsL_law_r31 : List Cond := [Cond.code yX11_end cX11_end 1 (some .int), Cond.methodLink RL 32 yX10_result, Cond.instanceMethod yX10_result, Cond.selects RX10 yX10_result yX10_result, Cond.code yX10_result cX10_result 1 (some .long), Cond.fieldLink RX10 67 "TrialStair$Report" "returned" "J", Cond.methodLink RL 36 yX11_result, Cond.instanceMethod yX11_result, Cond.selects RX11 yX11_result yX11_result, Cond.code yX11_result cX11_result 1 (some .long), Cond.methodLink RL 37 yX10_kind, Cond.instanceMethod yX10_kind, Cond.selects RX10 yX10_kind yX10_kind, Cond.code yX10_kind cX10_kind 1 (some .int), Cond.fieldLink RX10 71 "TrialStair$Report" "failure" "LTrialStair$Failure;", Cond.fieldLink RX10 75 "TrialStair$Failure" "kind" "I", Cond.methodLink RL 40 yX11_kind, Cond.instanceMethod yX11_kind, Cond.selects RX11 yX11_kind yX11_kind, Cond.code yX11_kind cX11_kind 1 (some .int), Cond.methodLink RL 41 yX10_cause, Cond.instanceMethod yX10_cause, Cond.selects RX10 yX10_cause yX10_cause, Cond.code yX10_cause cX10_cause 4 (some .int)]
def wsL_law_r32 : List Cond := [Cond.fieldLink RX10 80 "TrialStair$Failure" "cause" "LTrialStair$Failure;", Cond.methodLink RL 45 yX11_cause, Cond.instanceMethod yX11_cause, Cond.selects RX11 yX11_cause yX11_cause, Cond.code yX11_cause cX11_cause 4 (some .int), Cond.methodLink RL 46 yX10_out, Cond.instanceMethod yX10_out, Cond.selects RX10 yX10_out yX10_out, Cond.code yX10_out cX10_out 2 (some .long), Cond.fieldLink RX10 83 "TrialStair$Report" "told" "I", Cond.fieldLink RX10 86 "TrialStair$Report" "outputs" "[J", Cond.methodLink RL 50 yX11_out, Cond.instanceMethod yX11_out, Cond.selects RX11 yX11_out yX11_out, Cond.code yX11_out cX11_out 2 (some .long), Cond.methodLink RL 51 yX10_finished, Cond.instanceMethod yX10_finished, Cond.selects RX10 yX10_finished yX10_finished, Cond.code yX10_finished cX10_finished 2 (some .int), Cond.fieldLink RX10 90 "TrialStair$Report" "finishes" "I", Cond.fieldLink RX10 93 "TrialStair$Report" "finishedTrials" "[I", Cond.methodLink RL 54 yX11_finished, Cond.instanceMethod yX11_finished, Cond.selects RX11 yX11_finished yX11_finished]
def wsL_law_r33 : List Cond := [Cond.code yX11_finished cX11_finished 2 (some .int), Cond.methodLink RL 55 yX10_depth, Cond.instanceMethod yX10_depth, Cond.selects RX10 yX10_depth yX10_depth, Cond.code yX10_depth cX10_depth 1 (some .int), Cond.fieldLink RX10 97 "TrialStair$Report" "deepest" "I", Cond.methodLink RL 58 yX11_depth, Cond.instanceMethod yX11_depth, Cond.selects RX11 yX11_depth yX11_depth, Cond.code yX11_depth cX11_depth 1 (some .int), Cond.methodLink RL 59 yX10_status, Cond.instanceMethod yX10_status, Cond.selects RX10 yX10_status yX10_status, Cond.code yX10_status cX10_status 2 (some .int), Cond.fieldLink RX10 100 "TrialStair$Script" "routines" "I", Cond.fieldLink RX10 107 "TrialStair$Report" "taken" "I", Cond.methodLink RX10 103 yX4_countCauses, Cond.instanceMethod yX4_countCauses, Cond.selects RX4 yX4_countCauses yX4_countCauses, Cond.code yX4_countCauses cX4_countCauses 3 (some .int), Cond.fieldLink RX4 43 "TrialStair$Failure" "cause" "LTrialStair$Failure;", Cond.methodLink RL 62 yX11_status, Cond.instanceMethod yX11_status, Cond.selects RX11 yX11_status yX11_status]
def wsL_law_r34 : List Cond := [Cond.code yX11_status cX11_status 2 (some .int), Cond.methodLink RX11 315 yX11_causes, Cond.instanceMethod yX11_causes, Cond.selects RX11 yX11_causes yX11_causes, Cond.code yX11_causes cX11_causes 3 (some .int), Cond.methodLink RL 63 yX10_number, Cond.instanceMethod yX10_number, Cond.selects RX10 yX10_number yX10_number, Cond.code yX10_number cX10_number 2 (some .long), Cond.methodLink RX10 110 yX10_isOfEight, Cond.static yX10_isOfEight, Cond.code yX10_isOfEight cX10_isOfEight 1 (some .boolean), Cond.methodLink RX10 113 yX3_numberOf, Cond.methodLink RL 66 yX11_number, Cond.instanceMethod yX11_number, Cond.selects RX11 yX11_number yX11_number, Cond.code yX11_number cX11_number 2 (some .long), Cond.methodLink RL 67 yX10_hand, Cond.instanceMethod yX10_hand, Cond.selects RX10 yX10_hand yX10_hand, Cond.code yX10_hand cX10_hand 2 (some .int), Cond.methodLink RX10 117 yX3_thingOf, Cond.methodLink RX10 121 yX10_kindOf, Cond.static yX10_kindOf]
def wsL_law_r35 : List Cond := [Cond.code yX10_kindOf cX10_kindOf 1 (some .int), Cond.fieldLink RX10 160 "TrialStair$Thing" "kind" "I", Cond.methodLink RL 70 yX11_hand, Cond.instanceMethod yX11_hand, Cond.selects RX11 yX11_hand yX11_hand, Cond.code yX11_hand cX11_hand 2 (some .int), Cond.methodLink RL 71 yX10_mark, Cond.instanceMethod yX10_mark, Cond.selects RX10 yX10_mark yX10_mark, Cond.code yX10_mark cX10_mark 3 (some .long), Cond.fieldLink RX10 125 "TrialStair$Thing" "mark" "J", Cond.methodLink RL 74 yX11_mark, Cond.instanceMethod yX11_mark, Cond.selects RX11 yX11_mark yX11_mark, Cond.code yX11_mark cX11_mark 2 (some .long), Cond.methodLink RL 75 yX10_size, Cond.instanceMethod yX10_size, Cond.selects RX10 yX10_size yX10_size, Cond.code yX10_size cX10_size 4 (some .int), Cond.fieldLink RX10 134 "TrialStair$Row" "places" "I", Cond.methodLink RX10 130 yX3_rowOf, Cond.methodLink RL 78 yX11_size, Cond.instanceMethod yX11_size, Cond.selects RX11 yX11_size yX11_size]
def wsL_law_r36 : List Cond := [Cond.code yX11_size cX11_size 3 (some .int), Cond.methodLink RL 79 yX10_value, Cond.instanceMethod yX10_value, Cond.selects RX10 yX10_value yX10_value, Cond.code yX10_value cX10_value 5 (some .long), Cond.methodLink RX10 139 yX5_has, Cond.methodLink RX10 142 yX5_thingAt, Cond.methodLink RX10 145 yX5_numberAt, Cond.methodLink RL 83 yX11_value, Cond.instanceMethod yX11_value, Cond.selects RX11 yX11_value yX11_value, Cond.code yX11_value cX11_value 7 (some .long), Cond.methodLink RX11 318 yX11_size, Cond.methodLink RL 84 yX10_grid, Cond.instanceMethod yX10_grid, Cond.selects RX10 yX10_grid yX10_grid, Cond.code yX10_grid cX10_grid 3 (some .int), Cond.fieldLink RX10 148 "TrialStair$House" "grid" "LTrialStair$Grid;", Cond.methodLink RX10 152 yX2_has, Cond.methodLink RX10 157 yX2_cellAt, Cond.methodLink RL 87 yX11_grid, Cond.instanceMethod yX11_grid, Cond.selects RX11 yX11_grid yX11_grid, Cond.code yX11_grid cX11_grid 3 (some .int)]
def wsL_law : List Cond := (wsL_law_r1 ++ (wsL_law_r2 ++ (wsL_law_r3 ++ (wsL_law_r4 ++ (wsL_law_r5 ++ (wsL_law_r6 ++ (wsL_law_r7 ++ (wsL_law_r8 ++ (wsL_law_r9 ++ (wsL_law_r10 ++ (wsL_law_r11 ++ (wsL_law_r12 ++ (wsL_law_r13 ++ (wsL_law_r14 ++ (wsL_law_r15 ++ (wsL_law_r16 ++ (wsL_law_r17 ++ (wsL_law_r18 ++ (wsL_law_r19 ++ (wsL_law_r20 ++ (wsL_law_r21 ++ (wsL_law_r22 ++ (wsL_law_r23 ++ (wsL_law_r24 ++ (wsL_law_r25 ++ (wsL_law_r26 ++ (wsL_law_r27 ++ (wsL_law_r28 ++ (wsL_law_r29 ++ (wsL_law_r30 ++ (wsL_law_r31 ++ (wsL_law_r32 ++ (wsL_law_r33 ++ (wsL_law_r34 ++ (wsL_law_r35 ++ wsL_law_r36))))))))))))))))))))))))))))))))))) ++ wsX100 ++ wsX110 ++ wsX60 ++ wsX30 ++ wsX40 ++ wsX90 ++ wsX20 ++ wsX70 ++ wsX10 ++ wsX00 ++ wsX50 ++ wsX80 ++ ([] : List Cond)
abbrev vwCl : List vw_C := [(RX0, TX0, 2), (RX1, TX1, 9), (RX2, TX2, 4), (RX3, TX3, 4), (RX4, TX4, 9), (RX5, TX5, 5), (RX6, TX6, 5), (RX7, TX7, 9), (RX8, TX8, 2), (RX9, TX9, 11), (RX10, TX10, 6), (RX11, TX11, 55)]theorem wsl_1 : ∀ w ∈ wsL_law_r1, w ∈ lw_tbl := fun w h => (goodIn_r (big := lw_tbl) wsL_law_r1 [83, 84, 69, 798, 799, 76, 85, 86, 87, 88, 89, 90, 91, 92, 70, 303, 118, 119, 71, 304, 163, 164, 73, 305] (by decide +kernel) (by decide +kernel) w h).1
theorem wsl_2 : ∀ w ∈ wsL_law_r2, w ∈ lw_tbl := fun w h => (goodIn_r (big := lw_tbl) wsL_law_r2 [211, 212, 74, 306, 94, 95, 96, 97, 99, 117, 100, 121, 122, 123, 148, 149, 124, 150, 126, 151, 128, 129, 72, 152] (by decide +kernel) (by decide +kernel) w h).1
theorem wsl_3 : ∀ w ∈ wsL_law_r3, w ∈ lw_tbl := fun w h => (goodIn_r (big := lw_tbl) wsL_law_r3 [131, 132, 133, 134, 166, 167, 168, 169, 171, 173, 213, 214, 215, 216, 217, 218, 75, 272, 269, 270, 271, 219, 220, 221] (by decide +kernel) (by decide +kernel) w h).1
theorem wsl_4 : ∀ w ∈ wsL_law_r4, w ∈ lw_tbl := fun w h => (goodIn_r (big := lw_tbl) wsL_law_r4 [222, 239, 243, 247, 223, 226, 230, 233, 236, 800, 801, 802, 803, 804, 805, 806, 807, 809, 810, 811, 812, 813, 814, 815] (by decide +kernel) (by decide +kernel) w h).1
theorem wsl_5 : ∀ w ∈ wsL_law_r5, w ∈ lw_tbl := fun w h => (goodIn_r (big := lw_tbl) wsL_law_r5 [817, 818, 819, 820, 822, 970, 823, 824, 828, 829, 830, 831, 832, 833, 834, 835, 836, 843, 844, 850, 853, 855, 322, 323] (by decide +kernel) (by decide +kernel) w h).1
theorem wsl_6 : ∀ w ∈ wsL_law_r6, w ∈ lw_tbl := fun w h => (goodIn_r (big := lw_tbl) wsL_law_r6 [324, 325, 103, 326, 327, 328, 329, 102, 101, 238, 224, 330, 331, 333, 0, 334, 228, 241, 245, 249, 335, 337, 1, 338] (by decide +kernel) (by decide +kernel) w h).1
theorem wsl_7 : ∀ w ∈ wsL_law_r7, w ∈ lw_tbl := fun w h => (goodIn_r (big := lw_tbl) wsL_law_r7 [104, 971, 972, 973, 974, 808, 339, 340, 341, 342, 343, 344, 345, 346, 975, 976, 977, 978, 347, 348, 349, 350, 307, 308] (by decide +kernel) (by decide +kernel) w h).1
theorem wsl_8 : ∀ w ∈ wsL_law_r8, w ∈ lw_tbl := fun w h => (goodIn_r (big := lw_tbl) wsL_law_r8 [351, 352, 353, 354, 355, 356, 357, 358, 276, 274, 273, 426, 275, 385, 277, 359, 360, 361, 362, 176, 179, 182, 184, 186] (by decide +kernel) (by decide +kernel) w h).1
theorem wsl_9 : ∀ w ∈ wsL_law_r9, w ∈ lw_tbl := fun w h => (goodIn_r (big := lw_tbl) wsL_law_r9 [189, 363, 365, 2, 366, 367, 368, 77, 369, 370, 371, 372, 373, 374, 375, 376, 377, 386, 378, 380, 382, 384, 411, 412] (by decide +kernel) (by decide +kernel) w h).1
theorem wsl_10 : ∀ w ∈ wsL_law_r10, w ∈ lw_tbl := fun w h => (goodIn_r (big := lw_tbl) wsL_law_r10 [413, 414, 415, 417, 3, 418, 188, 423, 424, 78, 425, 419, 421, 4, 422, 174, 427, 428, 429, 430, 431, 433, 5, 434] (by decide +kernel) (by decide +kernel) w h).1
theorem wsl_11 : ∀ w ∈ wsL_law_r11, w ∈ lw_tbl := fun w h => (goodIn_r (big := lw_tbl) wsL_law_r11 [379, 227, 435, 437, 6, 438, 387, 389, 390, 278, 391, 279, 246, 439, 441, 7, 442, 381, 443, 444, 445, 446, 248, 447] (by decide +kernel) (by decide +kernel) w h).1
theorem wsl_12 : ∀ w ∈ wsL_law_r12, w ∈ lw_tbl := fun w h => (goodIn_r (big := lw_tbl) wsL_law_r12 [448, 449, 242, 523, 231, 450, 452, 8, 453, 191, 388, 454, 455, 456, 457, 244, 458, 459, 460, 461, 462, 464, 9, 465] (by decide +kernel) (by decide +kernel) w h).1
theorem wsl_13 : ∀ w ∈ wsL_law_r13, w ∈ lw_tbl := fun w h => (goodIn_r (big := lw_tbl) wsL_law_r13 [466, 468, 10, 469, 225, 470, 471, 472, 473, 474, 475, 477, 11, 478, 479, 481, 12, 482, 483, 485, 13, 486, 487, 488] (by decide +kernel) (by decide +kernel) w h).1
theorem wsl_14 : ∀ w ∈ wsL_law_r14, w ∈ lw_tbl := fun w h => (goodIn_r (big := lw_tbl) wsL_law_r14 [489, 490, 491, 492, 493, 494, 495, 497, 14, 498, 235, 499, 501, 15, 502, 181, 178, 503, 505, 16, 506, 507, 508, 509] (by decide +kernel) (by decide +kernel) w h).1
theorem wsl_15 : ∀ w ∈ wsL_law_r15, w ∈ lw_tbl := fun w h => (goodIn_r (big := lw_tbl) wsL_law_r15 [510, 511, 513, 17, 514, 515, 516, 79, 517, 518, 519, 520, 521, 524, 532, 534, 18, 535, 536, 538, 19, 539, 383, 540] (by decide +kernel) (by decide +kernel) w h).1
theorem wsl_16 : ∀ w ∈ wsL_law_r16, w ∈ lw_tbl := fun w h => (goodIn_r (big := lw_tbl) wsL_law_r16 [541, 542, 543, 240, 544, 545, 547, 20, 548, 549, 550, 551, 552, 553, 229, 554, 556, 21, 557, 234, 237, 232, 558, 559] (by decide +kernel) (by decide +kernel) w h).1
theorem wsl_17 : ∀ w ∈ wsL_law_r17, w ∈ lw_tbl := fun w h => (goodIn_r (big := lw_tbl) wsL_law_r17 [560, 561, 562, 563, 565, 22, 566, 575, 80, 567, 569, 23, 570, 571, 572, 573, 574, 576, 577, 578, 579, 581, 582, 580] (by decide +kernel) (by decide +kernel) w h).1
theorem wsl_18 : ∀ w ∈ wsL_law_r18, w ∈ lw_tbl := fun w h => (goodIn_r (big := lw_tbl) wsL_law_r18 [583, 600, 601, 602, 603, 584, 587, 604, 605, 81, 606, 607, 609, 24, 610, 585, 611, 612, 613, 614, 615, 617, 25, 618] (by decide +kernel) (by decide +kernel) w h).1
theorem wsl_19 : ∀ w ∈ wsL_law_r19, w ∈ lw_tbl := fun w h => (goodIn_r (big := lw_tbl) wsL_law_r19 [619, 620, 621, 622, 623, 625, 26, 626, 588, 683, 627, 628, 629, 630, 631, 632, 633, 634, 635, 636, 637, 638, 639, 640] (by decide +kernel) (by decide +kernel) w h).1
theorem wsl_20 : ∀ w ∈ wsL_law_r20, w ∈ lw_tbl := fun w h => (goodIn_r (big := lw_tbl) wsL_law_r20 [641, 642, 643, 645, 27, 646, 647, 649, 28, 650, 136, 651, 652, 653, 654, 135, 137, 138, 655, 656, 657, 658, 659, 660] (by decide +kernel) (by decide +kernel) w h).1
theorem wsl_21 : ∀ w ∈ wsL_law_r21, w ∈ lw_tbl := fun w h => (goodIn_r (big := lw_tbl) wsL_law_r21 [661, 662, 663, 664, 665, 666, 667, 668, 669, 670, 672, 29, 673, 674, 675, 676, 677, 82, 678, 679, 680, 681, 682, 685] (by decide +kernel) (by decide +kernel) w h).1
theorem wsl_22 : ∀ w ∈ wsL_law_r22, w ∈ lw_tbl := fun w h => (goodIn_r (big := lw_tbl) wsL_law_r22 [693, 694, 695, 696, 697, 698, 699, 700, 701, 703, 30, 704, 687, 705, 707, 31, 708, 714, 709, 710, 711, 712, 713, 715] (by decide +kernel) (by decide +kernel) w h).1
theorem wsl_23 : ∀ w ∈ wsL_law_r23, w ∈ lw_tbl := fun w h => (goodIn_r (big := lw_tbl) wsL_law_r23 [716, 717, 718, 719, 720, 722, 32, 723, 979, 980, 981, 982, 816, 849, 839, 848, 847, 983, 985, 33, 986, 987, 989, 34] (by decide +kernel) (by decide +kernel) w h).1
theorem wsl_24 : ∀ w ∈ wsL_law_r24, w ∈ lw_tbl := fun w h => (goodIn_r (big := lw_tbl) wsL_law_r24 [990, 991, 993, 35, 994, 995, 997, 36, 998, 999, 1001, 37, 1002, 846, 837, 845, 854, 856, 857, 858, 851, 852, 1003, 1005] (by decide +kernel) (by decide +kernel) w h).1
theorem wsl_25 : ∀ w ∈ wsL_law_r25, w ∈ lw_tbl := fun w h => (goodIn_r (big := lw_tbl) wsL_law_r25 [38, 1006, 838, 1007, 1009, 39, 1010, 1011, 1013, 40, 1014, 1015, 1017, 41, 1018, 840, 841, 1019, 1021, 42, 1022, 1023, 1025, 43] (by decide +kernel) (by decide +kernel) w h).1
theorem wsl_26 : ∀ w ∈ wsL_law_r26, w ∈ lw_tbl := fun w h => (goodIn_r (big := lw_tbl) wsL_law_r26 [1026, 1027, 1029, 44, 1030, 842, 1031, 1033, 45, 1034, 1035, 1037, 46, 1038, 1039, 1040, 1041, 1042, 1044, 47, 1045, 1046, 1048, 48] (by decide +kernel) (by decide +kernel) w h).1
theorem wsl_27 : ∀ w ∈ wsL_law_r27, w ∈ lw_tbl := fun w h => (goodIn_r (big := lw_tbl) wsL_law_r27 [1049, 1050, 1052, 49, 1053, 1054, 1056, 50, 1057, 1058, 1060, 51, 1061, 1062, 1063, 1065, 52, 1066, 1067, 1069, 53, 1070, 825, 826] (by decide +kernel) (by decide +kernel) w h).1
theorem wsl_28 : ∀ w ∈ wsL_law_r28, w ∈ lw_tbl := fun w h => (goodIn_r (big := lw_tbl) wsL_law_r28 [827, 1071, 1073, 54, 1074, 1075, 1077, 55, 1078, 1079, 1081, 56, 1082, 1083, 1085, 57, 1086, 1087, 1088, 1089, 1090, 1091, 1092, 1093] (by decide +kernel) (by decide +kernel) w h).1
theorem wsl_29 : ∀ w ∈ wsL_law_r29, w ∈ lw_tbl := fun w h => (goodIn_r (big := lw_tbl) wsL_law_r29 [1094, 1095, 1097, 58, 1098, 1099, 1101, 59, 1102, 821, 1103, 1105, 60, 1106, 1107, 1109, 61, 1110, 1111, 1112, 1113, 1115, 62, 1116] (by decide +kernel) (by decide +kernel) w h).1
theorem wsl_30 : ∀ w ∈ wsL_law_r30, w ∈ lw_tbl := fun w h => (goodIn_r (big := lw_tbl) wsL_law_r30 [1117, 1119, 63, 1120, 1121, 1123, 64, 1124, 1125, 1127, 65, 1128, 1129, 1131, 66, 1132, 724, 725, 726, 727, 175, 1133, 1134, 1135] (by decide +kernel) (by decide +kernel) w h).1
theorem wsl_31 : ∀ w ∈ wsL_law_r31, w ∈ lw_tbl := fun w h => (goodIn_r (big := lw_tbl) wsL_law_r31 [1136, 728, 729, 730, 731, 177, 1137, 1138, 1139, 1140, 732, 733, 734, 735, 180, 522, 1141, 1142, 1143, 1144, 736, 737, 738, 739] (by decide +kernel) (by decide +kernel) w h).1
theorem wsl_32 : ∀ w ∈ wsL_law_r32, w ∈ lw_tbl := fun w h => (goodIn_r (big := lw_tbl) wsL_law_r32 [526, 1145, 1146, 1147, 1148, 740, 741, 742, 743, 183, 170, 1149, 1150, 1151, 1152, 744, 745, 746, 747, 185, 172, 1153, 1154, 1155] (by decide +kernel) (by decide +kernel) w h).1
theorem wsl_33 : ∀ w ∈ wsL_law_r33, w ∈ lw_tbl := fun w h => (goodIn_r (big := lw_tbl) wsL_law_r33 [1156, 748, 749, 750, 751, 187, 1157, 1158, 1159, 1160, 752, 753, 754, 755, 105, 190, 756, 757, 758, 759, 525, 1161, 1162, 1163] (by decide +kernel) (by decide +kernel) w h).1
theorem wsl_34 : ∀ w ∈ wsL_law_r34, w ∈ lw_tbl := fun w h => (goodIn_r (big := lw_tbl) wsL_law_r34 [1164, 1165, 1167, 67, 1168, 760, 761, 762, 763, 764, 765, 766, 767, 1169, 1170, 1171, 1172, 768, 769, 770, 771, 772, 773, 774] (by decide +kernel) (by decide +kernel) w h).1
theorem wsl_35 : ∀ w ∈ wsL_law_r35, w ∈ lw_tbl := fun w h => (goodIn_r (big := lw_tbl) wsL_law_r35 [775, 684, 1173, 1174, 1175, 1176, 776, 777, 778, 779, 686, 1177, 1178, 1179, 1180, 780, 781, 782, 783, 586, 784, 1181, 1182, 1183] (by decide +kernel) (by decide +kernel) w h).1
theorem wsl_36 : ∀ w ∈ wsL_law_r36, w ∈ lw_tbl := fun w h => (goodIn_r (big := lw_tbl) wsL_law_r36 [1184, 785, 786, 787, 788, 789, 790, 791, 1185, 1186, 1187, 1188, 1189, 792, 793, 794, 795, 153, 796, 797, 1190, 1191, 1192, 1193] (by decide +kernel) (by decide +kernel) w h).1
theorem inX0 : ∀ w ∈ wsX00, w ∈ lw_tbl := fun w h => (goodIn_r (big := lw_tbl) wsX00 [527, 529] (by decide +kernel) (by decide +kernel) w h).1
theorem inX1 : ∀ w ∈ wsX10, w ∈ lw_tbl := fun w h => (goodIn_r (big := lw_tbl) wsX10 [392, 394, 396, 398, 400, 402, 404, 406, 408] (by decide +kernel) (by decide +kernel) w h).1
theorem inX2 : ∀ w ∈ wsX20, w ∈ lw_tbl := fun w h => (goodIn_r (big := lw_tbl) wsX20 [139, 141, 143, 145] (by decide +kernel) (by decide +kernel) w h).1
theorem inX3 : ∀ w ∈ wsX30, w ∈ lw_tbl := fun w h => (goodIn_r (big := lw_tbl) wsX30 [154, 156, 158, 160] (by decide +kernel) (by decide +kernel) w h).1
theorem inX4 : ∀ w ∈ wsX40, w ∈ lw_tbl := fun w h => (goodIn_r (big := lw_tbl) wsX40 [192, 194, 196, 198, 200, 202, 204, 206, 208] (by decide +kernel) (by decide +kernel) w h).1
theorem inX5 : ∀ w ∈ wsX50, w ∈ lw_tbl := fun w h => (goodIn_r (big := lw_tbl) wsX50 [589, 591, 593, 595, 597] (by decide +kernel) (by decide +kernel) w h).1
theorem inX6 : ∀ w ∈ wsX60, w ∈ lw_tbl := fun w h => (goodIn_r (big := lw_tbl) wsX60 [106, 108, 110, 112, 114] (by decide +kernel) (by decide +kernel) w h).1
theorem inX7 : ∀ w ∈ wsX70, w ∈ lw_tbl := fun w h => (goodIn_r (big := lw_tbl) wsX70 [250, 252, 254, 256, 258, 260, 262, 264, 266] (by decide +kernel) (by decide +kernel) w h).1
theorem inX8 : ∀ w ∈ wsX80, w ∈ lw_tbl := fun w h => (goodIn_r (big := lw_tbl) wsX80 [688, 690] (by decide +kernel) (by decide +kernel) w h).1
theorem inX9 : ∀ w ∈ wsX90, w ∈ lw_tbl := fun w h => (goodIn_r (big := lw_tbl) wsX90 [280, 282, 284, 286, 288, 290, 292, 294, 296, 298, 300] (by decide +kernel) (by decide +kernel) w h).1
theorem inX10 : ∀ w ∈ wsX100, w ∈ lw_tbl := fun w h => (goodIn_r (big := lw_tbl) wsX100 [309, 311, 313, 315, 317, 319] (by decide +kernel) (by decide +kernel) w h).1
theorem inX11 : ∀ w ∈ wsX110, w ∈ lw_tbl := fun w h => (goodIn_r (big := lw_tbl) wsX110 [859, 861, 863, 865, 867, 869, 871, 873, 875, 877, 879, 881, 883, 885, 887, 889, 891, 893, 895, 897, 899, 901, 903, 905, 907, 909, 911, 913, 915, 917, 919, 921, 923, 925, 927, 929, 931, 933, 935, 937, 939, 941, 943, 945, 947, 949, 951, 953, 955, 957, 959, 961, 963, 965, 967] (by decide +kernel) (by decide +kernel) w h).1
theorem wsL_law_in : ∀ w ∈ wsL_law, w ∈ lw_tbl := List.forall_mem_append.mpr ⟨List.forall_mem_append.mpr ⟨List.forall_mem_append.mpr ⟨List.forall_mem_append.mpr ⟨List.forall_mem_append.mpr ⟨List.forall_mem_append.mpr ⟨List.forall_mem_append.mpr ⟨List.forall_mem_append.mpr ⟨List.forall_mem_append.mpr ⟨List.forall_mem_append.mpr ⟨List.forall_mem_append.mpr ⟨List.forall_mem_append.mpr ⟨List.forall_mem_append.mpr ⟨List.forall_mem_append.mpr ⟨wsl_1, List.forall_mem_append.mpr ⟨wsl_2, List.forall_mem_append.mpr ⟨wsl_3, List.forall_mem_append.mpr ⟨wsl_4, List.forall_mem_append.mpr ⟨wsl_5, List.forall_mem_append.mpr ⟨wsl_6, List.forall_mem_append.mpr ⟨wsl_7, List.forall_mem_append.mpr ⟨wsl_8, List.forall_mem_append.mpr ⟨wsl_9, List.forall_mem_append.mpr ⟨wsl_10, List.forall_mem_append.mpr ⟨wsl_11, List.forall_mem_append.mpr ⟨wsl_12, List.forall_mem_append.mpr ⟨wsl_13, List.forall_mem_append.mpr ⟨wsl_14, List.forall_mem_append.mpr ⟨wsl_15, List.forall_mem_append.mpr ⟨wsl_16, List.forall_mem_append.mpr ⟨wsl_17, List.forall_mem_append.mpr ⟨wsl_18, List.forall_mem_append.mpr ⟨wsl_19, List.forall_mem_append.mpr ⟨wsl_20, List.forall_mem_append.mpr ⟨wsl_21, List.forall_mem_append.mpr ⟨wsl_22, List.forall_mem_append.mpr ⟨wsl_23, List.forall_mem_append.mpr ⟨wsl_24, List.forall_mem_append.mpr ⟨wsl_25, List.forall_mem_append.mpr ⟨wsl_26, List.forall_mem_append.mpr ⟨wsl_27, List.forall_mem_append.mpr ⟨wsl_28, List.forall_mem_append.mpr ⟨wsl_29, List.forall_mem_append.mpr ⟨wsl_30, List.forall_mem_append.mpr ⟨wsl_31, List.forall_mem_append.mpr ⟨wsl_32, List.forall_mem_append.mpr ⟨wsl_33, List.forall_mem_append.mpr ⟨wsl_34, List.forall_mem_append.mpr ⟨wsl_35, wsl_36⟩⟩⟩⟩⟩⟩⟩⟩⟩⟩⟩⟩⟩⟩⟩⟩⟩⟩⟩⟩⟩⟩⟩⟩⟩⟩⟩⟩⟩⟩⟩⟩⟩⟩⟩, inX10⟩, inX11⟩, inX6⟩, inX3⟩, inX4⟩, inX9⟩, inX2⟩, inX7⟩, inX1⟩, inX0⟩, inX5⟩, inX8⟩, fun _ h => absurd h List.not_mem_nil⟩
theorem inlX10 : ∀ w ∈ wsX100, w ∈ wsL_law := fun _ h => List.mem_append_left _ (List.mem_append_left _ (List.mem_append_left _ (List.mem_append_left _ (List.mem_append_left _ (List.mem_append_left _ (List.mem_append_left _ (List.mem_append_left _ (List.mem_append_left _ (List.mem_append_left _ (List.mem_append_left _ (List.mem_append_left _ (List.mem_append_right _ h))))))))))))
theorem inlX11 : ∀ w ∈ wsX110, w ∈ wsL_law := fun _ h => List.mem_append_left _ (List.mem_append_left _ (List.mem_append_left _ (List.mem_append_left _ (List.mem_append_left _ (List.mem_append_left _ (List.mem_append_left _ (List.mem_append_left _ (List.mem_append_left _ (List.mem_append_left _ (List.mem_append_left _ (List.mem_append_right _ h)))))))))))
theorem inlX6 : ∀ w ∈ wsX60, w ∈ wsL_law := fun _ h => List.mem_append_left _ (List.mem_append_left _ (List.mem_append_left _ (List.mem_append_left _ (List.mem_append_left _ (List.mem_append_left _ (List.mem_append_left _ (List.mem_append_left _ (List.mem_append_left _ (List.mem_append_left _ (List.mem_append_right _ h))))))))))
theorem inlX3 : ∀ w ∈ wsX30, w ∈ wsL_law := fun _ h => List.mem_append_left _ (List.mem_append_left _ (List.mem_append_left _ (List.mem_append_left _ (List.mem_append_left _ (List.mem_append_left _ (List.mem_append_left _ (List.mem_append_left _ (List.mem_append_left _ (List.mem_append_right _ h)))))))))
theorem inlX4 : ∀ w ∈ wsX40, w ∈ wsL_law := fun _ h => List.mem_append_left _ (List.mem_append_left _ (List.mem_append_left _ (List.mem_append_left _ (List.mem_append_left _ (List.mem_append_left _ (List.mem_append_left _ (List.mem_append_left _ (List.mem_append_right _ h))))))))
theorem inlX9 : ∀ w ∈ wsX90, w ∈ wsL_law := fun _ h => List.mem_append_left _ (List.mem_append_left _ (List.mem_append_left _ (List.mem_append_left _ (List.mem_append_left _ (List.mem_append_left _ (List.mem_append_left _ (List.mem_append_right _ h)))))))
theorem inlX2 : ∀ w ∈ wsX20, w ∈ wsL_law := fun _ h => List.mem_append_left _ (List.mem_append_left _ (List.mem_append_left _ (List.mem_append_left _ (List.mem_append_left _ (List.mem_append_left _ (List.mem_append_right _ h))))))
theorem inlX7 : ∀ w ∈ wsX70, w ∈ wsL_law := fun _ h => List.mem_append_left _ (List.mem_append_left _ (List.mem_append_left _ (List.mem_append_left _ (List.mem_append_left _ (List.mem_append_right _ h)))))
theorem inlX1 : ∀ w ∈ wsX10, w ∈ wsL_law := fun _ h => List.mem_append_left _ (List.mem_append_left _ (List.mem_append_left _ (List.mem_append_left _ (List.mem_append_right _ h))))
theorem inlX0 : ∀ w ∈ wsX00, w ∈ wsL_law := fun _ h => List.mem_append_left _ (List.mem_append_left _ (List.mem_append_left _ (List.mem_append_right _ h)))
theorem inlX5 : ∀ w ∈ wsX50, w ∈ wsL_law := fun _ h => List.mem_append_left _ (List.mem_append_left _ (List.mem_append_right _ h))
theorem inlX8 : ∀ w ∈ wsX80, w ∈ wsL_law := fun _ h => List.mem_append_left _ (List.mem_append_right _ h)

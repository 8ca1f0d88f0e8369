def RX0 : String := "SeriesBench$Automaton"
def TX0 : u_T := fun k => match k with
  | 0 => ("SeriesBench$Automaton", "size", "I", false)
  | 1 => ("SeriesBench$Automaton", "initial", "[I", true)
  | 2 => ("SeriesBench$Automaton", "last", "[I", true)
  | _ => ("SeriesBench$Automaton", "matrix", "[[I", true)
def tyX0 : Nat → FieldType := fun k => match k with
  | 0 => .int
  | 1 => .array .int
  | 2 => .array .int
  | _ => .array (.array .int)
theorem nmX0 : ∀ a, a < 4 → ∀ b, b < 4 → a ≠ b → (TX0 a).2.1 ≠ (TX0 b).2.1 := by decide +kernel
theorem tyX0_ok : ∀ k, k < 4 → parseFieldDescriptor (TX0 k).2.2.1 = some (tyX0 k) := by decide +kernel
abbrev cX0_init : ByteArray := prog_2_method_1_code
def yX0_init : MethodName := ⟨RX0, "<init>", "(I)V"⟩
abbrev cX0_ends : ByteArray := prog_2_method_2_code
def yX0_ends : MethodName := ⟨RX0, "ends", "(Z)[I"⟩
abbrev cX0_clear : ByteArray := prog_2_method_3_code
def yX0_clear : MethodName := ⟨RX0, "clear", "(I)V"⟩
abbrev cX0_copyFrom : ByteArray := prog_2_method_4_code
def yX0_copyFrom : MethodName := ⟨RX0, "copyFrom", "(LSeriesBench$Automaton;)V"⟩
abbrev cX0_draw : ByteArray := prog_2_method_5_code
def yX0_draw : MethodName := ⟨RX0, "draw", "(II)V"⟩
abbrev cX0_nextDraw : ByteArray := prog_2_method_6_code
def yX0_nextDraw : MethodName := ⟨RX0, "nextDraw", "(J)J"⟩
abbrev cX0_drawn : ByteArray := prog_2_method_7_code
def yX0_drawn : MethodName := ⟨RX0, "drawn", "(J)I"⟩
abbrev cX0_becomeNumber : ByteArray := prog_2_method_8_code
def yX0_becomeNumber : MethodName := ⟨RX0, "becomeNumber", "(I)V"⟩
abbrev cX0_becomeLetter : ByteArray := prog_2_method_9_code
def yX0_becomeLetter : MethodName := ⟨RX0, "becomeLetter", "(I)V"⟩
abbrev cX0_becomeSum : ByteArray := prog_2_method_10_code
def yX0_becomeSum : MethodName := ⟨RX0, "becomeSum", "(LSeriesBench$Automaton;LSeriesBench$Automaton;)V"⟩
abbrev cX0_becomeDifference : ByteArray := prog_2_method_11_code
def yX0_becomeDifference : MethodName := ⟨RX0, "becomeDifference", "(LSeriesBench$Automaton;LSeriesBench$Automaton;)V"⟩
abbrev cX0_placeBlock : ByteArray := prog_2_method_12_code
def yX0_placeBlock : MethodName := ⟨RX0, "placeBlock", "(LSeriesBench$Automaton;I)V"⟩
abbrev cX0_becomeHadamard : ByteArray := prog_2_method_13_code
def yX0_becomeHadamard : MethodName := ⟨RX0, "becomeHadamard", "(LSeriesBench$Automaton;LSeriesBench$Automaton;)V"⟩
abbrev cX0_placeProducts : ByteArray := prog_2_method_14_code
def yX0_placeProducts : MethodName := ⟨RX0, "placeProducts", "(LSeriesBench$Automaton;ILSeriesBench$Automaton;II)V"⟩
abbrev cX0_becomeCauchy : ByteArray := prog_2_method_15_code
def yX0_becomeCauchy : MethodName := ⟨RX0, "becomeCauchy", "(LSeriesBench$Automaton;LSeriesBench$Automaton;)V"⟩
abbrev cX0_hasStar : ByteArray := prog_2_method_16_code
def yX0_hasStar : MethodName := ⟨RX0, "hasStar", "()Z"⟩
abbrev cX0_becomeStar : ByteArray := prog_2_method_17_code
def yX0_becomeStar : MethodName := ⟨RX0, "becomeStar", "(LSeriesBench$Automaton;)V"⟩
abbrev cX0_startAfter : ByteArray := prog_2_method_18_code
def yX0_startAfter : MethodName := ⟨RX0, "startAfter", "(LSeriesBench$Automaton;I)V"⟩
abbrev cX0_reverse : ByteArray := prog_2_method_19_code
def yX0_reverse : MethodName := ⟨RX0, "reverse", "()V"⟩
abbrev cX0_transpose : ByteArray := prog_2_method_20_code
def yX0_transpose : MethodName := ⟨RX0, "transpose", "([I)V"⟩
abbrev cX0_weightFrom : ByteArray := prog_2_method_21_code
def yX0_weightFrom : MethodName := ⟨RX0, "weightFrom", "([I)I"⟩
abbrev cX0_addStep : ByteArray := prog_2_method_22_code
def yX0_addStep : MethodName := ⟨RX0, "addStep", "([II[I)V"⟩
abbrev cX0_takeStep : ByteArray := prog_2_method_23_code
def yX0_takeStep : MethodName := ⟨RX0, "takeStep", "([II[I)V"⟩
abbrev cX0_emptyWeight : ByteArray := prog_2_method_24_code
def yX0_emptyWeight : MethodName := ⟨RX0, "emptyWeight", "()I"⟩
abbrev cX0_initialThenStep : ByteArray := prog_2_method_25_code
def yX0_initialThenStep : MethodName := ⟨RX0, "initialThenStep", "(II)I"⟩
abbrev cX0_stepThenLast : ByteArray := prog_2_method_26_code
def yX0_stepThenLast : MethodName := ⟨RX0, "stepThenLast", "(II)I"⟩
abbrev cX0_hash : ByteArray := prog_2_method_27_code
def yX0_hash : MethodName := ⟨RX0, "hash", "(J)J"⟩
def RX1 : String := "SeriesBench$Basis"
def TX1 : u_T := fun k => match k with
  | 0 => ("SeriesBench$Basis", "count", "I", false)
  | 1 => ("SeriesBench$Basis", "words", "[I", true)
  | 2 => ("SeriesBench$Basis", "weights", "[I", true)
  | 3 => ("SeriesBench$Basis", "vectors", "[[I", true)
  | 4 => ("SeriesBench$Basis", "echelon", "[[I", true)
  | 5 => ("SeriesBench$Basis", "parts", "[[I", true)
  | 6 => ("SeriesBench$Basis", "pivots", "[I", true)
  | 7 => ("SeriesBench$Basis", "images", "[[I", true)
  | 8 => ("SeriesBench$Basis", "trial", "[I", true)
  | 9 => ("SeriesBench$Basis", "rest", "[I", true)
  | _ => ("SeriesBench$Basis", "coordinates", "[I", true)
def tyX1 : Nat → FieldType := fun k => match k with
  | 0 => .int
  | 1 => .array .int
  | 2 => .array .int
  | 3 => .array (.array .int)
  | 4 => .array (.array .int)
  | 5 => .array (.array .int)
  | 6 => .array .int
  | 7 => .array (.array .int)
  | 8 => .array .int
  | 9 => .array .int
  | _ => .array .int
theorem nmX1 : ∀ a, a < 11 → ∀ b, b < 11 → a ≠ b → (TX1 a).2.1 ≠ (TX1 b).2.1 := by decide +kernel
theorem tyX1_ok : ∀ k, k < 11 → parseFieldDescriptor (TX1 k).2.2.1 = some (tyX1 k) := by decide +kernel
abbrev cX1_init : ByteArray := prog_3_method_1_code
def yX1_init : MethodName := ⟨RX1, "<init>", "()V"⟩
abbrev cX1_explore : ByteArray := prog_3_method_2_code
def yX1_explore : MethodName := ⟨RX1, "explore", "(LSeriesBench$Automaton;)V"⟩
abbrev cX1_place : ByteArray := prog_3_method_3_code
def yX1_place : MethodName := ⟨RX1, "place", "(LSeriesBench$Automaton;I)V"⟩
abbrev cX1_extend : ByteArray := prog_3_method_4_code
def yX1_extend : MethodName := ⟨RX1, "extend", "(II)V"⟩
abbrev cX1_firstWeighted : ByteArray := prog_3_method_5_code
def yX1_firstWeighted : MethodName := ⟨RX1, "firstWeighted", "()I"⟩
abbrev cX1_build : ByteArray := prog_3_method_6_code
def yX1_build : MethodName := ⟨RX1, "build", "(LSeriesBench$Automaton;)V"⟩
abbrev cX1_reduce : ByteArray := prog_3_method_7_code
def yX1_reduce : MethodName := ⟨RX1, "reduce", "(LSeriesBench$Automaton;)V"⟩
abbrev cX1_minimize : ByteArray := prog_3_method_8_code
def yX1_minimize : MethodName := ⟨RX1, "minimize", "(LSeriesBench$Automaton;)V"⟩
def RX2 : String := "SeriesBench$Expression"
def TX2 : u_T := fun k => match k with
  | 0 => ("SeriesBench$Expression", "text", "[I", true)
  | 1 => ("SeriesBench$Expression", "length", "I", false)
  | 2 => ("SeriesBench$Expression", "sums", "[LSeriesBench$Automaton;", true)
  | 3 => ("SeriesBench$Expression", "hasSum", "[Z", true)
  | 4 => ("SeriesBench$Expression", "products", "[LSeriesBench$Automaton;", true)
  | 5 => ("SeriesBench$Expression", "hasProduct", "[Z", true)
  | 6 => ("SeriesBench$Expression", "factor", "LSeriesBench$Automaton;", true)
  | 7 => ("SeriesBench$Expression", "hasFactor", "Z", false)
  | _ => ("SeriesBench$Expression", "joined", "LSeriesBench$Automaton;", true)
def tyX2 : Nat → FieldType := fun k => match k with
  | 0 => .array .int
  | 1 => .int
  | 2 => .array (.object "SeriesBench$Automaton")
  | 3 => .array .boolean
  | 4 => .array (.object "SeriesBench$Automaton")
  | 5 => .array .boolean
  | 6 => .object "SeriesBench$Automaton"
  | 7 => .boolean
  | _ => .object "SeriesBench$Automaton"
theorem nmX2 : ∀ a, a < 9 → ∀ b, b < 9 → a ≠ b → (TX2 a).2.1 ≠ (TX2 b).2.1 := by decide +kernel
theorem tyX2_ok : ∀ k, k < 9 → parseFieldDescriptor (TX2 k).2.2.1 = some (tyX2 k) := by decide +kernel
abbrev cX2_init : ByteArray := prog_4_method_1_code
def yX2_init : MethodName := ⟨RX2, "<init>", "()V"⟩
abbrev cX2_syntaxError : ByteArray := prog_4_method_2_code
def yX2_syntaxError : MethodName := ⟨RX2, "syntaxError", "()I"⟩
abbrev cX2_isDigit : ByteArray := prog_4_method_3_code
def yX2_isDigit : MethodName := ⟨RX2, "isDigit", "(I)Z"⟩
abbrev cX2_canStand : ByteArray := prog_4_method_4_code
def yX2_canStand : MethodName := ⟨RX2, "canStand", "(IZI)Z"⟩
abbrev cX2_evaluate : ByteArray := prog_4_method_5_code
def yX2_evaluate : MethodName := ⟨RX2, "evaluate", "(LSeriesBench$Basis;)Z"⟩
abbrev cX2_open : ByteArray := prog_4_method_6_code
def yX2_open : MethodName := ⟨RX2, "open", "(I)V"⟩
abbrev cX2_beginFactor : ByteArray := prog_4_method_7_code
def yX2_beginFactor : MethodName := ⟨RX2, "beginFactor", "(I)V"⟩
abbrev cX2_repeatFactor : ByteArray := prog_4_method_8_code
def yX2_repeatFactor : MethodName := ⟨RX2, "repeatFactor", "(LSeriesBench$Basis;)Z"⟩
abbrev cX2_closeFactor : ByteArray := prog_4_method_9_code
def yX2_closeFactor : MethodName := ⟨RX2, "closeFactor", "(ILSeriesBench$Basis;)Z"⟩
abbrev cX2_closeProduct : ByteArray := prog_4_method_10_code
def yX2_closeProduct : MethodName := ⟨RX2, "closeProduct", "(ILSeriesBench$Basis;)Z"⟩
def RX3 : String := "SeriesBench$Grid"
def TX3 : u_T := fun k => match k with
  | _ => ("SeriesBench$Grid", "rows", "[[I", true)
def tyX3 : Nat → FieldType := fun k => match k with
  | _ => .array (.array .int)
theorem nmX3 : ∀ a, a < 1 → ∀ b, b < 1 → a ≠ b → (TX3 a).2.1 ≠ (TX3 b).2.1 := by decide +kernel
theorem tyX3_ok : ∀ k, k < 1 → parseFieldDescriptor (TX3 k).2.2.1 = some (tyX3 k) := by decide +kernel
abbrev cX3_init : ByteArray := prog_5_method_1_code
def yX3_init : MethodName := ⟨RX3, "<init>", "()V"⟩
abbrev cX3_rank : ByteArray := prog_5_method_2_code
def yX3_rank : MethodName := ⟨RX3, "rank", "(II)I"⟩
abbrev cX3_raisePivot : ByteArray := prog_5_method_3_code
def yX3_raisePivot : MethodName := ⟨RX3, "raisePivot", "(III)Z"⟩
abbrev cX3_clearBelow : ByteArray := prog_5_method_4_code
def yX3_clearBelow : MethodName := ⟨RX3, "clearBelow", "(IIII)V"⟩
def RX4 : String := "SeriesBench$Path"
def TX4 : u_T := fun k => match k with
  | 0 => ("SeriesBench$Path", "prefixes", "[I", true)
  | _ => ("SeriesBench$Path", "rows", "[[I", true)
def tyX4 : Nat → FieldType := fun k => match k with
  | 0 => .array .int
  | _ => .array (.array .int)
theorem nmX4 : ∀ a, a < 2 → ∀ b, b < 2 → a ≠ b → (TX4 a).2.1 ≠ (TX4 b).2.1 := by decide +kernel
theorem tyX4_ok : ∀ k, k < 2 → parseFieldDescriptor (TX4 k).2.2.1 = some (tyX4 k) := by decide +kernel
abbrev cX4_init : ByteArray := prog_6_method_1_code
def yX4_init : MethodName := ⟨RX4, "<init>", "()V"⟩
abbrev cX4_start : ByteArray := prog_6_method_2_code
def yX4_start : MethodName := ⟨RX4, "start", "(LSeriesBench$Automaton;)V"⟩
abbrev cX4_weigh : ByteArray := prog_6_method_3_code
def yX4_weigh : MethodName := ⟨RX4, "weigh", "(LSeriesBench$Automaton;I)I"⟩
def RX5 : String := "SeriesBench$Walk"
def TX5 : u_T := fun k => match k with
  | 0 => ("SeriesBench$Walk", "row", "[I", false)
  | _ => ("SeriesBench$Walk", "next", "[I", false)
def tyX5 : Nat → FieldType := fun k => match k with
  | 0 => .array .int
  | _ => .array .int
theorem nmX5 : ∀ a, a < 2 → ∀ b, b < 2 → a ≠ b → (TX5 a).2.1 ≠ (TX5 b).2.1 := by decide +kernel
theorem tyX5_ok : ∀ k, k < 2 → parseFieldDescriptor (TX5 k).2.2.1 = some (tyX5 k) := by decide +kernel
abbrev cX5_init : ByteArray := prog_7_method_1_code
def yX5_init : MethodName := ⟨RX5, "<init>", "()V"⟩
abbrev cX5_start : ByteArray := prog_7_method_2_code
def yX5_start : MethodName := ⟨RX5, "start", "(LSeriesBench$Automaton;)V"⟩
abbrev cX5_takeWord : ByteArray := prog_7_method_3_code
def yX5_takeWord : MethodName := ⟨RX5, "takeWord", "(LSeriesBench$Automaton;I)V"⟩
abbrev cX5_takeBoth : ByteArray := prog_7_method_4_code
def yX5_takeBoth : MethodName := ⟨RX5, "takeBoth", "(LSeriesBench$Automaton;)V"⟩
abbrev cX5_value : ByteArray := prog_7_method_5_code
def yX5_value : MethodName := ⟨RX5, "value", "(LSeriesBench$Automaton;)I"⟩
abbrev cX5_swap : ByteArray := prog_7_method_6_code
def yX5_swap : MethodName := ⟨RX5, "swap", "()V"⟩
def RX6 : String := "SeriesBench"
def TX6 : u_T := fun k => match k with
  | 0 => ("SeriesBench", "slots", "[LSeriesBench$Automaton;", true)
  | 1 => ("SeriesBench", "saved", "[LSeriesBench$Automaton;", true)
  | 2 => ("SeriesBench", "savedSlots", "[I", true)
  | 3 => ("SeriesBench", "savedCount", "I", false)
  | 4 => ("SeriesBench", "scratch", "LSeriesBench$Automaton;", true)
  | 5 => ("SeriesBench", "difference", "LSeriesBench$Automaton;", true)
  | 6 => ("SeriesBench", "walk", "LSeriesBench$Walk;", true)
  | 7 => ("SeriesBench", "path", "LSeriesBench$Path;", true)
  | 8 => ("SeriesBench", "basis", "LSeriesBench$Basis;", true)
  | 9 => ("SeriesBench", "grid", "LSeriesBench$Grid;", true)
  | 10 => ("SeriesBench", "totals", "[I", true)
  | _ => ("SeriesBench", "expression", "LSeriesBench$Expression;", true)
def tyX6 : Nat → FieldType := fun k => match k with
  | 0 => .array (.object "SeriesBench$Automaton")
  | 1 => .array (.object "SeriesBench$Automaton")
  | 2 => .array .int
  | 3 => .int
  | 4 => .object "SeriesBench$Automaton"
  | 5 => .object "SeriesBench$Automaton"
  | 6 => .object "SeriesBench$Walk"
  | 7 => .object "SeriesBench$Path"
  | 8 => .object "SeriesBench$Basis"
  | 9 => .object "SeriesBench$Grid"
  | 10 => .array .int
  | _ => .object "SeriesBench$Expression"
theorem nmX6 : ∀ a, a < 12 → ∀ b, b < 12 → a ≠ b → (TX6 a).2.1 ≠ (TX6 b).2.1 := by decide +kernel
theorem tyX6_ok : ∀ k, k < 12 → parseFieldDescriptor (TX6 k).2.2.1 = some (tyX6 k) := by decide +kernel
abbrev cX6_init : ByteArray := prog_1_method_1_code
def yX6_init : MethodName := ⟨RX6, "<init>", "()V"⟩
abbrev cX6_begin : ByteArray := prog_1_method_2_code
def yX6_begin : MethodName := ⟨RX6, "begin", "(II)I"⟩
abbrev cX6_setEnd : ByteArray := prog_1_method_3_code
def yX6_setEnd : MethodName := ⟨RX6, "setEnd", "(IIZI)I"⟩
abbrev cX6_setStep : ByteArray := prog_1_method_4_code
def yX6_setStep : MethodName := ⟨RX6, "setStep", "(IIIII)I"⟩
abbrev cX6_random : ByteArray := prog_1_method_5_code
def yX6_random : MethodName := ⟨RX6, "random", "(III)I"⟩
abbrev cX6_states : ByteArray := prog_1_method_6_code
def yX6_states : MethodName := ⟨RX6, "states", "(I)I"⟩
abbrev cX6_end : ByteArray := prog_1_method_7_code
def yX6_end : MethodName := ⟨RX6, "end", "(IIZ)I"⟩
abbrev cX6_step : ByteArray := prog_1_method_8_code
def yX6_step : MethodName := ⟨RX6, "step", "(IIII)I"⟩
abbrev cX6_weight : ByteArray := prog_1_method_9_code
def yX6_weight : MethodName := ⟨RX6, "weight", "(II)I"⟩
abbrev cX6_powerWeight : ByteArray := prog_1_method_10_code
def yX6_powerWeight : MethodName := ⟨RX6, "powerWeight", "(III)I"⟩
abbrev cX6_total : ByteArray := prog_1_method_11_code
def yX6_total : MethodName := ⟨RX6, "total", "(II)I"⟩
abbrev cX6_support : ByteArray := prog_1_method_12_code
def yX6_support : MethodName := ⟨RX6, "support", "(II)I"⟩
abbrev cX6_first : ByteArray := prog_1_method_13_code
def yX6_first : MethodName := ⟨RX6, "first", "(I)I"⟩
abbrev cX6_combine : ByteArray := prog_1_method_14_code
def yX6_combine : MethodName := ⟨RX6, "combine", "(IIII)I"⟩
abbrev cX6_derive : ByteArray := prog_1_method_15_code
def yX6_derive : MethodName := ⟨RX6, "derive", "(III)I"⟩
abbrev cX6_scale : ByteArray := prog_1_method_16_code
def yX6_scale : MethodName := ⟨RX6, "scale", "(II)I"⟩
abbrev cX6_dimension : ByteArray := prog_1_method_17_code
def yX6_dimension : MethodName := ⟨RX6, "dimension", "(II)I"⟩
abbrev cX6_basisWord : ByteArray := prog_1_method_18_code
def yX6_basisWord : MethodName := ⟨RX6, "basisWord", "(II)I"⟩
abbrev cX6_differing : ByteArray := prog_1_method_19_code
def yX6_differing : MethodName := ⟨RX6, "differing", "(II)I"⟩
abbrev cX6_hankelRank : ByteArray := prog_1_method_20_code
def yX6_hankelRank : MethodName := ⟨RX6, "hankelRank", "(II)I"⟩
abbrev cX6_recurs : ByteArray := prog_1_method_21_code
def yX6_recurs : MethodName := ⟨RX6, "recurs", "(II)Z"⟩
abbrev cX6_inverse : ByteArray := prog_1_method_22_code
def yX6_inverse : MethodName := ⟨RX6, "inverse", "(I)I"⟩
abbrev cX6_append : ByteArray := prog_1_method_23_code
def yX6_append : MethodName := ⟨RX6, "append", "(I)I"⟩
abbrev cX6_clearText : ByteArray := prog_1_method_24_code
def yX6_clearText : MethodName := ⟨RX6, "clearText", "()I"⟩
abbrev cX6_parse : ByteArray := prog_1_method_25_code
def yX6_parse : MethodName := ⟨RX6, "parse", "(I)I"⟩
abbrev cX6_undo : ByteArray := prog_1_method_26_code
def yX6_undo : MethodName := ⟨RX6, "undo", "()I"⟩
abbrev cX6_digest : ByteArray := prog_1_method_27_code
def yX6_digest : MethodName := ⟨RX6, "digest", "()J"⟩
abbrev cX6_automata : ByteArray := prog_1_method_28_code
def yX6_automata : MethodName := ⟨RX6, "automata", "(I)[LSeriesBench$Automaton;"⟩
abbrev cX6_checkSlot : ByteArray := prog_1_method_29_code
def yX6_checkSlot : MethodName := ⟨RX6, "checkSlot", "(I)V"⟩
abbrev cX6_checkState : ByteArray := prog_1_method_30_code
def yX6_checkState : MethodName := ⟨RX6, "checkState", "(II)V"⟩
abbrev cX6_checkStep : ByteArray := prog_1_method_31_code
def yX6_checkStep : MethodName := ⟨RX6, "checkStep", "(IIII)V"⟩
abbrev cX6_checkRange : ByteArray := prog_1_method_32_code
def yX6_checkRange : MethodName := ⟨RX6, "checkRange", "(III)V"⟩
abbrev cX6_save : ByteArray := prog_1_method_33_code
def yX6_save : MethodName := ⟨RX6, "save", "(I)V"⟩
abbrev cX6_dropOldest : ByteArray := prog_1_method_34_code
def yX6_dropOldest : MethodName := ⟨RX6, "dropOldest", "()V"⟩
abbrev cX6_store : ByteArray := prog_1_method_35_code
def yX6_store : MethodName := ⟨RX6, "store", "(I)I"⟩
abbrev cX6_spaceSize : ByteArray := prog_1_method_36_code
def yX6_spaceSize : MethodName := ⟨RX6, "spaceSize", "(II)I"⟩
abbrev cX6_collectTotals : ByteArray := prog_1_method_37_code
def yX6_collectTotals : MethodName := ⟨RX6, "collectTotals", "(II)V"⟩
abbrev cX6_fillRecurrences : ByteArray := prog_1_method_38_code
def yX6_fillRecurrences : MethodName := ⟨RX6, "fillRecurrences", "(I)V"⟩
abbrev cX6_lengthOf : ByteArray := prog_1_method_39_code
def yX6_lengthOf : MethodName := ⟨RX6, "lengthOf", "(I)I"⟩
abbrev cX6_joinedWord : ByteArray := prog_1_method_40_code
def yX6_joinedWord : MethodName := ⟨RX6, "joinedWord", "(II)I"⟩
abbrev cX6_reciprocal : ByteArray := prog_1_method_41_code
def yX6_reciprocal : MethodName := ⟨RX6, "reciprocal", "(I)I"⟩
abbrev cX6_addMultiple : ByteArray := prog_1_method_42_code
def yX6_addMultiple : MethodName := ⟨RX6, "addMultiple", "([II[II)V"⟩
abbrev cX6_multiply : ByteArray := prog_1_method_43_code
def yX6_multiply : MethodName := ⟨RX6, "multiply", "([III)V"⟩
abbrev cX6_firstNonZero : ByteArray := prog_1_method_44_code
def yX6_firstNonZero : MethodName := ⟨RX6, "firstNonZero", "([II)I"⟩
def RX7 : String := "SeriesBenchModel"
def TX7 : u_T := fun k => match k with
  | 0 => ("SeriesBenchModel", "pool", "[I", true)
  | 1 => ("SeriesBenchModel", "saved", "[I", true)
  | 2 => ("SeriesBenchModel", "savedMany", "I", false)
  | 3 => ("SeriesBenchModel", "thrown", "I", false)
  | 4 => ("SeriesBenchModel", "drawn", "J", false)
  | 5 => ("SeriesBenchModel", "row", "[I", true)
  | 6 => ("SeriesBenchModel", "next", "[I", true)
  | 7 => ("SeriesBenchModel", "basis", "[I", true)
  | 8 => ("SeriesBenchModel", "lead", "[I", true)
  | 9 => ("SeriesBenchModel", "made", "[I", true)
  | 10 => ("SeriesBenchModel", "leads", "[I", true)
  | 11 => ("SeriesBenchModel", "words", "[I", true)
  | 12 => ("SeriesBenchModel", "basisMany", "I", false)
  | 13 => ("SeriesBenchModel", "left", "[I", true)
  | 14 => ("SeriesBenchModel", "parts", "[I", true)
  | 15 => ("SeriesBenchModel", "grid", "[I", true)
  | 16 => ("SeriesBenchModel", "totals", "[I", true)
  | 17 => ("SeriesBenchModel", "text", "[I", true)
  | 18 => ("SeriesBenchModel", "textLong", "I", false)
  | 19 => ("SeriesBenchModel", "place", "I", false)
  | 20 => ("SeriesBenchModel", "depth", "I", false)
  | 21 => ("SeriesBenchModel", "stands", "Z", false)
  | 22 => ("SeriesBenchModel", "fails", "Z", false)
  | 23 => ("SeriesBenchModel", "hasSum", "[Z", true)
  | _ => ("SeriesBenchModel", "hasProduct", "[Z", true)
def tyX7 : Nat → FieldType := fun k => match k with
  | 0 => .array .int
  | 1 => .array .int
  | 2 => .int
  | 3 => .int
  | 4 => .long
  | 5 => .array .int
  | 6 => .array .int
  | 7 => .array .int
  | 8 => .array .int
  | 9 => .array .int
  | 10 => .array .int
  | 11 => .array .int
  | 12 => .int
  | 13 => .array .int
  | 14 => .array .int
  | 15 => .array .int
  | 16 => .array .int
  | 17 => .array .int
  | 18 => .int
  | 19 => .int
  | 20 => .int
  | 21 => .boolean
  | 22 => .boolean
  | 23 => .array .boolean
  | _ => .array .boolean
theorem nmX7 : ∀ a, a < 25 → ∀ b, b < 25 → a ≠ b → (TX7 a).2.1 ≠ (TX7 b).2.1 := by decide +kernel
theorem tyX7_ok : ∀ k, k < 25 → parseFieldDescriptor (TX7 k).2.2.1 = some (tyX7 k) := by decide +kernel
abbrev cX7_init : ByteArray := prog_9_method_1_code
def yX7_init : MethodName := ⟨RX7, "<init>", "()V"⟩
abbrev cX7_thrown : ByteArray := prog_9_method_2_code
def yX7_thrown : MethodName := ⟨RX7, "thrown", "()I"⟩
abbrev cX7_in : ByteArray := prog_9_method_3_code
def yX7_in : MethodName := ⟨RX7, "in", "(JJJ)Z"⟩
abbrev cX7_goes : ByteArray := prog_9_method_4_code
def yX7_goes : MethodName := ⟨RX7, "goes", "(ZZZ)Z"⟩
abbrev cX7_save : ByteArray := prog_9_method_5_code
def yX7_save : MethodName := ⟨RX7, "save", "()V"⟩
abbrev cX7_isSlot : ByteArray := prog_9_method_6_code
def yX7_isSlot : MethodName := ⟨RX7, "isSlot", "(I)Z"⟩
abbrev cX7_isNumber : ByteArray := prog_9_method_7_code
def yX7_isNumber : MethodName := ⟨RX7, "isNumber", "(I)Z"⟩
abbrev cX7_power : ByteArray := prog_9_method_8_code
def yX7_power : MethodName := ⟨RX7, "power", "(II)I"⟩
abbrev cX7_inverted : ByteArray := prog_9_method_9_code
def yX7_inverted : MethodName := ⟨RX7, "inverted", "(I)I"⟩
abbrev cX7_many : ByteArray := prog_9_method_10_code
def yX7_many : MethodName := ⟨RX7, "many", "(I)I"⟩
abbrev cX7_initialAt : ByteArray := prog_9_method_11_code
def yX7_initialAt : MethodName := ⟨RX7, "initialAt", "(II)I"⟩
abbrev cX7_finalAt : ByteArray := prog_9_method_12_code
def yX7_finalAt : MethodName := ⟨RX7, "finalAt", "(II)I"⟩
abbrev cX7_at : ByteArray := prog_9_method_13_code
def yX7_at : MethodName := ⟨RX7, "at", "(IIII)I"⟩
abbrev cX7_clears : ByteArray := prog_9_method_14_code
def yX7_clears : MethodName := ⟨RX7, "clears", "(II)V"⟩
abbrev cX7_copies : ByteArray := prog_9_method_15_code
def yX7_copies : MethodName := ⟨RX7, "copies", "(II)V"⟩
abbrev cX7_emptyWeight : ByteArray := prog_9_method_16_code
def yX7_emptyWeight : MethodName := ⟨RX7, "emptyWeight", "(I)I"⟩
abbrev cX7_begin : ByteArray := prog_9_method_17_code
def yX7_begin : MethodName := ⟨RX7, "begin", "(II)I"⟩
abbrev cX7_isState : ByteArray := prog_9_method_18_code
def yX7_isState : MethodName := ⟨RX7, "isState", "(II)Z"⟩
abbrev cX7_setEnd : ByteArray := prog_9_method_19_code
def yX7_setEnd : MethodName := ⟨RX7, "setEnd", "(IIZI)I"⟩
abbrev cX7_isStep : ByteArray := prog_9_method_20_code
def yX7_isStep : MethodName := ⟨RX7, "isStep", "(IIII)Z"⟩
abbrev cX7_setStep : ByteArray := prog_9_method_21_code
def yX7_setStep : MethodName := ⟨RX7, "setStep", "(IIIII)I"⟩
abbrev cX7_draws : ByteArray := prog_9_method_22_code
def yX7_draws : MethodName := ⟨RX7, "draws", "()I"⟩
abbrev cX7_random : ByteArray := prog_9_method_23_code
def yX7_random : MethodName := ⟨RX7, "random", "(III)I"⟩
abbrev cX7_states : ByteArray := prog_9_method_24_code
def yX7_states : MethodName := ⟨RX7, "states", "(I)I"⟩
abbrev cX7_end : ByteArray := prog_9_method_25_code
def yX7_end : MethodName := ⟨RX7, "end", "(IIZ)I"⟩
abbrev cX7_step : ByteArray := prog_9_method_26_code
def yX7_step : MethodName := ⟨RX7, "step", "(IIII)I"⟩
abbrev cX7_laysInitial : ByteArray := prog_9_method_27_code
def yX7_laysInitial : MethodName := ⟨RX7, "laysInitial", "(II)V"⟩
abbrev cX7_passes : ByteArray := prog_9_method_28_code
def yX7_passes : MethodName := ⟨RX7, "passes", "(III)V"⟩
abbrev cX7_ends : ByteArray := prog_9_method_29_code
def yX7_ends : MethodName := ⟨RX7, "ends", "(II)I"⟩
abbrev cX7_passesWord : ByteArray := prog_9_method_30_code
def yX7_passesWord : MethodName := ⟨RX7, "passesWord", "(II)V"⟩
abbrev cX7_weighs : ByteArray := prog_9_method_31_code
def yX7_weighs : MethodName := ⟨RX7, "weighs", "(II)I"⟩
abbrev cX7_weight : ByteArray := prog_9_method_32_code
def yX7_weight : MethodName := ⟨RX7, "weight", "(II)I"⟩
abbrev cX7_powerWeight : ByteArray := prog_9_method_33_code
def yX7_powerWeight : MethodName := ⟨RX7, "powerWeight", "(III)I"⟩
abbrev cX7_total : ByteArray := prog_9_method_34_code
def yX7_total : MethodName := ⟨RX7, "total", "(II)I"⟩
abbrev cX7_support : ByteArray := prog_9_method_35_code
def yX7_support : MethodName := ⟨RX7, "support", "(II)I"⟩
abbrev cX7_reduces : ByteArray := prog_9_method_36_code
def yX7_reduces : MethodName := ⟨RX7, "reduces", "(I)Z"⟩
abbrev cX7_offers : ByteArray := prog_9_method_37_code
def yX7_offers : MethodName := ⟨RX7, "offers", "(II)V"⟩
abbrev cX7_laysBasis : ByteArray := prog_9_method_38_code
def yX7_laysBasis : MethodName := ⟨RX7, "laysBasis", "(II)V"⟩
abbrev cX7_spans : ByteArray := prog_9_method_39_code
def yX7_spans : MethodName := ⟨RX7, "spans", "(II)V"⟩
abbrev cX7_endsBasis : ByteArray := prog_9_method_40_code
def yX7_endsBasis : MethodName := ⟨RX7, "endsBasis", "(III)I"⟩
abbrev cX7_firstWord : ByteArray := prog_9_method_41_code
def yX7_firstWord : MethodName := ⟨RX7, "firstWord", "(II)I"⟩
abbrev cX7_first : ByteArray := prog_9_method_42_code
def yX7_first : MethodName := ⟨RX7, "first", "(I)I"⟩
abbrev cX7_differing : ByteArray := prog_9_method_43_code
def yX7_differing : MethodName := ⟨RX7, "differing", "(II)I"⟩
abbrev cX7_forwards : ByteArray := prog_9_method_44_code
def yX7_forwards : MethodName := ⟨RX7, "forwards", "(II)V"⟩
abbrev cX7_turns : ByteArray := prog_9_method_45_code
def yX7_turns : MethodName := ⟨RX7, "turns", "(II)V"⟩
abbrev cX7_minimizes : ByteArray := prog_9_method_46_code
def yX7_minimizes : MethodName := ⟨RX7, "minimizes", "(II)V"⟩
abbrev cX7_dimensionOf : ByteArray := prog_9_method_47_code
def yX7_dimensionOf : MethodName := ⟨RX7, "dimensionOf", "(II)I"⟩
abbrev cX7_dimension : ByteArray := prog_9_method_48_code
def yX7_dimension : MethodName := ⟨RX7, "dimension", "(II)I"⟩
abbrev cX7_basisWord : ByteArray := prog_9_method_49_code
def yX7_basisWord : MethodName := ⟨RX7, "basisWord", "(II)I"⟩
abbrev cX7_blocks : ByteArray := prog_9_method_50_code
def yX7_blocks : MethodName := ⟨RX7, "blocks", "(III)V"⟩
abbrev cX7_sums : ByteArray := prog_9_method_51_code
def yX7_sums : MethodName := ⟨RX7, "sums", "(III)V"⟩
abbrev cX7_multiplies : ByteArray := prog_9_method_52_code
def yX7_multiplies : MethodName := ⟨RX7, "multiplies", "(III)V"⟩
abbrev cX7_out : ByteArray := prog_9_method_53_code
def yX7_out : MethodName := ⟨RX7, "out", "(III)I"⟩
abbrev cX7_into : ByteArray := prog_9_method_54_code
def yX7_into : MethodName := ⟨RX7, "into", "(III)I"⟩
abbrev cX7_joins : ByteArray := prog_9_method_55_code
def yX7_joins : MethodName := ⟨RX7, "joins", "(III)V"⟩
abbrev cX7_canStar : ByteArray := prog_9_method_56_code
def yX7_canStar : MethodName := ⟨RX7, "canStar", "(I)Z"⟩
abbrev cX7_stars : ByteArray := prog_9_method_57_code
def yX7_stars : MethodName := ⟨RX7, "stars", "(II)V"⟩
abbrev cX7_manyOf : ByteArray := prog_9_method_58_code
def yX7_manyOf : MethodName := ⟨RX7, "manyOf", "(III)I"⟩
abbrev cX7_combines : ByteArray := prog_9_method_59_code
def yX7_combines : MethodName := ⟨RX7, "combines", "(III)V"⟩
abbrev cX7_combine : ByteArray := prog_9_method_60_code
def yX7_combine : MethodName := ⟨RX7, "combine", "(IIII)I"⟩
abbrev cX7_derives : ByteArray := prog_9_method_61_code
def yX7_derives : MethodName := ⟨RX7, "derives", "(II)V"⟩
abbrev cX7_derive : ByteArray := prog_9_method_62_code
def yX7_derive : MethodName := ⟨RX7, "derive", "(III)I"⟩
abbrev cX7_scale : ByteArray := prog_9_method_63_code
def yX7_scale : MethodName := ⟨RX7, "scale", "(II)I"⟩
abbrev cX7_rank : ByteArray := prog_9_method_64_code
def yX7_rank : MethodName := ⟨RX7, "rank", "(II)I"⟩
abbrev cX7_eliminates : ByteArray := prog_9_method_65_code
def yX7_eliminates : MethodName := ⟨RX7, "eliminates", "(IIIII)V"⟩
abbrev cX7_hankelRank : ByteArray := prog_9_method_66_code
def yX7_hankelRank : MethodName := ⟨RX7, "hankelRank", "(II)I"⟩
abbrev cX7_recurs : ByteArray := prog_9_method_67_code
def yX7_recurs : MethodName := ⟨RX7, "recurs", "(II)Z"⟩
abbrev cX7_laysTotals : ByteArray := prog_9_method_68_code
def yX7_laysTotals : MethodName := ⟨RX7, "laysTotals", "(I)V"⟩
abbrev cX7_inverse : ByteArray := prog_9_method_69_code
def yX7_inverse : MethodName := ⟨RX7, "inverse", "(I)I"⟩
abbrev cX7_append : ByteArray := prog_9_method_70_code
def yX7_append : MethodName := ⟨RX7, "append", "(I)I"⟩
abbrev cX7_clearText : ByteArray := prog_9_method_71_code
def yX7_clearText : MethodName := ⟨RX7, "clearText", "()I"⟩
abbrev cX7_operates : ByteArray := prog_9_method_72_code
def yX7_operates : MethodName := ⟨RX7, "operates", "(III)V"⟩
abbrev cX7_endsFactor : ByteArray := prog_9_method_73_code
def yX7_endsFactor : MethodName := ⟨RX7, "endsFactor", "()V"⟩
abbrev cX7_endsProduct : ByteArray := prog_9_method_74_code
def yX7_endsProduct : MethodName := ⟨RX7, "endsProduct", "()V"⟩
abbrev cX7_begins : ByteArray := prog_9_method_75_code
def yX7_begins : MethodName := ⟨RX7, "begins", "()V"⟩
abbrev cX7_isFigure : ByteArray := prog_9_method_76_code
def yX7_isFigure : MethodName := ⟨RX7, "isFigure", "()Z"⟩
abbrev cX7_readsNumber : ByteArray := prog_9_method_77_code
def yX7_readsNumber : MethodName := ⟨RX7, "readsNumber", "()Z"⟩
abbrev cX7_readsLetter : ByteArray := prog_9_method_78_code
def yX7_readsLetter : MethodName := ⟨RX7, "readsLetter", "(I)V"⟩
abbrev cX7_readsFactor : ByteArray := prog_9_method_79_code
def yX7_readsFactor : MethodName := ⟨RX7, "readsFactor", "(I)Z"⟩
abbrev cX7_starsFactor : ByteArray := prog_9_method_80_code
def yX7_starsFactor : MethodName := ⟨RX7, "starsFactor", "()V"⟩
abbrev cX7_readsNext : ByteArray := prog_9_method_81_code
def yX7_readsNext : MethodName := ⟨RX7, "readsNext", "()Z"⟩
abbrev cX7_parse : ByteArray := prog_9_method_82_code
def yX7_parse : MethodName := ⟨RX7, "parse", "(I)I"⟩
abbrev cX7_undo : ByteArray := prog_9_method_83_code
def yX7_undo : MethodName := ⟨RX7, "undo", "()I"⟩
abbrev cX7_sumsSlot : ByteArray := prog_9_method_84_code
def yX7_sumsSlot : MethodName := ⟨RX7, "sumsSlot", "(JI)J"⟩
abbrev cX7_digest : ByteArray := prog_9_method_85_code
def yX7_digest : MethodName := ⟨RX7, "digest", "()J"⟩
def RJ4 : String := "java/lang/StringBuilder"
def RJ7 : String := "java/util/Arrays"
abbrev cJ7_rangeCheck_23922 : ByteArray := prog_27_method_30_code
def yJ7_rangeCheck_23922 : MethodName := ⟨RJ7, "rangeCheck", "(III)V"⟩
abbrev cJ7_fill_53178 : ByteArray := prog_27_method_103_code
def yJ7_fill_53178 : MethodName := ⟨RJ7, "fill", "([II)V"⟩
abbrev cJ7_fill_fda19 : ByteArray := prog_27_method_104_code
def yJ7_fill_fda19 : MethodName := ⟨RJ7, "fill", "([IIII)V"⟩
def RL : String := "SeriesBenchLaw"
abbrev cL_begin : ByteArray := method_3_code
def yL_begin : MethodName := ⟨RL, "begin", "(LSeriesBench;II[J)I"⟩
abbrev cL_setEnd : ByteArray := method_4_code
def yL_setEnd : MethodName := ⟨RL, "setEnd", "(LSeriesBench;IIZI[J)I"⟩
abbrev cL_setStep : ByteArray := method_5_code
def yL_setStep : MethodName := ⟨RL, "setStep", "(LSeriesBench;IIIII[J)I"⟩
abbrev cL_random : ByteArray := method_6_code
def yL_random : MethodName := ⟨RL, "random", "(LSeriesBench;III[J)I"⟩
abbrev cL_states : ByteArray := method_7_code
def yL_states : MethodName := ⟨RL, "states", "(LSeriesBench;I[J)I"⟩
abbrev cL_end : ByteArray := method_8_code
def yL_end : MethodName := ⟨RL, "end", "(LSeriesBench;IIZ[J)I"⟩
abbrev cL_step : ByteArray := method_9_code
def yL_step : MethodName := ⟨RL, "step", "(LSeriesBench;IIII[J)I"⟩
abbrev cL_weight : ByteArray := method_10_code
def yL_weight : MethodName := ⟨RL, "weight", "(LSeriesBench;II[J)I"⟩
abbrev cL_powerWeight : ByteArray := method_11_code
def yL_powerWeight : MethodName := ⟨RL, "powerWeight", "(LSeriesBench;III[J)I"⟩
abbrev cL_total : ByteArray := method_12_code
def yL_total : MethodName := ⟨RL, "total", "(LSeriesBench;II[J)I"⟩
abbrev cL_support : ByteArray := method_13_code
def yL_support : MethodName := ⟨RL, "support", "(LSeriesBench;II[J)I"⟩
abbrev cL_first : ByteArray := method_14_code
def yL_first : MethodName := ⟨RL, "first", "(LSeriesBench;I[J)I"⟩
abbrev cL_combine : ByteArray := method_15_code
def yL_combine : MethodName := ⟨RL, "combine", "(LSeriesBench;IIII[J)I"⟩
abbrev cL_derive : ByteArray := method_16_code
def yL_derive : MethodName := ⟨RL, "derive", "(LSeriesBench;III[J)I"⟩
abbrev cL_scale : ByteArray := method_17_code
def yL_scale : MethodName := ⟨RL, "scale", "(LSeriesBench;II[J)I"⟩
abbrev cL_dimension : ByteArray := method_18_code
def yL_dimension : MethodName := ⟨RL, "dimension", "(LSeriesBench;II[J)I"⟩
abbrev cL_basisWord : ByteArray := method_19_code
def yL_basisWord : MethodName := ⟨RL, "basisWord", "(LSeriesBench;II[J)I"⟩
abbrev cL_differing : ByteArray := method_20_code
def yL_differing : MethodName := ⟨RL, "differing", "(LSeriesBench;II[J)I"⟩
abbrev cL_hankelRank : ByteArray := method_21_code
def yL_hankelRank : MethodName := ⟨RL, "hankelRank", "(LSeriesBench;II[J)I"⟩
abbrev cL_recurs : ByteArray := method_22_code
def yL_recurs : MethodName := ⟨RL, "recurs", "(LSeriesBench;II[J)I"⟩
abbrev cL_inverse : ByteArray := method_23_code
def yL_inverse : MethodName := ⟨RL, "inverse", "(LSeriesBench;I[J)I"⟩
abbrev cL_append : ByteArray := method_24_code
def yL_append : MethodName := ⟨RL, "append", "(LSeriesBench;I[J)I"⟩
abbrev cL_parse : ByteArray := method_25_code
def yL_parse : MethodName := ⟨RL, "parse", "(LSeriesBench;I[J)I"⟩
abbrev cL_undo : ByteArray := method_26_code
def yL_undo : MethodName := ⟨RL, "undo", "(LSeriesBench;[J)I"⟩
abbrev cL_law : ByteArray := code
def yL_law : MethodName := ⟨RL, "law", "([I)Z"⟩
theorem dX0_init_0 : decode cX0_init 0 = .ok (.aload_n 0, 1) := by decide +kernel
theorem dX0_init_1 : decode cX0_init 1 = .ok (.invokespecial 3, 3) := by decide +kernel
theorem dX0_init_4 : decode cX0_init 4 = .ok (.aload_n 0, 1) := by decide +kernel
theorem dX0_init_5 : decode cX0_init 5 = .ok (.iconst 0, 1) := by decide +kernel
theorem dX0_init_6 : decode cX0_init 6 = .ok (.putfield 9, 3) := by decide +kernel
theorem dX0_init_9 : decode cX0_init 9 = .ok (.aload_n 0, 1) := by decide +kernel
theorem dX0_init_10 : decode cX0_init 10 = .ok (.iload_n 1, 1) := by decide +kernel
theorem dX0_init_11 : decode cX0_init 11 = .ok (.newarray .int, 2) := by decide +kernel
theorem dX0_init_13 : decode cX0_init 13 = .ok (.putfield 15, 3) := by decide +kernel
theorem dX0_init_16 : decode cX0_init 16 = .ok (.aload_n 0, 1) := by decide +kernel
theorem dX0_init_17 : decode cX0_init 17 = .ok (.iload_n 1, 1) := by decide +kernel
theorem dX0_init_18 : decode cX0_init 18 = .ok (.newarray .int, 2) := by decide +kernel
theorem dX0_init_20 : decode cX0_init 20 = .ok (.putfield 19, 3) := by decide +kernel
theorem dX0_init_23 : decode cX0_init 23 = .ok (.aload_n 0, 1) := by decide +kernel
theorem dX0_init_24 : decode cX0_init 24 = .ok (.iconst 2, 1) := by decide +kernel
theorem dX0_init_25 : decode cX0_init 25 = .ok (.iload_n 1, 1) := by decide +kernel
theorem dX0_init_26 : decode cX0_init 26 = .ok (.iload_n 1, 1) := by decide +kernel
theorem dX0_init_27 : decode cX0_init 27 = .ok (.imul, 1) := by decide +kernel
theorem dX0_init_28 : decode cX0_init 28 = .ok (.multianewarray 22 2, 4) := by decide +kernel
theorem dX0_init_32 : decode cX0_init 32 = .ok (.putfield 24, 3) := by decide +kernel
theorem dX0_init_35 : decode cX0_init 35 = .ok (.return_, 1) := by decide +kernel
theorem dX0_ends_0 : decode cX0_ends 0 = .ok (.iload_n 1, 1) := by decide +kernel
theorem dX0_ends_1 : decode cX0_ends 1 = .ok (.ifCond .eq 10, 3) := by decide +kernel
theorem dX0_ends_4 : decode cX0_ends 4 = .ok (.aload_n 0, 1) := by decide +kernel
theorem dX0_ends_5 : decode cX0_ends 5 = .ok (.getfield 19, 3) := by decide +kernel
theorem dX0_ends_8 : decode cX0_ends 8 = .ok (.goto 7, 3) := by decide +kernel
theorem dX0_ends_11 : decode cX0_ends 11 = .ok (.aload_n 0, 1) := by decide +kernel
theorem dX0_ends_12 : decode cX0_ends 12 = .ok (.getfield 15, 3) := by decide +kernel
theorem dX0_ends_15 : decode cX0_ends 15 = .ok (.areturn, 1) := by decide +kernel
theorem dX0_clear_0 : decode cX0_clear 0 = .ok (.aload_n 0, 1) := by decide +kernel
theorem dX0_clear_1 : decode cX0_clear 1 = .ok (.iload_n 1, 1) := by decide +kernel
theorem dX0_clear_2 : decode cX0_clear 2 = .ok (.putfield 9, 3) := by decide +kernel
theorem dX0_clear_5 : decode cX0_clear 5 = .ok (.aload_n 0, 1) := by decide +kernel
theorem dX0_clear_6 : decode cX0_clear 6 = .ok (.getfield 15, 3) := by decide +kernel
theorem dX0_clear_9 : decode cX0_clear 9 = .ok (.iconst 0, 1) := by decide +kernel
theorem dX0_clear_10 : decode cX0_clear 10 = .ok (.iload_n 1, 1) := by decide +kernel
theorem dX0_clear_11 : decode cX0_clear 11 = .ok (.iconst 0, 1) := by decide +kernel
theorem dX0_clear_12 : decode cX0_clear 12 = .ok (.invokestatic 27, 3) := by decide +kernel
theorem dX0_clear_15 : decode cX0_clear 15 = .ok (.aload_n 0, 1) := by decide +kernel
theorem dX0_clear_16 : decode cX0_clear 16 = .ok (.getfield 19, 3) := by decide +kernel
theorem dX0_clear_19 : decode cX0_clear 19 = .ok (.iconst 0, 1) := by decide +kernel
theorem dX0_clear_20 : decode cX0_clear 20 = .ok (.iload_n 1, 1) := by decide +kernel
theorem dX0_clear_21 : decode cX0_clear 21 = .ok (.iconst 0, 1) := by decide +kernel
theorem dX0_clear_22 : decode cX0_clear 22 = .ok (.invokestatic 27, 3) := by decide +kernel
theorem dX0_clear_25 : decode cX0_clear 25 = .ok (.iconst 0, 1) := by decide +kernel
theorem dX0_clear_26 : decode cX0_clear 26 = .ok (.istore_n 2, 1) := by decide +kernel
theorem dX0_clear_27 : decode cX0_clear 27 = .ok (.iload_n 2, 1) := by decide +kernel
theorem dX0_clear_28 : decode cX0_clear 28 = .ok (.iconst 2, 1) := by decide +kernel
theorem dX0_clear_29 : decode cX0_clear 29 = .ok (.if_icmp .ge 23, 3) := by decide +kernel
theorem dX0_clear_32 : decode cX0_clear 32 = .ok (.aload_n 0, 1) := by decide +kernel
theorem dX0_clear_33 : decode cX0_clear 33 = .ok (.getfield 24, 3) := by decide +kernel
theorem dX0_clear_36 : decode cX0_clear 36 = .ok (.iload_n 2, 1) := by decide +kernel
theorem dX0_clear_37 : decode cX0_clear 37 = .ok (.aaload, 1) := by decide +kernel
theorem dX0_clear_38 : decode cX0_clear 38 = .ok (.iconst 0, 1) := by decide +kernel
theorem dX0_clear_39 : decode cX0_clear 39 = .ok (.iload_n 1, 1) := by decide +kernel
theorem dX0_clear_40 : decode cX0_clear 40 = .ok (.iload_n 1, 1) := by decide +kernel
theorem dX0_clear_41 : decode cX0_clear 41 = .ok (.imul, 1) := by decide +kernel
theorem dX0_clear_42 : decode cX0_clear 42 = .ok (.iconst 0, 1) := by decide +kernel
theorem dX0_clear_43 : decode cX0_clear 43 = .ok (.invokestatic 27, 3) := by decide +kernel
theorem dX0_clear_46 : decode cX0_clear 46 = .ok (.iinc 2 1, 3) := by decide +kernel
theorem dX0_clear_49 : decode cX0_clear 49 = .ok (.goto (-22), 3) := by decide +kernel
theorem dX0_clear_52 : decode cX0_clear 52 = .ok (.return_, 1) := by decide +kernel
theorem dX0_copyFrom_0 : decode cX0_copyFrom 0 = .ok (.aload_n 0, 1) := by decide +kernel
theorem dX0_copyFrom_1 : decode cX0_copyFrom 1 = .ok (.aload_n 1, 1) := by decide +kernel
theorem dX0_copyFrom_2 : decode cX0_copyFrom 2 = .ok (.getfield 9, 3) := by decide +kernel
theorem dX0_copyFrom_5 : decode cX0_copyFrom 5 = .ok (.putfield 9, 3) := by decide +kernel
theorem dX0_copyFrom_8 : decode cX0_copyFrom 8 = .ok (.aload_n 1, 1) := by decide +kernel
theorem dX0_copyFrom_9 : decode cX0_copyFrom 9 = .ok (.getfield 15, 3) := by decide +kernel
theorem dX0_copyFrom_12 : decode cX0_copyFrom 12 = .ok (.iconst 0, 1) := by decide +kernel
theorem dX0_copyFrom_13 : decode cX0_copyFrom 13 = .ok (.aload_n 0, 1) := by decide +kernel
theorem dX0_copyFrom_14 : decode cX0_copyFrom 14 = .ok (.getfield 15, 3) := by decide +kernel
theorem dX0_copyFrom_17 : decode cX0_copyFrom 17 = .ok (.iconst 0, 1) := by decide +kernel
theorem dX0_copyFrom_18 : decode cX0_copyFrom 18 = .ok (.aload_n 0, 1) := by decide +kernel
theorem dX0_copyFrom_19 : decode cX0_copyFrom 19 = .ok (.getfield 9, 3) := by decide +kernel
theorem dX0_copyFrom_22 : decode cX0_copyFrom 22 = .ok (.invokestatic 33, 3) := by decide +kernel
theorem dX0_copyFrom_25 : decode cX0_copyFrom 25 = .ok (.aload_n 1, 1) := by decide +kernel
theorem dX0_copyFrom_26 : decode cX0_copyFrom 26 = .ok (.getfield 19, 3) := by decide +kernel
theorem dX0_copyFrom_29 : decode cX0_copyFrom 29 = .ok (.iconst 0, 1) := by decide +kernel
theorem dX0_copyFrom_30 : decode cX0_copyFrom 30 = .ok (.aload_n 0, 1) := by decide +kernel
theorem dX0_copyFrom_31 : decode cX0_copyFrom 31 = .ok (.getfield 19, 3) := by decide +kernel
theorem dX0_copyFrom_34 : decode cX0_copyFrom 34 = .ok (.iconst 0, 1) := by decide +kernel
theorem dX0_copyFrom_35 : decode cX0_copyFrom 35 = .ok (.aload_n 0, 1) := by decide +kernel
theorem dX0_copyFrom_36 : decode cX0_copyFrom 36 = .ok (.getfield 9, 3) := by decide +kernel
theorem dX0_copyFrom_39 : decode cX0_copyFrom 39 = .ok (.invokestatic 33, 3) := by decide +kernel
theorem dX0_copyFrom_42 : decode cX0_copyFrom 42 = .ok (.iconst 0, 1) := by decide +kernel
theorem dX0_copyFrom_43 : decode cX0_copyFrom 43 = .ok (.istore_n 2, 1) := by decide +kernel
theorem dX0_copyFrom_44 : decode cX0_copyFrom 44 = .ok (.iload_n 2, 1) := by decide +kernel
theorem dX0_copyFrom_45 : decode cX0_copyFrom 45 = .ok (.iconst 2, 1) := by decide +kernel
theorem dX0_copyFrom_46 : decode cX0_copyFrom 46 = .ok (.if_icmp .ge 35, 3) := by decide +kernel
theorem dX0_copyFrom_49 : decode cX0_copyFrom 49 = .ok (.aload_n 1, 1) := by decide +kernel
theorem dX0_copyFrom_50 : decode cX0_copyFrom 50 = .ok (.getfield 24, 3) := by decide +kernel
theorem dX0_copyFrom_53 : decode cX0_copyFrom 53 = .ok (.iload_n 2, 1) := by decide +kernel
theorem dX0_copyFrom_54 : decode cX0_copyFrom 54 = .ok (.aaload, 1) := by decide +kernel
theorem dX0_copyFrom_55 : decode cX0_copyFrom 55 = .ok (.iconst 0, 1) := by decide +kernel
theorem dX0_copyFrom_56 : decode cX0_copyFrom 56 = .ok (.aload_n 0, 1) := by decide +kernel
theorem dX0_copyFrom_57 : decode cX0_copyFrom 57 = .ok (.getfield 24, 3) := by decide +kernel
theorem dX0_copyFrom_60 : decode cX0_copyFrom 60 = .ok (.iload_n 2, 1) := by decide +kernel
theorem dX0_copyFrom_61 : decode cX0_copyFrom 61 = .ok (.aaload, 1) := by decide +kernel
theorem dX0_copyFrom_62 : decode cX0_copyFrom 62 = .ok (.iconst 0, 1) := by decide +kernel
theorem dX0_copyFrom_63 : decode cX0_copyFrom 63 = .ok (.aload_n 0, 1) := by decide +kernel
theorem dX0_copyFrom_64 : decode cX0_copyFrom 64 = .ok (.getfield 9, 3) := by decide +kernel
theorem dX0_copyFrom_67 : decode cX0_copyFrom 67 = .ok (.aload_n 0, 1) := by decide +kernel
theorem dX0_copyFrom_68 : decode cX0_copyFrom 68 = .ok (.getfield 9, 3) := by decide +kernel
theorem dX0_copyFrom_71 : decode cX0_copyFrom 71 = .ok (.imul, 1) := by decide +kernel
theorem dX0_copyFrom_72 : decode cX0_copyFrom 72 = .ok (.invokestatic 33, 3) := by decide +kernel
theorem dX0_copyFrom_75 : decode cX0_copyFrom 75 = .ok (.iinc 2 1, 3) := by decide +kernel
theorem dX0_copyFrom_78 : decode cX0_copyFrom 78 = .ok (.goto (-34), 3) := by decide +kernel
theorem dX0_copyFrom_81 : decode cX0_copyFrom 81 = .ok (.return_, 1) := by decide +kernel
theorem dX0_draw_0 : decode cX0_draw 0 = .ok (.aload_n 0, 1) := by decide +kernel
theorem dX0_draw_1 : decode cX0_draw 1 = .ok (.iload_n 1, 1) := by decide +kernel
theorem dX0_draw_2 : decode cX0_draw 2 = .ok (.putfield 9, 3) := by decide +kernel
theorem dX0_draw_5 : decode cX0_draw 5 = .ok (.iload_n 2, 1) := by decide +kernel
theorem dX0_draw_6 : decode cX0_draw 6 = .ok (.i2l, 1) := by decide +kernel
theorem dX0_draw_7 : decode cX0_draw 7 = .ok (.lstore_n 3, 1) := by decide +kernel
theorem dX0_draw_8 : decode cX0_draw 8 = .ok (.iconst 0, 1) := by decide +kernel
theorem dX0_draw_9 : decode cX0_draw 9 = .ok (.istore 5, 2) := by decide +kernel
theorem dX0_draw_11 : decode cX0_draw 11 = .ok (.iload 5, 2) := by decide +kernel
theorem dX0_draw_13 : decode cX0_draw 13 = .ok (.iload_n 1, 1) := by decide +kernel
theorem dX0_draw_14 : decode cX0_draw 14 = .ok (.if_icmp .ge 41, 3) := by decide +kernel
theorem dX0_draw_17 : decode cX0_draw 17 = .ok (.lload_n 3, 1) := by decide +kernel
theorem dX0_draw_18 : decode cX0_draw 18 = .ok (.invokestatic 39, 3) := by decide +kernel
theorem dX0_draw_21 : decode cX0_draw 21 = .ok (.lstore_n 3, 1) := by decide +kernel
theorem dX0_draw_22 : decode cX0_draw 22 = .ok (.aload_n 0, 1) := by decide +kernel
theorem dX0_draw_23 : decode cX0_draw 23 = .ok (.getfield 15, 3) := by decide +kernel
theorem dX0_draw_26 : decode cX0_draw 26 = .ok (.iload 5, 2) := by decide +kernel
theorem dX0_draw_28 : decode cX0_draw 28 = .ok (.lload_n 3, 1) := by decide +kernel
theorem dX0_draw_29 : decode cX0_draw 29 = .ok (.invokestatic 43, 3) := by decide +kernel
theorem dX0_draw_32 : decode cX0_draw 32 = .ok (.iastore, 1) := by decide +kernel
theorem dX0_draw_33 : decode cX0_draw 33 = .ok (.lload_n 3, 1) := by decide +kernel
theorem dX0_draw_34 : decode cX0_draw 34 = .ok (.invokestatic 39, 3) := by decide +kernel
theorem dX0_draw_37 : decode cX0_draw 37 = .ok (.lstore_n 3, 1) := by decide +kernel
theorem dX0_draw_38 : decode cX0_draw 38 = .ok (.aload_n 0, 1) := by decide +kernel
theorem dX0_draw_39 : decode cX0_draw 39 = .ok (.getfield 19, 3) := by decide +kernel
theorem dX0_draw_42 : decode cX0_draw 42 = .ok (.iload 5, 2) := by decide +kernel
theorem dX0_draw_44 : decode cX0_draw 44 = .ok (.lload_n 3, 1) := by decide +kernel
theorem dX0_draw_45 : decode cX0_draw 45 = .ok (.invokestatic 43, 3) := by decide +kernel
theorem dX0_draw_48 : decode cX0_draw 48 = .ok (.iastore, 1) := by decide +kernel
theorem dX0_draw_49 : decode cX0_draw 49 = .ok (.iinc 5 1, 3) := by decide +kernel
theorem dX0_draw_52 : decode cX0_draw 52 = .ok (.goto (-41), 3) := by decide +kernel
theorem dX0_draw_55 : decode cX0_draw 55 = .ok (.iconst 0, 1) := by decide +kernel
theorem dX0_draw_56 : decode cX0_draw 56 = .ok (.istore 5, 2) := by decide +kernel
theorem dX0_draw_58 : decode cX0_draw 58 = .ok (.iload 5, 2) := by decide +kernel
theorem dX0_draw_60 : decode cX0_draw 60 = .ok (.iconst 2, 1) := by decide +kernel
theorem dX0_draw_61 : decode cX0_draw 61 = .ok (.if_icmp .ge 45, 3) := by decide +kernel
theorem dX0_draw_64 : decode cX0_draw 64 = .ok (.iconst 0, 1) := by decide +kernel
theorem dX0_draw_65 : decode cX0_draw 65 = .ok (.istore 6, 2) := by decide +kernel
theorem dX0_draw_67 : decode cX0_draw 67 = .ok (.iload 6, 2) := by decide +kernel
theorem dX0_draw_69 : decode cX0_draw 69 = .ok (.iload_n 1, 1) := by decide +kernel
theorem dX0_draw_70 : decode cX0_draw 70 = .ok (.iload_n 1, 1) := by decide +kernel
theorem dX0_draw_71 : decode cX0_draw 71 = .ok (.imul, 1) := by decide +kernel
theorem dX0_draw_72 : decode cX0_draw 72 = .ok (.if_icmp .ge 28, 3) := by decide +kernel
theorem dX0_draw_75 : decode cX0_draw 75 = .ok (.lload_n 3, 1) := by decide +kernel
theorem dX0_draw_76 : decode cX0_draw 76 = .ok (.invokestatic 39, 3) := by decide +kernel
theorem dX0_draw_79 : decode cX0_draw 79 = .ok (.lstore_n 3, 1) := by decide +kernel
theorem dX0_draw_80 : decode cX0_draw 80 = .ok (.aload_n 0, 1) := by decide +kernel
theorem dX0_draw_81 : decode cX0_draw 81 = .ok (.getfield 24, 3) := by decide +kernel
theorem dX0_draw_84 : decode cX0_draw 84 = .ok (.iload 5, 2) := by decide +kernel
theorem dX0_draw_86 : decode cX0_draw 86 = .ok (.aaload, 1) := by decide +kernel
theorem dX0_draw_87 : decode cX0_draw 87 = .ok (.iload 6, 2) := by decide +kernel
theorem dX0_draw_89 : decode cX0_draw 89 = .ok (.lload_n 3, 1) := by decide +kernel
theorem dX0_draw_90 : decode cX0_draw 90 = .ok (.invokestatic 43, 3) := by decide +kernel
theorem dX0_draw_93 : decode cX0_draw 93 = .ok (.iastore, 1) := by decide +kernel
theorem dX0_draw_94 : decode cX0_draw 94 = .ok (.iinc 6 1, 3) := by decide +kernel
theorem dX0_draw_97 : decode cX0_draw 97 = .ok (.goto (-30), 3) := by decide +kernel
theorem dX0_draw_100 : decode cX0_draw 100 = .ok (.iinc 5 1, 3) := by decide +kernel
theorem dX0_draw_103 : decode cX0_draw 103 = .ok (.goto (-45), 3) := by decide +kernel
theorem dX0_draw_106 : decode cX0_draw 106 = .ok (.return_, 1) := by decide +kernel
theorem dX0_nextDraw_0 : decode cX0_nextDraw 0 = .ok (.ldc2_w 47, 3) := by decide +kernel
theorem dX0_nextDraw_3 : decode cX0_nextDraw 3 = .ok (.lload_n 0, 1) := by decide +kernel
theorem dX0_nextDraw_4 : decode cX0_nextDraw 4 = .ok (.lmul, 1) := by decide +kernel
theorem dX0_nextDraw_5 : decode cX0_nextDraw 5 = .ok (.ldc2_w 49, 3) := by decide +kernel
theorem dX0_nextDraw_8 : decode cX0_nextDraw 8 = .ok (.ladd, 1) := by decide +kernel
theorem dX0_nextDraw_9 : decode cX0_nextDraw 9 = .ok (.ldc2_w 51, 3) := by decide +kernel
theorem dX0_nextDraw_12 : decode cX0_nextDraw 12 = .ok (.lrem, 1) := by decide +kernel
theorem dX0_nextDraw_13 : decode cX0_nextDraw 13 = .ok (.lreturn, 1) := by decide +kernel
theorem dX0_drawn_0 : decode cX0_drawn 0 = .ok (.lload_n 0, 1) := by decide +kernel
theorem dX0_drawn_1 : decode cX0_drawn 1 = .ok (.ldc2_w 53, 3) := by decide +kernel
theorem dX0_drawn_4 : decode cX0_drawn 4 = .ok (.ldiv, 1) := by decide +kernel
theorem dX0_drawn_5 : decode cX0_drawn 5 = .ok (.ldc2_w 55, 3) := by decide +kernel
theorem dX0_drawn_8 : decode cX0_drawn 8 = .ok (.lrem, 1) := by decide +kernel
theorem dX0_drawn_9 : decode cX0_drawn 9 = .ok (.l2i, 1) := by decide +kernel
theorem dX0_drawn_10 : decode cX0_drawn 10 = .ok (.ireturn, 1) := by decide +kernel
theorem dX0_becomeNumber_0 : decode cX0_becomeNumber 0 = .ok (.aload_n 0, 1) := by decide +kernel
theorem dX0_becomeNumber_1 : decode cX0_becomeNumber 1 = .ok (.iconst 1, 1) := by decide +kernel
theorem dX0_becomeNumber_2 : decode cX0_becomeNumber 2 = .ok (.invokevirtual 57, 3) := by decide +kernel
theorem dX0_becomeNumber_5 : decode cX0_becomeNumber 5 = .ok (.aload_n 0, 1) := by decide +kernel
theorem dX0_becomeNumber_6 : decode cX0_becomeNumber 6 = .ok (.getfield 15, 3) := by decide +kernel
theorem dX0_becomeNumber_9 : decode cX0_becomeNumber 9 = .ok (.iconst 0, 1) := by decide +kernel
theorem dX0_becomeNumber_10 : decode cX0_becomeNumber 10 = .ok (.iconst 1, 1) := by decide +kernel
theorem dX0_becomeNumber_11 : decode cX0_becomeNumber 11 = .ok (.iastore, 1) := by decide +kernel
theorem dX0_becomeNumber_12 : decode cX0_becomeNumber 12 = .ok (.aload_n 0, 1) := by decide +kernel
theorem dX0_becomeNumber_13 : decode cX0_becomeNumber 13 = .ok (.getfield 19, 3) := by decide +kernel
theorem dX0_becomeNumber_16 : decode cX0_becomeNumber 16 = .ok (.iconst 0, 1) := by decide +kernel
theorem dX0_becomeNumber_17 : decode cX0_becomeNumber 17 = .ok (.iload_n 1, 1) := by decide +kernel
theorem dX0_becomeNumber_18 : decode cX0_becomeNumber 18 = .ok (.iastore, 1) := by decide +kernel
theorem dX0_becomeNumber_19 : decode cX0_becomeNumber 19 = .ok (.return_, 1) := by decide +kernel
theorem dX0_becomeLetter_0 : decode cX0_becomeLetter 0 = .ok (.aload_n 0, 1) := by decide +kernel
theorem dX0_becomeLetter_1 : decode cX0_becomeLetter 1 = .ok (.iconst 2, 1) := by decide +kernel
theorem dX0_becomeLetter_2 : decode cX0_becomeLetter 2 = .ok (.invokevirtual 57, 3) := by decide +kernel
theorem dX0_becomeLetter_5 : decode cX0_becomeLetter 5 = .ok (.aload_n 0, 1) := by decide +kernel
theorem dX0_becomeLetter_6 : decode cX0_becomeLetter 6 = .ok (.getfield 15, 3) := by decide +kernel
theorem dX0_becomeLetter_9 : decode cX0_becomeLetter 9 = .ok (.iconst 0, 1) := by decide +kernel
theorem dX0_becomeLetter_10 : decode cX0_becomeLetter 10 = .ok (.iconst 1, 1) := by decide +kernel
theorem dX0_becomeLetter_11 : decode cX0_becomeLetter 11 = .ok (.iastore, 1) := by decide +kernel
theorem dX0_becomeLetter_12 : decode cX0_becomeLetter 12 = .ok (.aload_n 0, 1) := by decide +kernel
theorem dX0_becomeLetter_13 : decode cX0_becomeLetter 13 = .ok (.getfield 19, 3) := by decide +kernel
theorem dX0_becomeLetter_16 : decode cX0_becomeLetter 16 = .ok (.iconst 1, 1) := by decide +kernel
theorem dX0_becomeLetter_17 : decode cX0_becomeLetter 17 = .ok (.iconst 1, 1) := by decide +kernel
theorem dX0_becomeLetter_18 : decode cX0_becomeLetter 18 = .ok (.iastore, 1) := by decide +kernel
theorem dX0_becomeLetter_19 : decode cX0_becomeLetter 19 = .ok (.aload_n 0, 1) := by decide +kernel
theorem dX0_becomeLetter_20 : decode cX0_becomeLetter 20 = .ok (.getfield 24, 3) := by decide +kernel
theorem dX0_becomeLetter_23 : decode cX0_becomeLetter 23 = .ok (.iload_n 1, 1) := by decide +kernel
theorem dX0_becomeLetter_24 : decode cX0_becomeLetter 24 = .ok (.aaload, 1) := by decide +kernel
theorem dX0_becomeLetter_25 : decode cX0_becomeLetter 25 = .ok (.iconst 1, 1) := by decide +kernel
theorem dX0_becomeLetter_26 : decode cX0_becomeLetter 26 = .ok (.iconst 1, 1) := by decide +kernel
theorem dX0_becomeLetter_27 : decode cX0_becomeLetter 27 = .ok (.iastore, 1) := by decide +kernel
theorem dX0_becomeLetter_28 : decode cX0_becomeLetter 28 = .ok (.return_, 1) := by decide +kernel
theorem dX0_becomeSum_0 : decode cX0_becomeSum 0 = .ok (.aload_n 0, 1) := by decide +kernel
theorem dX0_becomeSum_1 : decode cX0_becomeSum 1 = .ok (.aload_n 1, 1) := by decide +kernel
theorem dX0_becomeSum_2 : decode cX0_becomeSum 2 = .ok (.getfield 9, 3) := by decide +kernel
theorem dX0_becomeSum_5 : decode cX0_becomeSum 5 = .ok (.aload_n 2, 1) := by decide +kernel
theorem dX0_becomeSum_6 : decode cX0_becomeSum 6 = .ok (.getfield 9, 3) := by decide +kernel
theorem dX0_becomeSum_9 : decode cX0_becomeSum 9 = .ok (.iadd, 1) := by decide +kernel
theorem dX0_becomeSum_10 : decode cX0_becomeSum 10 = .ok (.invokevirtual 57, 3) := by decide +kernel
theorem dX0_becomeSum_13 : decode cX0_becomeSum 13 = .ok (.aload_n 0, 1) := by decide +kernel
theorem dX0_becomeSum_14 : decode cX0_becomeSum 14 = .ok (.aload_n 1, 1) := by decide +kernel
theorem dX0_becomeSum_15 : decode cX0_becomeSum 15 = .ok (.iconst 0, 1) := by decide +kernel
theorem dX0_becomeSum_16 : decode cX0_becomeSum 16 = .ok (.invokevirtual 61, 3) := by decide +kernel
theorem dX0_becomeSum_19 : decode cX0_becomeSum 19 = .ok (.aload_n 0, 1) := by decide +kernel
theorem dX0_becomeSum_20 : decode cX0_becomeSum 20 = .ok (.aload_n 2, 1) := by decide +kernel
theorem dX0_becomeSum_21 : decode cX0_becomeSum 21 = .ok (.aload_n 1, 1) := by decide +kernel
theorem dX0_becomeSum_22 : decode cX0_becomeSum 22 = .ok (.getfield 9, 3) := by decide +kernel
theorem dX0_becomeSum_25 : decode cX0_becomeSum 25 = .ok (.invokevirtual 61, 3) := by decide +kernel
theorem dX0_becomeSum_28 : decode cX0_becomeSum 28 = .ok (.return_, 1) := by decide +kernel
theorem dX0_becomeDifference_0 : decode cX0_becomeDifference 0 = .ok (.aload_n 0, 1) := by decide +kernel
theorem dX0_becomeDifference_1 : decode cX0_becomeDifference 1 = .ok (.aload_n 1, 1) := by decide +kernel
theorem dX0_becomeDifference_2 : decode cX0_becomeDifference 2 = .ok (.aload_n 2, 1) := by decide +kernel
theorem dX0_becomeDifference_3 : decode cX0_becomeDifference 3 = .ok (.invokevirtual 65, 3) := by decide +kernel
theorem dX0_becomeDifference_6 : decode cX0_becomeDifference 6 = .ok (.aload_n 1, 1) := by decide +kernel
theorem dX0_becomeDifference_7 : decode cX0_becomeDifference 7 = .ok (.getfield 9, 3) := by decide +kernel
theorem dX0_becomeDifference_10 : decode cX0_becomeDifference 10 = .ok (.istore_n 3, 1) := by decide +kernel
theorem dX0_becomeDifference_11 : decode cX0_becomeDifference 11 = .ok (.iload_n 3, 1) := by decide +kernel
theorem dX0_becomeDifference_12 : decode cX0_becomeDifference 12 = .ok (.aload_n 0, 1) := by decide +kernel
theorem dX0_becomeDifference_13 : decode cX0_becomeDifference 13 = .ok (.getfield 9, 3) := by decide +kernel
theorem dX0_becomeDifference_16 : decode cX0_becomeDifference 16 = .ok (.if_icmp .ge 29, 3) := by decide +kernel
theorem dX0_becomeDifference_19 : decode cX0_becomeDifference 19 = .ok (.aload_n 0, 1) := by decide +kernel
theorem dX0_becomeDifference_20 : decode cX0_becomeDifference 20 = .ok (.getfield 15, 3) := by decide +kernel
theorem dX0_becomeDifference_23 : decode cX0_becomeDifference 23 = .ok (.iload_n 3, 1) := by decide +kernel
theorem dX0_becomeDifference_24 : decode cX0_becomeDifference 24 = .ok (.sipush 10007, 3) := by decide +kernel
theorem dX0_becomeDifference_27 : decode cX0_becomeDifference 27 = .ok (.aload_n 0, 1) := by decide +kernel
theorem dX0_becomeDifference_28 : decode cX0_becomeDifference 28 = .ok (.getfield 15, 3) := by decide +kernel
theorem dX0_becomeDifference_31 : decode cX0_becomeDifference 31 = .ok (.iload_n 3, 1) := by decide +kernel
theorem dX0_becomeDifference_32 : decode cX0_becomeDifference 32 = .ok (.iaload, 1) := by decide +kernel
theorem dX0_becomeDifference_33 : decode cX0_becomeDifference 33 = .ok (.isub, 1) := by decide +kernel
theorem dX0_becomeDifference_34 : decode cX0_becomeDifference 34 = .ok (.sipush 10007, 3) := by decide +kernel
theorem dX0_becomeDifference_37 : decode cX0_becomeDifference 37 = .ok (.irem, 1) := by decide +kernel
theorem dX0_becomeDifference_38 : decode cX0_becomeDifference 38 = .ok (.iastore, 1) := by decide +kernel
theorem dX0_becomeDifference_39 : decode cX0_becomeDifference 39 = .ok (.iinc 3 1, 3) := by decide +kernel
theorem dX0_becomeDifference_42 : decode cX0_becomeDifference 42 = .ok (.goto (-31), 3) := by decide +kernel
theorem dX0_becomeDifference_45 : decode cX0_becomeDifference 45 = .ok (.return_, 1) := by decide +kernel
theorem dX0_placeBlock_0 : decode cX0_placeBlock 0 = .ok (.aload_n 1, 1) := by decide +kernel
theorem dX0_placeBlock_1 : decode cX0_placeBlock 1 = .ok (.getfield 9, 3) := by decide +kernel
theorem dX0_placeBlock_4 : decode cX0_placeBlock 4 = .ok (.istore_n 3, 1) := by decide +kernel
theorem dX0_placeBlock_5 : decode cX0_placeBlock 5 = .ok (.aload_n 1, 1) := by decide +kernel
theorem dX0_placeBlock_6 : decode cX0_placeBlock 6 = .ok (.getfield 15, 3) := by decide +kernel
theorem dX0_placeBlock_9 : decode cX0_placeBlock 9 = .ok (.iconst 0, 1) := by decide +kernel
theorem dX0_placeBlock_10 : decode cX0_placeBlock 10 = .ok (.aload_n 0, 1) := by decide +kernel
theorem dX0_placeBlock_11 : decode cX0_placeBlock 11 = .ok (.getfield 15, 3) := by decide +kernel
theorem dX0_placeBlock_14 : decode cX0_placeBlock 14 = .ok (.iload_n 2, 1) := by decide +kernel
theorem dX0_placeBlock_15 : decode cX0_placeBlock 15 = .ok (.iload_n 3, 1) := by decide +kernel
theorem dX0_placeBlock_16 : decode cX0_placeBlock 16 = .ok (.invokestatic 33, 3) := by decide +kernel
theorem dX0_placeBlock_19 : decode cX0_placeBlock 19 = .ok (.aload_n 1, 1) := by decide +kernel
theorem dX0_placeBlock_20 : decode cX0_placeBlock 20 = .ok (.getfield 19, 3) := by decide +kernel
theorem dX0_placeBlock_23 : decode cX0_placeBlock 23 = .ok (.iconst 0, 1) := by decide +kernel
theorem dX0_placeBlock_24 : decode cX0_placeBlock 24 = .ok (.aload_n 0, 1) := by decide +kernel
theorem dX0_placeBlock_25 : decode cX0_placeBlock 25 = .ok (.getfield 19, 3) := by decide +kernel
theorem dX0_placeBlock_28 : decode cX0_placeBlock 28 = .ok (.iload_n 2, 1) := by decide +kernel
theorem dX0_placeBlock_29 : decode cX0_placeBlock 29 = .ok (.iload_n 3, 1) := by decide +kernel
theorem dX0_placeBlock_30 : decode cX0_placeBlock 30 = .ok (.invokestatic 33, 3) := by decide +kernel
theorem dX0_placeBlock_33 : decode cX0_placeBlock 33 = .ok (.iconst 0, 1) := by decide +kernel
theorem dX0_placeBlock_34 : decode cX0_placeBlock 34 = .ok (.istore 4, 2) := by decide +kernel
theorem dX0_placeBlock_36 : decode cX0_placeBlock 36 = .ok (.iload 4, 2) := by decide +kernel
theorem dX0_placeBlock_38 : decode cX0_placeBlock 38 = .ok (.iconst 2, 1) := by decide +kernel
theorem dX0_placeBlock_39 : decode cX0_placeBlock 39 = .ok (.if_icmp .ge 57, 3) := by decide +kernel
theorem dX0_placeBlock_42 : decode cX0_placeBlock 42 = .ok (.iconst 0, 1) := by decide +kernel
theorem dX0_placeBlock_43 : decode cX0_placeBlock 43 = .ok (.istore 5, 2) := by decide +kernel
theorem dX0_placeBlock_45 : decode cX0_placeBlock 45 = .ok (.iload 5, 2) := by decide +kernel
theorem dX0_placeBlock_47 : decode cX0_placeBlock 47 = .ok (.iload_n 3, 1) := by decide +kernel
theorem dX0_placeBlock_48 : decode cX0_placeBlock 48 = .ok (.if_icmp .ge 42, 3) := by decide +kernel
theorem dX0_placeBlock_51 : decode cX0_placeBlock 51 = .ok (.aload_n 1, 1) := by decide +kernel
theorem dX0_placeBlock_52 : decode cX0_placeBlock 52 = .ok (.getfield 24, 3) := by decide +kernel
theorem dX0_placeBlock_55 : decode cX0_placeBlock 55 = .ok (.iload 4, 2) := by decide +kernel
theorem dX0_placeBlock_57 : decode cX0_placeBlock 57 = .ok (.aaload, 1) := by decide +kernel
theorem dX0_placeBlock_58 : decode cX0_placeBlock 58 = .ok (.iload 5, 2) := by decide +kernel
theorem dX0_placeBlock_60 : decode cX0_placeBlock 60 = .ok (.iload_n 3, 1) := by decide +kernel
theorem dX0_placeBlock_61 : decode cX0_placeBlock 61 = .ok (.imul, 1) := by decide +kernel
theorem dX0_placeBlock_62 : decode cX0_placeBlock 62 = .ok (.aload_n 0, 1) := by decide +kernel
theorem dX0_placeBlock_63 : decode cX0_placeBlock 63 = .ok (.getfield 24, 3) := by decide +kernel
theorem dX0_placeBlock_66 : decode cX0_placeBlock 66 = .ok (.iload 4, 2) := by decide +kernel
theorem dX0_placeBlock_68 : decode cX0_placeBlock 68 = .ok (.aaload, 1) := by decide +kernel
theorem dX0_placeBlock_69 : decode cX0_placeBlock 69 = .ok (.iload_n 2, 1) := by decide +kernel
theorem dX0_placeBlock_70 : decode cX0_placeBlock 70 = .ok (.iload 5, 2) := by decide +kernel
theorem dX0_placeBlock_72 : decode cX0_placeBlock 72 = .ok (.iadd, 1) := by decide +kernel
theorem dX0_placeBlock_73 : decode cX0_placeBlock 73 = .ok (.aload_n 0, 1) := by decide +kernel
theorem dX0_placeBlock_74 : decode cX0_placeBlock 74 = .ok (.getfield 9, 3) := by decide +kernel
theorem dX0_placeBlock_77 : decode cX0_placeBlock 77 = .ok (.imul, 1) := by decide +kernel
theorem dX0_placeBlock_78 : decode cX0_placeBlock 78 = .ok (.iload_n 2, 1) := by decide +kernel
theorem dX0_placeBlock_79 : decode cX0_placeBlock 79 = .ok (.iadd, 1) := by decide +kernel
theorem dX0_placeBlock_80 : decode cX0_placeBlock 80 = .ok (.iload_n 3, 1) := by decide +kernel
theorem dX0_placeBlock_81 : decode cX0_placeBlock 81 = .ok (.invokestatic 33, 3) := by decide +kernel
theorem dX0_placeBlock_84 : decode cX0_placeBlock 84 = .ok (.iinc 5 1, 3) := by decide +kernel
theorem dX0_placeBlock_87 : decode cX0_placeBlock 87 = .ok (.goto (-42), 3) := by decide +kernel
theorem dX0_placeBlock_90 : decode cX0_placeBlock 90 = .ok (.iinc 4 1, 3) := by decide +kernel
theorem dX0_placeBlock_93 : decode cX0_placeBlock 93 = .ok (.goto (-57), 3) := by decide +kernel
theorem dX0_placeBlock_96 : decode cX0_placeBlock 96 = .ok (.return_, 1) := by decide +kernel
theorem dX0_becomeHadamard_0 : decode cX0_becomeHadamard 0 = .ok (.aload_n 0, 1) := by decide +kernel
theorem dX0_becomeHadamard_1 : decode cX0_becomeHadamard 1 = .ok (.aload_n 1, 1) := by decide +kernel
theorem dX0_becomeHadamard_2 : decode cX0_becomeHadamard 2 = .ok (.getfield 9, 3) := by decide +kernel
theorem dX0_becomeHadamard_5 : decode cX0_becomeHadamard 5 = .ok (.aload_n 2, 1) := by decide +kernel
theorem dX0_becomeHadamard_6 : decode cX0_becomeHadamard 6 = .ok (.getfield 9, 3) := by decide +kernel
theorem dX0_becomeHadamard_9 : decode cX0_becomeHadamard 9 = .ok (.imul, 1) := by decide +kernel
theorem dX0_becomeHadamard_10 : decode cX0_becomeHadamard 10 = .ok (.putfield 9, 3) := by decide +kernel
theorem dX0_becomeHadamard_13 : decode cX0_becomeHadamard 13 = .ok (.iconst 0, 1) := by decide +kernel
theorem dX0_becomeHadamard_14 : decode cX0_becomeHadamard 14 = .ok (.istore_n 3, 1) := by decide +kernel
theorem dX0_becomeHadamard_15 : decode cX0_becomeHadamard 15 = .ok (.iload_n 3, 1) := by decide +kernel
theorem dX0_becomeHadamard_16 : decode cX0_becomeHadamard 16 = .ok (.aload_n 1, 1) := by decide +kernel
theorem dX0_becomeHadamard_17 : decode cX0_becomeHadamard 17 = .ok (.getfield 9, 3) := by decide +kernel
theorem dX0_becomeHadamard_20 : decode cX0_becomeHadamard 20 = .ok (.if_icmp .ge 114, 3) := by decide +kernel
theorem dX0_becomeHadamard_23 : decode cX0_becomeHadamard 23 = .ok (.iconst 0, 1) := by decide +kernel
theorem dX0_becomeHadamard_24 : decode cX0_becomeHadamard 24 = .ok (.istore 4, 2) := by decide +kernel
theorem dX0_becomeHadamard_26 : decode cX0_becomeHadamard 26 = .ok (.iload 4, 2) := by decide +kernel
theorem dX0_becomeHadamard_28 : decode cX0_becomeHadamard 28 = .ok (.aload_n 2, 1) := by decide +kernel
theorem dX0_becomeHadamard_29 : decode cX0_becomeHadamard 29 = .ok (.getfield 9, 3) := by decide +kernel
theorem dX0_becomeHadamard_32 : decode cX0_becomeHadamard 32 = .ok (.if_icmp .ge 96, 3) := by decide +kernel
theorem dX0_becomeHadamard_35 : decode cX0_becomeHadamard 35 = .ok (.aload_n 2, 1) := by decide +kernel
theorem dX0_becomeHadamard_36 : decode cX0_becomeHadamard 36 = .ok (.getfield 9, 3) := by decide +kernel
theorem dX0_becomeHadamard_39 : decode cX0_becomeHadamard 39 = .ok (.iload_n 3, 1) := by decide +kernel
theorem dX0_becomeHadamard_40 : decode cX0_becomeHadamard 40 = .ok (.imul, 1) := by decide +kernel
theorem dX0_becomeHadamard_41 : decode cX0_becomeHadamard 41 = .ok (.iload 4, 2) := by decide +kernel
theorem dX0_becomeHadamard_43 : decode cX0_becomeHadamard 43 = .ok (.iadd, 1) := by decide +kernel
theorem dX0_becomeHadamard_44 : decode cX0_becomeHadamard 44 = .ok (.istore 5, 2) := by decide +kernel
theorem dX0_becomeHadamard_46 : decode cX0_becomeHadamard 46 = .ok (.aload_n 0, 1) := by decide +kernel
theorem dX0_becomeHadamard_47 : decode cX0_becomeHadamard 47 = .ok (.getfield 15, 3) := by decide +kernel
theorem dX0_becomeHadamard_50 : decode cX0_becomeHadamard 50 = .ok (.iload 5, 2) := by decide +kernel
theorem dX0_becomeHadamard_52 : decode cX0_becomeHadamard 52 = .ok (.aload_n 1, 1) := by decide +kernel
theorem dX0_becomeHadamard_53 : decode cX0_becomeHadamard 53 = .ok (.getfield 15, 3) := by decide +kernel
theorem dX0_becomeHadamard_56 : decode cX0_becomeHadamard 56 = .ok (.iload_n 3, 1) := by decide +kernel
theorem dX0_becomeHadamard_57 : decode cX0_becomeHadamard 57 = .ok (.iaload, 1) := by decide +kernel
theorem dX0_becomeHadamard_58 : decode cX0_becomeHadamard 58 = .ok (.aload_n 2, 1) := by decide +kernel
theorem dX0_becomeHadamard_59 : decode cX0_becomeHadamard 59 = .ok (.getfield 15, 3) := by decide +kernel
theorem dX0_becomeHadamard_62 : decode cX0_becomeHadamard 62 = .ok (.iload 4, 2) := by decide +kernel
theorem dX0_becomeHadamard_64 : decode cX0_becomeHadamard 64 = .ok (.iaload, 1) := by decide +kernel
theorem dX0_becomeHadamard_65 : decode cX0_becomeHadamard 65 = .ok (.imul, 1) := by decide +kernel
theorem dX0_becomeHadamard_66 : decode cX0_becomeHadamard 66 = .ok (.sipush 10007, 3) := by decide +kernel
theorem dX0_becomeHadamard_69 : decode cX0_becomeHadamard 69 = .ok (.irem, 1) := by decide +kernel
theorem dX0_becomeHadamard_70 : decode cX0_becomeHadamard 70 = .ok (.iastore, 1) := by decide +kernel
theorem dX0_becomeHadamard_71 : decode cX0_becomeHadamard 71 = .ok (.aload_n 0, 1) := by decide +kernel
theorem dX0_becomeHadamard_72 : decode cX0_becomeHadamard 72 = .ok (.getfield 19, 3) := by decide +kernel
theorem dX0_becomeHadamard_75 : decode cX0_becomeHadamard 75 = .ok (.iload 5, 2) := by decide +kernel
theorem dX0_becomeHadamard_77 : decode cX0_becomeHadamard 77 = .ok (.aload_n 1, 1) := by decide +kernel
theorem dX0_becomeHadamard_78 : decode cX0_becomeHadamard 78 = .ok (.getfield 19, 3) := by decide +kernel
theorem dX0_becomeHadamard_81 : decode cX0_becomeHadamard 81 = .ok (.iload_n 3, 1) := by decide +kernel
theorem dX0_becomeHadamard_82 : decode cX0_becomeHadamard 82 = .ok (.iaload, 1) := by decide +kernel
theorem dX0_becomeHadamard_83 : decode cX0_becomeHadamard 83 = .ok (.aload_n 2, 1) := by decide +kernel
theorem dX0_becomeHadamard_84 : decode cX0_becomeHadamard 84 = .ok (.getfield 19, 3) := by decide +kernel
theorem dX0_becomeHadamard_87 : decode cX0_becomeHadamard 87 = .ok (.iload 4, 2) := by decide +kernel
theorem dX0_becomeHadamard_89 : decode cX0_becomeHadamard 89 = .ok (.iaload, 1) := by decide +kernel
theorem dX0_becomeHadamard_90 : decode cX0_becomeHadamard 90 = .ok (.imul, 1) := by decide +kernel
theorem dX0_becomeHadamard_91 : decode cX0_becomeHadamard 91 = .ok (.sipush 10007, 3) := by decide +kernel
theorem dX0_becomeHadamard_94 : decode cX0_becomeHadamard 94 = .ok (.irem, 1) := by decide +kernel
theorem dX0_becomeHadamard_95 : decode cX0_becomeHadamard 95 = .ok (.iastore, 1) := by decide +kernel
theorem dX0_becomeHadamard_96 : decode cX0_becomeHadamard 96 = .ok (.iconst 0, 1) := by decide +kernel
theorem dX0_becomeHadamard_97 : decode cX0_becomeHadamard 97 = .ok (.istore 6, 2) := by decide +kernel
theorem dX0_becomeHadamard_99 : decode cX0_becomeHadamard 99 = .ok (.iload 6, 2) := by decide +kernel
theorem dX0_becomeHadamard_101 : decode cX0_becomeHadamard 101 = .ok (.iconst 2, 1) := by decide +kernel
theorem dX0_becomeHadamard_102 : decode cX0_becomeHadamard 102 = .ok (.if_icmp .ge 20, 3) := by decide +kernel
theorem dX0_becomeHadamard_105 : decode cX0_becomeHadamard 105 = .ok (.aload_n 0, 1) := by decide +kernel
theorem dX0_becomeHadamard_106 : decode cX0_becomeHadamard 106 = .ok (.aload_n 1, 1) := by decide +kernel
theorem dX0_becomeHadamard_107 : decode cX0_becomeHadamard 107 = .ok (.iload_n 3, 1) := by decide +kernel
theorem dX0_becomeHadamard_108 : decode cX0_becomeHadamard 108 = .ok (.aload_n 2, 1) := by decide +kernel
theorem dX0_becomeHadamard_109 : decode cX0_becomeHadamard 109 = .ok (.iload 4, 2) := by decide +kernel
theorem dX0_becomeHadamard_111 : decode cX0_becomeHadamard 111 = .ok (.iload 6, 2) := by decide +kernel
theorem dX0_becomeHadamard_113 : decode cX0_becomeHadamard 113 = .ok (.invokevirtual 69, 3) := by decide +kernel
theorem dX0_becomeHadamard_116 : decode cX0_becomeHadamard 116 = .ok (.iinc 6 1, 3) := by decide +kernel
theorem dX0_becomeHadamard_119 : decode cX0_becomeHadamard 119 = .ok (.goto (-20), 3) := by decide +kernel
theorem dX0_becomeHadamard_122 : decode cX0_becomeHadamard 122 = .ok (.iinc 4 1, 3) := by decide +kernel
theorem dX0_becomeHadamard_125 : decode cX0_becomeHadamard 125 = .ok (.goto (-99), 3) := by decide +kernel
theorem dX0_becomeHadamard_128 : decode cX0_becomeHadamard 128 = .ok (.iinc 3 1, 3) := by decide +kernel
theorem dX0_becomeHadamard_131 : decode cX0_becomeHadamard 131 = .ok (.goto (-116), 3) := by decide +kernel
theorem dX0_becomeHadamard_134 : decode cX0_becomeHadamard 134 = .ok (.return_, 1) := by decide +kernel
theorem dX0_placeProducts_0 : decode cX0_placeProducts 0 = .ok (.aload_n 3, 1) := by decide +kernel
theorem dX0_placeProducts_1 : decode cX0_placeProducts 1 = .ok (.getfield 9, 3) := by decide +kernel
theorem dX0_placeProducts_4 : decode cX0_placeProducts 4 = .ok (.iload_n 2, 1) := by decide +kernel
theorem dX0_placeProducts_5 : decode cX0_placeProducts 5 = .ok (.imul, 1) := by decide +kernel
theorem dX0_placeProducts_6 : decode cX0_placeProducts 6 = .ok (.iload 4, 2) := by decide +kernel
theorem dX0_placeProducts_8 : decode cX0_placeProducts 8 = .ok (.iadd, 1) := by decide +kernel
theorem dX0_placeProducts_9 : decode cX0_placeProducts 9 = .ok (.aload_n 0, 1) := by decide +kernel
theorem dX0_placeProducts_10 : decode cX0_placeProducts 10 = .ok (.getfield 9, 3) := by decide +kernel
theorem dX0_placeProducts_13 : decode cX0_placeProducts 13 = .ok (.imul, 1) := by decide +kernel
theorem dX0_placeProducts_14 : decode cX0_placeProducts 14 = .ok (.istore 6, 2) := by decide +kernel
theorem dX0_placeProducts_16 : decode cX0_placeProducts 16 = .ok (.iconst 0, 1) := by decide +kernel
theorem dX0_placeProducts_17 : decode cX0_placeProducts 17 = .ok (.istore 7, 2) := by decide +kernel
theorem dX0_placeProducts_19 : decode cX0_placeProducts 19 = .ok (.iload 7, 2) := by decide +kernel
theorem dX0_placeProducts_21 : decode cX0_placeProducts 21 = .ok (.aload_n 1, 1) := by decide +kernel
theorem dX0_placeProducts_22 : decode cX0_placeProducts 22 = .ok (.getfield 9, 3) := by decide +kernel
theorem dX0_placeProducts_25 : decode cX0_placeProducts 25 = .ok (.if_icmp .ge 96, 3) := by decide +kernel
theorem dX0_placeProducts_28 : decode cX0_placeProducts 28 = .ok (.aload_n 1, 1) := by decide +kernel
theorem dX0_placeProducts_29 : decode cX0_placeProducts 29 = .ok (.getfield 24, 3) := by decide +kernel
theorem dX0_placeProducts_32 : decode cX0_placeProducts 32 = .ok (.iload 5, 2) := by decide +kernel
theorem dX0_placeProducts_34 : decode cX0_placeProducts 34 = .ok (.aaload, 1) := by decide +kernel
theorem dX0_placeProducts_35 : decode cX0_placeProducts 35 = .ok (.iload_n 2, 1) := by decide +kernel
theorem dX0_placeProducts_36 : decode cX0_placeProducts 36 = .ok (.aload_n 1, 1) := by decide +kernel
theorem dX0_placeProducts_37 : decode cX0_placeProducts 37 = .ok (.getfield 9, 3) := by decide +kernel
theorem dX0_placeProducts_40 : decode cX0_placeProducts 40 = .ok (.imul, 1) := by decide +kernel
theorem dX0_placeProducts_41 : decode cX0_placeProducts 41 = .ok (.iload 7, 2) := by decide +kernel
theorem dX0_placeProducts_43 : decode cX0_placeProducts 43 = .ok (.iadd, 1) := by decide +kernel
theorem dX0_placeProducts_44 : decode cX0_placeProducts 44 = .ok (.iaload, 1) := by decide +kernel
theorem dX0_placeProducts_45 : decode cX0_placeProducts 45 = .ok (.istore 8, 2) := by decide +kernel
theorem dX0_placeProducts_47 : decode cX0_placeProducts 47 = .ok (.iconst 0, 1) := by decide +kernel
theorem dX0_placeProducts_48 : decode cX0_placeProducts 48 = .ok (.istore 9, 2) := by decide +kernel
theorem dX0_placeProducts_50 : decode cX0_placeProducts 50 = .ok (.iload 9, 2) := by decide +kernel
theorem dX0_placeProducts_52 : decode cX0_placeProducts 52 = .ok (.aload_n 3, 1) := by decide +kernel
theorem dX0_placeProducts_53 : decode cX0_placeProducts 53 = .ok (.getfield 9, 3) := by decide +kernel
theorem dX0_placeProducts_56 : decode cX0_placeProducts 56 = .ok (.if_icmp .ge 59, 3) := by decide +kernel
theorem dX0_placeProducts_59 : decode cX0_placeProducts 59 = .ok (.aload_n 3, 1) := by decide +kernel
theorem dX0_placeProducts_60 : decode cX0_placeProducts 60 = .ok (.getfield 24, 3) := by decide +kernel
theorem dX0_placeProducts_63 : decode cX0_placeProducts 63 = .ok (.iload 5, 2) := by decide +kernel
theorem dX0_placeProducts_65 : decode cX0_placeProducts 65 = .ok (.aaload, 1) := by decide +kernel
theorem dX0_placeProducts_66 : decode cX0_placeProducts 66 = .ok (.iload 4, 2) := by decide +kernel
theorem dX0_placeProducts_68 : decode cX0_placeProducts 68 = .ok (.aload_n 3, 1) := by decide +kernel
theorem dX0_placeProducts_69 : decode cX0_placeProducts 69 = .ok (.getfield 9, 3) := by decide +kernel
theorem dX0_placeProducts_72 : decode cX0_placeProducts 72 = .ok (.imul, 1) := by decide +kernel
theorem dX0_placeProducts_73 : decode cX0_placeProducts 73 = .ok (.iload 9, 2) := by decide +kernel
theorem dX0_placeProducts_75 : decode cX0_placeProducts 75 = .ok (.iadd, 1) := by decide +kernel
theorem dX0_placeProducts_76 : decode cX0_placeProducts 76 = .ok (.iaload, 1) := by decide +kernel
theorem dX0_placeProducts_77 : decode cX0_placeProducts 77 = .ok (.istore 10, 2) := by decide +kernel
theorem dX0_placeProducts_79 : decode cX0_placeProducts 79 = .ok (.aload_n 0, 1) := by decide +kernel
theorem dX0_placeProducts_80 : decode cX0_placeProducts 80 = .ok (.getfield 24, 3) := by decide +kernel
theorem dX0_placeProducts_83 : decode cX0_placeProducts 83 = .ok (.iload 5, 2) := by decide +kernel
theorem dX0_placeProducts_85 : decode cX0_placeProducts 85 = .ok (.aaload, 1) := by decide +kernel
theorem dX0_placeProducts_86 : decode cX0_placeProducts 86 = .ok (.iload 6, 2) := by decide +kernel
theorem dX0_placeProducts_88 : decode cX0_placeProducts 88 = .ok (.aload_n 3, 1) := by decide +kernel
theorem dX0_placeProducts_89 : decode cX0_placeProducts 89 = .ok (.getfield 9, 3) := by decide +kernel
theorem dX0_placeProducts_92 : decode cX0_placeProducts 92 = .ok (.iload 7, 2) := by decide +kernel
theorem dX0_placeProducts_94 : decode cX0_placeProducts 94 = .ok (.imul, 1) := by decide +kernel
theorem dX0_placeProducts_95 : decode cX0_placeProducts 95 = .ok (.iadd, 1) := by decide +kernel
theorem dX0_placeProducts_96 : decode cX0_placeProducts 96 = .ok (.iload 9, 2) := by decide +kernel
theorem dX0_placeProducts_98 : decode cX0_placeProducts 98 = .ok (.iadd, 1) := by decide +kernel
theorem dX0_placeProducts_99 : decode cX0_placeProducts 99 = .ok (.iload 8, 2) := by decide +kernel
theorem dX0_placeProducts_101 : decode cX0_placeProducts 101 = .ok (.iload 10, 2) := by decide +kernel
theorem dX0_placeProducts_103 : decode cX0_placeProducts 103 = .ok (.imul, 1) := by decide +kernel
theorem dX0_placeProducts_104 : decode cX0_placeProducts 104 = .ok (.sipush 10007, 3) := by decide +kernel
theorem dX0_placeProducts_107 : decode cX0_placeProducts 107 = .ok (.irem, 1) := by decide +kernel
theorem dX0_placeProducts_108 : decode cX0_placeProducts 108 = .ok (.iastore, 1) := by decide +kernel
theorem dX0_placeProducts_109 : decode cX0_placeProducts 109 = .ok (.iinc 9 1, 3) := by decide +kernel
theorem dX0_placeProducts_112 : decode cX0_placeProducts 112 = .ok (.goto (-62), 3) := by decide +kernel
theorem dX0_placeProducts_115 : decode cX0_placeProducts 115 = .ok (.iinc 7 1, 3) := by decide +kernel
theorem dX0_placeProducts_118 : decode cX0_placeProducts 118 = .ok (.goto (-99), 3) := by decide +kernel
theorem dX0_placeProducts_121 : decode cX0_placeProducts 121 = .ok (.return_, 1) := by decide +kernel
theorem dX0_becomeCauchy_0 : decode cX0_becomeCauchy 0 = .ok (.aload_n 0, 1) := by decide +kernel
theorem dX0_becomeCauchy_1 : decode cX0_becomeCauchy 1 = .ok (.aload_n 1, 1) := by decide +kernel
theorem dX0_becomeCauchy_2 : decode cX0_becomeCauchy 2 = .ok (.aload_n 2, 1) := by decide +kernel
theorem dX0_becomeCauchy_3 : decode cX0_becomeCauchy 3 = .ok (.invokevirtual 65, 3) := by decide +kernel
theorem dX0_becomeCauchy_6 : decode cX0_becomeCauchy 6 = .ok (.aload_n 1, 1) := by decide +kernel
theorem dX0_becomeCauchy_7 : decode cX0_becomeCauchy 7 = .ok (.getfield 9, 3) := by decide +kernel
theorem dX0_becomeCauchy_10 : decode cX0_becomeCauchy 10 = .ok (.istore_n 3, 1) := by decide +kernel
theorem dX0_becomeCauchy_11 : decode cX0_becomeCauchy 11 = .ok (.aload_n 0, 1) := by decide +kernel
theorem dX0_becomeCauchy_12 : decode cX0_becomeCauchy 12 = .ok (.getfield 19, 3) := by decide +kernel
theorem dX0_becomeCauchy_15 : decode cX0_becomeCauchy 15 = .ok (.aload_n 2, 1) := by decide +kernel
theorem dX0_becomeCauchy_16 : decode cX0_becomeCauchy 16 = .ok (.invokevirtual 73, 3) := by decide +kernel
theorem dX0_becomeCauchy_19 : decode cX0_becomeCauchy 19 = .ok (.iload_n 3, 1) := by decide +kernel
theorem dX0_becomeCauchy_20 : decode cX0_becomeCauchy 20 = .ok (.invokestatic 77, 3) := by decide +kernel
theorem dX0_becomeCauchy_23 : decode cX0_becomeCauchy 23 = .ok (.aload_n 1, 1) := by decide +kernel
theorem dX0_becomeCauchy_24 : decode cX0_becomeCauchy 24 = .ok (.invokevirtual 73, 3) := by decide +kernel
theorem dX0_becomeCauchy_27 : decode cX0_becomeCauchy 27 = .ok (.istore 4, 2) := by decide +kernel
theorem dX0_becomeCauchy_29 : decode cX0_becomeCauchy 29 = .ok (.iload_n 3, 1) := by decide +kernel
theorem dX0_becomeCauchy_30 : decode cX0_becomeCauchy 30 = .ok (.istore 5, 2) := by decide +kernel
theorem dX0_becomeCauchy_32 : decode cX0_becomeCauchy 32 = .ok (.iload 5, 2) := by decide +kernel
theorem dX0_becomeCauchy_34 : decode cX0_becomeCauchy 34 = .ok (.aload_n 0, 1) := by decide +kernel
theorem dX0_becomeCauchy_35 : decode cX0_becomeCauchy 35 = .ok (.getfield 9, 3) := by decide +kernel
theorem dX0_becomeCauchy_38 : decode cX0_becomeCauchy 38 = .ok (.if_icmp .ge 30, 3) := by decide +kernel
theorem dX0_becomeCauchy_41 : decode cX0_becomeCauchy 41 = .ok (.aload_n 0, 1) := by decide +kernel
theorem dX0_becomeCauchy_42 : decode cX0_becomeCauchy 42 = .ok (.getfield 15, 3) := by decide +kernel
theorem dX0_becomeCauchy_45 : decode cX0_becomeCauchy 45 = .ok (.iload 5, 2) := by decide +kernel
theorem dX0_becomeCauchy_47 : decode cX0_becomeCauchy 47 = .ok (.aload_n 0, 1) := by decide +kernel
theorem dX0_becomeCauchy_48 : decode cX0_becomeCauchy 48 = .ok (.getfield 15, 3) := by decide +kernel
theorem dX0_becomeCauchy_51 : decode cX0_becomeCauchy 51 = .ok (.iload 5, 2) := by decide +kernel
theorem dX0_becomeCauchy_53 : decode cX0_becomeCauchy 53 = .ok (.iaload, 1) := by decide +kernel
theorem dX0_becomeCauchy_54 : decode cX0_becomeCauchy 54 = .ok (.iload 4, 2) := by decide +kernel
theorem dX0_becomeCauchy_56 : decode cX0_becomeCauchy 56 = .ok (.imul, 1) := by decide +kernel
theorem dX0_becomeCauchy_57 : decode cX0_becomeCauchy 57 = .ok (.sipush 10007, 3) := by decide +kernel
theorem dX0_becomeCauchy_60 : decode cX0_becomeCauchy 60 = .ok (.irem, 1) := by decide +kernel
theorem dX0_becomeCauchy_61 : decode cX0_becomeCauchy 61 = .ok (.iastore, 1) := by decide +kernel
theorem dX0_becomeCauchy_62 : decode cX0_becomeCauchy 62 = .ok (.iinc 5 1, 3) := by decide +kernel
theorem dX0_becomeCauchy_65 : decode cX0_becomeCauchy 65 = .ok (.goto (-33), 3) := by decide +kernel
theorem dX0_becomeCauchy_68 : decode cX0_becomeCauchy 68 = .ok (.iconst 0, 1) := by decide +kernel
theorem dX0_becomeCauchy_69 : decode cX0_becomeCauchy 69 = .ok (.istore 5, 2) := by decide +kernel
theorem dX0_becomeCauchy_71 : decode cX0_becomeCauchy 71 = .ok (.iload 5, 2) := by decide +kernel
theorem dX0_becomeCauchy_73 : decode cX0_becomeCauchy 73 = .ok (.iconst 2, 1) := by decide +kernel
theorem dX0_becomeCauchy_74 : decode cX0_becomeCauchy 74 = .ok (.if_icmp .ge 86, 3) := by decide +kernel
theorem dX0_becomeCauchy_77 : decode cX0_becomeCauchy 77 = .ok (.iconst 0, 1) := by decide +kernel
theorem dX0_becomeCauchy_78 : decode cX0_becomeCauchy 78 = .ok (.istore 6, 2) := by decide +kernel
theorem dX0_becomeCauchy_80 : decode cX0_becomeCauchy 80 = .ok (.iload 6, 2) := by decide +kernel
theorem dX0_becomeCauchy_82 : decode cX0_becomeCauchy 82 = .ok (.iload_n 3, 1) := by decide +kernel
theorem dX0_becomeCauchy_83 : decode cX0_becomeCauchy 83 = .ok (.if_icmp .ge 71, 3) := by decide +kernel
theorem dX0_becomeCauchy_86 : decode cX0_becomeCauchy 86 = .ok (.aload_n 1, 1) := by decide +kernel
theorem dX0_becomeCauchy_87 : decode cX0_becomeCauchy 87 = .ok (.iload 5, 2) := by decide +kernel
theorem dX0_becomeCauchy_89 : decode cX0_becomeCauchy 89 = .ok (.iload 6, 2) := by decide +kernel
theorem dX0_becomeCauchy_91 : decode cX0_becomeCauchy 91 = .ok (.invokevirtual 81, 3) := by decide +kernel
theorem dX0_becomeCauchy_94 : decode cX0_becomeCauchy 94 = .ok (.istore 7, 2) := by decide +kernel
theorem dX0_becomeCauchy_96 : decode cX0_becomeCauchy 96 = .ok (.iconst 0, 1) := by decide +kernel
theorem dX0_becomeCauchy_97 : decode cX0_becomeCauchy 97 = .ok (.istore 8, 2) := by decide +kernel
theorem dX0_becomeCauchy_99 : decode cX0_becomeCauchy 99 = .ok (.iload 8, 2) := by decide +kernel
theorem dX0_becomeCauchy_101 : decode cX0_becomeCauchy 101 = .ok (.aload_n 2, 1) := by decide +kernel
theorem dX0_becomeCauchy_102 : decode cX0_becomeCauchy 102 = .ok (.getfield 9, 3) := by decide +kernel
theorem dX0_becomeCauchy_105 : decode cX0_becomeCauchy 105 = .ok (.if_icmp .ge 43, 3) := by decide +kernel
theorem dX0_becomeCauchy_108 : decode cX0_becomeCauchy 108 = .ok (.aload_n 0, 1) := by decide +kernel
theorem dX0_becomeCauchy_109 : decode cX0_becomeCauchy 109 = .ok (.getfield 24, 3) := by decide +kernel
theorem dX0_becomeCauchy_112 : decode cX0_becomeCauchy 112 = .ok (.iload 5, 2) := by decide +kernel
theorem dX0_becomeCauchy_114 : decode cX0_becomeCauchy 114 = .ok (.aaload, 1) := by decide +kernel
theorem dX0_becomeCauchy_115 : decode cX0_becomeCauchy 115 = .ok (.iload 6, 2) := by decide +kernel
theorem dX0_becomeCauchy_117 : decode cX0_becomeCauchy 117 = .ok (.aload_n 0, 1) := by decide +kernel
theorem dX0_becomeCauchy_118 : decode cX0_becomeCauchy 118 = .ok (.getfield 9, 3) := by decide +kernel
theorem dX0_becomeCauchy_121 : decode cX0_becomeCauchy 121 = .ok (.imul, 1) := by decide +kernel
theorem dX0_becomeCauchy_122 : decode cX0_becomeCauchy 122 = .ok (.iload_n 3, 1) := by decide +kernel
theorem dX0_becomeCauchy_123 : decode cX0_becomeCauchy 123 = .ok (.iadd, 1) := by decide +kernel
theorem dX0_becomeCauchy_124 : decode cX0_becomeCauchy 124 = .ok (.iload 8, 2) := by decide +kernel
theorem dX0_becomeCauchy_126 : decode cX0_becomeCauchy 126 = .ok (.iadd, 1) := by decide +kernel
theorem dX0_becomeCauchy_127 : decode cX0_becomeCauchy 127 = .ok (.iload 7, 2) := by decide +kernel
theorem dX0_becomeCauchy_129 : decode cX0_becomeCauchy 129 = .ok (.aload_n 2, 1) := by decide +kernel
theorem dX0_becomeCauchy_130 : decode cX0_becomeCauchy 130 = .ok (.getfield 15, 3) := by decide +kernel
theorem dX0_becomeCauchy_133 : decode cX0_becomeCauchy 133 = .ok (.iload 8, 2) := by decide +kernel
theorem dX0_becomeCauchy_135 : decode cX0_becomeCauchy 135 = .ok (.iaload, 1) := by decide +kernel
theorem dX0_becomeCauchy_136 : decode cX0_becomeCauchy 136 = .ok (.imul, 1) := by decide +kernel
theorem dX0_becomeCauchy_137 : decode cX0_becomeCauchy 137 = .ok (.sipush 10007, 3) := by decide +kernel
theorem dX0_becomeCauchy_140 : decode cX0_becomeCauchy 140 = .ok (.irem, 1) := by decide +kernel
theorem dX0_becomeCauchy_141 : decode cX0_becomeCauchy 141 = .ok (.iastore, 1) := by decide +kernel
theorem dX0_becomeCauchy_142 : decode cX0_becomeCauchy 142 = .ok (.iinc 8 1, 3) := by decide +kernel
theorem dX0_becomeCauchy_145 : decode cX0_becomeCauchy 145 = .ok (.goto (-46), 3) := by decide +kernel
theorem dX0_becomeCauchy_148 : decode cX0_becomeCauchy 148 = .ok (.iinc 6 1, 3) := by decide +kernel
theorem dX0_becomeCauchy_151 : decode cX0_becomeCauchy 151 = .ok (.goto (-71), 3) := by decide +kernel
theorem dX0_becomeCauchy_154 : decode cX0_becomeCauchy 154 = .ok (.iinc 5 1, 3) := by decide +kernel
theorem dX0_becomeCauchy_157 : decode cX0_becomeCauchy 157 = .ok (.goto (-86), 3) := by decide +kernel
theorem dX0_becomeCauchy_160 : decode cX0_becomeCauchy 160 = .ok (.return_, 1) := by decide +kernel
theorem dX0_hasStar_0 : decode cX0_hasStar 0 = .ok (.aload_n 0, 1) := by decide +kernel
theorem dX0_hasStar_1 : decode cX0_hasStar 1 = .ok (.getfield 9, 3) := by decide +kernel
theorem dX0_hasStar_4 : decode cX0_hasStar 4 = .ok (.bipush 12, 2) := by decide +kernel
theorem dX0_hasStar_6 : decode cX0_hasStar 6 = .ok (.if_icmp .ge 14, 3) := by decide +kernel
theorem dX0_hasStar_9 : decode cX0_hasStar 9 = .ok (.aload_n 0, 1) := by decide +kernel
theorem dX0_hasStar_10 : decode cX0_hasStar 10 = .ok (.invokevirtual 73, 3) := by decide +kernel
theorem dX0_hasStar_13 : decode cX0_hasStar 13 = .ok (.ifCond .ne 7, 3) := by decide +kernel
theorem dX0_hasStar_16 : decode cX0_hasStar 16 = .ok (.iconst 1, 1) := by decide +kernel
theorem dX0_hasStar_17 : decode cX0_hasStar 17 = .ok (.goto 4, 3) := by decide +kernel
theorem dX0_hasStar_20 : decode cX0_hasStar 20 = .ok (.iconst 0, 1) := by decide +kernel
theorem dX0_hasStar_21 : decode cX0_hasStar 21 = .ok (.ireturn, 1) := by decide +kernel
theorem dX0_becomeStar_0 : decode cX0_becomeStar 0 = .ok (.aload_n 0, 1) := by decide +kernel
theorem dX0_becomeStar_1 : decode cX0_becomeStar 1 = .ok (.aload_n 1, 1) := by decide +kernel
theorem dX0_becomeStar_2 : decode cX0_becomeStar 2 = .ok (.getfield 9, 3) := by decide +kernel
theorem dX0_becomeStar_5 : decode cX0_becomeStar 5 = .ok (.iconst 1, 1) := by decide +kernel
theorem dX0_becomeStar_6 : decode cX0_becomeStar 6 = .ok (.iadd, 1) := by decide +kernel
theorem dX0_becomeStar_7 : decode cX0_becomeStar 7 = .ok (.invokevirtual 57, 3) := by decide +kernel
theorem dX0_becomeStar_10 : decode cX0_becomeStar 10 = .ok (.aload_n 0, 1) := by decide +kernel
theorem dX0_becomeStar_11 : decode cX0_becomeStar 11 = .ok (.aload_n 1, 1) := by decide +kernel
theorem dX0_becomeStar_12 : decode cX0_becomeStar 12 = .ok (.iconst 1, 1) := by decide +kernel
theorem dX0_becomeStar_13 : decode cX0_becomeStar 13 = .ok (.invokevirtual 61, 3) := by decide +kernel
theorem dX0_becomeStar_16 : decode cX0_becomeStar 16 = .ok (.aload_n 0, 1) := by decide +kernel
theorem dX0_becomeStar_17 : decode cX0_becomeStar 17 = .ok (.getfield 15, 3) := by decide +kernel
theorem dX0_becomeStar_20 : decode cX0_becomeStar 20 = .ok (.iconst 0, 1) := by decide +kernel
theorem dX0_becomeStar_21 : decode cX0_becomeStar 21 = .ok (.aload_n 0, 1) := by decide +kernel
theorem dX0_becomeStar_22 : decode cX0_becomeStar 22 = .ok (.getfield 9, 3) := by decide +kernel
theorem dX0_becomeStar_25 : decode cX0_becomeStar 25 = .ok (.iconst 0, 1) := by decide +kernel
theorem dX0_becomeStar_26 : decode cX0_becomeStar 26 = .ok (.invokestatic 27, 3) := by decide +kernel
theorem dX0_becomeStar_29 : decode cX0_becomeStar 29 = .ok (.aload_n 0, 1) := by decide +kernel
theorem dX0_becomeStar_30 : decode cX0_becomeStar 30 = .ok (.getfield 19, 3) := by decide +kernel
theorem dX0_becomeStar_33 : decode cX0_becomeStar 33 = .ok (.iconst 0, 1) := by decide +kernel
theorem dX0_becomeStar_34 : decode cX0_becomeStar 34 = .ok (.aload_n 0, 1) := by decide +kernel
theorem dX0_becomeStar_35 : decode cX0_becomeStar 35 = .ok (.getfield 9, 3) := by decide +kernel
theorem dX0_becomeStar_38 : decode cX0_becomeStar 38 = .ok (.iconst 0, 1) := by decide +kernel
theorem dX0_becomeStar_39 : decode cX0_becomeStar 39 = .ok (.invokestatic 27, 3) := by decide +kernel
theorem dX0_becomeStar_42 : decode cX0_becomeStar 42 = .ok (.aload_n 0, 1) := by decide +kernel
theorem dX0_becomeStar_43 : decode cX0_becomeStar 43 = .ok (.getfield 15, 3) := by decide +kernel
theorem dX0_becomeStar_46 : decode cX0_becomeStar 46 = .ok (.iconst 0, 1) := by decide +kernel
theorem dX0_becomeStar_47 : decode cX0_becomeStar 47 = .ok (.iconst 1, 1) := by decide +kernel
theorem dX0_becomeStar_48 : decode cX0_becomeStar 48 = .ok (.iastore, 1) := by decide +kernel
theorem dX0_becomeStar_49 : decode cX0_becomeStar 49 = .ok (.aload_n 0, 1) := by decide +kernel
theorem dX0_becomeStar_50 : decode cX0_becomeStar 50 = .ok (.getfield 19, 3) := by decide +kernel
theorem dX0_becomeStar_53 : decode cX0_becomeStar 53 = .ok (.iconst 0, 1) := by decide +kernel
theorem dX0_becomeStar_54 : decode cX0_becomeStar 54 = .ok (.iconst 1, 1) := by decide +kernel
theorem dX0_becomeStar_55 : decode cX0_becomeStar 55 = .ok (.iastore, 1) := by decide +kernel
theorem dX0_becomeStar_56 : decode cX0_becomeStar 56 = .ok (.iconst 0, 1) := by decide +kernel
theorem dX0_becomeStar_57 : decode cX0_becomeStar 57 = .ok (.istore_n 2, 1) := by decide +kernel
theorem dX0_becomeStar_58 : decode cX0_becomeStar 58 = .ok (.iload_n 2, 1) := by decide +kernel
theorem dX0_becomeStar_59 : decode cX0_becomeStar 59 = .ok (.iconst 2, 1) := by decide +kernel
theorem dX0_becomeStar_60 : decode cX0_becomeStar 60 = .ok (.if_icmp .ge 100, 3) := by decide +kernel
theorem dX0_becomeStar_63 : decode cX0_becomeStar 63 = .ok (.iconst 0, 1) := by decide +kernel
theorem dX0_becomeStar_64 : decode cX0_becomeStar 64 = .ok (.istore_n 3, 1) := by decide +kernel
theorem dX0_becomeStar_65 : decode cX0_becomeStar 65 = .ok (.iconst 0, 1) := by decide +kernel
theorem dX0_becomeStar_66 : decode cX0_becomeStar 66 = .ok (.istore 4, 2) := by decide +kernel
theorem dX0_becomeStar_68 : decode cX0_becomeStar 68 = .ok (.iload 4, 2) := by decide +kernel
theorem dX0_becomeStar_70 : decode cX0_becomeStar 70 = .ok (.aload_n 1, 1) := by decide +kernel
theorem dX0_becomeStar_71 : decode cX0_becomeStar 71 = .ok (.getfield 9, 3) := by decide +kernel
theorem dX0_becomeStar_74 : decode cX0_becomeStar 74 = .ok (.if_icmp .ge 71, 3) := by decide +kernel
theorem dX0_becomeStar_77 : decode cX0_becomeStar 77 = .ok (.aload_n 1, 1) := by decide +kernel
theorem dX0_becomeStar_78 : decode cX0_becomeStar 78 = .ok (.iload_n 2, 1) := by decide +kernel
theorem dX0_becomeStar_79 : decode cX0_becomeStar 79 = .ok (.iload 4, 2) := by decide +kernel
theorem dX0_becomeStar_81 : decode cX0_becomeStar 81 = .ok (.invokevirtual 81, 3) := by decide +kernel
theorem dX0_becomeStar_84 : decode cX0_becomeStar 84 = .ok (.istore 5, 2) := by decide +kernel
theorem dX0_becomeStar_86 : decode cX0_becomeStar 86 = .ok (.iload_n 3, 1) := by decide +kernel
theorem dX0_becomeStar_87 : decode cX0_becomeStar 87 = .ok (.aload_n 1, 1) := by decide +kernel
theorem dX0_becomeStar_88 : decode cX0_becomeStar 88 = .ok (.getfield 15, 3) := by decide +kernel
theorem dX0_becomeStar_91 : decode cX0_becomeStar 91 = .ok (.iload 4, 2) := by decide +kernel
theorem dX0_becomeStar_93 : decode cX0_becomeStar 93 = .ok (.iaload, 1) := by decide +kernel
theorem dX0_becomeStar_94 : decode cX0_becomeStar 94 = .ok (.iload 5, 2) := by decide +kernel
theorem dX0_becomeStar_96 : decode cX0_becomeStar 96 = .ok (.imul, 1) := by decide +kernel
theorem dX0_becomeStar_97 : decode cX0_becomeStar 97 = .ok (.iadd, 1) := by decide +kernel
theorem dX0_becomeStar_98 : decode cX0_becomeStar 98 = .ok (.sipush 10007, 3) := by decide +kernel
theorem dX0_becomeStar_101 : decode cX0_becomeStar 101 = .ok (.irem, 1) := by decide +kernel
theorem dX0_becomeStar_102 : decode cX0_becomeStar 102 = .ok (.istore_n 3, 1) := by decide +kernel
theorem dX0_becomeStar_103 : decode cX0_becomeStar 103 = .ok (.aload_n 0, 1) := by decide +kernel
theorem dX0_becomeStar_104 : decode cX0_becomeStar 104 = .ok (.getfield 24, 3) := by decide +kernel
theorem dX0_becomeStar_107 : decode cX0_becomeStar 107 = .ok (.iload_n 2, 1) := by decide +kernel
theorem dX0_becomeStar_108 : decode cX0_becomeStar 108 = .ok (.aaload, 1) := by decide +kernel
theorem dX0_becomeStar_109 : decode cX0_becomeStar 109 = .ok (.iconst 1, 1) := by decide +kernel
theorem dX0_becomeStar_110 : decode cX0_becomeStar 110 = .ok (.iload 4, 2) := by decide +kernel
theorem dX0_becomeStar_112 : decode cX0_becomeStar 112 = .ok (.iadd, 1) := by decide +kernel
theorem dX0_becomeStar_113 : decode cX0_becomeStar 113 = .ok (.aload_n 0, 1) := by decide +kernel
theorem dX0_becomeStar_114 : decode cX0_becomeStar 114 = .ok (.getfield 9, 3) := by decide +kernel
theorem dX0_becomeStar_117 : decode cX0_becomeStar 117 = .ok (.imul, 1) := by decide +kernel
theorem dX0_becomeStar_118 : decode cX0_becomeStar 118 = .ok (.iload 5, 2) := by decide +kernel
theorem dX0_becomeStar_120 : decode cX0_becomeStar 120 = .ok (.iastore, 1) := by decide +kernel
theorem dX0_becomeStar_121 : decode cX0_becomeStar 121 = .ok (.aload_n 0, 1) := by decide +kernel
theorem dX0_becomeStar_122 : decode cX0_becomeStar 122 = .ok (.getfield 24, 3) := by decide +kernel
theorem dX0_becomeStar_125 : decode cX0_becomeStar 125 = .ok (.iload_n 2, 1) := by decide +kernel
theorem dX0_becomeStar_126 : decode cX0_becomeStar 126 = .ok (.aaload, 1) := by decide +kernel
theorem dX0_becomeStar_127 : decode cX0_becomeStar 127 = .ok (.iconst 1, 1) := by decide +kernel
theorem dX0_becomeStar_128 : decode cX0_becomeStar 128 = .ok (.iload 4, 2) := by decide +kernel
theorem dX0_becomeStar_130 : decode cX0_becomeStar 130 = .ok (.iadd, 1) := by decide +kernel
theorem dX0_becomeStar_131 : decode cX0_becomeStar 131 = .ok (.aload_n 1, 1) := by decide +kernel
theorem dX0_becomeStar_132 : decode cX0_becomeStar 132 = .ok (.iload_n 2, 1) := by decide +kernel
theorem dX0_becomeStar_133 : decode cX0_becomeStar 133 = .ok (.iload 4, 2) := by decide +kernel
theorem dX0_becomeStar_135 : decode cX0_becomeStar 135 = .ok (.invokevirtual 85, 3) := by decide +kernel
theorem dX0_becomeStar_138 : decode cX0_becomeStar 138 = .ok (.iastore, 1) := by decide +kernel
theorem dX0_becomeStar_139 : decode cX0_becomeStar 139 = .ok (.iinc 4 1, 3) := by decide +kernel
theorem dX0_becomeStar_142 : decode cX0_becomeStar 142 = .ok (.goto (-74), 3) := by decide +kernel
theorem dX0_becomeStar_145 : decode cX0_becomeStar 145 = .ok (.aload_n 0, 1) := by decide +kernel
theorem dX0_becomeStar_146 : decode cX0_becomeStar 146 = .ok (.getfield 24, 3) := by decide +kernel
theorem dX0_becomeStar_149 : decode cX0_becomeStar 149 = .ok (.iload_n 2, 1) := by decide +kernel
theorem dX0_becomeStar_150 : decode cX0_becomeStar 150 = .ok (.aaload, 1) := by decide +kernel
theorem dX0_becomeStar_151 : decode cX0_becomeStar 151 = .ok (.iconst 0, 1) := by decide +kernel
theorem dX0_becomeStar_152 : decode cX0_becomeStar 152 = .ok (.iload_n 3, 1) := by decide +kernel
theorem dX0_becomeStar_153 : decode cX0_becomeStar 153 = .ok (.iastore, 1) := by decide +kernel
theorem dX0_becomeStar_154 : decode cX0_becomeStar 154 = .ok (.iinc 2 1, 3) := by decide +kernel
theorem dX0_becomeStar_157 : decode cX0_becomeStar 157 = .ok (.goto (-99), 3) := by decide +kernel
theorem dX0_becomeStar_160 : decode cX0_becomeStar 160 = .ok (.return_, 1) := by decide +kernel
theorem dX0_startAfter_0 : decode cX0_startAfter 0 = .ok (.iconst 0, 1) := by decide +kernel
theorem dX0_startAfter_1 : decode cX0_startAfter 1 = .ok (.istore_n 3, 1) := by decide +kernel
theorem dX0_startAfter_2 : decode cX0_startAfter 2 = .ok (.iload_n 3, 1) := by decide +kernel
theorem dX0_startAfter_3 : decode cX0_startAfter 3 = .ok (.aload_n 0, 1) := by decide +kernel
theorem dX0_startAfter_4 : decode cX0_startAfter 4 = .ok (.getfield 9, 3) := by decide +kernel
theorem dX0_startAfter_7 : decode cX0_startAfter 7 = .ok (.if_icmp .ge 21, 3) := by decide +kernel
theorem dX0_startAfter_10 : decode cX0_startAfter 10 = .ok (.aload_n 0, 1) := by decide +kernel
theorem dX0_startAfter_11 : decode cX0_startAfter 11 = .ok (.getfield 15, 3) := by decide +kernel
theorem dX0_startAfter_14 : decode cX0_startAfter 14 = .ok (.iload_n 3, 1) := by decide +kernel
theorem dX0_startAfter_15 : decode cX0_startAfter 15 = .ok (.aload_n 1, 1) := by decide +kernel
theorem dX0_startAfter_16 : decode cX0_startAfter 16 = .ok (.iload_n 2, 1) := by decide +kernel
theorem dX0_startAfter_17 : decode cX0_startAfter 17 = .ok (.iload_n 3, 1) := by decide +kernel
theorem dX0_startAfter_18 : decode cX0_startAfter 18 = .ok (.invokevirtual 85, 3) := by decide +kernel
theorem dX0_startAfter_21 : decode cX0_startAfter 21 = .ok (.iastore, 1) := by decide +kernel
theorem dX0_startAfter_22 : decode cX0_startAfter 22 = .ok (.iinc 3 1, 3) := by decide +kernel
theorem dX0_startAfter_25 : decode cX0_startAfter 25 = .ok (.goto (-23), 3) := by decide +kernel
theorem dX0_startAfter_28 : decode cX0_startAfter 28 = .ok (.return_, 1) := by decide +kernel
theorem dX0_reverse_0 : decode cX0_reverse 0 = .ok (.iconst 0, 1) := by decide +kernel
theorem dX0_reverse_1 : decode cX0_reverse 1 = .ok (.istore_n 1, 1) := by decide +kernel
theorem dX0_reverse_2 : decode cX0_reverse 2 = .ok (.iload_n 1, 1) := by decide +kernel
theorem dX0_reverse_3 : decode cX0_reverse 3 = .ok (.aload_n 0, 1) := by decide +kernel
theorem dX0_reverse_4 : decode cX0_reverse 4 = .ok (.getfield 9, 3) := by decide +kernel
theorem dX0_reverse_7 : decode cX0_reverse 7 = .ok (.if_icmp .ge 35, 3) := by decide +kernel
theorem dX0_reverse_10 : decode cX0_reverse 10 = .ok (.aload_n 0, 1) := by decide +kernel
theorem dX0_reverse_11 : decode cX0_reverse 11 = .ok (.getfield 15, 3) := by decide +kernel
theorem dX0_reverse_14 : decode cX0_reverse 14 = .ok (.iload_n 1, 1) := by decide +kernel
theorem dX0_reverse_15 : decode cX0_reverse 15 = .ok (.iaload, 1) := by decide +kernel
theorem dX0_reverse_16 : decode cX0_reverse 16 = .ok (.istore_n 2, 1) := by decide +kernel
theorem dX0_reverse_17 : decode cX0_reverse 17 = .ok (.aload_n 0, 1) := by decide +kernel
theorem dX0_reverse_18 : decode cX0_reverse 18 = .ok (.getfield 15, 3) := by decide +kernel
theorem dX0_reverse_21 : decode cX0_reverse 21 = .ok (.iload_n 1, 1) := by decide +kernel
theorem dX0_reverse_22 : decode cX0_reverse 22 = .ok (.aload_n 0, 1) := by decide +kernel
theorem dX0_reverse_23 : decode cX0_reverse 23 = .ok (.getfield 19, 3) := by decide +kernel
theorem dX0_reverse_26 : decode cX0_reverse 26 = .ok (.iload_n 1, 1) := by decide +kernel
theorem dX0_reverse_27 : decode cX0_reverse 27 = .ok (.iaload, 1) := by decide +kernel
theorem dX0_reverse_28 : decode cX0_reverse 28 = .ok (.iastore, 1) := by decide +kernel
theorem dX0_reverse_29 : decode cX0_reverse 29 = .ok (.aload_n 0, 1) := by decide +kernel
theorem dX0_reverse_30 : decode cX0_reverse 30 = .ok (.getfield 19, 3) := by decide +kernel
theorem dX0_reverse_33 : decode cX0_reverse 33 = .ok (.iload_n 1, 1) := by decide +kernel
theorem dX0_reverse_34 : decode cX0_reverse 34 = .ok (.iload_n 2, 1) := by decide +kernel
theorem dX0_reverse_35 : decode cX0_reverse 35 = .ok (.iastore, 1) := by decide +kernel
theorem dX0_reverse_36 : decode cX0_reverse 36 = .ok (.iinc 1 1, 3) := by decide +kernel
theorem dX0_reverse_39 : decode cX0_reverse 39 = .ok (.goto (-37), 3) := by decide +kernel
theorem dX0_reverse_42 : decode cX0_reverse 42 = .ok (.iconst 0, 1) := by decide +kernel
theorem dX0_reverse_43 : decode cX0_reverse 43 = .ok (.istore_n 1, 1) := by decide +kernel
theorem dX0_reverse_44 : decode cX0_reverse 44 = .ok (.iload_n 1, 1) := by decide +kernel
theorem dX0_reverse_45 : decode cX0_reverse 45 = .ok (.iconst 2, 1) := by decide +kernel
theorem dX0_reverse_46 : decode cX0_reverse 46 = .ok (.if_icmp .ge 19, 3) := by decide +kernel
theorem dX0_reverse_49 : decode cX0_reverse 49 = .ok (.aload_n 0, 1) := by decide +kernel
theorem dX0_reverse_50 : decode cX0_reverse 50 = .ok (.aload_n 0, 1) := by decide +kernel
theorem dX0_reverse_51 : decode cX0_reverse 51 = .ok (.getfield 24, 3) := by decide +kernel
theorem dX0_reverse_54 : decode cX0_reverse 54 = .ok (.iload_n 1, 1) := by decide +kernel
theorem dX0_reverse_55 : decode cX0_reverse 55 = .ok (.aaload, 1) := by decide +kernel
theorem dX0_reverse_56 : decode cX0_reverse 56 = .ok (.invokevirtual 88, 3) := by decide +kernel
theorem dX0_reverse_59 : decode cX0_reverse 59 = .ok (.iinc 1 1, 3) := by decide +kernel
theorem dX0_reverse_62 : decode cX0_reverse 62 = .ok (.goto (-18), 3) := by decide +kernel
theorem dX0_reverse_65 : decode cX0_reverse 65 = .ok (.return_, 1) := by decide +kernel
theorem dX0_transpose_0 : decode cX0_transpose 0 = .ok (.iconst 0, 1) := by decide +kernel
theorem dX0_transpose_1 : decode cX0_transpose 1 = .ok (.istore_n 2, 1) := by decide +kernel
theorem dX0_transpose_2 : decode cX0_transpose 2 = .ok (.iload_n 2, 1) := by decide +kernel
theorem dX0_transpose_3 : decode cX0_transpose 3 = .ok (.aload_n 0, 1) := by decide +kernel
theorem dX0_transpose_4 : decode cX0_transpose 4 = .ok (.getfield 9, 3) := by decide +kernel
theorem dX0_transpose_7 : decode cX0_transpose 7 = .ok (.if_icmp .ge 66, 3) := by decide +kernel
theorem dX0_transpose_10 : decode cX0_transpose 10 = .ok (.iconst 0, 1) := by decide +kernel
theorem dX0_transpose_11 : decode cX0_transpose 11 = .ok (.istore_n 3, 1) := by decide +kernel
theorem dX0_transpose_12 : decode cX0_transpose 12 = .ok (.iload_n 3, 1) := by decide +kernel
theorem dX0_transpose_13 : decode cX0_transpose 13 = .ok (.iload_n 2, 1) := by decide +kernel
theorem dX0_transpose_14 : decode cX0_transpose 14 = .ok (.if_icmp .ge 53, 3) := by decide +kernel
theorem dX0_transpose_17 : decode cX0_transpose 17 = .ok (.aload_n 1, 1) := by decide +kernel
theorem dX0_transpose_18 : decode cX0_transpose 18 = .ok (.iload_n 2, 1) := by decide +kernel
theorem dX0_transpose_19 : decode cX0_transpose 19 = .ok (.aload_n 0, 1) := by decide +kernel
theorem dX0_transpose_20 : decode cX0_transpose 20 = .ok (.getfield 9, 3) := by decide +kernel
theorem dX0_transpose_23 : decode cX0_transpose 23 = .ok (.imul, 1) := by decide +kernel
theorem dX0_transpose_24 : decode cX0_transpose 24 = .ok (.iload_n 3, 1) := by decide +kernel
theorem dX0_transpose_25 : decode cX0_transpose 25 = .ok (.iadd, 1) := by decide +kernel
theorem dX0_transpose_26 : decode cX0_transpose 26 = .ok (.iaload, 1) := by decide +kernel
theorem dX0_transpose_27 : decode cX0_transpose 27 = .ok (.istore 4, 2) := by decide +kernel
theorem dX0_transpose_29 : decode cX0_transpose 29 = .ok (.aload_n 1, 1) := by decide +kernel
theorem dX0_transpose_30 : decode cX0_transpose 30 = .ok (.iload_n 2, 1) := by decide +kernel
theorem dX0_transpose_31 : decode cX0_transpose 31 = .ok (.aload_n 0, 1) := by decide +kernel
theorem dX0_transpose_32 : decode cX0_transpose 32 = .ok (.getfield 9, 3) := by decide +kernel
theorem dX0_transpose_35 : decode cX0_transpose 35 = .ok (.imul, 1) := by decide +kernel
theorem dX0_transpose_36 : decode cX0_transpose 36 = .ok (.iload_n 3, 1) := by decide +kernel
theorem dX0_transpose_37 : decode cX0_transpose 37 = .ok (.iadd, 1) := by decide +kernel
theorem dX0_transpose_38 : decode cX0_transpose 38 = .ok (.aload_n 1, 1) := by decide +kernel
theorem dX0_transpose_39 : decode cX0_transpose 39 = .ok (.iload_n 3, 1) := by decide +kernel
theorem dX0_transpose_40 : decode cX0_transpose 40 = .ok (.aload_n 0, 1) := by decide +kernel
theorem dX0_transpose_41 : decode cX0_transpose 41 = .ok (.getfield 9, 3) := by decide +kernel
theorem dX0_transpose_44 : decode cX0_transpose 44 = .ok (.imul, 1) := by decide +kernel
theorem dX0_transpose_45 : decode cX0_transpose 45 = .ok (.iload_n 2, 1) := by decide +kernel
theorem dX0_transpose_46 : decode cX0_transpose 46 = .ok (.iadd, 1) := by decide +kernel
theorem dX0_transpose_47 : decode cX0_transpose 47 = .ok (.iaload, 1) := by decide +kernel
theorem dX0_transpose_48 : decode cX0_transpose 48 = .ok (.iastore, 1) := by decide +kernel
theorem dX0_transpose_49 : decode cX0_transpose 49 = .ok (.aload_n 1, 1) := by decide +kernel
theorem dX0_transpose_50 : decode cX0_transpose 50 = .ok (.iload_n 3, 1) := by decide +kernel
theorem dX0_transpose_51 : decode cX0_transpose 51 = .ok (.aload_n 0, 1) := by decide +kernel
theorem dX0_transpose_52 : decode cX0_transpose 52 = .ok (.getfield 9, 3) := by decide +kernel
theorem dX0_transpose_55 : decode cX0_transpose 55 = .ok (.imul, 1) := by decide +kernel
theorem dX0_transpose_56 : decode cX0_transpose 56 = .ok (.iload_n 2, 1) := by decide +kernel
theorem dX0_transpose_57 : decode cX0_transpose 57 = .ok (.iadd, 1) := by decide +kernel
theorem dX0_transpose_58 : decode cX0_transpose 58 = .ok (.iload 4, 2) := by decide +kernel
theorem dX0_transpose_60 : decode cX0_transpose 60 = .ok (.iastore, 1) := by decide +kernel
theorem dX0_transpose_61 : decode cX0_transpose 61 = .ok (.iinc 3 1, 3) := by decide +kernel
theorem dX0_transpose_64 : decode cX0_transpose 64 = .ok (.goto (-52), 3) := by decide +kernel
theorem dX0_transpose_67 : decode cX0_transpose 67 = .ok (.iinc 2 1, 3) := by decide +kernel
theorem dX0_transpose_70 : decode cX0_transpose 70 = .ok (.goto (-68), 3) := by decide +kernel
theorem dX0_transpose_73 : decode cX0_transpose 73 = .ok (.return_, 1) := by decide +kernel
theorem dX0_weightFrom_0 : decode cX0_weightFrom 0 = .ok (.iconst 0, 1) := by decide +kernel
theorem dX0_weightFrom_1 : decode cX0_weightFrom 1 = .ok (.istore_n 2, 1) := by decide +kernel
theorem dX0_weightFrom_2 : decode cX0_weightFrom 2 = .ok (.iconst 0, 1) := by decide +kernel
theorem dX0_weightFrom_3 : decode cX0_weightFrom 3 = .ok (.istore_n 3, 1) := by decide +kernel
theorem dX0_weightFrom_4 : decode cX0_weightFrom 4 = .ok (.iload_n 3, 1) := by decide +kernel
theorem dX0_weightFrom_5 : decode cX0_weightFrom 5 = .ok (.aload_n 0, 1) := by decide +kernel
theorem dX0_weightFrom_6 : decode cX0_weightFrom 6 = .ok (.getfield 9, 3) := by decide +kernel
theorem dX0_weightFrom_9 : decode cX0_weightFrom 9 = .ok (.if_icmp .ge 32, 3) := by decide +kernel
theorem dX0_weightFrom_12 : decode cX0_weightFrom 12 = .ok (.aload_n 1, 1) := by decide +kernel
theorem dX0_weightFrom_13 : decode cX0_weightFrom 13 = .ok (.iload_n 3, 1) := by decide +kernel
theorem dX0_weightFrom_14 : decode cX0_weightFrom 14 = .ok (.iaload, 1) := by decide +kernel
theorem dX0_weightFrom_15 : decode cX0_weightFrom 15 = .ok (.ifCond .eq 20, 3) := by decide +kernel
theorem dX0_weightFrom_18 : decode cX0_weightFrom 18 = .ok (.iload_n 2, 1) := by decide +kernel
theorem dX0_weightFrom_19 : decode cX0_weightFrom 19 = .ok (.aload_n 1, 1) := by decide +kernel
theorem dX0_weightFrom_20 : decode cX0_weightFrom 20 = .ok (.iload_n 3, 1) := by decide +kernel
theorem dX0_weightFrom_21 : decode cX0_weightFrom 21 = .ok (.iaload, 1) := by decide +kernel
theorem dX0_weightFrom_22 : decode cX0_weightFrom 22 = .ok (.aload_n 0, 1) := by decide +kernel
theorem dX0_weightFrom_23 : decode cX0_weightFrom 23 = .ok (.getfield 19, 3) := by decide +kernel
theorem dX0_weightFrom_26 : decode cX0_weightFrom 26 = .ok (.iload_n 3, 1) := by decide +kernel
theorem dX0_weightFrom_27 : decode cX0_weightFrom 27 = .ok (.iaload, 1) := by decide +kernel
theorem dX0_weightFrom_28 : decode cX0_weightFrom 28 = .ok (.imul, 1) := by decide +kernel
theorem dX0_weightFrom_29 : decode cX0_weightFrom 29 = .ok (.iadd, 1) := by decide +kernel
theorem dX0_weightFrom_30 : decode cX0_weightFrom 30 = .ok (.sipush 10007, 3) := by decide +kernel
theorem dX0_weightFrom_33 : decode cX0_weightFrom 33 = .ok (.irem, 1) := by decide +kernel
theorem dX0_weightFrom_34 : decode cX0_weightFrom 34 = .ok (.istore_n 2, 1) := by decide +kernel
theorem dX0_weightFrom_35 : decode cX0_weightFrom 35 = .ok (.iinc 3 1, 3) := by decide +kernel
theorem dX0_weightFrom_38 : decode cX0_weightFrom 38 = .ok (.goto (-34), 3) := by decide +kernel
theorem dX0_weightFrom_41 : decode cX0_weightFrom 41 = .ok (.iload_n 2, 1) := by decide +kernel
theorem dX0_weightFrom_42 : decode cX0_weightFrom 42 = .ok (.ireturn, 1) := by decide +kernel
theorem dX0_addStep_0 : decode cX0_addStep 0 = .ok (.aload_n 0, 1) := by decide +kernel
theorem dX0_addStep_1 : decode cX0_addStep 1 = .ok (.getfield 24, 3) := by decide +kernel
theorem dX0_addStep_4 : decode cX0_addStep 4 = .ok (.iload_n 2, 1) := by decide +kernel
theorem dX0_addStep_5 : decode cX0_addStep 5 = .ok (.aaload, 1) := by decide +kernel
theorem dX0_addStep_6 : decode cX0_addStep 6 = .ok (.astore 4, 2) := by decide +kernel
theorem dX0_addStep_8 : decode cX0_addStep 8 = .ok (.iconst 0, 1) := by decide +kernel
theorem dX0_addStep_9 : decode cX0_addStep 9 = .ok (.istore 5, 2) := by decide +kernel
theorem dX0_addStep_11 : decode cX0_addStep 11 = .ok (.iload 5, 2) := by decide +kernel
theorem dX0_addStep_13 : decode cX0_addStep 13 = .ok (.aload_n 0, 1) := by decide +kernel
theorem dX0_addStep_14 : decode cX0_addStep 14 = .ok (.getfield 9, 3) := by decide +kernel
theorem dX0_addStep_17 : decode cX0_addStep 17 = .ok (.if_icmp .ge 71, 3) := by decide +kernel
theorem dX0_addStep_20 : decode cX0_addStep 20 = .ok (.aload_n 1, 1) := by decide +kernel
theorem dX0_addStep_21 : decode cX0_addStep 21 = .ok (.iload 5, 2) := by decide +kernel
theorem dX0_addStep_23 : decode cX0_addStep 23 = .ok (.iaload, 1) := by decide +kernel
theorem dX0_addStep_24 : decode cX0_addStep 24 = .ok (.istore 6, 2) := by decide +kernel
theorem dX0_addStep_26 : decode cX0_addStep 26 = .ok (.iload 6, 2) := by decide +kernel
theorem dX0_addStep_28 : decode cX0_addStep 28 = .ok (.ifCond .eq 54, 3) := by decide +kernel
theorem dX0_addStep_31 : decode cX0_addStep 31 = .ok (.iload 5, 2) := by decide +kernel
theorem dX0_addStep_33 : decode cX0_addStep 33 = .ok (.aload_n 0, 1) := by decide +kernel
theorem dX0_addStep_34 : decode cX0_addStep 34 = .ok (.getfield 9, 3) := by decide +kernel
theorem dX0_addStep_37 : decode cX0_addStep 37 = .ok (.imul, 1) := by decide +kernel
theorem dX0_addStep_38 : decode cX0_addStep 38 = .ok (.istore 7, 2) := by decide +kernel
theorem dX0_addStep_40 : decode cX0_addStep 40 = .ok (.iconst 0, 1) := by decide +kernel
theorem dX0_addStep_41 : decode cX0_addStep 41 = .ok (.istore 8, 2) := by decide +kernel
theorem dX0_addStep_43 : decode cX0_addStep 43 = .ok (.iload 8, 2) := by decide +kernel
theorem dX0_addStep_45 : decode cX0_addStep 45 = .ok (.aload_n 0, 1) := by decide +kernel
theorem dX0_addStep_46 : decode cX0_addStep 46 = .ok (.getfield 9, 3) := by decide +kernel
theorem dX0_addStep_49 : decode cX0_addStep 49 = .ok (.if_icmp .ge 33, 3) := by decide +kernel
theorem dX0_addStep_52 : decode cX0_addStep 52 = .ok (.aload_n 3, 1) := by decide +kernel
theorem dX0_addStep_53 : decode cX0_addStep 53 = .ok (.iload 8, 2) := by decide +kernel
theorem dX0_addStep_55 : decode cX0_addStep 55 = .ok (.aload_n 3, 1) := by decide +kernel
theorem dX0_addStep_56 : decode cX0_addStep 56 = .ok (.iload 8, 2) := by decide +kernel
theorem dX0_addStep_58 : decode cX0_addStep 58 = .ok (.iaload, 1) := by decide +kernel
theorem dX0_addStep_59 : decode cX0_addStep 59 = .ok (.iload 6, 2) := by decide +kernel
theorem dX0_addStep_61 : decode cX0_addStep 61 = .ok (.aload 4, 2) := by decide +kernel
theorem dX0_addStep_63 : decode cX0_addStep 63 = .ok (.iload 7, 2) := by decide +kernel
theorem dX0_addStep_65 : decode cX0_addStep 65 = .ok (.iload 8, 2) := by decide +kernel
theorem dX0_addStep_67 : decode cX0_addStep 67 = .ok (.iadd, 1) := by decide +kernel
theorem dX0_addStep_68 : decode cX0_addStep 68 = .ok (.iaload, 1) := by decide +kernel
theorem dX0_addStep_69 : decode cX0_addStep 69 = .ok (.imul, 1) := by decide +kernel
theorem dX0_addStep_70 : decode cX0_addStep 70 = .ok (.iadd, 1) := by decide +kernel
theorem dX0_addStep_71 : decode cX0_addStep 71 = .ok (.sipush 10007, 3) := by decide +kernel
theorem dX0_addStep_74 : decode cX0_addStep 74 = .ok (.irem, 1) := by decide +kernel
theorem dX0_addStep_75 : decode cX0_addStep 75 = .ok (.iastore, 1) := by decide +kernel
theorem dX0_addStep_76 : decode cX0_addStep 76 = .ok (.iinc 8 1, 3) := by decide +kernel
theorem dX0_addStep_79 : decode cX0_addStep 79 = .ok (.goto (-36), 3) := by decide +kernel
theorem dX0_addStep_82 : decode cX0_addStep 82 = .ok (.iinc 5 1, 3) := by decide +kernel
theorem dX0_addStep_85 : decode cX0_addStep 85 = .ok (.goto (-74), 3) := by decide +kernel
theorem dX0_addStep_88 : decode cX0_addStep 88 = .ok (.return_, 1) := by decide +kernel
theorem dX0_takeStep_0 : decode cX0_takeStep 0 = .ok (.aload_n 3, 1) := by decide +kernel
theorem dX0_takeStep_1 : decode cX0_takeStep 1 = .ok (.iconst 0, 1) := by decide +kernel
theorem dX0_takeStep_2 : decode cX0_takeStep 2 = .ok (.aload_n 0, 1) := by decide +kernel
theorem dX0_takeStep_3 : decode cX0_takeStep 3 = .ok (.getfield 9, 3) := by decide +kernel
theorem dX0_takeStep_6 : decode cX0_takeStep 6 = .ok (.iconst 0, 1) := by decide +kernel
theorem dX0_takeStep_7 : decode cX0_takeStep 7 = .ok (.invokestatic 27, 3) := by decide +kernel
theorem dX0_takeStep_10 : decode cX0_takeStep 10 = .ok (.aload_n 0, 1) := by decide +kernel
theorem dX0_takeStep_11 : decode cX0_takeStep 11 = .ok (.aload_n 1, 1) := by decide +kernel
theorem dX0_takeStep_12 : decode cX0_takeStep 12 = .ok (.iload_n 2, 1) := by decide +kernel
theorem dX0_takeStep_13 : decode cX0_takeStep 13 = .ok (.aload_n 3, 1) := by decide +kernel
theorem dX0_takeStep_14 : decode cX0_takeStep 14 = .ok (.invokevirtual 92, 3) := by decide +kernel
theorem dX0_takeStep_17 : decode cX0_takeStep 17 = .ok (.return_, 1) := by decide +kernel
theorem dX0_emptyWeight_0 : decode cX0_emptyWeight 0 = .ok (.aload_n 0, 1) := by decide +kernel
theorem dX0_emptyWeight_1 : decode cX0_emptyWeight 1 = .ok (.aload_n 0, 1) := by decide +kernel
theorem dX0_emptyWeight_2 : decode cX0_emptyWeight 2 = .ok (.getfield 15, 3) := by decide +kernel
theorem dX0_emptyWeight_5 : decode cX0_emptyWeight 5 = .ok (.invokevirtual 96, 3) := by decide +kernel
theorem dX0_emptyWeight_8 : decode cX0_emptyWeight 8 = .ok (.ireturn, 1) := by decide +kernel
theorem dX0_initialThenStep_0 : decode cX0_initialThenStep 0 = .ok (.iconst 0, 1) := by decide +kernel
theorem dX0_initialThenStep_1 : decode cX0_initialThenStep 1 = .ok (.istore_n 3, 1) := by decide +kernel
theorem dX0_initialThenStep_2 : decode cX0_initialThenStep 2 = .ok (.iconst 0, 1) := by decide +kernel
theorem dX0_initialThenStep_3 : decode cX0_initialThenStep 3 = .ok (.istore 4, 2) := by decide +kernel
theorem dX0_initialThenStep_5 : decode cX0_initialThenStep 5 = .ok (.iload 4, 2) := by decide +kernel
theorem dX0_initialThenStep_7 : decode cX0_initialThenStep 7 = .ok (.aload_n 0, 1) := by decide +kernel
theorem dX0_initialThenStep_8 : decode cX0_initialThenStep 8 = .ok (.getfield 9, 3) := by decide +kernel
theorem dX0_initialThenStep_11 : decode cX0_initialThenStep 11 = .ok (.if_icmp .ge 40, 3) := by decide +kernel
theorem dX0_initialThenStep_14 : decode cX0_initialThenStep 14 = .ok (.iload_n 3, 1) := by decide +kernel
theorem dX0_initialThenStep_15 : decode cX0_initialThenStep 15 = .ok (.aload_n 0, 1) := by decide +kernel
theorem dX0_initialThenStep_16 : decode cX0_initialThenStep 16 = .ok (.getfield 15, 3) := by decide +kernel
theorem dX0_initialThenStep_19 : decode cX0_initialThenStep 19 = .ok (.iload 4, 2) := by decide +kernel
theorem dX0_initialThenStep_21 : decode cX0_initialThenStep 21 = .ok (.iaload, 1) := by decide +kernel
theorem dX0_initialThenStep_22 : decode cX0_initialThenStep 22 = .ok (.aload_n 0, 1) := by decide +kernel
theorem dX0_initialThenStep_23 : decode cX0_initialThenStep 23 = .ok (.getfield 24, 3) := by decide +kernel
theorem dX0_initialThenStep_26 : decode cX0_initialThenStep 26 = .ok (.iload_n 1, 1) := by decide +kernel
theorem dX0_initialThenStep_27 : decode cX0_initialThenStep 27 = .ok (.aaload, 1) := by decide +kernel
theorem dX0_initialThenStep_28 : decode cX0_initialThenStep 28 = .ok (.iload 4, 2) := by decide +kernel
theorem dX0_initialThenStep_30 : decode cX0_initialThenStep 30 = .ok (.aload_n 0, 1) := by decide +kernel
theorem dX0_initialThenStep_31 : decode cX0_initialThenStep 31 = .ok (.getfield 9, 3) := by decide +kernel
theorem dX0_initialThenStep_34 : decode cX0_initialThenStep 34 = .ok (.imul, 1) := by decide +kernel
theorem dX0_initialThenStep_35 : decode cX0_initialThenStep 35 = .ok (.iload_n 2, 1) := by decide +kernel
theorem dX0_initialThenStep_36 : decode cX0_initialThenStep 36 = .ok (.iadd, 1) := by decide +kernel
theorem dX0_initialThenStep_37 : decode cX0_initialThenStep 37 = .ok (.iaload, 1) := by decide +kernel
theorem dX0_initialThenStep_38 : decode cX0_initialThenStep 38 = .ok (.imul, 1) := by decide +kernel
theorem dX0_initialThenStep_39 : decode cX0_initialThenStep 39 = .ok (.iadd, 1) := by decide +kernel
theorem dX0_initialThenStep_40 : decode cX0_initialThenStep 40 = .ok (.sipush 10007, 3) := by decide +kernel
theorem dX0_initialThenStep_43 : decode cX0_initialThenStep 43 = .ok (.irem, 1) := by decide +kernel
theorem dX0_initialThenStep_44 : decode cX0_initialThenStep 44 = .ok (.istore_n 3, 1) := by decide +kernel
theorem dX0_initialThenStep_45 : decode cX0_initialThenStep 45 = .ok (.iinc 4 1, 3) := by decide +kernel
theorem dX0_initialThenStep_48 : decode cX0_initialThenStep 48 = .ok (.goto (-43), 3) := by decide +kernel
theorem dX0_initialThenStep_51 : decode cX0_initialThenStep 51 = .ok (.iload_n 3, 1) := by decide +kernel
theorem dX0_initialThenStep_52 : decode cX0_initialThenStep 52 = .ok (.ireturn, 1) := by decide +kernel
theorem dX0_stepThenLast_0 : decode cX0_stepThenLast 0 = .ok (.iconst 0, 1) := by decide +kernel
theorem dX0_stepThenLast_1 : decode cX0_stepThenLast 1 = .ok (.istore_n 3, 1) := by decide +kernel
theorem dX0_stepThenLast_2 : decode cX0_stepThenLast 2 = .ok (.iconst 0, 1) := by decide +kernel
theorem dX0_stepThenLast_3 : decode cX0_stepThenLast 3 = .ok (.istore 4, 2) := by decide +kernel
theorem dX0_stepThenLast_5 : decode cX0_stepThenLast 5 = .ok (.iload 4, 2) := by decide +kernel
theorem dX0_stepThenLast_7 : decode cX0_stepThenLast 7 = .ok (.aload_n 0, 1) := by decide +kernel
theorem dX0_stepThenLast_8 : decode cX0_stepThenLast 8 = .ok (.getfield 9, 3) := by decide +kernel
theorem dX0_stepThenLast_11 : decode cX0_stepThenLast 11 = .ok (.if_icmp .ge 40, 3) := by decide +kernel
theorem dX0_stepThenLast_14 : decode cX0_stepThenLast 14 = .ok (.iload_n 3, 1) := by decide +kernel
theorem dX0_stepThenLast_15 : decode cX0_stepThenLast 15 = .ok (.aload_n 0, 1) := by decide +kernel
theorem dX0_stepThenLast_16 : decode cX0_stepThenLast 16 = .ok (.getfield 24, 3) := by decide +kernel
theorem dX0_stepThenLast_19 : decode cX0_stepThenLast 19 = .ok (.iload_n 1, 1) := by decide +kernel
theorem dX0_stepThenLast_20 : decode cX0_stepThenLast 20 = .ok (.aaload, 1) := by decide +kernel
theorem dX0_stepThenLast_21 : decode cX0_stepThenLast 21 = .ok (.iload_n 2, 1) := by decide +kernel
theorem dX0_stepThenLast_22 : decode cX0_stepThenLast 22 = .ok (.aload_n 0, 1) := by decide +kernel
theorem dX0_stepThenLast_23 : decode cX0_stepThenLast 23 = .ok (.getfield 9, 3) := by decide +kernel
theorem dX0_stepThenLast_26 : decode cX0_stepThenLast 26 = .ok (.imul, 1) := by decide +kernel
theorem dX0_stepThenLast_27 : decode cX0_stepThenLast 27 = .ok (.iload 4, 2) := by decide +kernel
theorem dX0_stepThenLast_29 : decode cX0_stepThenLast 29 = .ok (.iadd, 1) := by decide +kernel
theorem dX0_stepThenLast_30 : decode cX0_stepThenLast 30 = .ok (.iaload, 1) := by decide +kernel
theorem dX0_stepThenLast_31 : decode cX0_stepThenLast 31 = .ok (.aload_n 0, 1) := by decide +kernel
theorem dX0_stepThenLast_32 : decode cX0_stepThenLast 32 = .ok (.getfield 19, 3) := by decide +kernel
theorem dX0_stepThenLast_35 : decode cX0_stepThenLast 35 = .ok (.iload 4, 2) := by decide +kernel
theorem dX0_stepThenLast_37 : decode cX0_stepThenLast 37 = .ok (.iaload, 1) := by decide +kernel
theorem dX0_stepThenLast_38 : decode cX0_stepThenLast 38 = .ok (.imul, 1) := by decide +kernel
theorem dX0_stepThenLast_39 : decode cX0_stepThenLast 39 = .ok (.iadd, 1) := by decide +kernel
theorem dX0_stepThenLast_40 : decode cX0_stepThenLast 40 = .ok (.sipush 10007, 3) := by decide +kernel
theorem dX0_stepThenLast_43 : decode cX0_stepThenLast 43 = .ok (.irem, 1) := by decide +kernel
theorem dX0_stepThenLast_44 : decode cX0_stepThenLast 44 = .ok (.istore_n 3, 1) := by decide +kernel
theorem dX0_stepThenLast_45 : decode cX0_stepThenLast 45 = .ok (.iinc 4 1, 3) := by decide +kernel
theorem dX0_stepThenLast_48 : decode cX0_stepThenLast 48 = .ok (.goto (-43), 3) := by decide +kernel
theorem dX0_stepThenLast_51 : decode cX0_stepThenLast 51 = .ok (.iload_n 3, 1) := by decide +kernel
theorem dX0_stepThenLast_52 : decode cX0_stepThenLast 52 = .ok (.ireturn, 1) := by decide +kernel
theorem dX0_hash_0 : decode cX0_hash 0 = .ok (.ldc2_w 100, 3) := by decide +kernel
theorem dX0_hash_3 : decode cX0_hash 3 = .ok (.lload_n 1, 1) := by decide +kernel
theorem dX0_hash_4 : decode cX0_hash 4 = .ok (.lmul, 1) := by decide +kernel
theorem dX0_hash_5 : decode cX0_hash 5 = .ok (.aload_n 0, 1) := by decide +kernel
theorem dX0_hash_6 : decode cX0_hash 6 = .ok (.getfield 9, 3) := by decide +kernel
theorem dX0_hash_9 : decode cX0_hash 9 = .ok (.i2l, 1) := by decide +kernel
theorem dX0_hash_10 : decode cX0_hash 10 = .ok (.ladd, 1) := by decide +kernel
theorem dX0_hash_11 : decode cX0_hash 11 = .ok (.lstore_n 3, 1) := by decide +kernel
theorem dX0_hash_12 : decode cX0_hash 12 = .ok (.iconst 0, 1) := by decide +kernel
theorem dX0_hash_13 : decode cX0_hash 13 = .ok (.istore 5, 2) := by decide +kernel
theorem dX0_hash_15 : decode cX0_hash 15 = .ok (.iload 5, 2) := by decide +kernel
theorem dX0_hash_17 : decode cX0_hash 17 = .ok (.aload_n 0, 1) := by decide +kernel
theorem dX0_hash_18 : decode cX0_hash 18 = .ok (.getfield 9, 3) := by decide +kernel
theorem dX0_hash_21 : decode cX0_hash 21 = .ok (.if_icmp .ge 39, 3) := by decide +kernel
theorem dX0_hash_24 : decode cX0_hash 24 = .ok (.ldc2_w 100, 3) := by decide +kernel
theorem dX0_hash_27 : decode cX0_hash 27 = .ok (.lload_n 3, 1) := by decide +kernel
theorem dX0_hash_28 : decode cX0_hash 28 = .ok (.lmul, 1) := by decide +kernel
theorem dX0_hash_29 : decode cX0_hash 29 = .ok (.aload_n 0, 1) := by decide +kernel
theorem dX0_hash_30 : decode cX0_hash 30 = .ok (.getfield 15, 3) := by decide +kernel
theorem dX0_hash_33 : decode cX0_hash 33 = .ok (.iload 5, 2) := by decide +kernel
theorem dX0_hash_35 : decode cX0_hash 35 = .ok (.iaload, 1) := by decide +kernel
theorem dX0_hash_36 : decode cX0_hash 36 = .ok (.i2l, 1) := by decide +kernel
theorem dX0_hash_37 : decode cX0_hash 37 = .ok (.ladd, 1) := by decide +kernel
theorem dX0_hash_38 : decode cX0_hash 38 = .ok (.lstore_n 3, 1) := by decide +kernel
theorem dX0_hash_39 : decode cX0_hash 39 = .ok (.ldc2_w 100, 3) := by decide +kernel
theorem dX0_hash_42 : decode cX0_hash 42 = .ok (.lload_n 3, 1) := by decide +kernel
theorem dX0_hash_43 : decode cX0_hash 43 = .ok (.lmul, 1) := by decide +kernel
theorem dX0_hash_44 : decode cX0_hash 44 = .ok (.aload_n 0, 1) := by decide +kernel
theorem dX0_hash_45 : decode cX0_hash 45 = .ok (.getfield 19, 3) := by decide +kernel
theorem dX0_hash_48 : decode cX0_hash 48 = .ok (.iload 5, 2) := by decide +kernel
theorem dX0_hash_50 : decode cX0_hash 50 = .ok (.iaload, 1) := by decide +kernel
theorem dX0_hash_51 : decode cX0_hash 51 = .ok (.i2l, 1) := by decide +kernel
theorem dX0_hash_52 : decode cX0_hash 52 = .ok (.ladd, 1) := by decide +kernel
theorem dX0_hash_53 : decode cX0_hash 53 = .ok (.lstore_n 3, 1) := by decide +kernel
theorem dX0_hash_54 : decode cX0_hash 54 = .ok (.iinc 5 1, 3) := by decide +kernel
theorem dX0_hash_57 : decode cX0_hash 57 = .ok (.goto (-42), 3) := by decide +kernel
theorem dX0_hash_60 : decode cX0_hash 60 = .ok (.iconst 0, 1) := by decide +kernel
theorem dX0_hash_61 : decode cX0_hash 61 = .ok (.istore 5, 2) := by decide +kernel
theorem dX0_hash_63 : decode cX0_hash 63 = .ok (.iload 5, 2) := by decide +kernel
theorem dX0_hash_65 : decode cX0_hash 65 = .ok (.iconst 2, 1) := by decide +kernel
theorem dX0_hash_66 : decode cX0_hash 66 = .ok (.if_icmp .ge 50, 3) := by decide +kernel
theorem dX0_hash_69 : decode cX0_hash 69 = .ok (.iconst 0, 1) := by decide +kernel
theorem dX0_hash_70 : decode cX0_hash 70 = .ok (.istore 6, 2) := by decide +kernel
theorem dX0_hash_72 : decode cX0_hash 72 = .ok (.iload 6, 2) := by decide +kernel
theorem dX0_hash_74 : decode cX0_hash 74 = .ok (.aload_n 0, 1) := by decide +kernel
theorem dX0_hash_75 : decode cX0_hash 75 = .ok (.getfield 9, 3) := by decide +kernel
theorem dX0_hash_78 : decode cX0_hash 78 = .ok (.aload_n 0, 1) := by decide +kernel
theorem dX0_hash_79 : decode cX0_hash 79 = .ok (.getfield 9, 3) := by decide +kernel
theorem dX0_hash_82 : decode cX0_hash 82 = .ok (.imul, 1) := by decide +kernel
theorem dX0_hash_83 : decode cX0_hash 83 = .ok (.if_icmp .ge 27, 3) := by decide +kernel
theorem dX0_hash_86 : decode cX0_hash 86 = .ok (.ldc2_w 100, 3) := by decide +kernel
theorem dX0_hash_89 : decode cX0_hash 89 = .ok (.lload_n 3, 1) := by decide +kernel
theorem dX0_hash_90 : decode cX0_hash 90 = .ok (.lmul, 1) := by decide +kernel
theorem dX0_hash_91 : decode cX0_hash 91 = .ok (.aload_n 0, 1) := by decide +kernel
theorem dX0_hash_92 : decode cX0_hash 92 = .ok (.getfield 24, 3) := by decide +kernel
theorem dX0_hash_95 : decode cX0_hash 95 = .ok (.iload 5, 2) := by decide +kernel
theorem dX0_hash_97 : decode cX0_hash 97 = .ok (.aaload, 1) := by decide +kernel
theorem dX0_hash_98 : decode cX0_hash 98 = .ok (.iload 6, 2) := by decide +kernel
theorem dX0_hash_100 : decode cX0_hash 100 = .ok (.iaload, 1) := by decide +kernel
theorem dX0_hash_101 : decode cX0_hash 101 = .ok (.i2l, 1) := by decide +kernel
theorem dX0_hash_102 : decode cX0_hash 102 = .ok (.ladd, 1) := by decide +kernel
theorem dX0_hash_103 : decode cX0_hash 103 = .ok (.lstore_n 3, 1) := by decide +kernel
theorem dX0_hash_104 : decode cX0_hash 104 = .ok (.iinc 6 1, 3) := by decide +kernel
theorem dX0_hash_107 : decode cX0_hash 107 = .ok (.goto (-35), 3) := by decide +kernel
theorem dX0_hash_110 : decode cX0_hash 110 = .ok (.iinc 5 1, 3) := by decide +kernel
theorem dX0_hash_113 : decode cX0_hash 113 = .ok (.goto (-50), 3) := by decide +kernel
theorem dX0_hash_116 : decode cX0_hash 116 = .ok (.lload_n 3, 1) := by decide +kernel
theorem dX0_hash_117 : decode cX0_hash 117 = .ok (.lreturn, 1) := by decide +kernel
theorem dX1_init_0 : decode cX1_init 0 = .ok (.aload_n 0, 1) := by decide +kernel
theorem dX1_init_1 : decode cX1_init 1 = .ok (.invokespecial 3, 3) := by decide +kernel
theorem dX1_init_4 : decode cX1_init 4 = .ok (.aload_n 0, 1) := by decide +kernel
theorem dX1_init_5 : decode cX1_init 5 = .ok (.bipush 24, 2) := by decide +kernel
theorem dX1_init_7 : decode cX1_init 7 = .ok (.newarray .int, 2) := by decide +kernel
theorem dX1_init_9 : decode cX1_init 9 = .ok (.putfield 9, 3) := by decide +kernel
theorem dX1_init_12 : decode cX1_init 12 = .ok (.aload_n 0, 1) := by decide +kernel
theorem dX1_init_13 : decode cX1_init 13 = .ok (.bipush 24, 2) := by decide +kernel
theorem dX1_init_15 : decode cX1_init 15 = .ok (.newarray .int, 2) := by decide +kernel
theorem dX1_init_17 : decode cX1_init 17 = .ok (.putfield 15, 3) := by decide +kernel
theorem dX1_init_20 : decode cX1_init 20 = .ok (.aload_n 0, 1) := by decide +kernel
theorem dX1_init_21 : decode cX1_init 21 = .ok (.bipush 24, 2) := by decide +kernel
theorem dX1_init_23 : decode cX1_init 23 = .ok (.bipush 24, 2) := by decide +kernel
theorem dX1_init_25 : decode cX1_init 25 = .ok (.multianewarray 18 2, 4) := by decide +kernel
theorem dX1_init_29 : decode cX1_init 29 = .ok (.putfield 20, 3) := by decide +kernel
theorem dX1_init_32 : decode cX1_init 32 = .ok (.aload_n 0, 1) := by decide +kernel
theorem dX1_init_33 : decode cX1_init 33 = .ok (.bipush 24, 2) := by decide +kernel
theorem dX1_init_35 : decode cX1_init 35 = .ok (.bipush 24, 2) := by decide +kernel
theorem dX1_init_37 : decode cX1_init 37 = .ok (.multianewarray 18 2, 4) := by decide +kernel
theorem dX1_init_41 : decode cX1_init 41 = .ok (.putfield 23, 3) := by decide +kernel
theorem dX1_init_44 : decode cX1_init 44 = .ok (.aload_n 0, 1) := by decide +kernel
theorem dX1_init_45 : decode cX1_init 45 = .ok (.bipush 24, 2) := by decide +kernel
theorem dX1_init_47 : decode cX1_init 47 = .ok (.bipush 24, 2) := by decide +kernel
theorem dX1_init_49 : decode cX1_init 49 = .ok (.multianewarray 18 2, 4) := by decide +kernel
theorem dX1_init_53 : decode cX1_init 53 = .ok (.putfield 26, 3) := by decide +kernel
theorem dX1_init_56 : decode cX1_init 56 = .ok (.aload_n 0, 1) := by decide +kernel
theorem dX1_init_57 : decode cX1_init 57 = .ok (.bipush 24, 2) := by decide +kernel
theorem dX1_init_59 : decode cX1_init 59 = .ok (.newarray .int, 2) := by decide +kernel
theorem dX1_init_61 : decode cX1_init 61 = .ok (.putfield 29, 3) := by decide +kernel
theorem dX1_init_64 : decode cX1_init 64 = .ok (.aload_n 0, 1) := by decide +kernel
theorem dX1_init_65 : decode cX1_init 65 = .ok (.bipush 48, 2) := by decide +kernel
theorem dX1_init_67 : decode cX1_init 67 = .ok (.bipush 24, 2) := by decide +kernel
theorem dX1_init_69 : decode cX1_init 69 = .ok (.multianewarray 18 2, 4) := by decide +kernel
theorem dX1_init_73 : decode cX1_init 73 = .ok (.putfield 32, 3) := by decide +kernel
theorem dX1_init_76 : decode cX1_init 76 = .ok (.aload_n 0, 1) := by decide +kernel
theorem dX1_init_77 : decode cX1_init 77 = .ok (.bipush 24, 2) := by decide +kernel
theorem dX1_init_79 : decode cX1_init 79 = .ok (.newarray .int, 2) := by decide +kernel
theorem dX1_init_81 : decode cX1_init 81 = .ok (.putfield 35, 3) := by decide +kernel
theorem dX1_init_84 : decode cX1_init 84 = .ok (.aload_n 0, 1) := by decide +kernel
theorem dX1_init_85 : decode cX1_init 85 = .ok (.bipush 24, 2) := by decide +kernel
theorem dX1_init_87 : decode cX1_init 87 = .ok (.newarray .int, 2) := by decide +kernel
theorem dX1_init_89 : decode cX1_init 89 = .ok (.putfield 38, 3) := by decide +kernel
theorem dX1_init_92 : decode cX1_init 92 = .ok (.aload_n 0, 1) := by decide +kernel
theorem dX1_init_93 : decode cX1_init 93 = .ok (.bipush 24, 2) := by decide +kernel
theorem dX1_init_95 : decode cX1_init 95 = .ok (.newarray .int, 2) := by decide +kernel
theorem dX1_init_97 : decode cX1_init 97 = .ok (.putfield 41, 3) := by decide +kernel
theorem dX1_init_100 : decode cX1_init 100 = .ok (.return_, 1) := by decide +kernel
theorem dX1_explore_0 : decode cX1_explore 0 = .ok (.aload_n 1, 1) := by decide +kernel
theorem dX1_explore_1 : decode cX1_explore 1 = .ok (.getfield 44, 3) := by decide +kernel
theorem dX1_explore_4 : decode cX1_explore 4 = .ok (.istore_n 2, 1) := by decide +kernel
theorem dX1_explore_5 : decode cX1_explore 5 = .ok (.aload_n 0, 1) := by decide +kernel
theorem dX1_explore_6 : decode cX1_explore 6 = .ok (.iconst 0, 1) := by decide +kernel
theorem dX1_explore_7 : decode cX1_explore 7 = .ok (.putfield 50, 3) := by decide +kernel
theorem dX1_explore_10 : decode cX1_explore 10 = .ok (.aload_n 1, 1) := by decide +kernel
theorem dX1_explore_11 : decode cX1_explore 11 = .ok (.getfield 53, 3) := by decide +kernel
theorem dX1_explore_14 : decode cX1_explore 14 = .ok (.iconst 0, 1) := by decide +kernel
theorem dX1_explore_15 : decode cX1_explore 15 = .ok (.aload_n 0, 1) := by decide +kernel
theorem dX1_explore_16 : decode cX1_explore 16 = .ok (.getfield 35, 3) := by decide +kernel
theorem dX1_explore_19 : decode cX1_explore 19 = .ok (.iconst 0, 1) := by decide +kernel
theorem dX1_explore_20 : decode cX1_explore 20 = .ok (.iload_n 2, 1) := by decide +kernel
theorem dX1_explore_21 : decode cX1_explore 21 = .ok (.invokestatic 56, 3) := by decide +kernel
theorem dX1_explore_24 : decode cX1_explore 24 = .ok (.aload_n 0, 1) := by decide +kernel
theorem dX1_explore_25 : decode cX1_explore 25 = .ok (.aload_n 1, 1) := by decide +kernel
theorem dX1_explore_26 : decode cX1_explore 26 = .ok (.iconst 0, 1) := by decide +kernel
theorem dX1_explore_27 : decode cX1_explore 27 = .ok (.invokevirtual 62, 3) := by decide +kernel
theorem dX1_explore_30 : decode cX1_explore 30 = .ok (.iconst 0, 1) := by decide +kernel
theorem dX1_explore_31 : decode cX1_explore 31 = .ok (.istore_n 3, 1) := by decide +kernel
theorem dX1_explore_32 : decode cX1_explore 32 = .ok (.iload_n 3, 1) := by decide +kernel
theorem dX1_explore_33 : decode cX1_explore 33 = .ok (.aload_n 0, 1) := by decide +kernel
theorem dX1_explore_34 : decode cX1_explore 34 = .ok (.getfield 50, 3) := by decide +kernel
theorem dX1_explore_37 : decode cX1_explore 37 = .ok (.if_icmp .ge 85, 3) := by decide +kernel
theorem dX1_explore_40 : decode cX1_explore 40 = .ok (.iload_n 3, 1) := by decide +kernel
theorem dX1_explore_41 : decode cX1_explore 41 = .ok (.bipush 24, 2) := by decide +kernel
theorem dX1_explore_43 : decode cX1_explore 43 = .ok (.if_icmp .ge 79, 3) := by decide +kernel
theorem dX1_explore_46 : decode cX1_explore 46 = .ok (.iconst 0, 1) := by decide +kernel
theorem dX1_explore_47 : decode cX1_explore 47 = .ok (.istore 4, 2) := by decide +kernel
theorem dX1_explore_49 : decode cX1_explore 49 = .ok (.iload 4, 2) := by decide +kernel
theorem dX1_explore_51 : decode cX1_explore 51 = .ok (.iconst 2, 1) := by decide +kernel
theorem dX1_explore_52 : decode cX1_explore 52 = .ok (.if_icmp .ge 64, 3) := by decide +kernel
theorem dX1_explore_55 : decode cX1_explore 55 = .ok (.aload_n 1, 1) := by decide +kernel
theorem dX1_explore_56 : decode cX1_explore 56 = .ok (.aload_n 0, 1) := by decide +kernel
theorem dX1_explore_57 : decode cX1_explore 57 = .ok (.getfield 20, 3) := by decide +kernel
theorem dX1_explore_60 : decode cX1_explore 60 = .ok (.iload_n 3, 1) := by decide +kernel
theorem dX1_explore_61 : decode cX1_explore 61 = .ok (.aaload, 1) := by decide +kernel
theorem dX1_explore_62 : decode cX1_explore 62 = .ok (.iload 4, 2) := by decide +kernel
theorem dX1_explore_64 : decode cX1_explore 64 = .ok (.aload_n 0, 1) := by decide +kernel
theorem dX1_explore_65 : decode cX1_explore 65 = .ok (.getfield 35, 3) := by decide +kernel
theorem dX1_explore_68 : decode cX1_explore 68 = .ok (.invokevirtual 66, 3) := by decide +kernel
theorem dX1_explore_71 : decode cX1_explore 71 = .ok (.aload_n 0, 1) := by decide +kernel
theorem dX1_explore_72 : decode cX1_explore 72 = .ok (.aload_n 1, 1) := by decide +kernel
theorem dX1_explore_73 : decode cX1_explore 73 = .ok (.iconst 2, 1) := by decide +kernel
theorem dX1_explore_74 : decode cX1_explore 74 = .ok (.aload_n 0, 1) := by decide +kernel
theorem dX1_explore_75 : decode cX1_explore 75 = .ok (.getfield 9, 3) := by decide +kernel
theorem dX1_explore_78 : decode cX1_explore 78 = .ok (.iload_n 3, 1) := by decide +kernel
theorem dX1_explore_79 : decode cX1_explore 79 = .ok (.iaload, 1) := by decide +kernel
theorem dX1_explore_80 : decode cX1_explore 80 = .ok (.imul, 1) := by decide +kernel
theorem dX1_explore_81 : decode cX1_explore 81 = .ok (.iconst 1, 1) := by decide +kernel
theorem dX1_explore_82 : decode cX1_explore 82 = .ok (.iadd, 1) := by decide +kernel
theorem dX1_explore_83 : decode cX1_explore 83 = .ok (.iload 4, 2) := by decide +kernel
theorem dX1_explore_85 : decode cX1_explore 85 = .ok (.iadd, 1) := by decide +kernel
theorem dX1_explore_86 : decode cX1_explore 86 = .ok (.invokevirtual 62, 3) := by decide +kernel
theorem dX1_explore_89 : decode cX1_explore 89 = .ok (.aload_n 0, 1) := by decide +kernel
theorem dX1_explore_90 : decode cX1_explore 90 = .ok (.getfield 41, 3) := by decide +kernel
theorem dX1_explore_93 : decode cX1_explore 93 = .ok (.iconst 0, 1) := by decide +kernel
theorem dX1_explore_94 : decode cX1_explore 94 = .ok (.aload_n 0, 1) := by decide +kernel
theorem dX1_explore_95 : decode cX1_explore 95 = .ok (.getfield 32, 3) := by decide +kernel
theorem dX1_explore_98 : decode cX1_explore 98 = .ok (.iconst 2, 1) := by decide +kernel
theorem dX1_explore_99 : decode cX1_explore 99 = .ok (.iload_n 3, 1) := by decide +kernel
theorem dX1_explore_100 : decode cX1_explore 100 = .ok (.imul, 1) := by decide +kernel
theorem dX1_explore_101 : decode cX1_explore 101 = .ok (.iload 4, 2) := by decide +kernel
theorem dX1_explore_103 : decode cX1_explore 103 = .ok (.iadd, 1) := by decide +kernel
theorem dX1_explore_104 : decode cX1_explore 104 = .ok (.aaload, 1) := by decide +kernel
theorem dX1_explore_105 : decode cX1_explore 105 = .ok (.iconst 0, 1) := by decide +kernel
theorem dX1_explore_106 : decode cX1_explore 106 = .ok (.iload_n 2, 1) := by decide +kernel
theorem dX1_explore_107 : decode cX1_explore 107 = .ok (.invokestatic 56, 3) := by decide +kernel
theorem dX1_explore_110 : decode cX1_explore 110 = .ok (.iinc 4 1, 3) := by decide +kernel
theorem dX1_explore_113 : decode cX1_explore 113 = .ok (.goto (-64), 3) := by decide +kernel
theorem dX1_explore_116 : decode cX1_explore 116 = .ok (.iinc 3 1, 3) := by decide +kernel
theorem dX1_explore_119 : decode cX1_explore 119 = .ok (.goto (-87), 3) := by decide +kernel
theorem dX1_explore_122 : decode cX1_explore 122 = .ok (.return_, 1) := by decide +kernel
theorem dX1_place_0 : decode cX1_place 0 = .ok (.aload_n 1, 1) := by decide +kernel
theorem dX1_place_1 : decode cX1_place 1 = .ok (.getfield 44, 3) := by decide +kernel
theorem dX1_place_4 : decode cX1_place 4 = .ok (.istore_n 3, 1) := by decide +kernel
theorem dX1_place_5 : decode cX1_place 5 = .ok (.aload_n 0, 1) := by decide +kernel
theorem dX1_place_6 : decode cX1_place 6 = .ok (.getfield 35, 3) := by decide +kernel
theorem dX1_place_9 : decode cX1_place 9 = .ok (.iconst 0, 1) := by decide +kernel
theorem dX1_place_10 : decode cX1_place 10 = .ok (.aload_n 0, 1) := by decide +kernel
theorem dX1_place_11 : decode cX1_place 11 = .ok (.getfield 38, 3) := by decide +kernel
theorem dX1_place_14 : decode cX1_place 14 = .ok (.iconst 0, 1) := by decide +kernel
theorem dX1_place_15 : decode cX1_place 15 = .ok (.iload_n 3, 1) := by decide +kernel
theorem dX1_place_16 : decode cX1_place 16 = .ok (.invokestatic 56, 3) := by decide +kernel
theorem dX1_place_19 : decode cX1_place 19 = .ok (.aload_n 0, 1) := by decide +kernel
theorem dX1_place_20 : decode cX1_place 20 = .ok (.getfield 41, 3) := by decide +kernel
theorem dX1_place_23 : decode cX1_place 23 = .ok (.iconst 0, 1) := by decide +kernel
theorem dX1_place_24 : decode cX1_place 24 = .ok (.iload_n 3, 1) := by decide +kernel
theorem dX1_place_25 : decode cX1_place 25 = .ok (.iconst 0, 1) := by decide +kernel
theorem dX1_place_26 : decode cX1_place 26 = .ok (.invokestatic 70, 3) := by decide +kernel
theorem dX1_place_29 : decode cX1_place 29 = .ok (.iconst 0, 1) := by decide +kernel
theorem dX1_place_30 : decode cX1_place 30 = .ok (.istore 4, 2) := by decide +kernel
theorem dX1_place_32 : decode cX1_place 32 = .ok (.iload 4, 2) := by decide +kernel
theorem dX1_place_34 : decode cX1_place 34 = .ok (.aload_n 0, 1) := by decide +kernel
theorem dX1_place_35 : decode cX1_place 35 = .ok (.getfield 50, 3) := by decide +kernel
theorem dX1_place_38 : decode cX1_place 38 = .ok (.if_icmp .ge 66, 3) := by decide +kernel
theorem dX1_place_41 : decode cX1_place 41 = .ok (.aload_n 0, 1) := by decide +kernel
theorem dX1_place_42 : decode cX1_place 42 = .ok (.getfield 38, 3) := by decide +kernel
theorem dX1_place_45 : decode cX1_place 45 = .ok (.aload_n 0, 1) := by decide +kernel
theorem dX1_place_46 : decode cX1_place 46 = .ok (.getfield 29, 3) := by decide +kernel
theorem dX1_place_49 : decode cX1_place 49 = .ok (.iload 4, 2) := by decide +kernel
theorem dX1_place_51 : decode cX1_place 51 = .ok (.iaload, 1) := by decide +kernel
theorem dX1_place_52 : decode cX1_place 52 = .ok (.iaload, 1) := by decide +kernel
theorem dX1_place_53 : decode cX1_place 53 = .ok (.istore 5, 2) := by decide +kernel
theorem dX1_place_55 : decode cX1_place 55 = .ok (.iload 5, 2) := by decide +kernel
theorem dX1_place_57 : decode cX1_place 57 = .ok (.ifCond .eq 41, 3) := by decide +kernel
theorem dX1_place_60 : decode cX1_place 60 = .ok (.aload_n 0, 1) := by decide +kernel
theorem dX1_place_61 : decode cX1_place 61 = .ok (.getfield 38, 3) := by decide +kernel
theorem dX1_place_64 : decode cX1_place 64 = .ok (.sipush 10007, 3) := by decide +kernel
theorem dX1_place_67 : decode cX1_place 67 = .ok (.iload 5, 2) := by decide +kernel
theorem dX1_place_69 : decode cX1_place 69 = .ok (.isub, 1) := by decide +kernel
theorem dX1_place_70 : decode cX1_place 70 = .ok (.aload_n 0, 1) := by decide +kernel
theorem dX1_place_71 : decode cX1_place 71 = .ok (.getfield 23, 3) := by decide +kernel
theorem dX1_place_74 : decode cX1_place 74 = .ok (.iload 4, 2) := by decide +kernel
theorem dX1_place_76 : decode cX1_place 76 = .ok (.aaload, 1) := by decide +kernel
theorem dX1_place_77 : decode cX1_place 77 = .ok (.iload_n 3, 1) := by decide +kernel
theorem dX1_place_78 : decode cX1_place 78 = .ok (.invokestatic 76, 3) := by decide +kernel
theorem dX1_place_81 : decode cX1_place 81 = .ok (.aload_n 0, 1) := by decide +kernel
theorem dX1_place_82 : decode cX1_place 82 = .ok (.getfield 41, 3) := by decide +kernel
theorem dX1_place_85 : decode cX1_place 85 = .ok (.iload 5, 2) := by decide +kernel
theorem dX1_place_87 : decode cX1_place 87 = .ok (.aload_n 0, 1) := by decide +kernel
theorem dX1_place_88 : decode cX1_place 88 = .ok (.getfield 26, 3) := by decide +kernel
theorem dX1_place_91 : decode cX1_place 91 = .ok (.iload 4, 2) := by decide +kernel
theorem dX1_place_93 : decode cX1_place 93 = .ok (.aaload, 1) := by decide +kernel
theorem dX1_place_94 : decode cX1_place 94 = .ok (.iload_n 3, 1) := by decide +kernel
theorem dX1_place_95 : decode cX1_place 95 = .ok (.invokestatic 76, 3) := by decide +kernel
theorem dX1_place_98 : decode cX1_place 98 = .ok (.iinc 4 1, 3) := by decide +kernel
theorem dX1_place_101 : decode cX1_place 101 = .ok (.goto (-69), 3) := by decide +kernel
theorem dX1_place_104 : decode cX1_place 104 = .ok (.aload_n 0, 1) := by decide +kernel
theorem dX1_place_105 : decode cX1_place 105 = .ok (.getfield 38, 3) := by decide +kernel
theorem dX1_place_108 : decode cX1_place 108 = .ok (.iload_n 3, 1) := by decide +kernel
theorem dX1_place_109 : decode cX1_place 109 = .ok (.invokestatic 80, 3) := by decide +kernel
theorem dX1_place_112 : decode cX1_place 112 = .ok (.istore 4, 2) := by decide +kernel
theorem dX1_place_114 : decode cX1_place 114 = .ok (.iload 4, 2) := by decide +kernel
theorem dX1_place_116 : decode cX1_place 116 = .ok (.iconst (-1), 1) := by decide +kernel
theorem dX1_place_117 : decode cX1_place 117 = .ok (.if_icmp .eq 65, 3) := by decide +kernel
theorem dX1_place_120 : decode cX1_place 120 = .ok (.aload_n 0, 1) := by decide +kernel
theorem dX1_place_121 : decode cX1_place 121 = .ok (.getfield 50, 3) := by decide +kernel
theorem dX1_place_124 : decode cX1_place 124 = .ok (.bipush 24, 2) := by decide +kernel
theorem dX1_place_126 : decode cX1_place 126 = .ok (.if_icmp .ge 56, 3) := by decide +kernel
theorem dX1_place_129 : decode cX1_place 129 = .ok (.aload_n 0, 1) := by decide +kernel
theorem dX1_place_130 : decode cX1_place 130 = .ok (.getfield 9, 3) := by decide +kernel
theorem dX1_place_133 : decode cX1_place 133 = .ok (.aload_n 0, 1) := by decide +kernel
theorem dX1_place_134 : decode cX1_place 134 = .ok (.getfield 50, 3) := by decide +kernel
theorem dX1_place_137 : decode cX1_place 137 = .ok (.iload_n 2, 1) := by decide +kernel
theorem dX1_place_138 : decode cX1_place 138 = .ok (.iastore, 1) := by decide +kernel
theorem dX1_place_139 : decode cX1_place 139 = .ok (.aload_n 0, 1) := by decide +kernel
theorem dX1_place_140 : decode cX1_place 140 = .ok (.getfield 15, 3) := by decide +kernel
theorem dX1_place_143 : decode cX1_place 143 = .ok (.aload_n 0, 1) := by decide +kernel
theorem dX1_place_144 : decode cX1_place 144 = .ok (.getfield 50, 3) := by decide +kernel
theorem dX1_place_147 : decode cX1_place 147 = .ok (.aload_n 1, 1) := by decide +kernel
theorem dX1_place_148 : decode cX1_place 148 = .ok (.aload_n 0, 1) := by decide +kernel
theorem dX1_place_149 : decode cX1_place 149 = .ok (.getfield 35, 3) := by decide +kernel
theorem dX1_place_152 : decode cX1_place 152 = .ok (.invokevirtual 84, 3) := by decide +kernel
theorem dX1_place_155 : decode cX1_place 155 = .ok (.iastore, 1) := by decide +kernel
theorem dX1_place_156 : decode cX1_place 156 = .ok (.aload_n 0, 1) := by decide +kernel
theorem dX1_place_157 : decode cX1_place 157 = .ok (.getfield 29, 3) := by decide +kernel
theorem dX1_place_160 : decode cX1_place 160 = .ok (.aload_n 0, 1) := by decide +kernel
theorem dX1_place_161 : decode cX1_place 161 = .ok (.getfield 50, 3) := by decide +kernel
theorem dX1_place_164 : decode cX1_place 164 = .ok (.iload 4, 2) := by decide +kernel
theorem dX1_place_166 : decode cX1_place 166 = .ok (.iastore, 1) := by decide +kernel
theorem dX1_place_167 : decode cX1_place 167 = .ok (.aload_n 0, 1) := by decide +kernel
theorem dX1_place_168 : decode cX1_place 168 = .ok (.aload_n 0, 1) := by decide +kernel
theorem dX1_place_169 : decode cX1_place 169 = .ok (.getfield 38, 3) := by decide +kernel
theorem dX1_place_172 : decode cX1_place 172 = .ok (.iload 4, 2) := by decide +kernel
theorem dX1_place_174 : decode cX1_place 174 = .ok (.iaload, 1) := by decide +kernel
theorem dX1_place_175 : decode cX1_place 175 = .ok (.invokestatic 88, 3) := by decide +kernel
theorem dX1_place_178 : decode cX1_place 178 = .ok (.iload_n 3, 1) := by decide +kernel
theorem dX1_place_179 : decode cX1_place 179 = .ok (.invokevirtual 92, 3) := by decide +kernel
theorem dX1_place_182 : decode cX1_place 182 = .ok (.return_, 1) := by decide +kernel
theorem dX1_extend_0 : decode cX1_extend 0 = .ok (.aload_n 0, 1) := by decide +kernel
theorem dX1_extend_1 : decode cX1_extend 1 = .ok (.getfield 50, 3) := by decide +kernel
theorem dX1_extend_4 : decode cX1_extend 4 = .ok (.istore_n 3, 1) := by decide +kernel
theorem dX1_extend_5 : decode cX1_extend 5 = .ok (.iconst 0, 1) := by decide +kernel
theorem dX1_extend_6 : decode cX1_extend 6 = .ok (.istore 4, 2) := by decide +kernel
theorem dX1_extend_8 : decode cX1_extend 8 = .ok (.iload 4, 2) := by decide +kernel
theorem dX1_extend_10 : decode cX1_extend 10 = .ok (.iload_n 2, 1) := by decide +kernel
theorem dX1_extend_11 : decode cX1_extend 11 = .ok (.if_icmp .ge 81, 3) := by decide +kernel
theorem dX1_extend_14 : decode cX1_extend 14 = .ok (.aload_n 0, 1) := by decide +kernel
theorem dX1_extend_15 : decode cX1_extend 15 = .ok (.getfield 20, 3) := by decide +kernel
theorem dX1_extend_18 : decode cX1_extend 18 = .ok (.iload_n 3, 1) := by decide +kernel
theorem dX1_extend_19 : decode cX1_extend 19 = .ok (.aaload, 1) := by decide +kernel
theorem dX1_extend_20 : decode cX1_extend 20 = .ok (.iload 4, 2) := by decide +kernel
theorem dX1_extend_22 : decode cX1_extend 22 = .ok (.aload_n 0, 1) := by decide +kernel
theorem dX1_extend_23 : decode cX1_extend 23 = .ok (.getfield 35, 3) := by decide +kernel
theorem dX1_extend_26 : decode cX1_extend 26 = .ok (.iload 4, 2) := by decide +kernel
theorem dX1_extend_28 : decode cX1_extend 28 = .ok (.iaload, 1) := by decide +kernel
theorem dX1_extend_29 : decode cX1_extend 29 = .ok (.iastore, 1) := by decide +kernel
theorem dX1_extend_30 : decode cX1_extend 30 = .ok (.aload_n 0, 1) := by decide +kernel
theorem dX1_extend_31 : decode cX1_extend 31 = .ok (.getfield 23, 3) := by decide +kernel
theorem dX1_extend_34 : decode cX1_extend 34 = .ok (.iload_n 3, 1) := by decide +kernel
theorem dX1_extend_35 : decode cX1_extend 35 = .ok (.aaload, 1) := by decide +kernel
theorem dX1_extend_36 : decode cX1_extend 36 = .ok (.iload 4, 2) := by decide +kernel
theorem dX1_extend_38 : decode cX1_extend 38 = .ok (.aload_n 0, 1) := by decide +kernel
theorem dX1_extend_39 : decode cX1_extend 39 = .ok (.getfield 38, 3) := by decide +kernel
theorem dX1_extend_42 : decode cX1_extend 42 = .ok (.iload 4, 2) := by decide +kernel
theorem dX1_extend_44 : decode cX1_extend 44 = .ok (.iaload, 1) := by decide +kernel
theorem dX1_extend_45 : decode cX1_extend 45 = .ok (.iload_n 1, 1) := by decide +kernel
theorem dX1_extend_46 : decode cX1_extend 46 = .ok (.imul, 1) := by decide +kernel
theorem dX1_extend_47 : decode cX1_extend 47 = .ok (.sipush 10007, 3) := by decide +kernel
theorem dX1_extend_50 : decode cX1_extend 50 = .ok (.irem, 1) := by decide +kernel
theorem dX1_extend_51 : decode cX1_extend 51 = .ok (.iastore, 1) := by decide +kernel
theorem dX1_extend_52 : decode cX1_extend 52 = .ok (.aload_n 0, 1) := by decide +kernel
theorem dX1_extend_53 : decode cX1_extend 53 = .ok (.getfield 26, 3) := by decide +kernel
theorem dX1_extend_56 : decode cX1_extend 56 = .ok (.iload_n 3, 1) := by decide +kernel
theorem dX1_extend_57 : decode cX1_extend 57 = .ok (.aaload, 1) := by decide +kernel
theorem dX1_extend_58 : decode cX1_extend 58 = .ok (.iload 4, 2) := by decide +kernel
theorem dX1_extend_60 : decode cX1_extend 60 = .ok (.aload_n 0, 1) := by decide +kernel
theorem dX1_extend_61 : decode cX1_extend 61 = .ok (.getfield 41, 3) := by decide +kernel
theorem dX1_extend_64 : decode cX1_extend 64 = .ok (.iload 4, 2) := by decide +kernel
theorem dX1_extend_66 : decode cX1_extend 66 = .ok (.iaload, 1) := by decide +kernel
theorem dX1_extend_67 : decode cX1_extend 67 = .ok (.sipush 10007, 3) := by decide +kernel
theorem dX1_extend_70 : decode cX1_extend 70 = .ok (.iload_n 1, 1) := by decide +kernel
theorem dX1_extend_71 : decode cX1_extend 71 = .ok (.isub, 1) := by decide +kernel
theorem dX1_extend_72 : decode cX1_extend 72 = .ok (.imul, 1) := by decide +kernel
theorem dX1_extend_73 : decode cX1_extend 73 = .ok (.sipush 10007, 3) := by decide +kernel
theorem dX1_extend_76 : decode cX1_extend 76 = .ok (.irem, 1) := by decide +kernel
theorem dX1_extend_77 : decode cX1_extend 77 = .ok (.iastore, 1) := by decide +kernel
theorem dX1_extend_78 : decode cX1_extend 78 = .ok (.aload_n 0, 1) := by decide +kernel
theorem dX1_extend_79 : decode cX1_extend 79 = .ok (.getfield 41, 3) := by decide +kernel
theorem dX1_extend_82 : decode cX1_extend 82 = .ok (.iload 4, 2) := by decide +kernel
theorem dX1_extend_84 : decode cX1_extend 84 = .ok (.iconst 0, 1) := by decide +kernel
theorem dX1_extend_85 : decode cX1_extend 85 = .ok (.iastore, 1) := by decide +kernel
theorem dX1_extend_86 : decode cX1_extend 86 = .ok (.iinc 4 1, 3) := by decide +kernel
theorem dX1_extend_89 : decode cX1_extend 89 = .ok (.goto (-81), 3) := by decide +kernel
theorem dX1_extend_92 : decode cX1_extend 92 = .ok (.aload_n 0, 1) := by decide +kernel
theorem dX1_extend_93 : decode cX1_extend 93 = .ok (.getfield 26, 3) := by decide +kernel
theorem dX1_extend_96 : decode cX1_extend 96 = .ok (.iload_n 3, 1) := by decide +kernel
theorem dX1_extend_97 : decode cX1_extend 97 = .ok (.aaload, 1) := by decide +kernel
theorem dX1_extend_98 : decode cX1_extend 98 = .ok (.iload_n 3, 1) := by decide +kernel
theorem dX1_extend_99 : decode cX1_extend 99 = .ok (.iload_n 1, 1) := by decide +kernel
theorem dX1_extend_100 : decode cX1_extend 100 = .ok (.iastore, 1) := by decide +kernel
theorem dX1_extend_101 : decode cX1_extend 101 = .ok (.aload_n 0, 1) := by decide +kernel
theorem dX1_extend_102 : decode cX1_extend 102 = .ok (.getfield 41, 3) := by decide +kernel
theorem dX1_extend_105 : decode cX1_extend 105 = .ok (.iload_n 3, 1) := by decide +kernel
theorem dX1_extend_106 : decode cX1_extend 106 = .ok (.iconst 1, 1) := by decide +kernel
theorem dX1_extend_107 : decode cX1_extend 107 = .ok (.iastore, 1) := by decide +kernel
theorem dX1_extend_108 : decode cX1_extend 108 = .ok (.aload_n 0, 1) := by decide +kernel
theorem dX1_extend_109 : decode cX1_extend 109 = .ok (.dup, 1) := by decide +kernel
theorem dX1_extend_110 : decode cX1_extend 110 = .ok (.getfield 50, 3) := by decide +kernel
theorem dX1_extend_113 : decode cX1_extend 113 = .ok (.iconst 1, 1) := by decide +kernel
theorem dX1_extend_114 : decode cX1_extend 114 = .ok (.iadd, 1) := by decide +kernel
theorem dX1_extend_115 : decode cX1_extend 115 = .ok (.putfield 50, 3) := by decide +kernel
theorem dX1_extend_118 : decode cX1_extend 118 = .ok (.return_, 1) := by decide +kernel
theorem dX1_firstWeighted_0 : decode cX1_firstWeighted 0 = .ok (.aload_n 0, 1) := by decide +kernel
theorem dX1_firstWeighted_1 : decode cX1_firstWeighted 1 = .ok (.getfield 15, 3) := by decide +kernel
theorem dX1_firstWeighted_4 : decode cX1_firstWeighted 4 = .ok (.aload_n 0, 1) := by decide +kernel
theorem dX1_firstWeighted_5 : decode cX1_firstWeighted 5 = .ok (.getfield 50, 3) := by decide +kernel
theorem dX1_firstWeighted_8 : decode cX1_firstWeighted 8 = .ok (.invokestatic 80, 3) := by decide +kernel
theorem dX1_firstWeighted_11 : decode cX1_firstWeighted 11 = .ok (.istore_n 1, 1) := by decide +kernel
theorem dX1_firstWeighted_12 : decode cX1_firstWeighted 12 = .ok (.iload_n 1, 1) := by decide +kernel
theorem dX1_firstWeighted_13 : decode cX1_firstWeighted 13 = .ok (.iconst (-1), 1) := by decide +kernel
theorem dX1_firstWeighted_14 : decode cX1_firstWeighted 14 = .ok (.if_icmp .ne 7, 3) := by decide +kernel
theorem dX1_firstWeighted_17 : decode cX1_firstWeighted 17 = .ok (.iconst (-1), 1) := by decide +kernel
theorem dX1_firstWeighted_18 : decode cX1_firstWeighted 18 = .ok (.goto 9, 3) := by decide +kernel
theorem dX1_firstWeighted_21 : decode cX1_firstWeighted 21 = .ok (.aload_n 0, 1) := by decide +kernel
theorem dX1_firstWeighted_22 : decode cX1_firstWeighted 22 = .ok (.getfield 9, 3) := by decide +kernel
theorem dX1_firstWeighted_25 : decode cX1_firstWeighted 25 = .ok (.iload_n 1, 1) := by decide +kernel
theorem dX1_firstWeighted_26 : decode cX1_firstWeighted 26 = .ok (.iaload, 1) := by decide +kernel
theorem dX1_firstWeighted_27 : decode cX1_firstWeighted 27 = .ok (.ireturn, 1) := by decide +kernel
theorem dX1_build_0 : decode cX1_build 0 = .ok (.aload_n 1, 1) := by decide +kernel
theorem dX1_build_1 : decode cX1_build 1 = .ok (.aload_n 0, 1) := by decide +kernel
theorem dX1_build_2 : decode cX1_build 2 = .ok (.getfield 50, 3) := by decide +kernel
theorem dX1_build_5 : decode cX1_build 5 = .ok (.invokevirtual 96, 3) := by decide +kernel
theorem dX1_build_8 : decode cX1_build 8 = .ok (.aload_n 0, 1) := by decide +kernel
theorem dX1_build_9 : decode cX1_build 9 = .ok (.getfield 15, 3) := by decide +kernel
theorem dX1_build_12 : decode cX1_build 12 = .ok (.iconst 0, 1) := by decide +kernel
theorem dX1_build_13 : decode cX1_build 13 = .ok (.aload_n 1, 1) := by decide +kernel
theorem dX1_build_14 : decode cX1_build 14 = .ok (.getfield 100, 3) := by decide +kernel
theorem dX1_build_17 : decode cX1_build 17 = .ok (.iconst 0, 1) := by decide +kernel
theorem dX1_build_18 : decode cX1_build 18 = .ok (.aload_n 0, 1) := by decide +kernel
theorem dX1_build_19 : decode cX1_build 19 = .ok (.getfield 50, 3) := by decide +kernel
theorem dX1_build_22 : decode cX1_build 22 = .ok (.invokestatic 56, 3) := by decide +kernel
theorem dX1_build_25 : decode cX1_build 25 = .ok (.iconst 0, 1) := by decide +kernel
theorem dX1_build_26 : decode cX1_build 26 = .ok (.istore_n 2, 1) := by decide +kernel
theorem dX1_build_27 : decode cX1_build 27 = .ok (.iload_n 2, 1) := by decide +kernel
theorem dX1_build_28 : decode cX1_build 28 = .ok (.aload_n 0, 1) := by decide +kernel
theorem dX1_build_29 : decode cX1_build 29 = .ok (.getfield 50, 3) := by decide +kernel
theorem dX1_build_32 : decode cX1_build 32 = .ok (.if_icmp .ge 67, 3) := by decide +kernel
theorem dX1_build_35 : decode cX1_build 35 = .ok (.aload_n 1, 1) := by decide +kernel
theorem dX1_build_36 : decode cX1_build 36 = .ok (.getfield 53, 3) := by decide +kernel
theorem dX1_build_39 : decode cX1_build 39 = .ok (.iload_n 2, 1) := by decide +kernel
theorem dX1_build_40 : decode cX1_build 40 = .ok (.iload_n 2, 1) := by decide +kernel
theorem dX1_build_41 : decode cX1_build 41 = .ok (.ifCond .ne 7, 3) := by decide +kernel
theorem dX1_build_44 : decode cX1_build 44 = .ok (.iconst 1, 1) := by decide +kernel
theorem dX1_build_45 : decode cX1_build 45 = .ok (.goto 4, 3) := by decide +kernel
theorem dX1_build_48 : decode cX1_build 48 = .ok (.iconst 0, 1) := by decide +kernel
theorem dX1_build_49 : decode cX1_build 49 = .ok (.iastore, 1) := by decide +kernel
theorem dX1_build_50 : decode cX1_build 50 = .ok (.iconst 0, 1) := by decide +kernel
theorem dX1_build_51 : decode cX1_build 51 = .ok (.istore_n 3, 1) := by decide +kernel
theorem dX1_build_52 : decode cX1_build 52 = .ok (.iload_n 3, 1) := by decide +kernel
theorem dX1_build_53 : decode cX1_build 53 = .ok (.iconst 2, 1) := by decide +kernel
theorem dX1_build_54 : decode cX1_build 54 = .ok (.if_icmp .ge 39, 3) := by decide +kernel
theorem dX1_build_57 : decode cX1_build 57 = .ok (.aload_n 0, 1) := by decide +kernel
theorem dX1_build_58 : decode cX1_build 58 = .ok (.getfield 32, 3) := by decide +kernel
theorem dX1_build_61 : decode cX1_build 61 = .ok (.iconst 2, 1) := by decide +kernel
theorem dX1_build_62 : decode cX1_build 62 = .ok (.iload_n 2, 1) := by decide +kernel
theorem dX1_build_63 : decode cX1_build 63 = .ok (.imul, 1) := by decide +kernel
theorem dX1_build_64 : decode cX1_build 64 = .ok (.iload_n 3, 1) := by decide +kernel
theorem dX1_build_65 : decode cX1_build 65 = .ok (.iadd, 1) := by decide +kernel
theorem dX1_build_66 : decode cX1_build 66 = .ok (.aaload, 1) := by decide +kernel
theorem dX1_build_67 : decode cX1_build 67 = .ok (.iconst 0, 1) := by decide +kernel
theorem dX1_build_68 : decode cX1_build 68 = .ok (.aload_n 1, 1) := by decide +kernel
theorem dX1_build_69 : decode cX1_build 69 = .ok (.getfield 103, 3) := by decide +kernel
theorem dX1_build_72 : decode cX1_build 72 = .ok (.iload_n 3, 1) := by decide +kernel
theorem dX1_build_73 : decode cX1_build 73 = .ok (.aaload, 1) := by decide +kernel
theorem dX1_build_74 : decode cX1_build 74 = .ok (.iload_n 2, 1) := by decide +kernel
theorem dX1_build_75 : decode cX1_build 75 = .ok (.aload_n 0, 1) := by decide +kernel
theorem dX1_build_76 : decode cX1_build 76 = .ok (.getfield 50, 3) := by decide +kernel
theorem dX1_build_79 : decode cX1_build 79 = .ok (.imul, 1) := by decide +kernel
theorem dX1_build_80 : decode cX1_build 80 = .ok (.aload_n 0, 1) := by decide +kernel
theorem dX1_build_81 : decode cX1_build 81 = .ok (.getfield 50, 3) := by decide +kernel
theorem dX1_build_84 : decode cX1_build 84 = .ok (.invokestatic 56, 3) := by decide +kernel
theorem dX1_build_87 : decode cX1_build 87 = .ok (.iinc 3 1, 3) := by decide +kernel
theorem dX1_build_90 : decode cX1_build 90 = .ok (.goto (-38), 3) := by decide +kernel
theorem dX1_build_93 : decode cX1_build 93 = .ok (.iinc 2 1, 3) := by decide +kernel
theorem dX1_build_96 : decode cX1_build 96 = .ok (.goto (-69), 3) := by decide +kernel
theorem dX1_build_99 : decode cX1_build 99 = .ok (.return_, 1) := by decide +kernel
theorem dX1_reduce_0 : decode cX1_reduce 0 = .ok (.aload_n 0, 1) := by decide +kernel
theorem dX1_reduce_1 : decode cX1_reduce 1 = .ok (.aload_n 1, 1) := by decide +kernel
theorem dX1_reduce_2 : decode cX1_reduce 2 = .ok (.invokevirtual 106, 3) := by decide +kernel
theorem dX1_reduce_5 : decode cX1_reduce 5 = .ok (.aload_n 0, 1) := by decide +kernel
theorem dX1_reduce_6 : decode cX1_reduce 6 = .ok (.aload_n 1, 1) := by decide +kernel
theorem dX1_reduce_7 : decode cX1_reduce 7 = .ok (.invokevirtual 110, 3) := by decide +kernel
theorem dX1_reduce_10 : decode cX1_reduce 10 = .ok (.return_, 1) := by decide +kernel
theorem dX1_minimize_0 : decode cX1_minimize 0 = .ok (.iconst 0, 1) := by decide +kernel
theorem dX1_minimize_1 : decode cX1_minimize 1 = .ok (.istore_n 2, 1) := by decide +kernel
theorem dX1_minimize_2 : decode cX1_minimize 2 = .ok (.iload_n 2, 1) := by decide +kernel
theorem dX1_minimize_3 : decode cX1_minimize 3 = .ok (.iconst 2, 1) := by decide +kernel
theorem dX1_minimize_4 : decode cX1_minimize 4 = .ok (.if_icmp .ge 23, 3) := by decide +kernel
theorem dX1_minimize_7 : decode cX1_minimize 7 = .ok (.aload_n 0, 1) := by decide +kernel
theorem dX1_minimize_8 : decode cX1_minimize 8 = .ok (.aload_n 1, 1) := by decide +kernel
theorem dX1_minimize_9 : decode cX1_minimize 9 = .ok (.invokevirtual 106, 3) := by decide +kernel
theorem dX1_minimize_12 : decode cX1_minimize 12 = .ok (.aload_n 0, 1) := by decide +kernel
theorem dX1_minimize_13 : decode cX1_minimize 13 = .ok (.aload_n 1, 1) := by decide +kernel
theorem dX1_minimize_14 : decode cX1_minimize 14 = .ok (.invokevirtual 110, 3) := by decide +kernel
theorem dX1_minimize_17 : decode cX1_minimize 17 = .ok (.aload_n 1, 1) := by decide +kernel
theorem dX1_minimize_18 : decode cX1_minimize 18 = .ok (.invokevirtual 113, 3) := by decide +kernel
theorem dX1_minimize_21 : decode cX1_minimize 21 = .ok (.iinc 2 1, 3) := by decide +kernel
theorem dX1_minimize_24 : decode cX1_minimize 24 = .ok (.goto (-22), 3) := by decide +kernel
theorem dX1_minimize_27 : decode cX1_minimize 27 = .ok (.return_, 1) := by decide +kernel
theorem dX2_init_0 : decode cX2_init 0 = .ok (.aload_n 0, 1) := by decide +kernel
theorem dX2_init_1 : decode cX2_init 1 = .ok (.invokespecial 3, 3) := by decide +kernel
theorem dX2_init_4 : decode cX2_init 4 = .ok (.aload_n 0, 1) := by decide +kernel
theorem dX2_init_5 : decode cX2_init 5 = .ok (.bipush 60, 2) := by decide +kernel
theorem dX2_init_7 : decode cX2_init 7 = .ok (.newarray .int, 2) := by decide +kernel
theorem dX2_init_9 : decode cX2_init 9 = .ok (.putfield 9, 3) := by decide +kernel
theorem dX2_init_12 : decode cX2_init 12 = .ok (.aload_n 0, 1) := by decide +kernel
theorem dX2_init_13 : decode cX2_init 13 = .ok (.bipush 9, 2) := by decide +kernel
theorem dX2_init_15 : decode cX2_init 15 = .ok (.invokestatic 15, 3) := by decide +kernel
theorem dX2_init_18 : decode cX2_init 18 = .ok (.putfield 19, 3) := by decide +kernel
theorem dX2_init_21 : decode cX2_init 21 = .ok (.aload_n 0, 1) := by decide +kernel
theorem dX2_init_22 : decode cX2_init 22 = .ok (.bipush 9, 2) := by decide +kernel
theorem dX2_init_24 : decode cX2_init 24 = .ok (.newarray .boolean, 2) := by decide +kernel
theorem dX2_init_26 : decode cX2_init 26 = .ok (.putfield 23, 3) := by decide +kernel
theorem dX2_init_29 : decode cX2_init 29 = .ok (.aload_n 0, 1) := by decide +kernel
theorem dX2_init_30 : decode cX2_init 30 = .ok (.bipush 9, 2) := by decide +kernel
theorem dX2_init_32 : decode cX2_init 32 = .ok (.invokestatic 15, 3) := by decide +kernel
theorem dX2_init_35 : decode cX2_init 35 = .ok (.putfield 27, 3) := by decide +kernel
theorem dX2_init_38 : decode cX2_init 38 = .ok (.aload_n 0, 1) := by decide +kernel
theorem dX2_init_39 : decode cX2_init 39 = .ok (.bipush 9, 2) := by decide +kernel
theorem dX2_init_41 : decode cX2_init 41 = .ok (.newarray .boolean, 2) := by decide +kernel
theorem dX2_init_43 : decode cX2_init 43 = .ok (.putfield 30, 3) := by decide +kernel
theorem dX2_init_46 : decode cX2_init 46 = .ok (.aload_n 0, 1) := by decide +kernel
theorem dX2_init_47 : decode cX2_init 47 = .ok (.new 33, 3) := by decide +kernel
theorem dX2_init_50 : decode cX2_init 50 = .ok (.dup, 1) := by decide +kernel
theorem dX2_init_51 : decode cX2_init 51 = .ok (.bipush 12, 2) := by decide +kernel
theorem dX2_init_53 : decode cX2_init 53 = .ok (.invokespecial 35, 3) := by decide +kernel
theorem dX2_init_56 : decode cX2_init 56 = .ok (.putfield 38, 3) := by decide +kernel
theorem dX2_init_59 : decode cX2_init 59 = .ok (.aload_n 0, 1) := by decide +kernel
theorem dX2_init_60 : decode cX2_init 60 = .ok (.new 33, 3) := by decide +kernel
theorem dX2_init_63 : decode cX2_init 63 = .ok (.dup, 1) := by decide +kernel
theorem dX2_init_64 : decode cX2_init 64 = .ok (.bipush 12, 2) := by decide +kernel
theorem dX2_init_66 : decode cX2_init 66 = .ok (.invokespecial 35, 3) := by decide +kernel
theorem dX2_init_69 : decode cX2_init 69 = .ok (.putfield 42, 3) := by decide +kernel
theorem dX2_init_72 : decode cX2_init 72 = .ok (.return_, 1) := by decide +kernel
theorem dX2_syntaxError_0 : decode cX2_syntaxError 0 = .ok (.iconst 0, 1) := by decide +kernel
theorem dX2_syntaxError_1 : decode cX2_syntaxError 1 = .ok (.istore_n 1, 1) := by decide +kernel
theorem dX2_syntaxError_2 : decode cX2_syntaxError 2 = .ok (.iconst 0, 1) := by decide +kernel
theorem dX2_syntaxError_3 : decode cX2_syntaxError 3 = .ok (.istore_n 2, 1) := by decide +kernel
theorem dX2_syntaxError_4 : decode cX2_syntaxError 4 = .ok (.iconst 1, 1) := by decide +kernel
theorem dX2_syntaxError_5 : decode cX2_syntaxError 5 = .ok (.istore_n 3, 1) := by decide +kernel
theorem dX2_syntaxError_6 : decode cX2_syntaxError 6 = .ok (.iconst 0, 1) := by decide +kernel
theorem dX2_syntaxError_7 : decode cX2_syntaxError 7 = .ok (.istore 4, 2) := by decide +kernel
theorem dX2_syntaxError_9 : decode cX2_syntaxError 9 = .ok (.iload 4, 2) := by decide +kernel
theorem dX2_syntaxError_11 : decode cX2_syntaxError 11 = .ok (.aload_n 0, 1) := by decide +kernel
theorem dX2_syntaxError_12 : decode cX2_syntaxError 12 = .ok (.getfield 45, 3) := by decide +kernel
theorem dX2_syntaxError_15 : decode cX2_syntaxError 15 = .ok (.if_icmp .ge 95, 3) := by decide +kernel
theorem dX2_syntaxError_18 : decode cX2_syntaxError 18 = .ok (.aload_n 0, 1) := by decide +kernel
theorem dX2_syntaxError_19 : decode cX2_syntaxError 19 = .ok (.getfield 9, 3) := by decide +kernel
theorem dX2_syntaxError_22 : decode cX2_syntaxError 22 = .ok (.iload 4, 2) := by decide +kernel
theorem dX2_syntaxError_24 : decode cX2_syntaxError 24 = .ok (.iaload, 1) := by decide +kernel
theorem dX2_syntaxError_25 : decode cX2_syntaxError 25 = .ok (.istore 5, 2) := by decide +kernel
theorem dX2_syntaxError_27 : decode cX2_syntaxError 27 = .ok (.iload 5, 2) := by decide +kernel
theorem dX2_syntaxError_29 : decode cX2_syntaxError 29 = .ok (.invokestatic 49, 3) := by decide +kernel
theorem dX2_syntaxError_32 : decode cX2_syntaxError 32 = .ok (.ifCond .eq 9, 3) := by decide +kernel
theorem dX2_syntaxError_35 : decode cX2_syntaxError 35 = .ok (.iload_n 2, 1) := by decide +kernel
theorem dX2_syntaxError_36 : decode cX2_syntaxError 36 = .ok (.iconst 1, 1) := by decide +kernel
theorem dX2_syntaxError_37 : decode cX2_syntaxError 37 = .ok (.iadd, 1) := by decide +kernel
theorem dX2_syntaxError_38 : decode cX2_syntaxError 38 = .ok (.goto 4, 3) := by decide +kernel
theorem dX2_syntaxError_41 : decode cX2_syntaxError 41 = .ok (.iconst 0, 1) := by decide +kernel
theorem dX2_syntaxError_42 : decode cX2_syntaxError 42 = .ok (.istore_n 2, 1) := by decide +kernel
theorem dX2_syntaxError_43 : decode cX2_syntaxError 43 = .ok (.iload_n 2, 1) := by decide +kernel
theorem dX2_syntaxError_44 : decode cX2_syntaxError 44 = .ok (.iconst 4, 1) := by decide +kernel
theorem dX2_syntaxError_45 : decode cX2_syntaxError 45 = .ok (.if_icmp .gt 13, 3) := by decide +kernel
theorem dX2_syntaxError_48 : decode cX2_syntaxError 48 = .ok (.iload 5, 2) := by decide +kernel
theorem dX2_syntaxError_50 : decode cX2_syntaxError 50 = .ok (.iload_n 3, 1) := by decide +kernel
theorem dX2_syntaxError_51 : decode cX2_syntaxError 51 = .ok (.iload_n 1, 1) := by decide +kernel
theorem dX2_syntaxError_52 : decode cX2_syntaxError 52 = .ok (.invokestatic 53, 3) := by decide +kernel
theorem dX2_syntaxError_55 : decode cX2_syntaxError 55 = .ok (.ifCond .ne 6, 3) := by decide +kernel
theorem dX2_syntaxError_58 : decode cX2_syntaxError 58 = .ok (.iload 4, 2) := by decide +kernel
theorem dX2_syntaxError_60 : decode cX2_syntaxError 60 = .ok (.ireturn, 1) := by decide +kernel
theorem dX2_syntaxError_61 : decode cX2_syntaxError 61 = .ok (.iload 5, 2) := by decide +kernel
theorem dX2_syntaxError_63 : decode cX2_syntaxError 63 = .ok (.bipush 40, 2) := by decide +kernel
theorem dX2_syntaxError_65 : decode cX2_syntaxError 65 = .ok (.if_icmp .ne 9, 3) := by decide +kernel
theorem dX2_syntaxError_68 : decode cX2_syntaxError 68 = .ok (.iinc 1 1, 3) := by decide +kernel
theorem dX2_syntaxError_71 : decode cX2_syntaxError 71 = .ok (.goto 13, 3) := by decide +kernel
theorem dX2_syntaxError_74 : decode cX2_syntaxError 74 = .ok (.iload 5, 2) := by decide +kernel
theorem dX2_syntaxError_76 : decode cX2_syntaxError 76 = .ok (.bipush 41, 2) := by decide +kernel
theorem dX2_syntaxError_78 : decode cX2_syntaxError 78 = .ok (.if_icmp .ne 6, 3) := by decide +kernel
theorem dX2_syntaxError_81 : decode cX2_syntaxError 81 = .ok (.iinc 1 (-1), 3) := by decide +kernel
theorem dX2_syntaxError_84 : decode cX2_syntaxError 84 = .ok (.iload 5, 2) := by decide +kernel
theorem dX2_syntaxError_86 : decode cX2_syntaxError 86 = .ok (.bipush 40, 2) := by decide +kernel
theorem dX2_syntaxError_88 : decode cX2_syntaxError 88 = .ok (.if_icmp .eq 10, 3) := by decide +kernel
theorem dX2_syntaxError_91 : decode cX2_syntaxError 91 = .ok (.iload 5, 2) := by decide +kernel
theorem dX2_syntaxError_93 : decode cX2_syntaxError 93 = .ok (.bipush 43, 2) := by decide +kernel
theorem dX2_syntaxError_95 : decode cX2_syntaxError 95 = .ok (.if_icmp .ne 7, 3) := by decide +kernel
theorem dX2_syntaxError_98 : decode cX2_syntaxError 98 = .ok (.iconst 1, 1) := by decide +kernel
theorem dX2_syntaxError_99 : decode cX2_syntaxError 99 = .ok (.goto 4, 3) := by decide +kernel
theorem dX2_syntaxError_102 : decode cX2_syntaxError 102 = .ok (.iconst 0, 1) := by decide +kernel
theorem dX2_syntaxError_103 : decode cX2_syntaxError 103 = .ok (.istore_n 3, 1) := by decide +kernel
theorem dX2_syntaxError_104 : decode cX2_syntaxError 104 = .ok (.iinc 4 1, 3) := by decide +kernel
theorem dX2_syntaxError_107 : decode cX2_syntaxError 107 = .ok (.goto (-98), 3) := by decide +kernel
theorem dX2_syntaxError_110 : decode cX2_syntaxError 110 = .ok (.iload_n 3, 1) := by decide +kernel
theorem dX2_syntaxError_111 : decode cX2_syntaxError 111 = .ok (.ifCond .ne 7, 3) := by decide +kernel
theorem dX2_syntaxError_114 : decode cX2_syntaxError 114 = .ok (.iload_n 1, 1) := by decide +kernel
theorem dX2_syntaxError_115 : decode cX2_syntaxError 115 = .ok (.ifCond .le 10, 3) := by decide +kernel
theorem dX2_syntaxError_118 : decode cX2_syntaxError 118 = .ok (.aload_n 0, 1) := by decide +kernel
theorem dX2_syntaxError_119 : decode cX2_syntaxError 119 = .ok (.getfield 45, 3) := by decide +kernel
theorem dX2_syntaxError_122 : decode cX2_syntaxError 122 = .ok (.goto 4, 3) := by decide +kernel
theorem dX2_syntaxError_125 : decode cX2_syntaxError 125 = .ok (.iconst (-1), 1) := by decide +kernel
theorem dX2_syntaxError_126 : decode cX2_syntaxError 126 = .ok (.ireturn, 1) := by decide +kernel
theorem dX2_isDigit_0 : decode cX2_isDigit 0 = .ok (.iload_n 0, 1) := by decide +kernel
theorem dX2_isDigit_1 : decode cX2_isDigit 1 = .ok (.bipush 48, 2) := by decide +kernel
theorem dX2_isDigit_3 : decode cX2_isDigit 3 = .ok (.if_icmp .lt 13, 3) := by decide +kernel
theorem dX2_isDigit_6 : decode cX2_isDigit 6 = .ok (.iload_n 0, 1) := by decide +kernel
theorem dX2_isDigit_7 : decode cX2_isDigit 7 = .ok (.bipush 57, 2) := by decide +kernel
theorem dX2_isDigit_9 : decode cX2_isDigit 9 = .ok (.if_icmp .gt 7, 3) := by decide +kernel
theorem dX2_isDigit_12 : decode cX2_isDigit 12 = .ok (.iconst 1, 1) := by decide +kernel
theorem dX2_isDigit_13 : decode cX2_isDigit 13 = .ok (.goto 4, 3) := by decide +kernel
theorem dX2_isDigit_16 : decode cX2_isDigit 16 = .ok (.iconst 0, 1) := by decide +kernel
theorem dX2_isDigit_17 : decode cX2_isDigit 17 = .ok (.ireturn, 1) := by decide +kernel
theorem dX2_canStand_0 : decode cX2_canStand 0 = .ok (.iload_n 0, 1) := by decide +kernel
theorem dX2_canStand_1 : decode cX2_canStand 1 = .ok (.lookupswitch 97 #[(40, 61), (41, 73), (42, 87), (43, 87), (97, 59), (98, 59)], 59) := by decide +kernel
theorem dX2_canStand_60 : decode cX2_canStand 60 = .ok (.iconst 1, 1) := by decide +kernel
theorem dX2_canStand_61 : decode cX2_canStand 61 = .ok (.ireturn, 1) := by decide +kernel
theorem dX2_canStand_62 : decode cX2_canStand 62 = .ok (.iload_n 2, 1) := by decide +kernel
theorem dX2_canStand_63 : decode cX2_canStand 63 = .ok (.bipush 8, 2) := by decide +kernel
theorem dX2_canStand_65 : decode cX2_canStand 65 = .ok (.if_icmp .ge 7, 3) := by decide +kernel
theorem dX2_canStand_68 : decode cX2_canStand 68 = .ok (.iconst 1, 1) := by decide +kernel
theorem dX2_canStand_69 : decode cX2_canStand 69 = .ok (.goto 4, 3) := by decide +kernel
theorem dX2_canStand_72 : decode cX2_canStand 72 = .ok (.iconst 0, 1) := by decide +kernel
theorem dX2_canStand_73 : decode cX2_canStand 73 = .ok (.ireturn, 1) := by decide +kernel
theorem dX2_canStand_74 : decode cX2_canStand 74 = .ok (.iload_n 1, 1) := by decide +kernel
theorem dX2_canStand_75 : decode cX2_canStand 75 = .ok (.ifCond .ne 11, 3) := by decide +kernel
theorem dX2_canStand_78 : decode cX2_canStand 78 = .ok (.iload_n 2, 1) := by decide +kernel
theorem dX2_canStand_79 : decode cX2_canStand 79 = .ok (.ifCond .le 7, 3) := by decide +kernel
theorem dX2_canStand_82 : decode cX2_canStand 82 = .ok (.iconst 1, 1) := by decide +kernel
theorem dX2_canStand_83 : decode cX2_canStand 83 = .ok (.goto 4, 3) := by decide +kernel
theorem dX2_canStand_86 : decode cX2_canStand 86 = .ok (.iconst 0, 1) := by decide +kernel
theorem dX2_canStand_87 : decode cX2_canStand 87 = .ok (.ireturn, 1) := by decide +kernel
theorem dX2_canStand_88 : decode cX2_canStand 88 = .ok (.iload_n 1, 1) := by decide +kernel
theorem dX2_canStand_89 : decode cX2_canStand 89 = .ok (.ifCond .ne 7, 3) := by decide +kernel
theorem dX2_canStand_92 : decode cX2_canStand 92 = .ok (.iconst 1, 1) := by decide +kernel
theorem dX2_canStand_93 : decode cX2_canStand 93 = .ok (.goto 4, 3) := by decide +kernel
theorem dX2_canStand_96 : decode cX2_canStand 96 = .ok (.iconst 0, 1) := by decide +kernel
theorem dX2_canStand_97 : decode cX2_canStand 97 = .ok (.ireturn, 1) := by decide +kernel
theorem dX2_canStand_98 : decode cX2_canStand 98 = .ok (.iload_n 0, 1) := by decide +kernel
theorem dX2_canStand_99 : decode cX2_canStand 99 = .ok (.invokestatic 49, 3) := by decide +kernel
theorem dX2_canStand_102 : decode cX2_canStand 102 = .ok (.ireturn, 1) := by decide +kernel
theorem dX2_evaluate_0 : decode cX2_evaluate 0 = .ok (.iconst 0, 1) := by decide +kernel
theorem dX2_evaluate_1 : decode cX2_evaluate 1 = .ok (.istore_n 2, 1) := by decide +kernel
theorem dX2_evaluate_2 : decode cX2_evaluate 2 = .ok (.aload_n 0, 1) := by decide +kernel
theorem dX2_evaluate_3 : decode cX2_evaluate 3 = .ok (.iconst 0, 1) := by decide +kernel
theorem dX2_evaluate_4 : decode cX2_evaluate 4 = .ok (.putfield 57, 3) := by decide +kernel
theorem dX2_evaluate_7 : decode cX2_evaluate 7 = .ok (.aload_n 0, 1) := by decide +kernel
theorem dX2_evaluate_8 : decode cX2_evaluate 8 = .ok (.iload_n 2, 1) := by decide +kernel
theorem dX2_evaluate_9 : decode cX2_evaluate 9 = .ok (.invokevirtual 61, 3) := by decide +kernel
theorem dX2_evaluate_12 : decode cX2_evaluate 12 = .ok (.iconst 1, 1) := by decide +kernel
theorem dX2_evaluate_13 : decode cX2_evaluate 13 = .ok (.istore_n 3, 1) := by decide +kernel
theorem dX2_evaluate_14 : decode cX2_evaluate 14 = .ok (.iconst 0, 1) := by decide +kernel
theorem dX2_evaluate_15 : decode cX2_evaluate 15 = .ok (.istore 4, 2) := by decide +kernel
theorem dX2_evaluate_17 : decode cX2_evaluate 17 = .ok (.iload 4, 2) := by decide +kernel
theorem dX2_evaluate_19 : decode cX2_evaluate 19 = .ok (.aload_n 0, 1) := by decide +kernel
theorem dX2_evaluate_20 : decode cX2_evaluate 20 = .ok (.getfield 45, 3) := by decide +kernel
theorem dX2_evaluate_23 : decode cX2_evaluate 23 = .ok (.if_icmp .ge 231, 3) := by decide +kernel
theorem dX2_evaluate_26 : decode cX2_evaluate 26 = .ok (.iload_n 3, 1) := by decide +kernel
theorem dX2_evaluate_27 : decode cX2_evaluate 27 = .ok (.ifCond .eq 227, 3) := by decide +kernel
theorem dX2_evaluate_30 : decode cX2_evaluate 30 = .ok (.aload_n 0, 1) := by decide +kernel
theorem dX2_evaluate_31 : decode cX2_evaluate 31 = .ok (.getfield 9, 3) := by decide +kernel
theorem dX2_evaluate_34 : decode cX2_evaluate 34 = .ok (.iload 4, 2) := by decide +kernel
theorem dX2_evaluate_36 : decode cX2_evaluate 36 = .ok (.iaload, 1) := by decide +kernel
theorem dX2_evaluate_37 : decode cX2_evaluate 37 = .ok (.istore 5, 2) := by decide +kernel
theorem dX2_evaluate_39 : decode cX2_evaluate 39 = .ok (.iload 5, 2) := by decide +kernel
theorem dX2_evaluate_41 : decode cX2_evaluate 41 = .ok (.bipush 42, 2) := by decide +kernel
theorem dX2_evaluate_43 : decode cX2_evaluate 43 = .ok (.if_icmp .ne 12, 3) := by decide +kernel
theorem dX2_evaluate_46 : decode cX2_evaluate 46 = .ok (.aload_n 0, 1) := by decide +kernel
theorem dX2_evaluate_47 : decode cX2_evaluate 47 = .ok (.aload_n 1, 1) := by decide +kernel
theorem dX2_evaluate_48 : decode cX2_evaluate 48 = .ok (.invokevirtual 64, 3) := by decide +kernel
theorem dX2_evaluate_51 : decode cX2_evaluate 51 = .ok (.istore_n 3, 1) := by decide +kernel
theorem dX2_evaluate_52 : decode cX2_evaluate 52 = .ok (.goto 196, 3) := by decide +kernel
theorem dX2_evaluate_55 : decode cX2_evaluate 55 = .ok (.iload 5, 2) := by decide +kernel
theorem dX2_evaluate_57 : decode cX2_evaluate 57 = .ok (.bipush 43, 2) := by decide +kernel
theorem dX2_evaluate_59 : decode cX2_evaluate 59 = .ok (.if_icmp .ne 30, 3) := by decide +kernel
theorem dX2_evaluate_62 : decode cX2_evaluate 62 = .ok (.aload_n 0, 1) := by decide +kernel
theorem dX2_evaluate_63 : decode cX2_evaluate 63 = .ok (.iload_n 2, 1) := by decide +kernel
theorem dX2_evaluate_64 : decode cX2_evaluate 64 = .ok (.aload_n 1, 1) := by decide +kernel
theorem dX2_evaluate_65 : decode cX2_evaluate 65 = .ok (.invokevirtual 68, 3) := by decide +kernel
theorem dX2_evaluate_68 : decode cX2_evaluate 68 = .ok (.ifCond .eq 16, 3) := by decide +kernel
theorem dX2_evaluate_71 : decode cX2_evaluate 71 = .ok (.aload_n 0, 1) := by decide +kernel
theorem dX2_evaluate_72 : decode cX2_evaluate 72 = .ok (.iload_n 2, 1) := by decide +kernel
theorem dX2_evaluate_73 : decode cX2_evaluate 73 = .ok (.aload_n 1, 1) := by decide +kernel
theorem dX2_evaluate_74 : decode cX2_evaluate 74 = .ok (.invokevirtual 72, 3) := by decide +kernel
theorem dX2_evaluate_77 : decode cX2_evaluate 77 = .ok (.ifCond .eq 7, 3) := by decide +kernel
theorem dX2_evaluate_80 : decode cX2_evaluate 80 = .ok (.iconst 1, 1) := by decide +kernel
theorem dX2_evaluate_81 : decode cX2_evaluate 81 = .ok (.goto 4, 3) := by decide +kernel
theorem dX2_evaluate_84 : decode cX2_evaluate 84 = .ok (.iconst 0, 1) := by decide +kernel
theorem dX2_evaluate_85 : decode cX2_evaluate 85 = .ok (.istore_n 3, 1) := by decide +kernel
theorem dX2_evaluate_86 : decode cX2_evaluate 86 = .ok (.goto 162, 3) := by decide +kernel
theorem dX2_evaluate_89 : decode cX2_evaluate 89 = .ok (.iload 5, 2) := by decide +kernel
theorem dX2_evaluate_91 : decode cX2_evaluate 91 = .ok (.bipush 41, 2) := by decide +kernel
theorem dX2_evaluate_93 : decode cX2_evaluate 93 = .ok (.if_icmp .ne 56, 3) := by decide +kernel
theorem dX2_evaluate_96 : decode cX2_evaluate 96 = .ok (.aload_n 0, 1) := by decide +kernel
theorem dX2_evaluate_97 : decode cX2_evaluate 97 = .ok (.iload_n 2, 1) := by decide +kernel
theorem dX2_evaluate_98 : decode cX2_evaluate 98 = .ok (.aload_n 1, 1) := by decide +kernel
theorem dX2_evaluate_99 : decode cX2_evaluate 99 = .ok (.invokevirtual 68, 3) := by decide +kernel
theorem dX2_evaluate_102 : decode cX2_evaluate 102 = .ok (.ifCond .eq 16, 3) := by decide +kernel
theorem dX2_evaluate_105 : decode cX2_evaluate 105 = .ok (.aload_n 0, 1) := by decide +kernel
theorem dX2_evaluate_106 : decode cX2_evaluate 106 = .ok (.iload_n 2, 1) := by decide +kernel
theorem dX2_evaluate_107 : decode cX2_evaluate 107 = .ok (.aload_n 1, 1) := by decide +kernel
theorem dX2_evaluate_108 : decode cX2_evaluate 108 = .ok (.invokevirtual 72, 3) := by decide +kernel
theorem dX2_evaluate_111 : decode cX2_evaluate 111 = .ok (.ifCond .eq 7, 3) := by decide +kernel
theorem dX2_evaluate_114 : decode cX2_evaluate 114 = .ok (.iconst 1, 1) := by decide +kernel
theorem dX2_evaluate_115 : decode cX2_evaluate 115 = .ok (.goto 4, 3) := by decide +kernel
theorem dX2_evaluate_118 : decode cX2_evaluate 118 = .ok (.iconst 0, 1) := by decide +kernel
theorem dX2_evaluate_119 : decode cX2_evaluate 119 = .ok (.istore_n 3, 1) := by decide +kernel
theorem dX2_evaluate_120 : decode cX2_evaluate 120 = .ok (.aload_n 0, 1) := by decide +kernel
theorem dX2_evaluate_121 : decode cX2_evaluate 121 = .ok (.getfield 38, 3) := by decide +kernel
theorem dX2_evaluate_124 : decode cX2_evaluate 124 = .ok (.aload_n 0, 1) := by decide +kernel
theorem dX2_evaluate_125 : decode cX2_evaluate 125 = .ok (.getfield 19, 3) := by decide +kernel
theorem dX2_evaluate_128 : decode cX2_evaluate 128 = .ok (.iload_n 2, 1) := by decide +kernel
theorem dX2_evaluate_129 : decode cX2_evaluate 129 = .ok (.aaload, 1) := by decide +kernel
theorem dX2_evaluate_130 : decode cX2_evaluate 130 = .ok (.invokevirtual 75, 3) := by decide +kernel
theorem dX2_evaluate_133 : decode cX2_evaluate 133 = .ok (.aload_n 0, 1) := by decide +kernel
theorem dX2_evaluate_134 : decode cX2_evaluate 134 = .ok (.iconst 1, 1) := by decide +kernel
theorem dX2_evaluate_135 : decode cX2_evaluate 135 = .ok (.putfield 57, 3) := by decide +kernel
theorem dX2_evaluate_138 : decode cX2_evaluate 138 = .ok (.iload_n 2, 1) := by decide +kernel
theorem dX2_evaluate_139 : decode cX2_evaluate 139 = .ok (.iconst 1, 1) := by decide +kernel
theorem dX2_evaluate_140 : decode cX2_evaluate 140 = .ok (.isub, 1) := by decide +kernel
theorem dX2_evaluate_141 : decode cX2_evaluate 141 = .ok (.iconst 0, 1) := by decide +kernel
theorem dX2_evaluate_142 : decode cX2_evaluate 142 = .ok (.invokestatic 79, 3) := by decide +kernel
theorem dX2_evaluate_145 : decode cX2_evaluate 145 = .ok (.istore_n 2, 1) := by decide +kernel
theorem dX2_evaluate_146 : decode cX2_evaluate 146 = .ok (.goto 102, 3) := by decide +kernel
theorem dX2_evaluate_149 : decode cX2_evaluate 149 = .ok (.iload 5, 2) := by decide +kernel
theorem dX2_evaluate_151 : decode cX2_evaluate 151 = .ok (.invokestatic 49, 3) := by decide +kernel
theorem dX2_evaluate_154 : decode cX2_evaluate 154 = .ok (.ifCond .eq 57, 3) := by decide +kernel
theorem dX2_evaluate_157 : decode cX2_evaluate 157 = .ok (.iload 4, 2) := by decide +kernel
theorem dX2_evaluate_159 : decode cX2_evaluate 159 = .ok (.ifCond .le 52, 3) := by decide +kernel
theorem dX2_evaluate_162 : decode cX2_evaluate 162 = .ok (.aload_n 0, 1) := by decide +kernel
theorem dX2_evaluate_163 : decode cX2_evaluate 163 = .ok (.getfield 9, 3) := by decide +kernel
theorem dX2_evaluate_166 : decode cX2_evaluate 166 = .ok (.iload 4, 2) := by decide +kernel
theorem dX2_evaluate_168 : decode cX2_evaluate 168 = .ok (.iconst 1, 1) := by decide +kernel
theorem dX2_evaluate_169 : decode cX2_evaluate 169 = .ok (.isub, 1) := by decide +kernel
theorem dX2_evaluate_170 : decode cX2_evaluate 170 = .ok (.iaload, 1) := by decide +kernel
theorem dX2_evaluate_171 : decode cX2_evaluate 171 = .ok (.invokestatic 49, 3) := by decide +kernel
theorem dX2_evaluate_174 : decode cX2_evaluate 174 = .ok (.ifCond .eq 37, 3) := by decide +kernel
theorem dX2_evaluate_177 : decode cX2_evaluate 177 = .ok (.aload_n 0, 1) := by decide +kernel
theorem dX2_evaluate_178 : decode cX2_evaluate 178 = .ok (.getfield 38, 3) := by decide +kernel
theorem dX2_evaluate_181 : decode cX2_evaluate 181 = .ok (.getfield 85, 3) := by decide +kernel
theorem dX2_evaluate_184 : decode cX2_evaluate 184 = .ok (.iconst 0, 1) := by decide +kernel
theorem dX2_evaluate_185 : decode cX2_evaluate 185 = .ok (.bipush 10, 2) := by decide +kernel
theorem dX2_evaluate_187 : decode cX2_evaluate 187 = .ok (.aload_n 0, 1) := by decide +kernel
theorem dX2_evaluate_188 : decode cX2_evaluate 188 = .ok (.getfield 38, 3) := by decide +kernel
theorem dX2_evaluate_191 : decode cX2_evaluate 191 = .ok (.getfield 85, 3) := by decide +kernel
theorem dX2_evaluate_194 : decode cX2_evaluate 194 = .ok (.iconst 0, 1) := by decide +kernel
theorem dX2_evaluate_195 : decode cX2_evaluate 195 = .ok (.iaload, 1) := by decide +kernel
theorem dX2_evaluate_196 : decode cX2_evaluate 196 = .ok (.imul, 1) := by decide +kernel
theorem dX2_evaluate_197 : decode cX2_evaluate 197 = .ok (.iload 5, 2) := by decide +kernel
theorem dX2_evaluate_199 : decode cX2_evaluate 199 = .ok (.iadd, 1) := by decide +kernel
theorem dX2_evaluate_200 : decode cX2_evaluate 200 = .ok (.bipush 48, 2) := by decide +kernel
theorem dX2_evaluate_202 : decode cX2_evaluate 202 = .ok (.isub, 1) := by decide +kernel
theorem dX2_evaluate_203 : decode cX2_evaluate 203 = .ok (.sipush 10007, 3) := by decide +kernel
theorem dX2_evaluate_206 : decode cX2_evaluate 206 = .ok (.irem, 1) := by decide +kernel
theorem dX2_evaluate_207 : decode cX2_evaluate 207 = .ok (.iastore, 1) := by decide +kernel
theorem dX2_evaluate_208 : decode cX2_evaluate 208 = .ok (.goto 40, 3) := by decide +kernel
theorem dX2_evaluate_211 : decode cX2_evaluate 211 = .ok (.aload_n 0, 1) := by decide +kernel
theorem dX2_evaluate_212 : decode cX2_evaluate 212 = .ok (.iload_n 2, 1) := by decide +kernel
theorem dX2_evaluate_213 : decode cX2_evaluate 213 = .ok (.aload_n 1, 1) := by decide +kernel
theorem dX2_evaluate_214 : decode cX2_evaluate 214 = .ok (.invokevirtual 68, 3) := by decide +kernel
theorem dX2_evaluate_217 : decode cX2_evaluate 217 = .ok (.istore_n 3, 1) := by decide +kernel
theorem dX2_evaluate_218 : decode cX2_evaluate 218 = .ok (.iload 5, 2) := by decide +kernel
theorem dX2_evaluate_220 : decode cX2_evaluate 220 = .ok (.bipush 40, 2) := by decide +kernel
theorem dX2_evaluate_222 : decode cX2_evaluate 222 = .ok (.if_icmp .ne 20, 3) := by decide +kernel
theorem dX2_evaluate_225 : decode cX2_evaluate 225 = .ok (.iload_n 2, 1) := by decide +kernel
theorem dX2_evaluate_226 : decode cX2_evaluate 226 = .ok (.iconst 1, 1) := by decide +kernel
theorem dX2_evaluate_227 : decode cX2_evaluate 227 = .ok (.iadd, 1) := by decide +kernel
theorem dX2_evaluate_228 : decode cX2_evaluate 228 = .ok (.bipush 8, 2) := by decide +kernel
theorem dX2_evaluate_230 : decode cX2_evaluate 230 = .ok (.invokestatic 88, 3) := by decide +kernel
theorem dX2_evaluate_233 : decode cX2_evaluate 233 = .ok (.istore_n 2, 1) := by decide +kernel
theorem dX2_evaluate_234 : decode cX2_evaluate 234 = .ok (.aload_n 0, 1) := by decide +kernel
theorem dX2_evaluate_235 : decode cX2_evaluate 235 = .ok (.iload_n 2, 1) := by decide +kernel
theorem dX2_evaluate_236 : decode cX2_evaluate 236 = .ok (.invokevirtual 61, 3) := by decide +kernel
theorem dX2_evaluate_239 : decode cX2_evaluate 239 = .ok (.goto 9, 3) := by decide +kernel
theorem dX2_evaluate_242 : decode cX2_evaluate 242 = .ok (.aload_n 0, 1) := by decide +kernel
theorem dX2_evaluate_243 : decode cX2_evaluate 243 = .ok (.iload 5, 2) := by decide +kernel
theorem dX2_evaluate_245 : decode cX2_evaluate 245 = .ok (.invokevirtual 91, 3) := by decide +kernel
theorem dX2_evaluate_248 : decode cX2_evaluate 248 = .ok (.iinc 4 1, 3) := by decide +kernel
theorem dX2_evaluate_251 : decode cX2_evaluate 251 = .ok (.goto (-234), 3) := by decide +kernel
theorem dX2_evaluate_254 : decode cX2_evaluate 254 = .ok (.iload_n 3, 1) := by decide +kernel
theorem dX2_evaluate_255 : decode cX2_evaluate 255 = .ok (.ifCond .eq 25, 3) := by decide +kernel
theorem dX2_evaluate_258 : decode cX2_evaluate 258 = .ok (.aload_n 0, 1) := by decide +kernel
theorem dX2_evaluate_259 : decode cX2_evaluate 259 = .ok (.iload_n 2, 1) := by decide +kernel
theorem dX2_evaluate_260 : decode cX2_evaluate 260 = .ok (.aload_n 1, 1) := by decide +kernel
theorem dX2_evaluate_261 : decode cX2_evaluate 261 = .ok (.invokevirtual 68, 3) := by decide +kernel
theorem dX2_evaluate_264 : decode cX2_evaluate 264 = .ok (.ifCond .eq 16, 3) := by decide +kernel
theorem dX2_evaluate_267 : decode cX2_evaluate 267 = .ok (.aload_n 0, 1) := by decide +kernel
theorem dX2_evaluate_268 : decode cX2_evaluate 268 = .ok (.iload_n 2, 1) := by decide +kernel
theorem dX2_evaluate_269 : decode cX2_evaluate 269 = .ok (.aload_n 1, 1) := by decide +kernel
theorem dX2_evaluate_270 : decode cX2_evaluate 270 = .ok (.invokevirtual 72, 3) := by decide +kernel
theorem dX2_evaluate_273 : decode cX2_evaluate 273 = .ok (.ifCond .eq 7, 3) := by decide +kernel
theorem dX2_evaluate_276 : decode cX2_evaluate 276 = .ok (.iconst 1, 1) := by decide +kernel
theorem dX2_evaluate_277 : decode cX2_evaluate 277 = .ok (.goto 4, 3) := by decide +kernel
theorem dX2_evaluate_280 : decode cX2_evaluate 280 = .ok (.iconst 0, 1) := by decide +kernel
theorem dX2_evaluate_281 : decode cX2_evaluate 281 = .ok (.ireturn, 1) := by decide +kernel
theorem dX2_open_0 : decode cX2_open 0 = .ok (.aload_n 0, 1) := by decide +kernel
theorem dX2_open_1 : decode cX2_open 1 = .ok (.getfield 23, 3) := by decide +kernel
theorem dX2_open_4 : decode cX2_open 4 = .ok (.iload_n 1, 1) := by decide +kernel
theorem dX2_open_5 : decode cX2_open 5 = .ok (.iconst 0, 1) := by decide +kernel
theorem dX2_open_6 : decode cX2_open 6 = .ok (.bastore, 1) := by decide +kernel
theorem dX2_open_7 : decode cX2_open 7 = .ok (.aload_n 0, 1) := by decide +kernel
theorem dX2_open_8 : decode cX2_open 8 = .ok (.getfield 30, 3) := by decide +kernel
theorem dX2_open_11 : decode cX2_open 11 = .ok (.iload_n 1, 1) := by decide +kernel
theorem dX2_open_12 : decode cX2_open 12 = .ok (.iconst 0, 1) := by decide +kernel
theorem dX2_open_13 : decode cX2_open 13 = .ok (.bastore, 1) := by decide +kernel
theorem dX2_open_14 : decode cX2_open 14 = .ok (.return_, 1) := by decide +kernel
theorem dX2_beginFactor_0 : decode cX2_beginFactor 0 = .ok (.iload_n 1, 1) := by decide +kernel
theorem dX2_beginFactor_1 : decode cX2_beginFactor 1 = .ok (.invokestatic 49, 3) := by decide +kernel
theorem dX2_beginFactor_4 : decode cX2_beginFactor 4 = .ok (.ifCond .eq 17, 3) := by decide +kernel
theorem dX2_beginFactor_7 : decode cX2_beginFactor 7 = .ok (.aload_n 0, 1) := by decide +kernel
theorem dX2_beginFactor_8 : decode cX2_beginFactor 8 = .ok (.getfield 38, 3) := by decide +kernel
theorem dX2_beginFactor_11 : decode cX2_beginFactor 11 = .ok (.iload_n 1, 1) := by decide +kernel
theorem dX2_beginFactor_12 : decode cX2_beginFactor 12 = .ok (.bipush 48, 2) := by decide +kernel
theorem dX2_beginFactor_14 : decode cX2_beginFactor 14 = .ok (.isub, 1) := by decide +kernel
theorem dX2_beginFactor_15 : decode cX2_beginFactor 15 = .ok (.invokevirtual 94, 3) := by decide +kernel
theorem dX2_beginFactor_18 : decode cX2_beginFactor 18 = .ok (.goto 21, 3) := by decide +kernel
theorem dX2_beginFactor_21 : decode cX2_beginFactor 21 = .ok (.aload_n 0, 1) := by decide +kernel
theorem dX2_beginFactor_22 : decode cX2_beginFactor 22 = .ok (.getfield 38, 3) := by decide +kernel
theorem dX2_beginFactor_25 : decode cX2_beginFactor 25 = .ok (.iload_n 1, 1) := by decide +kernel
theorem dX2_beginFactor_26 : decode cX2_beginFactor 26 = .ok (.bipush 98, 2) := by decide +kernel
theorem dX2_beginFactor_28 : decode cX2_beginFactor 28 = .ok (.if_icmp .ne 7, 3) := by decide +kernel
theorem dX2_beginFactor_31 : decode cX2_beginFactor 31 = .ok (.iconst 1, 1) := by decide +kernel
theorem dX2_beginFactor_32 : decode cX2_beginFactor 32 = .ok (.goto 4, 3) := by decide +kernel
theorem dX2_beginFactor_35 : decode cX2_beginFactor 35 = .ok (.iconst 0, 1) := by decide +kernel
theorem dX2_beginFactor_36 : decode cX2_beginFactor 36 = .ok (.invokevirtual 97, 3) := by decide +kernel
theorem dX2_beginFactor_39 : decode cX2_beginFactor 39 = .ok (.aload_n 0, 1) := by decide +kernel
theorem dX2_beginFactor_40 : decode cX2_beginFactor 40 = .ok (.iconst 1, 1) := by decide +kernel
theorem dX2_beginFactor_41 : decode cX2_beginFactor 41 = .ok (.putfield 57, 3) := by decide +kernel
theorem dX2_beginFactor_44 : decode cX2_beginFactor 44 = .ok (.return_, 1) := by decide +kernel
theorem dX2_repeatFactor_0 : decode cX2_repeatFactor 0 = .ok (.aload_n 0, 1) := by decide +kernel
theorem dX2_repeatFactor_1 : decode cX2_repeatFactor 1 = .ok (.getfield 38, 3) := by decide +kernel
theorem dX2_repeatFactor_4 : decode cX2_repeatFactor 4 = .ok (.invokevirtual 100, 3) := by decide +kernel
theorem dX2_repeatFactor_7 : decode cX2_repeatFactor 7 = .ok (.ifCond .ne 5, 3) := by decide +kernel
theorem dX2_repeatFactor_10 : decode cX2_repeatFactor 10 = .ok (.iconst 0, 1) := by decide +kernel
theorem dX2_repeatFactor_11 : decode cX2_repeatFactor 11 = .ok (.ireturn, 1) := by decide +kernel
theorem dX2_repeatFactor_12 : decode cX2_repeatFactor 12 = .ok (.aload_n 0, 1) := by decide +kernel
theorem dX2_repeatFactor_13 : decode cX2_repeatFactor 13 = .ok (.getfield 42, 3) := by decide +kernel
theorem dX2_repeatFactor_16 : decode cX2_repeatFactor 16 = .ok (.aload_n 0, 1) := by decide +kernel
theorem dX2_repeatFactor_17 : decode cX2_repeatFactor 17 = .ok (.getfield 38, 3) := by decide +kernel
theorem dX2_repeatFactor_20 : decode cX2_repeatFactor 20 = .ok (.invokevirtual 104, 3) := by decide +kernel
theorem dX2_repeatFactor_23 : decode cX2_repeatFactor 23 = .ok (.aload_n 1, 1) := by decide +kernel
theorem dX2_repeatFactor_24 : decode cX2_repeatFactor 24 = .ok (.aload_n 0, 1) := by decide +kernel
theorem dX2_repeatFactor_25 : decode cX2_repeatFactor 25 = .ok (.getfield 42, 3) := by decide +kernel
theorem dX2_repeatFactor_28 : decode cX2_repeatFactor 28 = .ok (.invokevirtual 107, 3) := by decide +kernel
theorem dX2_repeatFactor_31 : decode cX2_repeatFactor 31 = .ok (.aload_n 0, 1) := by decide +kernel
theorem dX2_repeatFactor_32 : decode cX2_repeatFactor 32 = .ok (.getfield 38, 3) := by decide +kernel
theorem dX2_repeatFactor_35 : decode cX2_repeatFactor 35 = .ok (.aload_n 0, 1) := by decide +kernel
theorem dX2_repeatFactor_36 : decode cX2_repeatFactor 36 = .ok (.getfield 42, 3) := by decide +kernel
theorem dX2_repeatFactor_39 : decode cX2_repeatFactor 39 = .ok (.invokevirtual 75, 3) := by decide +kernel
theorem dX2_repeatFactor_42 : decode cX2_repeatFactor 42 = .ok (.iconst 1, 1) := by decide +kernel
theorem dX2_repeatFactor_43 : decode cX2_repeatFactor 43 = .ok (.ireturn, 1) := by decide +kernel
theorem dX2_closeFactor_0 : decode cX2_closeFactor 0 = .ok (.aload_n 0, 1) := by decide +kernel
theorem dX2_closeFactor_1 : decode cX2_closeFactor 1 = .ok (.getfield 57, 3) := by decide +kernel
theorem dX2_closeFactor_4 : decode cX2_closeFactor 4 = .ok (.ifCond .ne 5, 3) := by decide +kernel
theorem dX2_closeFactor_7 : decode cX2_closeFactor 7 = .ok (.iconst 1, 1) := by decide +kernel
theorem dX2_closeFactor_8 : decode cX2_closeFactor 8 = .ok (.ireturn, 1) := by decide +kernel
theorem dX2_closeFactor_9 : decode cX2_closeFactor 9 = .ok (.aload_n 0, 1) := by decide +kernel
theorem dX2_closeFactor_10 : decode cX2_closeFactor 10 = .ok (.iconst 0, 1) := by decide +kernel
theorem dX2_closeFactor_11 : decode cX2_closeFactor 11 = .ok (.putfield 57, 3) := by decide +kernel
theorem dX2_closeFactor_14 : decode cX2_closeFactor 14 = .ok (.aload_n 0, 1) := by decide +kernel
theorem dX2_closeFactor_15 : decode cX2_closeFactor 15 = .ok (.getfield 27, 3) := by decide +kernel
theorem dX2_closeFactor_18 : decode cX2_closeFactor 18 = .ok (.iload_n 1, 1) := by decide +kernel
theorem dX2_closeFactor_19 : decode cX2_closeFactor 19 = .ok (.aaload, 1) := by decide +kernel
theorem dX2_closeFactor_20 : decode cX2_closeFactor 20 = .ok (.astore_n 3, 1) := by decide +kernel
theorem dX2_closeFactor_21 : decode cX2_closeFactor 21 = .ok (.aload_n 0, 1) := by decide +kernel
theorem dX2_closeFactor_22 : decode cX2_closeFactor 22 = .ok (.getfield 30, 3) := by decide +kernel
theorem dX2_closeFactor_25 : decode cX2_closeFactor 25 = .ok (.iload_n 1, 1) := by decide +kernel
theorem dX2_closeFactor_26 : decode cX2_closeFactor 26 = .ok (.baload, 1) := by decide +kernel
theorem dX2_closeFactor_27 : decode cX2_closeFactor 27 = .ok (.ifCond .ne 20, 3) := by decide +kernel
theorem dX2_closeFactor_30 : decode cX2_closeFactor 30 = .ok (.aload_n 0, 1) := by decide +kernel
theorem dX2_closeFactor_31 : decode cX2_closeFactor 31 = .ok (.getfield 30, 3) := by decide +kernel
theorem dX2_closeFactor_34 : decode cX2_closeFactor 34 = .ok (.iload_n 1, 1) := by decide +kernel
theorem dX2_closeFactor_35 : decode cX2_closeFactor 35 = .ok (.iconst 1, 1) := by decide +kernel
theorem dX2_closeFactor_36 : decode cX2_closeFactor 36 = .ok (.bastore, 1) := by decide +kernel
theorem dX2_closeFactor_37 : decode cX2_closeFactor 37 = .ok (.aload_n 3, 1) := by decide +kernel
theorem dX2_closeFactor_38 : decode cX2_closeFactor 38 = .ok (.aload_n 0, 1) := by decide +kernel
theorem dX2_closeFactor_39 : decode cX2_closeFactor 39 = .ok (.getfield 38, 3) := by decide +kernel
theorem dX2_closeFactor_42 : decode cX2_closeFactor 42 = .ok (.invokevirtual 75, 3) := by decide +kernel
theorem dX2_closeFactor_45 : decode cX2_closeFactor 45 = .ok (.iconst 1, 1) := by decide +kernel
theorem dX2_closeFactor_46 : decode cX2_closeFactor 46 = .ok (.ireturn, 1) := by decide +kernel
theorem dX2_closeFactor_47 : decode cX2_closeFactor 47 = .ok (.aload_n 3, 1) := by decide +kernel
theorem dX2_closeFactor_48 : decode cX2_closeFactor 48 = .ok (.getfield 112, 3) := by decide +kernel
theorem dX2_closeFactor_51 : decode cX2_closeFactor 51 = .ok (.aload_n 0, 1) := by decide +kernel
theorem dX2_closeFactor_52 : decode cX2_closeFactor 52 = .ok (.getfield 38, 3) := by decide +kernel
theorem dX2_closeFactor_55 : decode cX2_closeFactor 55 = .ok (.getfield 112, 3) := by decide +kernel
theorem dX2_closeFactor_58 : decode cX2_closeFactor 58 = .ok (.iadd, 1) := by decide +kernel
theorem dX2_closeFactor_59 : decode cX2_closeFactor 59 = .ok (.bipush 12, 2) := by decide +kernel
theorem dX2_closeFactor_61 : decode cX2_closeFactor 61 = .ok (.if_icmp .le 5, 3) := by decide +kernel
theorem dX2_closeFactor_64 : decode cX2_closeFactor 64 = .ok (.iconst 0, 1) := by decide +kernel
theorem dX2_closeFactor_65 : decode cX2_closeFactor 65 = .ok (.ireturn, 1) := by decide +kernel
theorem dX2_closeFactor_66 : decode cX2_closeFactor 66 = .ok (.aload_n 0, 1) := by decide +kernel
theorem dX2_closeFactor_67 : decode cX2_closeFactor 67 = .ok (.getfield 42, 3) := by decide +kernel
theorem dX2_closeFactor_70 : decode cX2_closeFactor 70 = .ok (.aload_n 3, 1) := by decide +kernel
theorem dX2_closeFactor_71 : decode cX2_closeFactor 71 = .ok (.aload_n 0, 1) := by decide +kernel
theorem dX2_closeFactor_72 : decode cX2_closeFactor 72 = .ok (.getfield 38, 3) := by decide +kernel
theorem dX2_closeFactor_75 : decode cX2_closeFactor 75 = .ok (.invokevirtual 115, 3) := by decide +kernel
theorem dX2_closeFactor_78 : decode cX2_closeFactor 78 = .ok (.aload_n 2, 1) := by decide +kernel
theorem dX2_closeFactor_79 : decode cX2_closeFactor 79 = .ok (.aload_n 0, 1) := by decide +kernel
theorem dX2_closeFactor_80 : decode cX2_closeFactor 80 = .ok (.getfield 42, 3) := by decide +kernel
theorem dX2_closeFactor_83 : decode cX2_closeFactor 83 = .ok (.invokevirtual 107, 3) := by decide +kernel
theorem dX2_closeFactor_86 : decode cX2_closeFactor 86 = .ok (.aload_n 3, 1) := by decide +kernel
theorem dX2_closeFactor_87 : decode cX2_closeFactor 87 = .ok (.aload_n 0, 1) := by decide +kernel
theorem dX2_closeFactor_88 : decode cX2_closeFactor 88 = .ok (.getfield 42, 3) := by decide +kernel
theorem dX2_closeFactor_91 : decode cX2_closeFactor 91 = .ok (.invokevirtual 75, 3) := by decide +kernel
theorem dX2_closeFactor_94 : decode cX2_closeFactor 94 = .ok (.iconst 1, 1) := by decide +kernel
theorem dX2_closeFactor_95 : decode cX2_closeFactor 95 = .ok (.ireturn, 1) := by decide +kernel
theorem dX2_closeProduct_0 : decode cX2_closeProduct 0 = .ok (.aload_n 0, 1) := by decide +kernel
theorem dX2_closeProduct_1 : decode cX2_closeProduct 1 = .ok (.getfield 27, 3) := by decide +kernel
theorem dX2_closeProduct_4 : decode cX2_closeProduct 4 = .ok (.iload_n 1, 1) := by decide +kernel
theorem dX2_closeProduct_5 : decode cX2_closeProduct 5 = .ok (.aaload, 1) := by decide +kernel
theorem dX2_closeProduct_6 : decode cX2_closeProduct 6 = .ok (.astore_n 3, 1) := by decide +kernel
theorem dX2_closeProduct_7 : decode cX2_closeProduct 7 = .ok (.aload_n 0, 1) := by decide +kernel
theorem dX2_closeProduct_8 : decode cX2_closeProduct 8 = .ok (.getfield 19, 3) := by decide +kernel
theorem dX2_closeProduct_11 : decode cX2_closeProduct 11 = .ok (.iload_n 1, 1) := by decide +kernel
theorem dX2_closeProduct_12 : decode cX2_closeProduct 12 = .ok (.aaload, 1) := by decide +kernel
theorem dX2_closeProduct_13 : decode cX2_closeProduct 13 = .ok (.astore 4, 2) := by decide +kernel
theorem dX2_closeProduct_15 : decode cX2_closeProduct 15 = .ok (.aload_n 0, 1) := by decide +kernel
theorem dX2_closeProduct_16 : decode cX2_closeProduct 16 = .ok (.getfield 30, 3) := by decide +kernel
theorem dX2_closeProduct_19 : decode cX2_closeProduct 19 = .ok (.iload_n 1, 1) := by decide +kernel
theorem dX2_closeProduct_20 : decode cX2_closeProduct 20 = .ok (.iconst 0, 1) := by decide +kernel
theorem dX2_closeProduct_21 : decode cX2_closeProduct 21 = .ok (.bastore, 1) := by decide +kernel
theorem dX2_closeProduct_22 : decode cX2_closeProduct 22 = .ok (.aload_n 0, 1) := by decide +kernel
theorem dX2_closeProduct_23 : decode cX2_closeProduct 23 = .ok (.getfield 23, 3) := by decide +kernel
theorem dX2_closeProduct_26 : decode cX2_closeProduct 26 = .ok (.iload_n 1, 1) := by decide +kernel
theorem dX2_closeProduct_27 : decode cX2_closeProduct 27 = .ok (.baload, 1) := by decide +kernel
theorem dX2_closeProduct_28 : decode cX2_closeProduct 28 = .ok (.ifCond .ne 18, 3) := by decide +kernel
theorem dX2_closeProduct_31 : decode cX2_closeProduct 31 = .ok (.aload_n 0, 1) := by decide +kernel
theorem dX2_closeProduct_32 : decode cX2_closeProduct 32 = .ok (.getfield 23, 3) := by decide +kernel
theorem dX2_closeProduct_35 : decode cX2_closeProduct 35 = .ok (.iload_n 1, 1) := by decide +kernel
theorem dX2_closeProduct_36 : decode cX2_closeProduct 36 = .ok (.iconst 1, 1) := by decide +kernel
theorem dX2_closeProduct_37 : decode cX2_closeProduct 37 = .ok (.bastore, 1) := by decide +kernel
theorem dX2_closeProduct_38 : decode cX2_closeProduct 38 = .ok (.aload 4, 2) := by decide +kernel
theorem dX2_closeProduct_40 : decode cX2_closeProduct 40 = .ok (.aload_n 3, 1) := by decide +kernel
theorem dX2_closeProduct_41 : decode cX2_closeProduct 41 = .ok (.invokevirtual 75, 3) := by decide +kernel
theorem dX2_closeProduct_44 : decode cX2_closeProduct 44 = .ok (.iconst 1, 1) := by decide +kernel
theorem dX2_closeProduct_45 : decode cX2_closeProduct 45 = .ok (.ireturn, 1) := by decide +kernel
theorem dX2_closeProduct_46 : decode cX2_closeProduct 46 = .ok (.aload 4, 2) := by decide +kernel
theorem dX2_closeProduct_48 : decode cX2_closeProduct 48 = .ok (.getfield 112, 3) := by decide +kernel
theorem dX2_closeProduct_51 : decode cX2_closeProduct 51 = .ok (.aload_n 3, 1) := by decide +kernel
theorem dX2_closeProduct_52 : decode cX2_closeProduct 52 = .ok (.getfield 112, 3) := by decide +kernel
theorem dX2_closeProduct_55 : decode cX2_closeProduct 55 = .ok (.iadd, 1) := by decide +kernel
theorem dX2_closeProduct_56 : decode cX2_closeProduct 56 = .ok (.bipush 12, 2) := by decide +kernel
theorem dX2_closeProduct_58 : decode cX2_closeProduct 58 = .ok (.if_icmp .le 5, 3) := by decide +kernel
theorem dX2_closeProduct_61 : decode cX2_closeProduct 61 = .ok (.iconst 0, 1) := by decide +kernel
theorem dX2_closeProduct_62 : decode cX2_closeProduct 62 = .ok (.ireturn, 1) := by decide +kernel
theorem dX2_closeProduct_63 : decode cX2_closeProduct 63 = .ok (.aload_n 0, 1) := by decide +kernel
theorem dX2_closeProduct_64 : decode cX2_closeProduct 64 = .ok (.getfield 42, 3) := by decide +kernel
theorem dX2_closeProduct_67 : decode cX2_closeProduct 67 = .ok (.aload 4, 2) := by decide +kernel
theorem dX2_closeProduct_69 : decode cX2_closeProduct 69 = .ok (.aload_n 3, 1) := by decide +kernel
theorem dX2_closeProduct_70 : decode cX2_closeProduct 70 = .ok (.invokevirtual 119, 3) := by decide +kernel
theorem dX2_closeProduct_73 : decode cX2_closeProduct 73 = .ok (.aload_n 2, 1) := by decide +kernel
theorem dX2_closeProduct_74 : decode cX2_closeProduct 74 = .ok (.aload_n 0, 1) := by decide +kernel
theorem dX2_closeProduct_75 : decode cX2_closeProduct 75 = .ok (.getfield 42, 3) := by decide +kernel
theorem dX2_closeProduct_78 : decode cX2_closeProduct 78 = .ok (.invokevirtual 107, 3) := by decide +kernel
theorem dX2_closeProduct_81 : decode cX2_closeProduct 81 = .ok (.aload 4, 2) := by decide +kernel
theorem dX2_closeProduct_83 : decode cX2_closeProduct 83 = .ok (.aload_n 0, 1) := by decide +kernel
theorem dX2_closeProduct_84 : decode cX2_closeProduct 84 = .ok (.getfield 42, 3) := by decide +kernel
theorem dX2_closeProduct_87 : decode cX2_closeProduct 87 = .ok (.invokevirtual 75, 3) := by decide +kernel
theorem dX2_closeProduct_90 : decode cX2_closeProduct 90 = .ok (.iconst 1, 1) := by decide +kernel
theorem dX2_closeProduct_91 : decode cX2_closeProduct 91 = .ok (.ireturn, 1) := by decide +kernel
theorem dX3_init_0 : decode cX3_init 0 = .ok (.aload_n 0, 1) := by decide +kernel
theorem dX3_init_1 : decode cX3_init 1 = .ok (.invokespecial 3, 3) := by decide +kernel
theorem dX3_init_4 : decode cX3_init 4 = .ok (.aload_n 0, 1) := by decide +kernel
theorem dX3_init_5 : decode cX3_init 5 = .ok (.bipush 31, 2) := by decide +kernel
theorem dX3_init_7 : decode cX3_init 7 = .ok (.bipush 31, 2) := by decide +kernel
theorem dX3_init_9 : decode cX3_init 9 = .ok (.multianewarray 9 2, 4) := by decide +kernel
theorem dX3_init_13 : decode cX3_init 13 = .ok (.putfield 11, 3) := by decide +kernel
theorem dX3_init_16 : decode cX3_init 16 = .ok (.return_, 1) := by decide +kernel
theorem dX3_rank_0 : decode cX3_rank 0 = .ok (.iconst 0, 1) := by decide +kernel
theorem dX3_rank_1 : decode cX3_rank 1 = .ok (.istore_n 3, 1) := by decide +kernel
theorem dX3_rank_2 : decode cX3_rank 2 = .ok (.iconst 0, 1) := by decide +kernel
theorem dX3_rank_3 : decode cX3_rank 3 = .ok (.istore 4, 2) := by decide +kernel
theorem dX3_rank_5 : decode cX3_rank 5 = .ok (.iload 4, 2) := by decide +kernel
theorem dX3_rank_7 : decode cX3_rank 7 = .ok (.iload_n 2, 1) := by decide +kernel
theorem dX3_rank_8 : decode cX3_rank 8 = .ok (.if_icmp .ge 37, 3) := by decide +kernel
theorem dX3_rank_11 : decode cX3_rank 11 = .ok (.iload_n 3, 1) := by decide +kernel
theorem dX3_rank_12 : decode cX3_rank 12 = .ok (.iload_n 1, 1) := by decide +kernel
theorem dX3_rank_13 : decode cX3_rank 13 = .ok (.if_icmp .ge 32, 3) := by decide +kernel
theorem dX3_rank_16 : decode cX3_rank 16 = .ok (.aload_n 0, 1) := by decide +kernel
theorem dX3_rank_17 : decode cX3_rank 17 = .ok (.iload_n 3, 1) := by decide +kernel
theorem dX3_rank_18 : decode cX3_rank 18 = .ok (.iload_n 1, 1) := by decide +kernel
theorem dX3_rank_19 : decode cX3_rank 19 = .ok (.iload 4, 2) := by decide +kernel
theorem dX3_rank_21 : decode cX3_rank 21 = .ok (.invokevirtual 16, 3) := by decide +kernel
theorem dX3_rank_24 : decode cX3_rank 24 = .ok (.ifCond .eq 15, 3) := by decide +kernel
theorem dX3_rank_27 : decode cX3_rank 27 = .ok (.aload_n 0, 1) := by decide +kernel
theorem dX3_rank_28 : decode cX3_rank 28 = .ok (.iload_n 3, 1) := by decide +kernel
theorem dX3_rank_29 : decode cX3_rank 29 = .ok (.iload_n 1, 1) := by decide +kernel
theorem dX3_rank_30 : decode cX3_rank 30 = .ok (.iload 4, 2) := by decide +kernel
theorem dX3_rank_32 : decode cX3_rank 32 = .ok (.iload_n 2, 1) := by decide +kernel
theorem dX3_rank_33 : decode cX3_rank 33 = .ok (.invokevirtual 20, 3) := by decide +kernel
theorem dX3_rank_36 : decode cX3_rank 36 = .ok (.iinc 3 1, 3) := by decide +kernel
theorem dX3_rank_39 : decode cX3_rank 39 = .ok (.iinc 4 1, 3) := by decide +kernel
theorem dX3_rank_42 : decode cX3_rank 42 = .ok (.goto (-37), 3) := by decide +kernel
theorem dX3_rank_45 : decode cX3_rank 45 = .ok (.iload_n 3, 1) := by decide +kernel
theorem dX3_rank_46 : decode cX3_rank 46 = .ok (.ireturn, 1) := by decide +kernel
theorem dX3_raisePivot_0 : decode cX3_raisePivot 0 = .ok (.iload_n 1, 1) := by decide +kernel
theorem dX3_raisePivot_1 : decode cX3_raisePivot 1 = .ok (.istore 4, 2) := by decide +kernel
theorem dX3_raisePivot_3 : decode cX3_raisePivot 3 = .ok (.iload 4, 2) := by decide +kernel
theorem dX3_raisePivot_5 : decode cX3_raisePivot 5 = .ok (.iload_n 2, 1) := by decide +kernel
theorem dX3_raisePivot_6 : decode cX3_raisePivot 6 = .ok (.if_icmp .ge 53, 3) := by decide +kernel
theorem dX3_raisePivot_9 : decode cX3_raisePivot 9 = .ok (.aload_n 0, 1) := by decide +kernel
theorem dX3_raisePivot_10 : decode cX3_raisePivot 10 = .ok (.getfield 11, 3) := by decide +kernel
theorem dX3_raisePivot_13 : decode cX3_raisePivot 13 = .ok (.iload 4, 2) := by decide +kernel
theorem dX3_raisePivot_15 : decode cX3_raisePivot 15 = .ok (.aaload, 1) := by decide +kernel
theorem dX3_raisePivot_16 : decode cX3_raisePivot 16 = .ok (.iload_n 3, 1) := by decide +kernel
theorem dX3_raisePivot_17 : decode cX3_raisePivot 17 = .ok (.iaload, 1) := by decide +kernel
theorem dX3_raisePivot_18 : decode cX3_raisePivot 18 = .ok (.ifCond .eq 35, 3) := by decide +kernel
theorem dX3_raisePivot_21 : decode cX3_raisePivot 21 = .ok (.aload_n 0, 1) := by decide +kernel
theorem dX3_raisePivot_22 : decode cX3_raisePivot 22 = .ok (.getfield 11, 3) := by decide +kernel
theorem dX3_raisePivot_25 : decode cX3_raisePivot 25 = .ok (.iload 4, 2) := by decide +kernel
theorem dX3_raisePivot_27 : decode cX3_raisePivot 27 = .ok (.aaload, 1) := by decide +kernel
theorem dX3_raisePivot_28 : decode cX3_raisePivot 28 = .ok (.astore 5, 2) := by decide +kernel
theorem dX3_raisePivot_30 : decode cX3_raisePivot 30 = .ok (.aload_n 0, 1) := by decide +kernel
theorem dX3_raisePivot_31 : decode cX3_raisePivot 31 = .ok (.getfield 11, 3) := by decide +kernel
theorem dX3_raisePivot_34 : decode cX3_raisePivot 34 = .ok (.iload 4, 2) := by decide +kernel
theorem dX3_raisePivot_36 : decode cX3_raisePivot 36 = .ok (.aload_n 0, 1) := by decide +kernel
theorem dX3_raisePivot_37 : decode cX3_raisePivot 37 = .ok (.getfield 11, 3) := by decide +kernel
theorem dX3_raisePivot_40 : decode cX3_raisePivot 40 = .ok (.iload_n 1, 1) := by decide +kernel
theorem dX3_raisePivot_41 : decode cX3_raisePivot 41 = .ok (.aaload, 1) := by decide +kernel
theorem dX3_raisePivot_42 : decode cX3_raisePivot 42 = .ok (.aastore, 1) := by decide +kernel
theorem dX3_raisePivot_43 : decode cX3_raisePivot 43 = .ok (.aload_n 0, 1) := by decide +kernel
theorem dX3_raisePivot_44 : decode cX3_raisePivot 44 = .ok (.getfield 11, 3) := by decide +kernel
theorem dX3_raisePivot_47 : decode cX3_raisePivot 47 = .ok (.iload_n 1, 1) := by decide +kernel
theorem dX3_raisePivot_48 : decode cX3_raisePivot 48 = .ok (.aload 5, 2) := by decide +kernel
theorem dX3_raisePivot_50 : decode cX3_raisePivot 50 = .ok (.aastore, 1) := by decide +kernel
theorem dX3_raisePivot_51 : decode cX3_raisePivot 51 = .ok (.iconst 1, 1) := by decide +kernel
theorem dX3_raisePivot_52 : decode cX3_raisePivot 52 = .ok (.ireturn, 1) := by decide +kernel
theorem dX3_raisePivot_53 : decode cX3_raisePivot 53 = .ok (.iinc 4 1, 3) := by decide +kernel
theorem dX3_raisePivot_56 : decode cX3_raisePivot 56 = .ok (.goto (-53), 3) := by decide +kernel
theorem dX3_raisePivot_59 : decode cX3_raisePivot 59 = .ok (.iconst 0, 1) := by decide +kernel
theorem dX3_raisePivot_60 : decode cX3_raisePivot 60 = .ok (.ireturn, 1) := by decide +kernel
theorem dX3_clearBelow_0 : decode cX3_clearBelow 0 = .ok (.sipush 10007, 3) := by decide +kernel
theorem dX3_clearBelow_3 : decode cX3_clearBelow 3 = .ok (.aload_n 0, 1) := by decide +kernel
theorem dX3_clearBelow_4 : decode cX3_clearBelow 4 = .ok (.getfield 11, 3) := by decide +kernel
theorem dX3_clearBelow_7 : decode cX3_clearBelow 7 = .ok (.iload_n 1, 1) := by decide +kernel
theorem dX3_clearBelow_8 : decode cX3_clearBelow 8 = .ok (.aaload, 1) := by decide +kernel
theorem dX3_clearBelow_9 : decode cX3_clearBelow 9 = .ok (.iload_n 3, 1) := by decide +kernel
theorem dX3_clearBelow_10 : decode cX3_clearBelow 10 = .ok (.iaload, 1) := by decide +kernel
theorem dX3_clearBelow_11 : decode cX3_clearBelow 11 = .ok (.invokestatic 24, 3) := by decide +kernel
theorem dX3_clearBelow_14 : decode cX3_clearBelow 14 = .ok (.isub, 1) := by decide +kernel
theorem dX3_clearBelow_15 : decode cX3_clearBelow 15 = .ok (.istore 5, 2) := by decide +kernel
theorem dX3_clearBelow_17 : decode cX3_clearBelow 17 = .ok (.iload_n 1, 1) := by decide +kernel
theorem dX3_clearBelow_18 : decode cX3_clearBelow 18 = .ok (.iconst 1, 1) := by decide +kernel
theorem dX3_clearBelow_19 : decode cX3_clearBelow 19 = .ok (.iadd, 1) := by decide +kernel
theorem dX3_clearBelow_20 : decode cX3_clearBelow 20 = .ok (.istore 6, 2) := by decide +kernel
theorem dX3_clearBelow_22 : decode cX3_clearBelow 22 = .ok (.iload 6, 2) := by decide +kernel
theorem dX3_clearBelow_24 : decode cX3_clearBelow 24 = .ok (.iload_n 2, 1) := by decide +kernel
theorem dX3_clearBelow_25 : decode cX3_clearBelow 25 = .ok (.if_icmp .ge 52, 3) := by decide +kernel
theorem dX3_clearBelow_28 : decode cX3_clearBelow 28 = .ok (.aload_n 0, 1) := by decide +kernel
theorem dX3_clearBelow_29 : decode cX3_clearBelow 29 = .ok (.getfield 11, 3) := by decide +kernel
theorem dX3_clearBelow_32 : decode cX3_clearBelow 32 = .ok (.iload 6, 2) := by decide +kernel
theorem dX3_clearBelow_34 : decode cX3_clearBelow 34 = .ok (.aaload, 1) := by decide +kernel
theorem dX3_clearBelow_35 : decode cX3_clearBelow 35 = .ok (.iload_n 3, 1) := by decide +kernel
theorem dX3_clearBelow_36 : decode cX3_clearBelow 36 = .ok (.iaload, 1) := by decide +kernel
theorem dX3_clearBelow_37 : decode cX3_clearBelow 37 = .ok (.iload 5, 2) := by decide +kernel
theorem dX3_clearBelow_39 : decode cX3_clearBelow 39 = .ok (.imul, 1) := by decide +kernel
theorem dX3_clearBelow_40 : decode cX3_clearBelow 40 = .ok (.sipush 10007, 3) := by decide +kernel
theorem dX3_clearBelow_43 : decode cX3_clearBelow 43 = .ok (.irem, 1) := by decide +kernel
theorem dX3_clearBelow_44 : decode cX3_clearBelow 44 = .ok (.istore 7, 2) := by decide +kernel
theorem dX3_clearBelow_46 : decode cX3_clearBelow 46 = .ok (.iload 7, 2) := by decide +kernel
theorem dX3_clearBelow_48 : decode cX3_clearBelow 48 = .ok (.ifCond .eq 23, 3) := by decide +kernel
theorem dX3_clearBelow_51 : decode cX3_clearBelow 51 = .ok (.aload_n 0, 1) := by decide +kernel
theorem dX3_clearBelow_52 : decode cX3_clearBelow 52 = .ok (.getfield 11, 3) := by decide +kernel
theorem dX3_clearBelow_55 : decode cX3_clearBelow 55 = .ok (.iload 6, 2) := by decide +kernel
theorem dX3_clearBelow_57 : decode cX3_clearBelow 57 = .ok (.aaload, 1) := by decide +kernel
theorem dX3_clearBelow_58 : decode cX3_clearBelow 58 = .ok (.iload 7, 2) := by decide +kernel
theorem dX3_clearBelow_60 : decode cX3_clearBelow 60 = .ok (.aload_n 0, 1) := by decide +kernel
theorem dX3_clearBelow_61 : decode cX3_clearBelow 61 = .ok (.getfield 11, 3) := by decide +kernel
theorem dX3_clearBelow_64 : decode cX3_clearBelow 64 = .ok (.iload_n 1, 1) := by decide +kernel
theorem dX3_clearBelow_65 : decode cX3_clearBelow 65 = .ok (.aaload, 1) := by decide +kernel
theorem dX3_clearBelow_66 : decode cX3_clearBelow 66 = .ok (.iload 4, 2) := by decide +kernel
theorem dX3_clearBelow_68 : decode cX3_clearBelow 68 = .ok (.invokestatic 28, 3) := by decide +kernel
theorem dX3_clearBelow_71 : decode cX3_clearBelow 71 = .ok (.iinc 6 1, 3) := by decide +kernel
theorem dX3_clearBelow_74 : decode cX3_clearBelow 74 = .ok (.goto (-52), 3) := by decide +kernel
theorem dX3_clearBelow_77 : decode cX3_clearBelow 77 = .ok (.return_, 1) := by decide +kernel
theorem dX4_init_0 : decode cX4_init 0 = .ok (.aload_n 0, 1) := by decide +kernel
theorem dX4_init_1 : decode cX4_init 1 = .ok (.invokespecial 3, 3) := by decide +kernel
theorem dX4_init_4 : decode cX4_init 4 = .ok (.aload_n 0, 1) := by decide +kernel
theorem dX4_init_5 : decode cX4_init 5 = .ok (.bipush 12, 2) := by decide +kernel
theorem dX4_init_7 : decode cX4_init 7 = .ok (.newarray .int, 2) := by decide +kernel
theorem dX4_init_9 : decode cX4_init 9 = .ok (.putfield 9, 3) := by decide +kernel
theorem dX4_init_12 : decode cX4_init 12 = .ok (.aload_n 0, 1) := by decide +kernel
theorem dX4_init_13 : decode cX4_init 13 = .ok (.bipush 12, 2) := by decide +kernel
theorem dX4_init_15 : decode cX4_init 15 = .ok (.bipush 12, 2) := by decide +kernel
theorem dX4_init_17 : decode cX4_init 17 = .ok (.multianewarray 15 2, 4) := by decide +kernel
theorem dX4_init_21 : decode cX4_init 21 = .ok (.putfield 17, 3) := by decide +kernel
theorem dX4_init_24 : decode cX4_init 24 = .ok (.return_, 1) := by decide +kernel
theorem dX4_start_0 : decode cX4_start 0 = .ok (.aload_n 0, 1) := by decide +kernel
theorem dX4_start_1 : decode cX4_start 1 = .ok (.getfield 9, 3) := by decide +kernel
theorem dX4_start_4 : decode cX4_start 4 = .ok (.iconst 0, 1) := by decide +kernel
theorem dX4_start_5 : decode cX4_start 5 = .ok (.invokestatic 20, 3) := by decide +kernel
theorem dX4_start_8 : decode cX4_start 8 = .ok (.aload_n 1, 1) := by decide +kernel
theorem dX4_start_9 : decode cX4_start 9 = .ok (.getfield 26, 3) := by decide +kernel
theorem dX4_start_12 : decode cX4_start 12 = .ok (.iconst 0, 1) := by decide +kernel
theorem dX4_start_13 : decode cX4_start 13 = .ok (.aload_n 0, 1) := by decide +kernel
theorem dX4_start_14 : decode cX4_start 14 = .ok (.getfield 17, 3) := by decide +kernel
theorem dX4_start_17 : decode cX4_start 17 = .ok (.iconst 0, 1) := by decide +kernel
theorem dX4_start_18 : decode cX4_start 18 = .ok (.aaload, 1) := by decide +kernel
theorem dX4_start_19 : decode cX4_start 19 = .ok (.iconst 0, 1) := by decide +kernel
theorem dX4_start_20 : decode cX4_start 20 = .ok (.aload_n 1, 1) := by decide +kernel
theorem dX4_start_21 : decode cX4_start 21 = .ok (.getfield 31, 3) := by decide +kernel
theorem dX4_start_24 : decode cX4_start 24 = .ok (.invokestatic 35, 3) := by decide +kernel
theorem dX4_start_27 : decode cX4_start 27 = .ok (.return_, 1) := by decide +kernel
theorem dX4_weigh_0 : decode cX4_weigh 0 = .ok (.iload_n 2, 1) := by decide +kernel
theorem dX4_weigh_1 : decode cX4_weigh 1 = .ok (.invokestatic 41, 3) := by decide +kernel
theorem dX4_weigh_4 : decode cX4_weigh 4 = .ok (.bipush 11, 2) := by decide +kernel
theorem dX4_weigh_6 : decode cX4_weigh 6 = .ok (.invokestatic 45, 3) := by decide +kernel
theorem dX4_weigh_9 : decode cX4_weigh 9 = .ok (.istore_n 3, 1) := by decide +kernel
theorem dX4_weigh_10 : decode cX4_weigh 10 = .ok (.iconst 1, 1) := by decide +kernel
theorem dX4_weigh_11 : decode cX4_weigh 11 = .ok (.istore 4, 2) := by decide +kernel
theorem dX4_weigh_13 : decode cX4_weigh 13 = .ok (.iload 4, 2) := by decide +kernel
theorem dX4_weigh_15 : decode cX4_weigh 15 = .ok (.iload_n 3, 1) := by decide +kernel
theorem dX4_weigh_16 : decode cX4_weigh 16 = .ok (.if_icmp .gt 64, 3) := by decide +kernel
theorem dX4_weigh_19 : decode cX4_weigh 19 = .ok (.iload_n 2, 1) := by decide +kernel
theorem dX4_weigh_20 : decode cX4_weigh 20 = .ok (.iconst 1, 1) := by decide +kernel
theorem dX4_weigh_21 : decode cX4_weigh 21 = .ok (.iadd, 1) := by decide +kernel
theorem dX4_weigh_22 : decode cX4_weigh 22 = .ok (.iload_n 3, 1) := by decide +kernel
theorem dX4_weigh_23 : decode cX4_weigh 23 = .ok (.iload 4, 2) := by decide +kernel
theorem dX4_weigh_25 : decode cX4_weigh 25 = .ok (.isub, 1) := by decide +kernel
theorem dX4_weigh_26 : decode cX4_weigh 26 = .ok (.ishr, 1) := by decide +kernel
theorem dX4_weigh_27 : decode cX4_weigh 27 = .ok (.istore 5, 2) := by decide +kernel
theorem dX4_weigh_29 : decode cX4_weigh 29 = .ok (.aload_n 0, 1) := by decide +kernel
theorem dX4_weigh_30 : decode cX4_weigh 30 = .ok (.getfield 9, 3) := by decide +kernel
theorem dX4_weigh_33 : decode cX4_weigh 33 = .ok (.iload 4, 2) := by decide +kernel
theorem dX4_weigh_35 : decode cX4_weigh 35 = .ok (.iaload, 1) := by decide +kernel
theorem dX4_weigh_36 : decode cX4_weigh 36 = .ok (.iload 5, 2) := by decide +kernel
theorem dX4_weigh_38 : decode cX4_weigh 38 = .ok (.if_icmp .eq 36, 3) := by decide +kernel
theorem dX4_weigh_41 : decode cX4_weigh 41 = .ok (.aload_n 1, 1) := by decide +kernel
theorem dX4_weigh_42 : decode cX4_weigh 42 = .ok (.aload_n 0, 1) := by decide +kernel
theorem dX4_weigh_43 : decode cX4_weigh 43 = .ok (.getfield 17, 3) := by decide +kernel
theorem dX4_weigh_46 : decode cX4_weigh 46 = .ok (.iload 4, 2) := by decide +kernel
theorem dX4_weigh_48 : decode cX4_weigh 48 = .ok (.iconst 1, 1) := by decide +kernel
theorem dX4_weigh_49 : decode cX4_weigh 49 = .ok (.isub, 1) := by decide +kernel
theorem dX4_weigh_50 : decode cX4_weigh 50 = .ok (.aaload, 1) := by decide +kernel
theorem dX4_weigh_51 : decode cX4_weigh 51 = .ok (.iload 5, 2) := by decide +kernel
theorem dX4_weigh_53 : decode cX4_weigh 53 = .ok (.iconst 1, 1) := by decide +kernel
theorem dX4_weigh_54 : decode cX4_weigh 54 = .ok (.iand, 1) := by decide +kernel
theorem dX4_weigh_55 : decode cX4_weigh 55 = .ok (.aload_n 0, 1) := by decide +kernel
theorem dX4_weigh_56 : decode cX4_weigh 56 = .ok (.getfield 17, 3) := by decide +kernel
theorem dX4_weigh_59 : decode cX4_weigh 59 = .ok (.iload 4, 2) := by decide +kernel
theorem dX4_weigh_61 : decode cX4_weigh 61 = .ok (.aaload, 1) := by decide +kernel
theorem dX4_weigh_62 : decode cX4_weigh 62 = .ok (.invokevirtual 51, 3) := by decide +kernel
theorem dX4_weigh_65 : decode cX4_weigh 65 = .ok (.aload_n 0, 1) := by decide +kernel
theorem dX4_weigh_66 : decode cX4_weigh 66 = .ok (.getfield 9, 3) := by decide +kernel
theorem dX4_weigh_69 : decode cX4_weigh 69 = .ok (.iload 4, 2) := by decide +kernel
theorem dX4_weigh_71 : decode cX4_weigh 71 = .ok (.iload 5, 2) := by decide +kernel
theorem dX4_weigh_73 : decode cX4_weigh 73 = .ok (.iastore, 1) := by decide +kernel
theorem dX4_weigh_74 : decode cX4_weigh 74 = .ok (.iinc 4 1, 3) := by decide +kernel
theorem dX4_weigh_77 : decode cX4_weigh 77 = .ok (.goto (-64), 3) := by decide +kernel
theorem dX4_weigh_80 : decode cX4_weigh 80 = .ok (.aload_n 1, 1) := by decide +kernel
theorem dX4_weigh_81 : decode cX4_weigh 81 = .ok (.aload_n 0, 1) := by decide +kernel
theorem dX4_weigh_82 : decode cX4_weigh 82 = .ok (.getfield 17, 3) := by decide +kernel
theorem dX4_weigh_85 : decode cX4_weigh 85 = .ok (.iload_n 3, 1) := by decide +kernel
theorem dX4_weigh_86 : decode cX4_weigh 86 = .ok (.aaload, 1) := by decide +kernel
theorem dX4_weigh_87 : decode cX4_weigh 87 = .ok (.invokevirtual 55, 3) := by decide +kernel
theorem dX4_weigh_90 : decode cX4_weigh 90 = .ok (.ireturn, 1) := by decide +kernel
theorem dX5_init_0 : decode cX5_init 0 = .ok (.aload_n 0, 1) := by decide +kernel
theorem dX5_init_1 : decode cX5_init 1 = .ok (.invokespecial 3, 3) := by decide +kernel
theorem dX5_init_4 : decode cX5_init 4 = .ok (.aload_n 0, 1) := by decide +kernel
theorem dX5_init_5 : decode cX5_init 5 = .ok (.bipush 12, 2) := by decide +kernel
theorem dX5_init_7 : decode cX5_init 7 = .ok (.newarray .int, 2) := by decide +kernel
theorem dX5_init_9 : decode cX5_init 9 = .ok (.putfield 9, 3) := by decide +kernel
theorem dX5_init_12 : decode cX5_init 12 = .ok (.aload_n 0, 1) := by decide +kernel
theorem dX5_init_13 : decode cX5_init 13 = .ok (.bipush 12, 2) := by decide +kernel
theorem dX5_init_15 : decode cX5_init 15 = .ok (.newarray .int, 2) := by decide +kernel
theorem dX5_init_17 : decode cX5_init 17 = .ok (.putfield 15, 3) := by decide +kernel
theorem dX5_init_20 : decode cX5_init 20 = .ok (.return_, 1) := by decide +kernel
theorem dX5_start_0 : decode cX5_start 0 = .ok (.aload_n 1, 1) := by decide +kernel
theorem dX5_start_1 : decode cX5_start 1 = .ok (.getfield 18, 3) := by decide +kernel
theorem dX5_start_4 : decode cX5_start 4 = .ok (.iconst 0, 1) := by decide +kernel
theorem dX5_start_5 : decode cX5_start 5 = .ok (.aload_n 0, 1) := by decide +kernel
theorem dX5_start_6 : decode cX5_start 6 = .ok (.getfield 9, 3) := by decide +kernel
theorem dX5_start_9 : decode cX5_start 9 = .ok (.iconst 0, 1) := by decide +kernel
theorem dX5_start_10 : decode cX5_start 10 = .ok (.aload_n 1, 1) := by decide +kernel
theorem dX5_start_11 : decode cX5_start 11 = .ok (.getfield 23, 3) := by decide +kernel
theorem dX5_start_14 : decode cX5_start 14 = .ok (.invokestatic 27, 3) := by decide +kernel
theorem dX5_start_17 : decode cX5_start 17 = .ok (.return_, 1) := by decide +kernel
theorem dX5_takeWord_0 : decode cX5_takeWord 0 = .ok (.iload_n 2, 1) := by decide +kernel
theorem dX5_takeWord_1 : decode cX5_takeWord 1 = .ok (.iconst 1, 1) := by decide +kernel
theorem dX5_takeWord_2 : decode cX5_takeWord 2 = .ok (.iadd, 1) := by decide +kernel
theorem dX5_takeWord_3 : decode cX5_takeWord 3 = .ok (.istore_n 3, 1) := by decide +kernel
theorem dX5_takeWord_4 : decode cX5_takeWord 4 = .ok (.bipush 18, 2) := by decide +kernel
theorem dX5_takeWord_6 : decode cX5_takeWord 6 = .ok (.istore 4, 2) := by decide +kernel
theorem dX5_takeWord_8 : decode cX5_takeWord 8 = .ok (.iload 4, 2) := by decide +kernel
theorem dX5_takeWord_10 : decode cX5_takeWord 10 = .ok (.ifCond .lt 40, 3) := by decide +kernel
theorem dX5_takeWord_13 : decode cX5_takeWord 13 = .ok (.iload_n 3, 1) := by decide +kernel
theorem dX5_takeWord_14 : decode cX5_takeWord 14 = .ok (.iload 4, 2) := by decide +kernel
theorem dX5_takeWord_16 : decode cX5_takeWord 16 = .ok (.iconst 1, 1) := by decide +kernel
theorem dX5_takeWord_17 : decode cX5_takeWord 17 = .ok (.iadd, 1) := by decide +kernel
theorem dX5_takeWord_18 : decode cX5_takeWord 18 = .ok (.ishr, 1) := by decide +kernel
theorem dX5_takeWord_19 : decode cX5_takeWord 19 = .ok (.ifCond .eq 25, 3) := by decide +kernel
theorem dX5_takeWord_22 : decode cX5_takeWord 22 = .ok (.aload_n 1, 1) := by decide +kernel
theorem dX5_takeWord_23 : decode cX5_takeWord 23 = .ok (.aload_n 0, 1) := by decide +kernel
theorem dX5_takeWord_24 : decode cX5_takeWord 24 = .ok (.getfield 9, 3) := by decide +kernel
theorem dX5_takeWord_27 : decode cX5_takeWord 27 = .ok (.iload_n 3, 1) := by decide +kernel
theorem dX5_takeWord_28 : decode cX5_takeWord 28 = .ok (.iload 4, 2) := by decide +kernel
theorem dX5_takeWord_30 : decode cX5_takeWord 30 = .ok (.ishr, 1) := by decide +kernel
theorem dX5_takeWord_31 : decode cX5_takeWord 31 = .ok (.iconst 1, 1) := by decide +kernel
theorem dX5_takeWord_32 : decode cX5_takeWord 32 = .ok (.iand, 1) := by decide +kernel
theorem dX5_takeWord_33 : decode cX5_takeWord 33 = .ok (.aload_n 0, 1) := by decide +kernel
theorem dX5_takeWord_34 : decode cX5_takeWord 34 = .ok (.getfield 15, 3) := by decide +kernel
theorem dX5_takeWord_37 : decode cX5_takeWord 37 = .ok (.invokevirtual 33, 3) := by decide +kernel
theorem dX5_takeWord_40 : decode cX5_takeWord 40 = .ok (.aload_n 0, 1) := by decide +kernel
theorem dX5_takeWord_41 : decode cX5_takeWord 41 = .ok (.invokevirtual 37, 3) := by decide +kernel
theorem dX5_takeWord_44 : decode cX5_takeWord 44 = .ok (.iinc 4 (-1), 3) := by decide +kernel
theorem dX5_takeWord_47 : decode cX5_takeWord 47 = .ok (.goto (-39), 3) := by decide +kernel
theorem dX5_takeWord_50 : decode cX5_takeWord 50 = .ok (.return_, 1) := by decide +kernel
theorem dX5_takeBoth_0 : decode cX5_takeBoth 0 = .ok (.aload_n 0, 1) := by decide +kernel
theorem dX5_takeBoth_1 : decode cX5_takeBoth 1 = .ok (.getfield 15, 3) := by decide +kernel
theorem dX5_takeBoth_4 : decode cX5_takeBoth 4 = .ok (.iconst 0, 1) := by decide +kernel
theorem dX5_takeBoth_5 : decode cX5_takeBoth 5 = .ok (.aload_n 1, 1) := by decide +kernel
theorem dX5_takeBoth_6 : decode cX5_takeBoth 6 = .ok (.getfield 23, 3) := by decide +kernel
theorem dX5_takeBoth_9 : decode cX5_takeBoth 9 = .ok (.iconst 0, 1) := by decide +kernel
theorem dX5_takeBoth_10 : decode cX5_takeBoth 10 = .ok (.invokestatic 40, 3) := by decide +kernel
theorem dX5_takeBoth_13 : decode cX5_takeBoth 13 = .ok (.iconst 0, 1) := by decide +kernel
theorem dX5_takeBoth_14 : decode cX5_takeBoth 14 = .ok (.istore_n 2, 1) := by decide +kernel
theorem dX5_takeBoth_15 : decode cX5_takeBoth 15 = .ok (.iload_n 2, 1) := by decide +kernel
theorem dX5_takeBoth_16 : decode cX5_takeBoth 16 = .ok (.iconst 2, 1) := by decide +kernel
theorem dX5_takeBoth_17 : decode cX5_takeBoth 17 = .ok (.if_icmp .ge 22, 3) := by decide +kernel
theorem dX5_takeBoth_20 : decode cX5_takeBoth 20 = .ok (.aload_n 1, 1) := by decide +kernel
theorem dX5_takeBoth_21 : decode cX5_takeBoth 21 = .ok (.aload_n 0, 1) := by decide +kernel
theorem dX5_takeBoth_22 : decode cX5_takeBoth 22 = .ok (.getfield 9, 3) := by decide +kernel
theorem dX5_takeBoth_25 : decode cX5_takeBoth 25 = .ok (.iload_n 2, 1) := by decide +kernel
theorem dX5_takeBoth_26 : decode cX5_takeBoth 26 = .ok (.aload_n 0, 1) := by decide +kernel
theorem dX5_takeBoth_27 : decode cX5_takeBoth 27 = .ok (.getfield 15, 3) := by decide +kernel
theorem dX5_takeBoth_30 : decode cX5_takeBoth 30 = .ok (.invokevirtual 46, 3) := by decide +kernel
theorem dX5_takeBoth_33 : decode cX5_takeBoth 33 = .ok (.iinc 2 1, 3) := by decide +kernel
theorem dX5_takeBoth_36 : decode cX5_takeBoth 36 = .ok (.goto (-21), 3) := by decide +kernel
theorem dX5_takeBoth_39 : decode cX5_takeBoth 39 = .ok (.aload_n 0, 1) := by decide +kernel
theorem dX5_takeBoth_40 : decode cX5_takeBoth 40 = .ok (.invokevirtual 37, 3) := by decide +kernel
theorem dX5_takeBoth_43 : decode cX5_takeBoth 43 = .ok (.return_, 1) := by decide +kernel
theorem dX5_value_0 : decode cX5_value 0 = .ok (.aload_n 1, 1) := by decide +kernel
theorem dX5_value_1 : decode cX5_value 1 = .ok (.aload_n 0, 1) := by decide +kernel
theorem dX5_value_2 : decode cX5_value 2 = .ok (.getfield 9, 3) := by decide +kernel
theorem dX5_value_5 : decode cX5_value 5 = .ok (.invokevirtual 49, 3) := by decide +kernel
theorem dX5_value_8 : decode cX5_value 8 = .ok (.ireturn, 1) := by decide +kernel
theorem dX5_swap_0 : decode cX5_swap 0 = .ok (.aload_n 0, 1) := by decide +kernel
theorem dX5_swap_1 : decode cX5_swap 1 = .ok (.getfield 9, 3) := by decide +kernel
theorem dX5_swap_4 : decode cX5_swap 4 = .ok (.astore_n 1, 1) := by decide +kernel
theorem dX5_swap_5 : decode cX5_swap 5 = .ok (.aload_n 0, 1) := by decide +kernel
theorem dX5_swap_6 : decode cX5_swap 6 = .ok (.aload_n 0, 1) := by decide +kernel
theorem dX5_swap_7 : decode cX5_swap 7 = .ok (.getfield 15, 3) := by decide +kernel
theorem dX5_swap_10 : decode cX5_swap 10 = .ok (.putfield 9, 3) := by decide +kernel
theorem dX5_swap_13 : decode cX5_swap 13 = .ok (.aload_n 0, 1) := by decide +kernel
theorem dX5_swap_14 : decode cX5_swap 14 = .ok (.aload_n 1, 1) := by decide +kernel
theorem dX5_swap_15 : decode cX5_swap 15 = .ok (.putfield 15, 3) := by decide +kernel
theorem dX5_swap_18 : decode cX5_swap 18 = .ok (.return_, 1) := by decide +kernel
theorem dX6_init_0 : decode cX6_init 0 = .ok (.aload_n 0, 1) := by decide +kernel
theorem dX6_init_1 : decode cX6_init 1 = .ok (.invokespecial 3, 3) := by decide +kernel
theorem dX6_init_4 : decode cX6_init 4 = .ok (.aload_n 0, 1) := by decide +kernel
theorem dX6_init_5 : decode cX6_init 5 = .ok (.iconst 4, 1) := by decide +kernel
theorem dX6_init_6 : decode cX6_init 6 = .ok (.invokestatic 9, 3) := by decide +kernel
theorem dX6_init_9 : decode cX6_init 9 = .ok (.putfield 13, 3) := by decide +kernel
theorem dX6_init_12 : decode cX6_init 12 = .ok (.aload_n 0, 1) := by decide +kernel
theorem dX6_init_13 : decode cX6_init 13 = .ok (.iconst 4, 1) := by decide +kernel
theorem dX6_init_14 : decode cX6_init 14 = .ok (.invokestatic 9, 3) := by decide +kernel
theorem dX6_init_17 : decode cX6_init 17 = .ok (.putfield 17, 3) := by decide +kernel
theorem dX6_init_20 : decode cX6_init 20 = .ok (.aload_n 0, 1) := by decide +kernel
theorem dX6_init_21 : decode cX6_init 21 = .ok (.iconst 4, 1) := by decide +kernel
theorem dX6_init_22 : decode cX6_init 22 = .ok (.newarray .int, 2) := by decide +kernel
theorem dX6_init_24 : decode cX6_init 24 = .ok (.putfield 20, 3) := by decide +kernel
theorem dX6_init_27 : decode cX6_init 27 = .ok (.aload_n 0, 1) := by decide +kernel
theorem dX6_init_28 : decode cX6_init 28 = .ok (.iconst 0, 1) := by decide +kernel
theorem dX6_init_29 : decode cX6_init 29 = .ok (.putfield 24, 3) := by decide +kernel
theorem dX6_init_32 : decode cX6_init 32 = .ok (.aload_n 0, 1) := by decide +kernel
theorem dX6_init_33 : decode cX6_init 33 = .ok (.new 28, 3) := by decide +kernel
theorem dX6_init_36 : decode cX6_init 36 = .ok (.dup, 1) := by decide +kernel
theorem dX6_init_37 : decode cX6_init 37 = .ok (.bipush 12, 2) := by decide +kernel
theorem dX6_init_39 : decode cX6_init 39 = .ok (.invokespecial 30, 3) := by decide +kernel
theorem dX6_init_42 : decode cX6_init 42 = .ok (.putfield 33, 3) := by decide +kernel
theorem dX6_init_45 : decode cX6_init 45 = .ok (.aload_n 0, 1) := by decide +kernel
theorem dX6_init_46 : decode cX6_init 46 = .ok (.new 28, 3) := by decide +kernel
theorem dX6_init_49 : decode cX6_init 49 = .ok (.dup, 1) := by decide +kernel
theorem dX6_init_50 : decode cX6_init 50 = .ok (.bipush 24, 2) := by decide +kernel
theorem dX6_init_52 : decode cX6_init 52 = .ok (.invokespecial 30, 3) := by decide +kernel
theorem dX6_init_55 : decode cX6_init 55 = .ok (.putfield 37, 3) := by decide +kernel
theorem dX6_init_58 : decode cX6_init 58 = .ok (.aload_n 0, 1) := by decide +kernel
theorem dX6_init_59 : decode cX6_init 59 = .ok (.new 40, 3) := by decide +kernel
theorem dX6_init_62 : decode cX6_init 62 = .ok (.dup, 1) := by decide +kernel
theorem dX6_init_63 : decode cX6_init 63 = .ok (.invokespecial 42, 3) := by decide +kernel
theorem dX6_init_66 : decode cX6_init 66 = .ok (.putfield 43, 3) := by decide +kernel
theorem dX6_init_69 : decode cX6_init 69 = .ok (.aload_n 0, 1) := by decide +kernel
theorem dX6_init_70 : decode cX6_init 70 = .ok (.new 47, 3) := by decide +kernel
theorem dX6_init_73 : decode cX6_init 73 = .ok (.dup, 1) := by decide +kernel
theorem dX6_init_74 : decode cX6_init 74 = .ok (.invokespecial 49, 3) := by decide +kernel
theorem dX6_init_77 : decode cX6_init 77 = .ok (.putfield 50, 3) := by decide +kernel
theorem dX6_init_80 : decode cX6_init 80 = .ok (.aload_n 0, 1) := by decide +kernel
theorem dX6_init_81 : decode cX6_init 81 = .ok (.new 54, 3) := by decide +kernel
theorem dX6_init_84 : decode cX6_init 84 = .ok (.dup, 1) := by decide +kernel
theorem dX6_init_85 : decode cX6_init 85 = .ok (.invokespecial 56, 3) := by decide +kernel
theorem dX6_init_88 : decode cX6_init 88 = .ok (.putfield 57, 3) := by decide +kernel
theorem dX6_init_91 : decode cX6_init 91 = .ok (.aload_n 0, 1) := by decide +kernel
theorem dX6_init_92 : decode cX6_init 92 = .ok (.new 61, 3) := by decide +kernel
theorem dX6_init_95 : decode cX6_init 95 = .ok (.dup, 1) := by decide +kernel
theorem dX6_init_96 : decode cX6_init 96 = .ok (.invokespecial 63, 3) := by decide +kernel
theorem dX6_init_99 : decode cX6_init 99 = .ok (.putfield 64, 3) := by decide +kernel
theorem dX6_init_102 : decode cX6_init 102 = .ok (.aload_n 0, 1) := by decide +kernel
theorem dX6_init_103 : decode cX6_init 103 = .ok (.bipush 43, 2) := by decide +kernel
theorem dX6_init_105 : decode cX6_init 105 = .ok (.newarray .int, 2) := by decide +kernel
theorem dX6_init_107 : decode cX6_init 107 = .ok (.putfield 68, 3) := by decide +kernel
theorem dX6_init_110 : decode cX6_init 110 = .ok (.aload_n 0, 1) := by decide +kernel
theorem dX6_init_111 : decode cX6_init 111 = .ok (.new 71, 3) := by decide +kernel
theorem dX6_init_114 : decode cX6_init 114 = .ok (.dup, 1) := by decide +kernel
theorem dX6_init_115 : decode cX6_init 115 = .ok (.invokespecial 73, 3) := by decide +kernel
theorem dX6_init_118 : decode cX6_init 118 = .ok (.putfield 74, 3) := by decide +kernel
theorem dX6_init_121 : decode cX6_init 121 = .ok (.return_, 1) := by decide +kernel
theorem dX6_begin_0 : decode cX6_begin 0 = .ok (.iload_n 1, 1) := by decide +kernel
theorem dX6_begin_1 : decode cX6_begin 1 = .ok (.invokestatic 78, 3) := by decide +kernel
theorem dX6_begin_4 : decode cX6_begin 4 = .ok (.iload_n 2, 1) := by decide +kernel
theorem dX6_begin_5 : decode cX6_begin 5 = .ok (.iconst 0, 1) := by decide +kernel
theorem dX6_begin_6 : decode cX6_begin 6 = .ok (.bipush 12, 2) := by decide +kernel
theorem dX6_begin_8 : decode cX6_begin 8 = .ok (.invokestatic 81, 3) := by decide +kernel
theorem dX6_begin_11 : decode cX6_begin 11 = .ok (.aload_n 0, 1) := by decide +kernel
theorem dX6_begin_12 : decode cX6_begin 12 = .ok (.getfield 13, 3) := by decide +kernel
theorem dX6_begin_15 : decode cX6_begin 15 = .ok (.iload_n 1, 1) := by decide +kernel
theorem dX6_begin_16 : decode cX6_begin 16 = .ok (.aaload, 1) := by decide +kernel
theorem dX6_begin_17 : decode cX6_begin 17 = .ok (.astore_n 3, 1) := by decide +kernel
theorem dX6_begin_18 : decode cX6_begin 18 = .ok (.aload_n 3, 1) := by decide +kernel
theorem dX6_begin_19 : decode cX6_begin 19 = .ok (.getfield 85, 3) := by decide +kernel
theorem dX6_begin_22 : decode cX6_begin 22 = .ok (.istore 4, 2) := by decide +kernel
theorem dX6_begin_24 : decode cX6_begin 24 = .ok (.aload_n 0, 1) := by decide +kernel
theorem dX6_begin_25 : decode cX6_begin 25 = .ok (.iload_n 1, 1) := by decide +kernel
theorem dX6_begin_26 : decode cX6_begin 26 = .ok (.invokevirtual 88, 3) := by decide +kernel
theorem dX6_begin_29 : decode cX6_begin 29 = .ok (.aload_n 3, 1) := by decide +kernel
theorem dX6_begin_30 : decode cX6_begin 30 = .ok (.iload_n 2, 1) := by decide +kernel
theorem dX6_begin_31 : decode cX6_begin 31 = .ok (.invokevirtual 91, 3) := by decide +kernel
theorem dX6_begin_34 : decode cX6_begin 34 = .ok (.iload 4, 2) := by decide +kernel
theorem dX6_begin_36 : decode cX6_begin 36 = .ok (.ireturn, 1) := by decide +kernel
theorem dX6_setEnd_0 : decode cX6_setEnd 0 = .ok (.iload_n 1, 1) := by decide +kernel
theorem dX6_setEnd_1 : decode cX6_setEnd 1 = .ok (.invokestatic 78, 3) := by decide +kernel
theorem dX6_setEnd_4 : decode cX6_setEnd 4 = .ok (.aload_n 0, 1) := by decide +kernel
theorem dX6_setEnd_5 : decode cX6_setEnd 5 = .ok (.iload_n 1, 1) := by decide +kernel
theorem dX6_setEnd_6 : decode cX6_setEnd 6 = .ok (.iload_n 2, 1) := by decide +kernel
theorem dX6_setEnd_7 : decode cX6_setEnd 7 = .ok (.invokevirtual 94, 3) := by decide +kernel
theorem dX6_setEnd_10 : decode cX6_setEnd 10 = .ok (.iload 4, 2) := by decide +kernel
theorem dX6_setEnd_12 : decode cX6_setEnd 12 = .ok (.iconst 0, 1) := by decide +kernel
theorem dX6_setEnd_13 : decode cX6_setEnd 13 = .ok (.sipush 10006, 3) := by decide +kernel
theorem dX6_setEnd_16 : decode cX6_setEnd 16 = .ok (.invokestatic 81, 3) := by decide +kernel
theorem dX6_setEnd_19 : decode cX6_setEnd 19 = .ok (.aload_n 0, 1) := by decide +kernel
theorem dX6_setEnd_20 : decode cX6_setEnd 20 = .ok (.getfield 13, 3) := by decide +kernel
theorem dX6_setEnd_23 : decode cX6_setEnd 23 = .ok (.iload_n 1, 1) := by decide +kernel
theorem dX6_setEnd_24 : decode cX6_setEnd 24 = .ok (.aaload, 1) := by decide +kernel
theorem dX6_setEnd_25 : decode cX6_setEnd 25 = .ok (.iload_n 3, 1) := by decide +kernel
theorem dX6_setEnd_26 : decode cX6_setEnd 26 = .ok (.invokevirtual 98, 3) := by decide +kernel
theorem dX6_setEnd_29 : decode cX6_setEnd 29 = .ok (.astore 5, 2) := by decide +kernel
theorem dX6_setEnd_31 : decode cX6_setEnd 31 = .ok (.aload 5, 2) := by decide +kernel
theorem dX6_setEnd_33 : decode cX6_setEnd 33 = .ok (.iload_n 2, 1) := by decide +kernel
theorem dX6_setEnd_34 : decode cX6_setEnd 34 = .ok (.iaload, 1) := by decide +kernel
theorem dX6_setEnd_35 : decode cX6_setEnd 35 = .ok (.istore 6, 2) := by decide +kernel
theorem dX6_setEnd_37 : decode cX6_setEnd 37 = .ok (.aload_n 0, 1) := by decide +kernel
theorem dX6_setEnd_38 : decode cX6_setEnd 38 = .ok (.iload_n 1, 1) := by decide +kernel
theorem dX6_setEnd_39 : decode cX6_setEnd 39 = .ok (.invokevirtual 88, 3) := by decide +kernel
theorem dX6_setEnd_42 : decode cX6_setEnd 42 = .ok (.aload 5, 2) := by decide +kernel
theorem dX6_setEnd_44 : decode cX6_setEnd 44 = .ok (.iload_n 2, 1) := by decide +kernel
theorem dX6_setEnd_45 : decode cX6_setEnd 45 = .ok (.iload 4, 2) := by decide +kernel
theorem dX6_setEnd_47 : decode cX6_setEnd 47 = .ok (.iastore, 1) := by decide +kernel
theorem dX6_setEnd_48 : decode cX6_setEnd 48 = .ok (.iload 6, 2) := by decide +kernel
theorem dX6_setEnd_50 : decode cX6_setEnd 50 = .ok (.ireturn, 1) := by decide +kernel
theorem dX6_setStep_0 : decode cX6_setStep 0 = .ok (.iload_n 1, 1) := by decide +kernel
theorem dX6_setStep_1 : decode cX6_setStep 1 = .ok (.invokestatic 78, 3) := by decide +kernel
theorem dX6_setStep_4 : decode cX6_setStep 4 = .ok (.aload_n 0, 1) := by decide +kernel
theorem dX6_setStep_5 : decode cX6_setStep 5 = .ok (.iload_n 1, 1) := by decide +kernel
theorem dX6_setStep_6 : decode cX6_setStep 6 = .ok (.iload_n 2, 1) := by decide +kernel
theorem dX6_setStep_7 : decode cX6_setStep 7 = .ok (.iload_n 3, 1) := by decide +kernel
theorem dX6_setStep_8 : decode cX6_setStep 8 = .ok (.iload 4, 2) := by decide +kernel
theorem dX6_setStep_10 : decode cX6_setStep 10 = .ok (.invokevirtual 102, 3) := by decide +kernel
theorem dX6_setStep_13 : decode cX6_setStep 13 = .ok (.iload 5, 2) := by decide +kernel
theorem dX6_setStep_15 : decode cX6_setStep 15 = .ok (.iconst 0, 1) := by decide +kernel
theorem dX6_setStep_16 : decode cX6_setStep 16 = .ok (.sipush 10006, 3) := by decide +kernel
theorem dX6_setStep_19 : decode cX6_setStep 19 = .ok (.invokestatic 81, 3) := by decide +kernel
theorem dX6_setStep_22 : decode cX6_setStep 22 = .ok (.aload_n 0, 1) := by decide +kernel
theorem dX6_setStep_23 : decode cX6_setStep 23 = .ok (.getfield 13, 3) := by decide +kernel
theorem dX6_setStep_26 : decode cX6_setStep 26 = .ok (.iload_n 1, 1) := by decide +kernel
theorem dX6_setStep_27 : decode cX6_setStep 27 = .ok (.aaload, 1) := by decide +kernel
theorem dX6_setStep_28 : decode cX6_setStep 28 = .ok (.astore 6, 2) := by decide +kernel
theorem dX6_setStep_30 : decode cX6_setStep 30 = .ok (.iload_n 3, 1) := by decide +kernel
theorem dX6_setStep_31 : decode cX6_setStep 31 = .ok (.aload 6, 2) := by decide +kernel
theorem dX6_setStep_33 : decode cX6_setStep 33 = .ok (.getfield 85, 3) := by decide +kernel
theorem dX6_setStep_36 : decode cX6_setStep 36 = .ok (.imul, 1) := by decide +kernel
theorem dX6_setStep_37 : decode cX6_setStep 37 = .ok (.iload 4, 2) := by decide +kernel
theorem dX6_setStep_39 : decode cX6_setStep 39 = .ok (.iadd, 1) := by decide +kernel
theorem dX6_setStep_40 : decode cX6_setStep 40 = .ok (.istore 7, 2) := by decide +kernel
theorem dX6_setStep_42 : decode cX6_setStep 42 = .ok (.aload 6, 2) := by decide +kernel
theorem dX6_setStep_44 : decode cX6_setStep 44 = .ok (.getfield 106, 3) := by decide +kernel
theorem dX6_setStep_47 : decode cX6_setStep 47 = .ok (.iload_n 2, 1) := by decide +kernel
theorem dX6_setStep_48 : decode cX6_setStep 48 = .ok (.aaload, 1) := by decide +kernel
theorem dX6_setStep_49 : decode cX6_setStep 49 = .ok (.iload 7, 2) := by decide +kernel
theorem dX6_setStep_51 : decode cX6_setStep 51 = .ok (.iaload, 1) := by decide +kernel
theorem dX6_setStep_52 : decode cX6_setStep 52 = .ok (.istore 8, 2) := by decide +kernel
theorem dX6_setStep_54 : decode cX6_setStep 54 = .ok (.aload_n 0, 1) := by decide +kernel
theorem dX6_setStep_55 : decode cX6_setStep 55 = .ok (.iload_n 1, 1) := by decide +kernel
theorem dX6_setStep_56 : decode cX6_setStep 56 = .ok (.invokevirtual 88, 3) := by decide +kernel
theorem dX6_setStep_59 : decode cX6_setStep 59 = .ok (.aload 6, 2) := by decide +kernel
theorem dX6_setStep_61 : decode cX6_setStep 61 = .ok (.getfield 106, 3) := by decide +kernel
theorem dX6_setStep_64 : decode cX6_setStep 64 = .ok (.iload_n 2, 1) := by decide +kernel
theorem dX6_setStep_65 : decode cX6_setStep 65 = .ok (.aaload, 1) := by decide +kernel
theorem dX6_setStep_66 : decode cX6_setStep 66 = .ok (.iload 7, 2) := by decide +kernel
theorem dX6_setStep_68 : decode cX6_setStep 68 = .ok (.iload 5, 2) := by decide +kernel
theorem dX6_setStep_70 : decode cX6_setStep 70 = .ok (.iastore, 1) := by decide +kernel
theorem dX6_setStep_71 : decode cX6_setStep 71 = .ok (.iload 8, 2) := by decide +kernel
theorem dX6_setStep_73 : decode cX6_setStep 73 = .ok (.ireturn, 1) := by decide +kernel
theorem dX6_random_0 : decode cX6_random 0 = .ok (.iload_n 1, 1) := by decide +kernel
theorem dX6_random_1 : decode cX6_random 1 = .ok (.invokestatic 78, 3) := by decide +kernel
theorem dX6_random_4 : decode cX6_random 4 = .ok (.iload_n 2, 1) := by decide +kernel
theorem dX6_random_5 : decode cX6_random 5 = .ok (.iconst 0, 1) := by decide +kernel
theorem dX6_random_6 : decode cX6_random 6 = .ok (.bipush 12, 2) := by decide +kernel
theorem dX6_random_8 : decode cX6_random 8 = .ok (.invokestatic 81, 3) := by decide +kernel
theorem dX6_random_11 : decode cX6_random 11 = .ok (.iload_n 3, 1) := by decide +kernel
theorem dX6_random_12 : decode cX6_random 12 = .ok (.iconst 0, 1) := by decide +kernel
theorem dX6_random_13 : decode cX6_random 13 = .ok (.ldc 110, 2) := by decide +kernel
theorem dX6_random_15 : decode cX6_random 15 = .ok (.invokestatic 81, 3) := by decide +kernel
theorem dX6_random_18 : decode cX6_random 18 = .ok (.aload_n 0, 1) := by decide +kernel
theorem dX6_random_19 : decode cX6_random 19 = .ok (.iload_n 1, 1) := by decide +kernel
theorem dX6_random_20 : decode cX6_random 20 = .ok (.invokevirtual 88, 3) := by decide +kernel
theorem dX6_random_23 : decode cX6_random 23 = .ok (.aload_n 0, 1) := by decide +kernel
theorem dX6_random_24 : decode cX6_random 24 = .ok (.getfield 13, 3) := by decide +kernel
theorem dX6_random_27 : decode cX6_random 27 = .ok (.iload_n 1, 1) := by decide +kernel
theorem dX6_random_28 : decode cX6_random 28 = .ok (.aaload, 1) := by decide +kernel
theorem dX6_random_29 : decode cX6_random 29 = .ok (.iload_n 2, 1) := by decide +kernel
theorem dX6_random_30 : decode cX6_random 30 = .ok (.iload_n 3, 1) := by decide +kernel
theorem dX6_random_31 : decode cX6_random 31 = .ok (.invokevirtual 111, 3) := by decide +kernel
theorem dX6_random_34 : decode cX6_random 34 = .ok (.aload_n 0, 1) := by decide +kernel
theorem dX6_random_35 : decode cX6_random 35 = .ok (.getfield 13, 3) := by decide +kernel
theorem dX6_random_38 : decode cX6_random 38 = .ok (.iload_n 1, 1) := by decide +kernel
theorem dX6_random_39 : decode cX6_random 39 = .ok (.aaload, 1) := by decide +kernel
theorem dX6_random_40 : decode cX6_random 40 = .ok (.invokevirtual 114, 3) := by decide +kernel
theorem dX6_random_43 : decode cX6_random 43 = .ok (.ireturn, 1) := by decide +kernel
theorem dX6_states_0 : decode cX6_states 0 = .ok (.iload_n 1, 1) := by decide +kernel
theorem dX6_states_1 : decode cX6_states 1 = .ok (.invokestatic 78, 3) := by decide +kernel
theorem dX6_states_4 : decode cX6_states 4 = .ok (.aload_n 0, 1) := by decide +kernel
theorem dX6_states_5 : decode cX6_states 5 = .ok (.getfield 13, 3) := by decide +kernel
theorem dX6_states_8 : decode cX6_states 8 = .ok (.iload_n 1, 1) := by decide +kernel
theorem dX6_states_9 : decode cX6_states 9 = .ok (.aaload, 1) := by decide +kernel
theorem dX6_states_10 : decode cX6_states 10 = .ok (.getfield 85, 3) := by decide +kernel
theorem dX6_states_13 : decode cX6_states 13 = .ok (.ireturn, 1) := by decide +kernel
theorem dX6_end_0 : decode cX6_end 0 = .ok (.iload_n 1, 1) := by decide +kernel
theorem dX6_end_1 : decode cX6_end 1 = .ok (.invokestatic 78, 3) := by decide +kernel
theorem dX6_end_4 : decode cX6_end 4 = .ok (.aload_n 0, 1) := by decide +kernel
theorem dX6_end_5 : decode cX6_end 5 = .ok (.iload_n 1, 1) := by decide +kernel
theorem dX6_end_6 : decode cX6_end 6 = .ok (.iload_n 2, 1) := by decide +kernel
theorem dX6_end_7 : decode cX6_end 7 = .ok (.invokevirtual 94, 3) := by decide +kernel
theorem dX6_end_10 : decode cX6_end 10 = .ok (.aload_n 0, 1) := by decide +kernel
theorem dX6_end_11 : decode cX6_end 11 = .ok (.getfield 13, 3) := by decide +kernel
theorem dX6_end_14 : decode cX6_end 14 = .ok (.iload_n 1, 1) := by decide +kernel
theorem dX6_end_15 : decode cX6_end 15 = .ok (.aaload, 1) := by decide +kernel
theorem dX6_end_16 : decode cX6_end 16 = .ok (.iload_n 3, 1) := by decide +kernel
theorem dX6_end_17 : decode cX6_end 17 = .ok (.invokevirtual 98, 3) := by decide +kernel
theorem dX6_end_20 : decode cX6_end 20 = .ok (.iload_n 2, 1) := by decide +kernel
theorem dX6_end_21 : decode cX6_end 21 = .ok (.iaload, 1) := by decide +kernel
theorem dX6_end_22 : decode cX6_end 22 = .ok (.ireturn, 1) := by decide +kernel
theorem dX6_step_0 : decode cX6_step 0 = .ok (.iload_n 1, 1) := by decide +kernel
theorem dX6_step_1 : decode cX6_step 1 = .ok (.invokestatic 78, 3) := by decide +kernel
theorem dX6_step_4 : decode cX6_step 4 = .ok (.aload_n 0, 1) := by decide +kernel
theorem dX6_step_5 : decode cX6_step 5 = .ok (.iload_n 1, 1) := by decide +kernel
theorem dX6_step_6 : decode cX6_step 6 = .ok (.iload_n 2, 1) := by decide +kernel
theorem dX6_step_7 : decode cX6_step 7 = .ok (.iload_n 3, 1) := by decide +kernel
theorem dX6_step_8 : decode cX6_step 8 = .ok (.iload 4, 2) := by decide +kernel
theorem dX6_step_10 : decode cX6_step 10 = .ok (.invokevirtual 102, 3) := by decide +kernel
theorem dX6_step_13 : decode cX6_step 13 = .ok (.aload_n 0, 1) := by decide +kernel
theorem dX6_step_14 : decode cX6_step 14 = .ok (.getfield 13, 3) := by decide +kernel
theorem dX6_step_17 : decode cX6_step 17 = .ok (.iload_n 1, 1) := by decide +kernel
theorem dX6_step_18 : decode cX6_step 18 = .ok (.aaload, 1) := by decide +kernel
theorem dX6_step_19 : decode cX6_step 19 = .ok (.astore 5, 2) := by decide +kernel
theorem dX6_step_21 : decode cX6_step 21 = .ok (.aload 5, 2) := by decide +kernel
theorem dX6_step_23 : decode cX6_step 23 = .ok (.getfield 106, 3) := by decide +kernel
theorem dX6_step_26 : decode cX6_step 26 = .ok (.iload_n 2, 1) := by decide +kernel
theorem dX6_step_27 : decode cX6_step 27 = .ok (.aaload, 1) := by decide +kernel
theorem dX6_step_28 : decode cX6_step 28 = .ok (.iload_n 3, 1) := by decide +kernel
theorem dX6_step_29 : decode cX6_step 29 = .ok (.aload 5, 2) := by decide +kernel
theorem dX6_step_31 : decode cX6_step 31 = .ok (.getfield 85, 3) := by decide +kernel
theorem dX6_step_34 : decode cX6_step 34 = .ok (.imul, 1) := by decide +kernel
theorem dX6_step_35 : decode cX6_step 35 = .ok (.iload 4, 2) := by decide +kernel
theorem dX6_step_37 : decode cX6_step 37 = .ok (.iadd, 1) := by decide +kernel
theorem dX6_step_38 : decode cX6_step 38 = .ok (.iaload, 1) := by decide +kernel
theorem dX6_step_39 : decode cX6_step 39 = .ok (.ireturn, 1) := by decide +kernel
theorem dX6_weight_0 : decode cX6_weight 0 = .ok (.iload_n 1, 1) := by decide +kernel
theorem dX6_weight_1 : decode cX6_weight 1 = .ok (.invokestatic 78, 3) := by decide +kernel
theorem dX6_weight_4 : decode cX6_weight 4 = .ok (.iload_n 2, 1) := by decide +kernel
theorem dX6_weight_5 : decode cX6_weight 5 = .ok (.iconst 0, 1) := by decide +kernel
theorem dX6_weight_6 : decode cX6_weight 6 = .ok (.ldc 118, 2) := by decide +kernel
theorem dX6_weight_8 : decode cX6_weight 8 = .ok (.invokestatic 81, 3) := by decide +kernel
theorem dX6_weight_11 : decode cX6_weight 11 = .ok (.aload_n 0, 1) := by decide +kernel
theorem dX6_weight_12 : decode cX6_weight 12 = .ok (.getfield 43, 3) := by decide +kernel
theorem dX6_weight_15 : decode cX6_weight 15 = .ok (.aload_n 0, 1) := by decide +kernel
theorem dX6_weight_16 : decode cX6_weight 16 = .ok (.getfield 13, 3) := by decide +kernel
theorem dX6_weight_19 : decode cX6_weight 19 = .ok (.iload_n 1, 1) := by decide +kernel
theorem dX6_weight_20 : decode cX6_weight 20 = .ok (.aaload, 1) := by decide +kernel
theorem dX6_weight_21 : decode cX6_weight 21 = .ok (.invokevirtual 119, 3) := by decide +kernel
theorem dX6_weight_24 : decode cX6_weight 24 = .ok (.aload_n 0, 1) := by decide +kernel
theorem dX6_weight_25 : decode cX6_weight 25 = .ok (.getfield 43, 3) := by decide +kernel
theorem dX6_weight_28 : decode cX6_weight 28 = .ok (.aload_n 0, 1) := by decide +kernel
theorem dX6_weight_29 : decode cX6_weight 29 = .ok (.getfield 13, 3) := by decide +kernel
theorem dX6_weight_32 : decode cX6_weight 32 = .ok (.iload_n 1, 1) := by decide +kernel
theorem dX6_weight_33 : decode cX6_weight 33 = .ok (.aaload, 1) := by decide +kernel
theorem dX6_weight_34 : decode cX6_weight 34 = .ok (.iload_n 2, 1) := by decide +kernel
theorem dX6_weight_35 : decode cX6_weight 35 = .ok (.invokevirtual 123, 3) := by decide +kernel
theorem dX6_weight_38 : decode cX6_weight 38 = .ok (.aload_n 0, 1) := by decide +kernel
theorem dX6_weight_39 : decode cX6_weight 39 = .ok (.getfield 43, 3) := by decide +kernel
theorem dX6_weight_42 : decode cX6_weight 42 = .ok (.aload_n 0, 1) := by decide +kernel
theorem dX6_weight_43 : decode cX6_weight 43 = .ok (.getfield 13, 3) := by decide +kernel
theorem dX6_weight_46 : decode cX6_weight 46 = .ok (.iload_n 1, 1) := by decide +kernel
theorem dX6_weight_47 : decode cX6_weight 47 = .ok (.aaload, 1) := by decide +kernel
theorem dX6_weight_48 : decode cX6_weight 48 = .ok (.invokevirtual 127, 3) := by decide +kernel
theorem dX6_weight_51 : decode cX6_weight 51 = .ok (.ireturn, 1) := by decide +kernel
theorem dX6_powerWeight_0 : decode cX6_powerWeight 0 = .ok (.iload_n 1, 1) := by decide +kernel
theorem dX6_powerWeight_1 : decode cX6_powerWeight 1 = .ok (.invokestatic 78, 3) := by decide +kernel
theorem dX6_powerWeight_4 : decode cX6_powerWeight 4 = .ok (.iload_n 2, 1) := by decide +kernel
theorem dX6_powerWeight_5 : decode cX6_powerWeight 5 = .ok (.iconst 0, 1) := by decide +kernel
theorem dX6_powerWeight_6 : decode cX6_powerWeight 6 = .ok (.ldc 118, 2) := by decide +kernel
theorem dX6_powerWeight_8 : decode cX6_powerWeight 8 = .ok (.invokestatic 81, 3) := by decide +kernel
theorem dX6_powerWeight_11 : decode cX6_powerWeight 11 = .ok (.iload_n 3, 1) := by decide +kernel
theorem dX6_powerWeight_12 : decode cX6_powerWeight 12 = .ok (.iconst 0, 1) := by decide +kernel
theorem dX6_powerWeight_13 : decode cX6_powerWeight 13 = .ok (.sipush 200, 3) := by decide +kernel
theorem dX6_powerWeight_16 : decode cX6_powerWeight 16 = .ok (.invokestatic 81, 3) := by decide +kernel
theorem dX6_powerWeight_19 : decode cX6_powerWeight 19 = .ok (.aload_n 0, 1) := by decide +kernel
theorem dX6_powerWeight_20 : decode cX6_powerWeight 20 = .ok (.getfield 43, 3) := by decide +kernel
theorem dX6_powerWeight_23 : decode cX6_powerWeight 23 = .ok (.aload_n 0, 1) := by decide +kernel
theorem dX6_powerWeight_24 : decode cX6_powerWeight 24 = .ok (.getfield 13, 3) := by decide +kernel
theorem dX6_powerWeight_27 : decode cX6_powerWeight 27 = .ok (.iload_n 1, 1) := by decide +kernel
theorem dX6_powerWeight_28 : decode cX6_powerWeight 28 = .ok (.aaload, 1) := by decide +kernel
theorem dX6_powerWeight_29 : decode cX6_powerWeight 29 = .ok (.invokevirtual 119, 3) := by decide +kernel
theorem dX6_powerWeight_32 : decode cX6_powerWeight 32 = .ok (.iconst 0, 1) := by decide +kernel
theorem dX6_powerWeight_33 : decode cX6_powerWeight 33 = .ok (.istore 4, 2) := by decide +kernel
theorem dX6_powerWeight_35 : decode cX6_powerWeight 35 = .ok (.iload 4, 2) := by decide +kernel
theorem dX6_powerWeight_37 : decode cX6_powerWeight 37 = .ok (.iload_n 3, 1) := by decide +kernel
theorem dX6_powerWeight_38 : decode cX6_powerWeight 38 = .ok (.if_icmp .ge 23, 3) := by decide +kernel
theorem dX6_powerWeight_41 : decode cX6_powerWeight 41 = .ok (.aload_n 0, 1) := by decide +kernel
theorem dX6_powerWeight_42 : decode cX6_powerWeight 42 = .ok (.getfield 43, 3) := by decide +kernel
theorem dX6_powerWeight_45 : decode cX6_powerWeight 45 = .ok (.aload_n 0, 1) := by decide +kernel
theorem dX6_powerWeight_46 : decode cX6_powerWeight 46 = .ok (.getfield 13, 3) := by decide +kernel
theorem dX6_powerWeight_49 : decode cX6_powerWeight 49 = .ok (.iload_n 1, 1) := by decide +kernel
theorem dX6_powerWeight_50 : decode cX6_powerWeight 50 = .ok (.aaload, 1) := by decide +kernel
theorem dX6_powerWeight_51 : decode cX6_powerWeight 51 = .ok (.iload_n 2, 1) := by decide +kernel
theorem dX6_powerWeight_52 : decode cX6_powerWeight 52 = .ok (.invokevirtual 123, 3) := by decide +kernel
theorem dX6_powerWeight_55 : decode cX6_powerWeight 55 = .ok (.iinc 4 1, 3) := by decide +kernel
theorem dX6_powerWeight_58 : decode cX6_powerWeight 58 = .ok (.goto (-23), 3) := by decide +kernel
theorem dX6_powerWeight_61 : decode cX6_powerWeight 61 = .ok (.aload_n 0, 1) := by decide +kernel
theorem dX6_powerWeight_62 : decode cX6_powerWeight 62 = .ok (.getfield 43, 3) := by decide +kernel
theorem dX6_powerWeight_65 : decode cX6_powerWeight 65 = .ok (.aload_n 0, 1) := by decide +kernel
theorem dX6_powerWeight_66 : decode cX6_powerWeight 66 = .ok (.getfield 13, 3) := by decide +kernel
theorem dX6_powerWeight_69 : decode cX6_powerWeight 69 = .ok (.iload_n 1, 1) := by decide +kernel
theorem dX6_powerWeight_70 : decode cX6_powerWeight 70 = .ok (.aaload, 1) := by decide +kernel
theorem dX6_powerWeight_71 : decode cX6_powerWeight 71 = .ok (.invokevirtual 127, 3) := by decide +kernel
theorem dX6_powerWeight_74 : decode cX6_powerWeight 74 = .ok (.ireturn, 1) := by decide +kernel
theorem dX6_total_0 : decode cX6_total 0 = .ok (.iload_n 1, 1) := by decide +kernel
theorem dX6_total_1 : decode cX6_total 1 = .ok (.invokestatic 78, 3) := by decide +kernel
theorem dX6_total_4 : decode cX6_total 4 = .ok (.iload_n 2, 1) := by decide +kernel
theorem dX6_total_5 : decode cX6_total 5 = .ok (.iconst 0, 1) := by decide +kernel
theorem dX6_total_6 : decode cX6_total 6 = .ok (.sipush 2000, 3) := by decide +kernel
theorem dX6_total_9 : decode cX6_total 9 = .ok (.invokestatic 81, 3) := by decide +kernel
theorem dX6_total_12 : decode cX6_total 12 = .ok (.aload_n 0, 1) := by decide +kernel
theorem dX6_total_13 : decode cX6_total 13 = .ok (.getfield 43, 3) := by decide +kernel
theorem dX6_total_16 : decode cX6_total 16 = .ok (.aload_n 0, 1) := by decide +kernel
theorem dX6_total_17 : decode cX6_total 17 = .ok (.getfield 13, 3) := by decide +kernel
theorem dX6_total_20 : decode cX6_total 20 = .ok (.iload_n 1, 1) := by decide +kernel
theorem dX6_total_21 : decode cX6_total 21 = .ok (.aaload, 1) := by decide +kernel
theorem dX6_total_22 : decode cX6_total 22 = .ok (.invokevirtual 119, 3) := by decide +kernel
theorem dX6_total_25 : decode cX6_total 25 = .ok (.iconst 0, 1) := by decide +kernel
theorem dX6_total_26 : decode cX6_total 26 = .ok (.istore_n 3, 1) := by decide +kernel
theorem dX6_total_27 : decode cX6_total 27 = .ok (.iload_n 3, 1) := by decide +kernel
theorem dX6_total_28 : decode cX6_total 28 = .ok (.iload_n 2, 1) := by decide +kernel
theorem dX6_total_29 : decode cX6_total 29 = .ok (.if_icmp .ge 22, 3) := by decide +kernel
theorem dX6_total_32 : decode cX6_total 32 = .ok (.aload_n 0, 1) := by decide +kernel
theorem dX6_total_33 : decode cX6_total 33 = .ok (.getfield 43, 3) := by decide +kernel
theorem dX6_total_36 : decode cX6_total 36 = .ok (.aload_n 0, 1) := by decide +kernel
theorem dX6_total_37 : decode cX6_total 37 = .ok (.getfield 13, 3) := by decide +kernel
theorem dX6_total_40 : decode cX6_total 40 = .ok (.iload_n 1, 1) := by decide +kernel
theorem dX6_total_41 : decode cX6_total 41 = .ok (.aaload, 1) := by decide +kernel
theorem dX6_total_42 : decode cX6_total 42 = .ok (.invokevirtual 131, 3) := by decide +kernel
theorem dX6_total_45 : decode cX6_total 45 = .ok (.iinc 3 1, 3) := by decide +kernel
theorem dX6_total_48 : decode cX6_total 48 = .ok (.goto (-21), 3) := by decide +kernel
theorem dX6_total_51 : decode cX6_total 51 = .ok (.aload_n 0, 1) := by decide +kernel
theorem dX6_total_52 : decode cX6_total 52 = .ok (.getfield 43, 3) := by decide +kernel
theorem dX6_total_55 : decode cX6_total 55 = .ok (.aload_n 0, 1) := by decide +kernel
theorem dX6_total_56 : decode cX6_total 56 = .ok (.getfield 13, 3) := by decide +kernel
theorem dX6_total_59 : decode cX6_total 59 = .ok (.iload_n 1, 1) := by decide +kernel
theorem dX6_total_60 : decode cX6_total 60 = .ok (.aaload, 1) := by decide +kernel
theorem dX6_total_61 : decode cX6_total 61 = .ok (.invokevirtual 127, 3) := by decide +kernel
theorem dX6_total_64 : decode cX6_total 64 = .ok (.ireturn, 1) := by decide +kernel
theorem dX6_support_0 : decode cX6_support 0 = .ok (.iload_n 1, 1) := by decide +kernel
theorem dX6_support_1 : decode cX6_support 1 = .ok (.invokestatic 78, 3) := by decide +kernel
theorem dX6_support_4 : decode cX6_support 4 = .ok (.iload_n 2, 1) := by decide +kernel
theorem dX6_support_5 : decode cX6_support 5 = .ok (.iconst 0, 1) := by decide +kernel
theorem dX6_support_6 : decode cX6_support 6 = .ok (.sipush 4095, 3) := by decide +kernel
theorem dX6_support_9 : decode cX6_support 9 = .ok (.invokestatic 81, 3) := by decide +kernel
theorem dX6_support_12 : decode cX6_support 12 = .ok (.aload_n 0, 1) := by decide +kernel
theorem dX6_support_13 : decode cX6_support 13 = .ok (.getfield 50, 3) := by decide +kernel
theorem dX6_support_16 : decode cX6_support 16 = .ok (.aload_n 0, 1) := by decide +kernel
theorem dX6_support_17 : decode cX6_support 17 = .ok (.getfield 13, 3) := by decide +kernel
theorem dX6_support_20 : decode cX6_support 20 = .ok (.iload_n 1, 1) := by decide +kernel
theorem dX6_support_21 : decode cX6_support 21 = .ok (.aaload, 1) := by decide +kernel
theorem dX6_support_22 : decode cX6_support 22 = .ok (.invokevirtual 134, 3) := by decide +kernel
theorem dX6_support_25 : decode cX6_support 25 = .ok (.iconst 0, 1) := by decide +kernel
theorem dX6_support_26 : decode cX6_support 26 = .ok (.istore_n 3, 1) := by decide +kernel
theorem dX6_support_27 : decode cX6_support 27 = .ok (.iconst 0, 1) := by decide +kernel
theorem dX6_support_28 : decode cX6_support 28 = .ok (.istore 4, 2) := by decide +kernel
theorem dX6_support_30 : decode cX6_support 30 = .ok (.iload 4, 2) := by decide +kernel
theorem dX6_support_32 : decode cX6_support 32 = .ok (.iload_n 2, 1) := by decide +kernel
theorem dX6_support_33 : decode cX6_support 33 = .ok (.if_icmp .ge 30, 3) := by decide +kernel
theorem dX6_support_36 : decode cX6_support 36 = .ok (.aload_n 0, 1) := by decide +kernel
theorem dX6_support_37 : decode cX6_support 37 = .ok (.getfield 50, 3) := by decide +kernel
theorem dX6_support_40 : decode cX6_support 40 = .ok (.aload_n 0, 1) := by decide +kernel
theorem dX6_support_41 : decode cX6_support 41 = .ok (.getfield 13, 3) := by decide +kernel
theorem dX6_support_44 : decode cX6_support 44 = .ok (.iload_n 1, 1) := by decide +kernel
theorem dX6_support_45 : decode cX6_support 45 = .ok (.aaload, 1) := by decide +kernel
theorem dX6_support_46 : decode cX6_support 46 = .ok (.iload 4, 2) := by decide +kernel
theorem dX6_support_48 : decode cX6_support 48 = .ok (.invokevirtual 135, 3) := by decide +kernel
theorem dX6_support_51 : decode cX6_support 51 = .ok (.ifCond .eq 6, 3) := by decide +kernel
theorem dX6_support_54 : decode cX6_support 54 = .ok (.iinc 3 1, 3) := by decide +kernel
theorem dX6_support_57 : decode cX6_support 57 = .ok (.iinc 4 1, 3) := by decide +kernel
theorem dX6_support_60 : decode cX6_support 60 = .ok (.goto (-30), 3) := by decide +kernel
theorem dX6_support_63 : decode cX6_support 63 = .ok (.iload_n 3, 1) := by decide +kernel
theorem dX6_support_64 : decode cX6_support 64 = .ok (.ireturn, 1) := by decide +kernel
theorem dX6_first_0 : decode cX6_first 0 = .ok (.iload_n 1, 1) := by decide +kernel
theorem dX6_first_1 : decode cX6_first 1 = .ok (.invokestatic 78, 3) := by decide +kernel
theorem dX6_first_4 : decode cX6_first 4 = .ok (.aload_n 0, 1) := by decide +kernel
theorem dX6_first_5 : decode cX6_first 5 = .ok (.getfield 57, 3) := by decide +kernel
theorem dX6_first_8 : decode cX6_first 8 = .ok (.aload_n 0, 1) := by decide +kernel
theorem dX6_first_9 : decode cX6_first 9 = .ok (.getfield 13, 3) := by decide +kernel
theorem dX6_first_12 : decode cX6_first 12 = .ok (.iload_n 1, 1) := by decide +kernel
theorem dX6_first_13 : decode cX6_first 13 = .ok (.aaload, 1) := by decide +kernel
theorem dX6_first_14 : decode cX6_first 14 = .ok (.invokevirtual 139, 3) := by decide +kernel
theorem dX6_first_17 : decode cX6_first 17 = .ok (.aload_n 0, 1) := by decide +kernel
theorem dX6_first_18 : decode cX6_first 18 = .ok (.getfield 57, 3) := by decide +kernel
theorem dX6_first_21 : decode cX6_first 21 = .ok (.invokevirtual 142, 3) := by decide +kernel
theorem dX6_first_24 : decode cX6_first 24 = .ok (.ireturn, 1) := by decide +kernel
theorem dX6_combine_0 : decode cX6_combine 0 = .ok (.iload_n 1, 1) := by decide +kernel
theorem dX6_combine_1 : decode cX6_combine 1 = .ok (.invokestatic 78, 3) := by decide +kernel
theorem dX6_combine_4 : decode cX6_combine 4 = .ok (.iload_n 2, 1) := by decide +kernel
theorem dX6_combine_5 : decode cX6_combine 5 = .ok (.invokestatic 78, 3) := by decide +kernel
theorem dX6_combine_8 : decode cX6_combine 8 = .ok (.iload_n 3, 1) := by decide +kernel
theorem dX6_combine_9 : decode cX6_combine 9 = .ok (.invokestatic 78, 3) := by decide +kernel
theorem dX6_combine_12 : decode cX6_combine 12 = .ok (.iload 4, 2) := by decide +kernel
theorem dX6_combine_14 : decode cX6_combine 14 = .ok (.iconst 0, 1) := by decide +kernel
theorem dX6_combine_15 : decode cX6_combine 15 = .ok (.iconst 2, 1) := by decide +kernel
theorem dX6_combine_16 : decode cX6_combine 16 = .ok (.invokestatic 81, 3) := by decide +kernel
theorem dX6_combine_19 : decode cX6_combine 19 = .ok (.aload_n 0, 1) := by decide +kernel
theorem dX6_combine_20 : decode cX6_combine 20 = .ok (.getfield 13, 3) := by decide +kernel
theorem dX6_combine_23 : decode cX6_combine 23 = .ok (.iload_n 2, 1) := by decide +kernel
theorem dX6_combine_24 : decode cX6_combine 24 = .ok (.aaload, 1) := by decide +kernel
theorem dX6_combine_25 : decode cX6_combine 25 = .ok (.astore 5, 2) := by decide +kernel
theorem dX6_combine_27 : decode cX6_combine 27 = .ok (.aload_n 0, 1) := by decide +kernel
theorem dX6_combine_28 : decode cX6_combine 28 = .ok (.getfield 13, 3) := by decide +kernel
theorem dX6_combine_31 : decode cX6_combine 31 = .ok (.iload_n 3, 1) := by decide +kernel
theorem dX6_combine_32 : decode cX6_combine 32 = .ok (.aaload, 1) := by decide +kernel
theorem dX6_combine_33 : decode cX6_combine 33 = .ok (.astore 6, 2) := by decide +kernel
theorem dX6_combine_35 : decode cX6_combine 35 = .ok (.iload 4, 2) := by decide +kernel
theorem dX6_combine_37 : decode cX6_combine 37 = .ok (.iconst 1, 1) := by decide +kernel
theorem dX6_combine_38 : decode cX6_combine 38 = .ok (.if_icmp .ne 17, 3) := by decide +kernel
theorem dX6_combine_41 : decode cX6_combine 41 = .ok (.aload 5, 2) := by decide +kernel
theorem dX6_combine_43 : decode cX6_combine 43 = .ok (.getfield 85, 3) := by decide +kernel
theorem dX6_combine_46 : decode cX6_combine 46 = .ok (.aload 6, 2) := by decide +kernel
theorem dX6_combine_48 : decode cX6_combine 48 = .ok (.getfield 85, 3) := by decide +kernel
theorem dX6_combine_51 : decode cX6_combine 51 = .ok (.imul, 1) := by decide +kernel
theorem dX6_combine_52 : decode cX6_combine 52 = .ok (.goto 14, 3) := by decide +kernel
theorem dX6_combine_55 : decode cX6_combine 55 = .ok (.aload 5, 2) := by decide +kernel
theorem dX6_combine_57 : decode cX6_combine 57 = .ok (.getfield 85, 3) := by decide +kernel
theorem dX6_combine_60 : decode cX6_combine 60 = .ok (.aload 6, 2) := by decide +kernel
theorem dX6_combine_62 : decode cX6_combine 62 = .ok (.getfield 85, 3) := by decide +kernel
theorem dX6_combine_65 : decode cX6_combine 65 = .ok (.iadd, 1) := by decide +kernel
theorem dX6_combine_66 : decode cX6_combine 66 = .ok (.istore 7, 2) := by decide +kernel
theorem dX6_combine_68 : decode cX6_combine 68 = .ok (.iload 7, 2) := by decide +kernel
theorem dX6_combine_70 : decode cX6_combine 70 = .ok (.bipush 12, 2) := by decide +kernel
theorem dX6_combine_72 : decode cX6_combine 72 = .ok (.if_icmp .le 13, 3) := by decide +kernel
theorem dX6_combine_75 : decode cX6_combine 75 = .ok (.new 145, 3) := by decide +kernel
theorem dX6_combine_78 : decode cX6_combine 78 = .ok (.dup, 1) := by decide +kernel
theorem dX6_combine_79 : decode cX6_combine 79 = .ok (.ldc 147, 2) := by decide +kernel
theorem dX6_combine_81 : decode cX6_combine 81 = .ok (.invokespecial 149, 3) := by decide +kernel
theorem dX6_combine_84 : decode cX6_combine 84 = .ok (.athrow, 1) := by decide +kernel
theorem dX6_combine_85 : decode cX6_combine 85 = .ok (.iload 4, 2) := by decide +kernel
theorem dX6_combine_87 : decode cX6_combine 87 = .ok (.ifCond .ne 17, 3) := by decide +kernel
theorem dX6_combine_90 : decode cX6_combine 90 = .ok (.aload_n 0, 1) := by decide +kernel
theorem dX6_combine_91 : decode cX6_combine 91 = .ok (.getfield 33, 3) := by decide +kernel
theorem dX6_combine_94 : decode cX6_combine 94 = .ok (.aload 5, 2) := by decide +kernel
theorem dX6_combine_96 : decode cX6_combine 96 = .ok (.aload 6, 2) := by decide +kernel
theorem dX6_combine_98 : decode cX6_combine 98 = .ok (.invokevirtual 152, 3) := by decide +kernel
theorem dX6_combine_101 : decode cX6_combine 101 = .ok (.goto 34, 3) := by decide +kernel
theorem dX6_combine_104 : decode cX6_combine 104 = .ok (.iload 4, 2) := by decide +kernel
theorem dX6_combine_106 : decode cX6_combine 106 = .ok (.iconst 1, 1) := by decide +kernel
theorem dX6_combine_107 : decode cX6_combine 107 = .ok (.if_icmp .ne 17, 3) := by decide +kernel
theorem dX6_combine_110 : decode cX6_combine 110 = .ok (.aload_n 0, 1) := by decide +kernel
theorem dX6_combine_111 : decode cX6_combine 111 = .ok (.getfield 33, 3) := by decide +kernel
theorem dX6_combine_114 : decode cX6_combine 114 = .ok (.aload 5, 2) := by decide +kernel
theorem dX6_combine_116 : decode cX6_combine 116 = .ok (.aload 6, 2) := by decide +kernel
theorem dX6_combine_118 : decode cX6_combine 118 = .ok (.invokevirtual 156, 3) := by decide +kernel
theorem dX6_combine_121 : decode cX6_combine 121 = .ok (.goto 14, 3) := by decide +kernel
theorem dX6_combine_124 : decode cX6_combine 124 = .ok (.aload_n 0, 1) := by decide +kernel
theorem dX6_combine_125 : decode cX6_combine 125 = .ok (.getfield 33, 3) := by decide +kernel
theorem dX6_combine_128 : decode cX6_combine 128 = .ok (.aload 5, 2) := by decide +kernel
theorem dX6_combine_130 : decode cX6_combine 130 = .ok (.aload 6, 2) := by decide +kernel
theorem dX6_combine_132 : decode cX6_combine 132 = .ok (.invokevirtual 159, 3) := by decide +kernel
theorem dX6_combine_135 : decode cX6_combine 135 = .ok (.aload_n 0, 1) := by decide +kernel
theorem dX6_combine_136 : decode cX6_combine 136 = .ok (.iload_n 1, 1) := by decide +kernel
theorem dX6_combine_137 : decode cX6_combine 137 = .ok (.invokevirtual 162, 3) := by decide +kernel
theorem dX6_combine_140 : decode cX6_combine 140 = .ok (.ireturn, 1) := by decide +kernel
theorem dX6_derive_0 : decode cX6_derive 0 = .ok (.iload_n 1, 1) := by decide +kernel
theorem dX6_derive_1 : decode cX6_derive 1 = .ok (.invokestatic 78, 3) := by decide +kernel
theorem dX6_derive_4 : decode cX6_derive 4 = .ok (.iload_n 2, 1) := by decide +kernel
theorem dX6_derive_5 : decode cX6_derive 5 = .ok (.invokestatic 78, 3) := by decide +kernel
theorem dX6_derive_8 : decode cX6_derive 8 = .ok (.iload_n 3, 1) := by decide +kernel
theorem dX6_derive_9 : decode cX6_derive 9 = .ok (.iconst 0, 1) := by decide +kernel
theorem dX6_derive_10 : decode cX6_derive 10 = .ok (.bipush 6, 2) := by decide +kernel
theorem dX6_derive_12 : decode cX6_derive 12 = .ok (.invokestatic 81, 3) := by decide +kernel
theorem dX6_derive_15 : decode cX6_derive 15 = .ok (.aload_n 0, 1) := by decide +kernel
theorem dX6_derive_16 : decode cX6_derive 16 = .ok (.getfield 13, 3) := by decide +kernel
theorem dX6_derive_19 : decode cX6_derive 19 = .ok (.iload_n 2, 1) := by decide +kernel
theorem dX6_derive_20 : decode cX6_derive 20 = .ok (.aaload, 1) := by decide +kernel
theorem dX6_derive_21 : decode cX6_derive 21 = .ok (.astore 4, 2) := by decide +kernel
theorem dX6_derive_23 : decode cX6_derive 23 = .ok (.iload_n 3, 1) := by decide +kernel
theorem dX6_derive_24 : decode cX6_derive 24 = .ok (.iconst 2, 1) := by decide +kernel
theorem dX6_derive_25 : decode cX6_derive 25 = .ok (.if_icmp .ne 21, 3) := by decide +kernel
theorem dX6_derive_28 : decode cX6_derive 28 = .ok (.aload 4, 2) := by decide +kernel
theorem dX6_derive_30 : decode cX6_derive 30 = .ok (.invokevirtual 166, 3) := by decide +kernel
theorem dX6_derive_33 : decode cX6_derive 33 = .ok (.ifCond .ne 13, 3) := by decide +kernel
theorem dX6_derive_36 : decode cX6_derive 36 = .ok (.new 145, 3) := by decide +kernel
theorem dX6_derive_39 : decode cX6_derive 39 = .ok (.dup, 1) := by decide +kernel
theorem dX6_derive_40 : decode cX6_derive 40 = .ok (.ldc 170, 2) := by decide +kernel
theorem dX6_derive_42 : decode cX6_derive 42 = .ok (.invokespecial 149, 3) := by decide +kernel
theorem dX6_derive_45 : decode cX6_derive 45 = .ok (.athrow, 1) := by decide +kernel
theorem dX6_derive_46 : decode cX6_derive 46 = .ok (.aload_n 0, 1) := by decide +kernel
theorem dX6_derive_47 : decode cX6_derive 47 = .ok (.getfield 33, 3) := by decide +kernel
theorem dX6_derive_50 : decode cX6_derive 50 = .ok (.aload 4, 2) := by decide +kernel
theorem dX6_derive_52 : decode cX6_derive 52 = .ok (.invokevirtual 172, 3) := by decide +kernel
theorem dX6_derive_55 : decode cX6_derive 55 = .ok (.iload_n 3, 1) := by decide +kernel
theorem dX6_derive_56 : decode cX6_derive 56 = .ok (.tableswitch 116 1 6 #[40, 50, 62, 75, 88, 102], 40) := by decide +kernel
theorem dX6_derive_96 : decode cX6_derive 96 = .ok (.aload_n 0, 1) := by decide +kernel
theorem dX6_derive_97 : decode cX6_derive 97 = .ok (.getfield 33, 3) := by decide +kernel
theorem dX6_derive_100 : decode cX6_derive 100 = .ok (.invokevirtual 175, 3) := by decide +kernel
theorem dX6_derive_103 : decode cX6_derive 103 = .ok (.goto 69, 3) := by decide +kernel
theorem dX6_derive_106 : decode cX6_derive 106 = .ok (.aload_n 0, 1) := by decide +kernel
theorem dX6_derive_107 : decode cX6_derive 107 = .ok (.getfield 33, 3) := by decide +kernel
theorem dX6_derive_110 : decode cX6_derive 110 = .ok (.aload 4, 2) := by decide +kernel
theorem dX6_derive_112 : decode cX6_derive 112 = .ok (.invokevirtual 178, 3) := by decide +kernel
theorem dX6_derive_115 : decode cX6_derive 115 = .ok (.goto 57, 3) := by decide +kernel
theorem dX6_derive_118 : decode cX6_derive 118 = .ok (.aload_n 0, 1) := by decide +kernel
theorem dX6_derive_119 : decode cX6_derive 119 = .ok (.getfield 33, 3) := by decide +kernel
theorem dX6_derive_122 : decode cX6_derive 122 = .ok (.aload 4, 2) := by decide +kernel
theorem dX6_derive_124 : decode cX6_derive 124 = .ok (.iconst 0, 1) := by decide +kernel
theorem dX6_derive_125 : decode cX6_derive 125 = .ok (.invokevirtual 181, 3) := by decide +kernel
theorem dX6_derive_128 : decode cX6_derive 128 = .ok (.goto 44, 3) := by decide +kernel
theorem dX6_derive_131 : decode cX6_derive 131 = .ok (.aload_n 0, 1) := by decide +kernel
theorem dX6_derive_132 : decode cX6_derive 132 = .ok (.getfield 33, 3) := by decide +kernel
theorem dX6_derive_135 : decode cX6_derive 135 = .ok (.aload 4, 2) := by decide +kernel
theorem dX6_derive_137 : decode cX6_derive 137 = .ok (.iconst 1, 1) := by decide +kernel
theorem dX6_derive_138 : decode cX6_derive 138 = .ok (.invokevirtual 181, 3) := by decide +kernel
theorem dX6_derive_141 : decode cX6_derive 141 = .ok (.goto 31, 3) := by decide +kernel
theorem dX6_derive_144 : decode cX6_derive 144 = .ok (.aload_n 0, 1) := by decide +kernel
theorem dX6_derive_145 : decode cX6_derive 145 = .ok (.getfield 57, 3) := by decide +kernel
theorem dX6_derive_148 : decode cX6_derive 148 = .ok (.aload_n 0, 1) := by decide +kernel
theorem dX6_derive_149 : decode cX6_derive 149 = .ok (.getfield 33, 3) := by decide +kernel
theorem dX6_derive_152 : decode cX6_derive 152 = .ok (.invokevirtual 184, 3) := by decide +kernel
theorem dX6_derive_155 : decode cX6_derive 155 = .ok (.goto 17, 3) := by decide +kernel
theorem dX6_derive_158 : decode cX6_derive 158 = .ok (.aload_n 0, 1) := by decide +kernel
theorem dX6_derive_159 : decode cX6_derive 159 = .ok (.getfield 57, 3) := by decide +kernel
theorem dX6_derive_162 : decode cX6_derive 162 = .ok (.aload_n 0, 1) := by decide +kernel
theorem dX6_derive_163 : decode cX6_derive 163 = .ok (.getfield 33, 3) := by decide +kernel
theorem dX6_derive_166 : decode cX6_derive 166 = .ok (.invokevirtual 187, 3) := by decide +kernel
theorem dX6_derive_169 : decode cX6_derive 169 = .ok (.goto 3, 3) := by decide +kernel
theorem dX6_derive_172 : decode cX6_derive 172 = .ok (.aload_n 0, 1) := by decide +kernel
theorem dX6_derive_173 : decode cX6_derive 173 = .ok (.iload_n 1, 1) := by decide +kernel
theorem dX6_derive_174 : decode cX6_derive 174 = .ok (.invokevirtual 162, 3) := by decide +kernel
theorem dX6_derive_177 : decode cX6_derive 177 = .ok (.ireturn, 1) := by decide +kernel
theorem dX6_scale_0 : decode cX6_scale 0 = .ok (.iload_n 1, 1) := by decide +kernel
theorem dX6_scale_1 : decode cX6_scale 1 = .ok (.invokestatic 78, 3) := by decide +kernel
theorem dX6_scale_4 : decode cX6_scale 4 = .ok (.iload_n 2, 1) := by decide +kernel
theorem dX6_scale_5 : decode cX6_scale 5 = .ok (.iconst 0, 1) := by decide +kernel
theorem dX6_scale_6 : decode cX6_scale 6 = .ok (.sipush 10006, 3) := by decide +kernel
theorem dX6_scale_9 : decode cX6_scale 9 = .ok (.invokestatic 81, 3) := by decide +kernel
theorem dX6_scale_12 : decode cX6_scale 12 = .ok (.aload_n 0, 1) := by decide +kernel
theorem dX6_scale_13 : decode cX6_scale 13 = .ok (.iload_n 1, 1) := by decide +kernel
theorem dX6_scale_14 : decode cX6_scale 14 = .ok (.invokevirtual 88, 3) := by decide +kernel
theorem dX6_scale_17 : decode cX6_scale 17 = .ok (.aload_n 0, 1) := by decide +kernel
theorem dX6_scale_18 : decode cX6_scale 18 = .ok (.getfield 13, 3) := by decide +kernel
theorem dX6_scale_21 : decode cX6_scale 21 = .ok (.iload_n 1, 1) := by decide +kernel
theorem dX6_scale_22 : decode cX6_scale 22 = .ok (.aaload, 1) := by decide +kernel
theorem dX6_scale_23 : decode cX6_scale 23 = .ok (.astore_n 3, 1) := by decide +kernel
theorem dX6_scale_24 : decode cX6_scale 24 = .ok (.aload_n 3, 1) := by decide +kernel
theorem dX6_scale_25 : decode cX6_scale 25 = .ok (.getfield 190, 3) := by decide +kernel
theorem dX6_scale_28 : decode cX6_scale 28 = .ok (.iload_n 2, 1) := by decide +kernel
theorem dX6_scale_29 : decode cX6_scale 29 = .ok (.aload_n 3, 1) := by decide +kernel
theorem dX6_scale_30 : decode cX6_scale 30 = .ok (.getfield 85, 3) := by decide +kernel
theorem dX6_scale_33 : decode cX6_scale 33 = .ok (.invokestatic 193, 3) := by decide +kernel
theorem dX6_scale_36 : decode cX6_scale 36 = .ok (.aload_n 3, 1) := by decide +kernel
theorem dX6_scale_37 : decode cX6_scale 37 = .ok (.invokevirtual 114, 3) := by decide +kernel
theorem dX6_scale_40 : decode cX6_scale 40 = .ok (.ireturn, 1) := by decide +kernel
theorem dX6_dimension_0 : decode cX6_dimension 0 = .ok (.iload_n 1, 1) := by decide +kernel
theorem dX6_dimension_1 : decode cX6_dimension 1 = .ok (.invokestatic 78, 3) := by decide +kernel
theorem dX6_dimension_4 : decode cX6_dimension 4 = .ok (.iload_n 2, 1) := by decide +kernel
theorem dX6_dimension_5 : decode cX6_dimension 5 = .ok (.iconst 0, 1) := by decide +kernel
theorem dX6_dimension_6 : decode cX6_dimension 6 = .ok (.iconst 2, 1) := by decide +kernel
theorem dX6_dimension_7 : decode cX6_dimension 7 = .ok (.invokestatic 81, 3) := by decide +kernel
theorem dX6_dimension_10 : decode cX6_dimension 10 = .ok (.aload_n 0, 1) := by decide +kernel
theorem dX6_dimension_11 : decode cX6_dimension 11 = .ok (.iload_n 1, 1) := by decide +kernel
theorem dX6_dimension_12 : decode cX6_dimension 12 = .ok (.iload_n 2, 1) := by decide +kernel
theorem dX6_dimension_13 : decode cX6_dimension 13 = .ok (.invokevirtual 197, 3) := by decide +kernel
theorem dX6_dimension_16 : decode cX6_dimension 16 = .ok (.ireturn, 1) := by decide +kernel
theorem dX6_basisWord_0 : decode cX6_basisWord 0 = .ok (.iload_n 1, 1) := by decide +kernel
theorem dX6_basisWord_1 : decode cX6_basisWord 1 = .ok (.invokestatic 78, 3) := by decide +kernel
theorem dX6_basisWord_4 : decode cX6_basisWord 4 = .ok (.aload_n 0, 1) := by decide +kernel
theorem dX6_basisWord_5 : decode cX6_basisWord 5 = .ok (.getfield 57, 3) := by decide +kernel
theorem dX6_basisWord_8 : decode cX6_basisWord 8 = .ok (.aload_n 0, 1) := by decide +kernel
theorem dX6_basisWord_9 : decode cX6_basisWord 9 = .ok (.getfield 13, 3) := by decide +kernel
theorem dX6_basisWord_12 : decode cX6_basisWord 12 = .ok (.iload_n 1, 1) := by decide +kernel
theorem dX6_basisWord_13 : decode cX6_basisWord 13 = .ok (.aaload, 1) := by decide +kernel
theorem dX6_basisWord_14 : decode cX6_basisWord 14 = .ok (.invokevirtual 139, 3) := by decide +kernel
theorem dX6_basisWord_17 : decode cX6_basisWord 17 = .ok (.iload_n 2, 1) := by decide +kernel
theorem dX6_basisWord_18 : decode cX6_basisWord 18 = .ok (.ifCond .lt 14, 3) := by decide +kernel
theorem dX6_basisWord_21 : decode cX6_basisWord 21 = .ok (.iload_n 2, 1) := by decide +kernel
theorem dX6_basisWord_22 : decode cX6_basisWord 22 = .ok (.aload_n 0, 1) := by decide +kernel
theorem dX6_basisWord_23 : decode cX6_basisWord 23 = .ok (.getfield 57, 3) := by decide +kernel
theorem dX6_basisWord_26 : decode cX6_basisWord 26 = .ok (.getfield 201, 3) := by decide +kernel
theorem dX6_basisWord_29 : decode cX6_basisWord 29 = .ok (.if_icmp .lt 13, 3) := by decide +kernel
theorem dX6_basisWord_32 : decode cX6_basisWord 32 = .ok (.new 204, 3) := by decide +kernel
theorem dX6_basisWord_35 : decode cX6_basisWord 35 = .ok (.dup, 1) := by decide +kernel
theorem dX6_basisWord_36 : decode cX6_basisWord 36 = .ok (.ldc 206, 2) := by decide +kernel
theorem dX6_basisWord_38 : decode cX6_basisWord 38 = .ok (.invokespecial 208, 3) := by decide +kernel
theorem dX6_basisWord_41 : decode cX6_basisWord 41 = .ok (.athrow, 1) := by decide +kernel
theorem dX6_basisWord_42 : decode cX6_basisWord 42 = .ok (.aload_n 0, 1) := by decide +kernel
theorem dX6_basisWord_43 : decode cX6_basisWord 43 = .ok (.getfield 57, 3) := by decide +kernel
theorem dX6_basisWord_46 : decode cX6_basisWord 46 = .ok (.getfield 209, 3) := by decide +kernel
theorem dX6_basisWord_49 : decode cX6_basisWord 49 = .ok (.iload_n 2, 1) := by decide +kernel
theorem dX6_basisWord_50 : decode cX6_basisWord 50 = .ok (.iaload, 1) := by decide +kernel
theorem dX6_basisWord_51 : decode cX6_basisWord 51 = .ok (.ireturn, 1) := by decide +kernel
theorem dX6_differing_0 : decode cX6_differing 0 = .ok (.iload_n 1, 1) := by decide +kernel
theorem dX6_differing_1 : decode cX6_differing 1 = .ok (.invokestatic 78, 3) := by decide +kernel
theorem dX6_differing_4 : decode cX6_differing 4 = .ok (.iload_n 2, 1) := by decide +kernel
theorem dX6_differing_5 : decode cX6_differing 5 = .ok (.invokestatic 78, 3) := by decide +kernel
theorem dX6_differing_8 : decode cX6_differing 8 = .ok (.aload_n 0, 1) := by decide +kernel
theorem dX6_differing_9 : decode cX6_differing 9 = .ok (.getfield 37, 3) := by decide +kernel
theorem dX6_differing_12 : decode cX6_differing 12 = .ok (.aload_n 0, 1) := by decide +kernel
theorem dX6_differing_13 : decode cX6_differing 13 = .ok (.getfield 13, 3) := by decide +kernel
theorem dX6_differing_16 : decode cX6_differing 16 = .ok (.iload_n 1, 1) := by decide +kernel
theorem dX6_differing_17 : decode cX6_differing 17 = .ok (.aaload, 1) := by decide +kernel
theorem dX6_differing_18 : decode cX6_differing 18 = .ok (.aload_n 0, 1) := by decide +kernel
theorem dX6_differing_19 : decode cX6_differing 19 = .ok (.getfield 13, 3) := by decide +kernel
theorem dX6_differing_22 : decode cX6_differing 22 = .ok (.iload_n 2, 1) := by decide +kernel
theorem dX6_differing_23 : decode cX6_differing 23 = .ok (.aaload, 1) := by decide +kernel
theorem dX6_differing_24 : decode cX6_differing 24 = .ok (.invokevirtual 212, 3) := by decide +kernel
theorem dX6_differing_27 : decode cX6_differing 27 = .ok (.aload_n 0, 1) := by decide +kernel
theorem dX6_differing_28 : decode cX6_differing 28 = .ok (.getfield 57, 3) := by decide +kernel
theorem dX6_differing_31 : decode cX6_differing 31 = .ok (.aload_n 0, 1) := by decide +kernel
theorem dX6_differing_32 : decode cX6_differing 32 = .ok (.getfield 37, 3) := by decide +kernel
theorem dX6_differing_35 : decode cX6_differing 35 = .ok (.invokevirtual 139, 3) := by decide +kernel
theorem dX6_differing_38 : decode cX6_differing 38 = .ok (.aload_n 0, 1) := by decide +kernel
theorem dX6_differing_39 : decode cX6_differing 39 = .ok (.getfield 57, 3) := by decide +kernel
theorem dX6_differing_42 : decode cX6_differing 42 = .ok (.invokevirtual 142, 3) := by decide +kernel
theorem dX6_differing_45 : decode cX6_differing 45 = .ok (.ireturn, 1) := by decide +kernel
theorem dX6_hankelRank_0 : decode cX6_hankelRank 0 = .ok (.iload_n 1, 1) := by decide +kernel
theorem dX6_hankelRank_1 : decode cX6_hankelRank 1 = .ok (.invokestatic 78, 3) := by decide +kernel
theorem dX6_hankelRank_4 : decode cX6_hankelRank 4 = .ok (.iload_n 2, 1) := by decide +kernel
theorem dX6_hankelRank_5 : decode cX6_hankelRank 5 = .ok (.iconst 0, 1) := by decide +kernel
theorem dX6_hankelRank_6 : decode cX6_hankelRank 6 = .ok (.bipush 31, 2) := by decide +kernel
theorem dX6_hankelRank_8 : decode cX6_hankelRank 8 = .ok (.invokestatic 81, 3) := by decide +kernel
theorem dX6_hankelRank_11 : decode cX6_hankelRank 11 = .ok (.aload_n 0, 1) := by decide +kernel
theorem dX6_hankelRank_12 : decode cX6_hankelRank 12 = .ok (.getfield 50, 3) := by decide +kernel
theorem dX6_hankelRank_15 : decode cX6_hankelRank 15 = .ok (.aload_n 0, 1) := by decide +kernel
theorem dX6_hankelRank_16 : decode cX6_hankelRank 16 = .ok (.getfield 13, 3) := by decide +kernel
theorem dX6_hankelRank_19 : decode cX6_hankelRank 19 = .ok (.iload_n 1, 1) := by decide +kernel
theorem dX6_hankelRank_20 : decode cX6_hankelRank 20 = .ok (.aaload, 1) := by decide +kernel
theorem dX6_hankelRank_21 : decode cX6_hankelRank 21 = .ok (.invokevirtual 134, 3) := by decide +kernel
theorem dX6_hankelRank_24 : decode cX6_hankelRank 24 = .ok (.iconst 0, 1) := by decide +kernel
theorem dX6_hankelRank_25 : decode cX6_hankelRank 25 = .ok (.istore_n 3, 1) := by decide +kernel
theorem dX6_hankelRank_26 : decode cX6_hankelRank 26 = .ok (.iload_n 3, 1) := by decide +kernel
theorem dX6_hankelRank_27 : decode cX6_hankelRank 27 = .ok (.iload_n 2, 1) := by decide +kernel
theorem dX6_hankelRank_28 : decode cX6_hankelRank 28 = .ok (.if_icmp .ge 55, 3) := by decide +kernel
theorem dX6_hankelRank_31 : decode cX6_hankelRank 31 = .ok (.iconst 0, 1) := by decide +kernel
theorem dX6_hankelRank_32 : decode cX6_hankelRank 32 = .ok (.istore 4, 2) := by decide +kernel
theorem dX6_hankelRank_34 : decode cX6_hankelRank 34 = .ok (.iload 4, 2) := by decide +kernel
theorem dX6_hankelRank_36 : decode cX6_hankelRank 36 = .ok (.iload_n 2, 1) := by decide +kernel
theorem dX6_hankelRank_37 : decode cX6_hankelRank 37 = .ok (.if_icmp .ge 40, 3) := by decide +kernel
theorem dX6_hankelRank_40 : decode cX6_hankelRank 40 = .ok (.aload_n 0, 1) := by decide +kernel
theorem dX6_hankelRank_41 : decode cX6_hankelRank 41 = .ok (.getfield 64, 3) := by decide +kernel
theorem dX6_hankelRank_44 : decode cX6_hankelRank 44 = .ok (.getfield 215, 3) := by decide +kernel
theorem dX6_hankelRank_47 : decode cX6_hankelRank 47 = .ok (.iload_n 3, 1) := by decide +kernel
theorem dX6_hankelRank_48 : decode cX6_hankelRank 48 = .ok (.aaload, 1) := by decide +kernel
theorem dX6_hankelRank_49 : decode cX6_hankelRank 49 = .ok (.iload 4, 2) := by decide +kernel
theorem dX6_hankelRank_51 : decode cX6_hankelRank 51 = .ok (.aload_n 0, 1) := by decide +kernel
theorem dX6_hankelRank_52 : decode cX6_hankelRank 52 = .ok (.getfield 50, 3) := by decide +kernel
theorem dX6_hankelRank_55 : decode cX6_hankelRank 55 = .ok (.aload_n 0, 1) := by decide +kernel
theorem dX6_hankelRank_56 : decode cX6_hankelRank 56 = .ok (.getfield 13, 3) := by decide +kernel
theorem dX6_hankelRank_59 : decode cX6_hankelRank 59 = .ok (.iload_n 1, 1) := by decide +kernel
theorem dX6_hankelRank_60 : decode cX6_hankelRank 60 = .ok (.aaload, 1) := by decide +kernel
theorem dX6_hankelRank_61 : decode cX6_hankelRank 61 = .ok (.iload_n 3, 1) := by decide +kernel
theorem dX6_hankelRank_62 : decode cX6_hankelRank 62 = .ok (.iload 4, 2) := by decide +kernel
theorem dX6_hankelRank_64 : decode cX6_hankelRank 64 = .ok (.invokestatic 218, 3) := by decide +kernel
theorem dX6_hankelRank_67 : decode cX6_hankelRank 67 = .ok (.invokevirtual 135, 3) := by decide +kernel
theorem dX6_hankelRank_70 : decode cX6_hankelRank 70 = .ok (.iastore, 1) := by decide +kernel
theorem dX6_hankelRank_71 : decode cX6_hankelRank 71 = .ok (.iinc 4 1, 3) := by decide +kernel
theorem dX6_hankelRank_74 : decode cX6_hankelRank 74 = .ok (.goto (-40), 3) := by decide +kernel
theorem dX6_hankelRank_77 : decode cX6_hankelRank 77 = .ok (.iinc 3 1, 3) := by decide +kernel
theorem dX6_hankelRank_80 : decode cX6_hankelRank 80 = .ok (.goto (-54), 3) := by decide +kernel
theorem dX6_hankelRank_83 : decode cX6_hankelRank 83 = .ok (.aload_n 0, 1) := by decide +kernel
theorem dX6_hankelRank_84 : decode cX6_hankelRank 84 = .ok (.getfield 64, 3) := by decide +kernel
theorem dX6_hankelRank_87 : decode cX6_hankelRank 87 = .ok (.iload_n 2, 1) := by decide +kernel
theorem dX6_hankelRank_88 : decode cX6_hankelRank 88 = .ok (.iload_n 2, 1) := by decide +kernel
theorem dX6_hankelRank_89 : decode cX6_hankelRank 89 = .ok (.invokevirtual 221, 3) := by decide +kernel
theorem dX6_hankelRank_92 : decode cX6_hankelRank 92 = .ok (.ireturn, 1) := by decide +kernel
theorem dX6_recurs_0 : decode cX6_recurs 0 = .ok (.iload_n 1, 1) := by decide +kernel
theorem dX6_recurs_1 : decode cX6_recurs 1 = .ok (.invokestatic 78, 3) := by decide +kernel
theorem dX6_recurs_4 : decode cX6_recurs 4 = .ok (.iload_n 2, 1) := by decide +kernel
theorem dX6_recurs_5 : decode cX6_recurs 5 = .ok (.iconst 1, 1) := by decide +kernel
theorem dX6_recurs_6 : decode cX6_recurs 6 = .ok (.bipush 12, 2) := by decide +kernel
theorem dX6_recurs_8 : decode cX6_recurs 8 = .ok (.invokestatic 81, 3) := by decide +kernel
theorem dX6_recurs_11 : decode cX6_recurs 11 = .ok (.aload_n 0, 1) := by decide +kernel
theorem dX6_recurs_12 : decode cX6_recurs 12 = .ok (.iload_n 1, 1) := by decide +kernel
theorem dX6_recurs_13 : decode cX6_recurs 13 = .ok (.bipush 31, 2) := by decide +kernel
theorem dX6_recurs_15 : decode cX6_recurs 15 = .ok (.iload_n 2, 1) := by decide +kernel
theorem dX6_recurs_16 : decode cX6_recurs 16 = .ok (.iadd, 1) := by decide +kernel
theorem dX6_recurs_17 : decode cX6_recurs 17 = .ok (.invokevirtual 224, 3) := by decide +kernel
theorem dX6_recurs_20 : decode cX6_recurs 20 = .ok (.aload_n 0, 1) := by decide +kernel
theorem dX6_recurs_21 : decode cX6_recurs 21 = .ok (.iload_n 2, 1) := by decide +kernel
theorem dX6_recurs_22 : decode cX6_recurs 22 = .ok (.invokevirtual 227, 3) := by decide +kernel
theorem dX6_recurs_25 : decode cX6_recurs 25 = .ok (.aload_n 0, 1) := by decide +kernel
theorem dX6_recurs_26 : decode cX6_recurs 26 = .ok (.getfield 64, 3) := by decide +kernel
theorem dX6_recurs_29 : decode cX6_recurs 29 = .ok (.bipush 31, 2) := by decide +kernel
theorem dX6_recurs_31 : decode cX6_recurs 31 = .ok (.iload_n 2, 1) := by decide +kernel
theorem dX6_recurs_32 : decode cX6_recurs 32 = .ok (.invokevirtual 221, 3) := by decide +kernel
theorem dX6_recurs_35 : decode cX6_recurs 35 = .ok (.istore_n 3, 1) := by decide +kernel
theorem dX6_recurs_36 : decode cX6_recurs 36 = .ok (.aload_n 0, 1) := by decide +kernel
theorem dX6_recurs_37 : decode cX6_recurs 37 = .ok (.iload_n 2, 1) := by decide +kernel
theorem dX6_recurs_38 : decode cX6_recurs 38 = .ok (.invokevirtual 227, 3) := by decide +kernel
theorem dX6_recurs_41 : decode cX6_recurs 41 = .ok (.aload_n 0, 1) := by decide +kernel
theorem dX6_recurs_42 : decode cX6_recurs 42 = .ok (.getfield 64, 3) := by decide +kernel
theorem dX6_recurs_45 : decode cX6_recurs 45 = .ok (.bipush 31, 2) := by decide +kernel
theorem dX6_recurs_47 : decode cX6_recurs 47 = .ok (.iload_n 2, 1) := by decide +kernel
theorem dX6_recurs_48 : decode cX6_recurs 48 = .ok (.iconst 1, 1) := by decide +kernel
theorem dX6_recurs_49 : decode cX6_recurs 49 = .ok (.iadd, 1) := by decide +kernel
theorem dX6_recurs_50 : decode cX6_recurs 50 = .ok (.invokevirtual 221, 3) := by decide +kernel
theorem dX6_recurs_53 : decode cX6_recurs 53 = .ok (.iload_n 3, 1) := by decide +kernel
theorem dX6_recurs_54 : decode cX6_recurs 54 = .ok (.if_icmp .ne 7, 3) := by decide +kernel
theorem dX6_recurs_57 : decode cX6_recurs 57 = .ok (.iconst 1, 1) := by decide +kernel
theorem dX6_recurs_58 : decode cX6_recurs 58 = .ok (.goto 4, 3) := by decide +kernel
theorem dX6_recurs_61 : decode cX6_recurs 61 = .ok (.iconst 0, 1) := by decide +kernel
theorem dX6_recurs_62 : decode cX6_recurs 62 = .ok (.ireturn, 1) := by decide +kernel
theorem dX6_inverse_0 : decode cX6_inverse 0 = .ok (.iload_n 1, 1) := by decide +kernel
theorem dX6_inverse_1 : decode cX6_inverse 1 = .ok (.iconst 1, 1) := by decide +kernel
theorem dX6_inverse_2 : decode cX6_inverse 2 = .ok (.sipush 10006, 3) := by decide +kernel
theorem dX6_inverse_5 : decode cX6_inverse 5 = .ok (.invokestatic 81, 3) := by decide +kernel
theorem dX6_inverse_8 : decode cX6_inverse 8 = .ok (.iload_n 1, 1) := by decide +kernel
theorem dX6_inverse_9 : decode cX6_inverse 9 = .ok (.invokestatic 230, 3) := by decide +kernel
theorem dX6_inverse_12 : decode cX6_inverse 12 = .ok (.ireturn, 1) := by decide +kernel
theorem dX6_append_0 : decode cX6_append 0 = .ok (.iload_n 1, 1) := by decide +kernel
theorem dX6_append_1 : decode cX6_append 1 = .ok (.iconst 0, 1) := by decide +kernel
theorem dX6_append_2 : decode cX6_append 2 = .ok (.bipush 127, 2) := by decide +kernel
theorem dX6_append_4 : decode cX6_append 4 = .ok (.invokestatic 81, 3) := by decide +kernel
theorem dX6_append_7 : decode cX6_append 7 = .ok (.aload_n 0, 1) := by decide +kernel
theorem dX6_append_8 : decode cX6_append 8 = .ok (.getfield 74, 3) := by decide +kernel
theorem dX6_append_11 : decode cX6_append 11 = .ok (.getfield 233, 3) := by decide +kernel
theorem dX6_append_14 : decode cX6_append 14 = .ok (.bipush 60, 2) := by decide +kernel
theorem dX6_append_16 : decode cX6_append 16 = .ok (.if_icmp .lt 13, 3) := by decide +kernel
theorem dX6_append_19 : decode cX6_append 19 = .ok (.new 145, 3) := by decide +kernel
theorem dX6_append_22 : decode cX6_append 22 = .ok (.dup, 1) := by decide +kernel
theorem dX6_append_23 : decode cX6_append 23 = .ok (.ldc 236, 2) := by decide +kernel
theorem dX6_append_25 : decode cX6_append 25 = .ok (.invokespecial 149, 3) := by decide +kernel
theorem dX6_append_28 : decode cX6_append 28 = .ok (.athrow, 1) := by decide +kernel
theorem dX6_append_29 : decode cX6_append 29 = .ok (.aload_n 0, 1) := by decide +kernel
theorem dX6_append_30 : decode cX6_append 30 = .ok (.getfield 74, 3) := by decide +kernel
theorem dX6_append_33 : decode cX6_append 33 = .ok (.getfield 238, 3) := by decide +kernel
theorem dX6_append_36 : decode cX6_append 36 = .ok (.aload_n 0, 1) := by decide +kernel
theorem dX6_append_37 : decode cX6_append 37 = .ok (.getfield 74, 3) := by decide +kernel
theorem dX6_append_40 : decode cX6_append 40 = .ok (.getfield 233, 3) := by decide +kernel
theorem dX6_append_43 : decode cX6_append 43 = .ok (.iload_n 1, 1) := by decide +kernel
theorem dX6_append_44 : decode cX6_append 44 = .ok (.iastore, 1) := by decide +kernel
theorem dX6_append_45 : decode cX6_append 45 = .ok (.aload_n 0, 1) := by decide +kernel
theorem dX6_append_46 : decode cX6_append 46 = .ok (.getfield 74, 3) := by decide +kernel
theorem dX6_append_49 : decode cX6_append 49 = .ok (.dup, 1) := by decide +kernel
theorem dX6_append_50 : decode cX6_append 50 = .ok (.getfield 233, 3) := by decide +kernel
theorem dX6_append_53 : decode cX6_append 53 = .ok (.iconst 1, 1) := by decide +kernel
theorem dX6_append_54 : decode cX6_append 54 = .ok (.iadd, 1) := by decide +kernel
theorem dX6_append_55 : decode cX6_append 55 = .ok (.putfield 233, 3) := by decide +kernel
theorem dX6_append_58 : decode cX6_append 58 = .ok (.aload_n 0, 1) := by decide +kernel
theorem dX6_append_59 : decode cX6_append 59 = .ok (.getfield 74, 3) := by decide +kernel
theorem dX6_append_62 : decode cX6_append 62 = .ok (.getfield 233, 3) := by decide +kernel
theorem dX6_append_65 : decode cX6_append 65 = .ok (.ireturn, 1) := by decide +kernel
theorem dX6_clearText_0 : decode cX6_clearText 0 = .ok (.aload_n 0, 1) := by decide +kernel
theorem dX6_clearText_1 : decode cX6_clearText 1 = .ok (.getfield 74, 3) := by decide +kernel
theorem dX6_clearText_4 : decode cX6_clearText 4 = .ok (.getfield 233, 3) := by decide +kernel
theorem dX6_clearText_7 : decode cX6_clearText 7 = .ok (.istore_n 1, 1) := by decide +kernel
theorem dX6_clearText_8 : decode cX6_clearText 8 = .ok (.aload_n 0, 1) := by decide +kernel
theorem dX6_clearText_9 : decode cX6_clearText 9 = .ok (.getfield 74, 3) := by decide +kernel
theorem dX6_clearText_12 : decode cX6_clearText 12 = .ok (.iconst 0, 1) := by decide +kernel
theorem dX6_clearText_13 : decode cX6_clearText 13 = .ok (.putfield 233, 3) := by decide +kernel
theorem dX6_clearText_16 : decode cX6_clearText 16 = .ok (.iload_n 1, 1) := by decide +kernel
theorem dX6_clearText_17 : decode cX6_clearText 17 = .ok (.ireturn, 1) := by decide +kernel
theorem dX6_parse_0 : decode cX6_parse 0 = .ok (.iload_n 1, 1) := by decide +kernel
theorem dX6_parse_1 : decode cX6_parse 1 = .ok (.invokestatic 78, 3) := by decide +kernel
theorem dX6_parse_4 : decode cX6_parse 4 = .ok (.aload_n 0, 1) := by decide +kernel
theorem dX6_parse_5 : decode cX6_parse 5 = .ok (.getfield 74, 3) := by decide +kernel
theorem dX6_parse_8 : decode cX6_parse 8 = .ok (.invokevirtual 241, 3) := by decide +kernel
theorem dX6_parse_11 : decode cX6_parse 11 = .ok (.istore_n 2, 1) := by decide +kernel
theorem dX6_parse_12 : decode cX6_parse 12 = .ok (.iload_n 2, 1) := by decide +kernel
theorem dX6_parse_13 : decode cX6_parse 13 = .ok (.iconst (-1), 1) := by decide +kernel
theorem dX6_parse_14 : decode cX6_parse 14 = .ok (.if_icmp .eq 8, 3) := by decide +kernel
theorem dX6_parse_17 : decode cX6_parse 17 = .ok (.bipush (-10), 2) := by decide +kernel
theorem dX6_parse_19 : decode cX6_parse 19 = .ok (.iload_n 2, 1) := by decide +kernel
theorem dX6_parse_20 : decode cX6_parse 20 = .ok (.isub, 1) := by decide +kernel
theorem dX6_parse_21 : decode cX6_parse 21 = .ok (.ireturn, 1) := by decide +kernel
theorem dX6_parse_22 : decode cX6_parse 22 = .ok (.aload_n 0, 1) := by decide +kernel
theorem dX6_parse_23 : decode cX6_parse 23 = .ok (.getfield 74, 3) := by decide +kernel
theorem dX6_parse_26 : decode cX6_parse 26 = .ok (.aload_n 0, 1) := by decide +kernel
theorem dX6_parse_27 : decode cX6_parse 27 = .ok (.getfield 57, 3) := by decide +kernel
theorem dX6_parse_30 : decode cX6_parse 30 = .ok (.invokevirtual 244, 3) := by decide +kernel
theorem dX6_parse_33 : decode cX6_parse 33 = .ok (.ifCond .ne 6, 3) := by decide +kernel
theorem dX6_parse_36 : decode cX6_parse 36 = .ok (.bipush (-2), 2) := by decide +kernel
theorem dX6_parse_38 : decode cX6_parse 38 = .ok (.ireturn, 1) := by decide +kernel
theorem dX6_parse_39 : decode cX6_parse 39 = .ok (.aload_n 0, 1) := by decide +kernel
theorem dX6_parse_40 : decode cX6_parse 40 = .ok (.getfield 33, 3) := by decide +kernel
theorem dX6_parse_43 : decode cX6_parse 43 = .ok (.aload_n 0, 1) := by decide +kernel
theorem dX6_parse_44 : decode cX6_parse 44 = .ok (.getfield 74, 3) := by decide +kernel
theorem dX6_parse_47 : decode cX6_parse 47 = .ok (.getfield 248, 3) := by decide +kernel
theorem dX6_parse_50 : decode cX6_parse 50 = .ok (.iconst 0, 1) := by decide +kernel
theorem dX6_parse_51 : decode cX6_parse 51 = .ok (.aaload, 1) := by decide +kernel
theorem dX6_parse_52 : decode cX6_parse 52 = .ok (.invokevirtual 172, 3) := by decide +kernel
theorem dX6_parse_55 : decode cX6_parse 55 = .ok (.aload_n 0, 1) := by decide +kernel
theorem dX6_parse_56 : decode cX6_parse 56 = .ok (.iload_n 1, 1) := by decide +kernel
theorem dX6_parse_57 : decode cX6_parse 57 = .ok (.invokevirtual 162, 3) := by decide +kernel
theorem dX6_parse_60 : decode cX6_parse 60 = .ok (.ireturn, 1) := by decide +kernel
theorem dX6_undo_0 : decode cX6_undo 0 = .ok (.aload_n 0, 1) := by decide +kernel
theorem dX6_undo_1 : decode cX6_undo 1 = .ok (.getfield 24, 3) := by decide +kernel
theorem dX6_undo_4 : decode cX6_undo 4 = .ok (.ifCond .gt 13, 3) := by decide +kernel
theorem dX6_undo_7 : decode cX6_undo 7 = .ok (.new 145, 3) := by decide +kernel
theorem dX6_undo_10 : decode cX6_undo 10 = .ok (.dup, 1) := by decide +kernel
theorem dX6_undo_11 : decode cX6_undo 11 = .ok (.ldc 251, 2) := by decide +kernel
theorem dX6_undo_13 : decode cX6_undo 13 = .ok (.invokespecial 149, 3) := by decide +kernel
theorem dX6_undo_16 : decode cX6_undo 16 = .ok (.athrow, 1) := by decide +kernel
theorem dX6_undo_17 : decode cX6_undo 17 = .ok (.aload_n 0, 1) := by decide +kernel
theorem dX6_undo_18 : decode cX6_undo 18 = .ok (.dup, 1) := by decide +kernel
theorem dX6_undo_19 : decode cX6_undo 19 = .ok (.getfield 24, 3) := by decide +kernel
theorem dX6_undo_22 : decode cX6_undo 22 = .ok (.iconst 1, 1) := by decide +kernel
theorem dX6_undo_23 : decode cX6_undo 23 = .ok (.isub, 1) := by decide +kernel
theorem dX6_undo_24 : decode cX6_undo 24 = .ok (.putfield 24, 3) := by decide +kernel
theorem dX6_undo_27 : decode cX6_undo 27 = .ok (.aload_n 0, 1) := by decide +kernel
theorem dX6_undo_28 : decode cX6_undo 28 = .ok (.getfield 13, 3) := by decide +kernel
theorem dX6_undo_31 : decode cX6_undo 31 = .ok (.aload_n 0, 1) := by decide +kernel
theorem dX6_undo_32 : decode cX6_undo 32 = .ok (.getfield 20, 3) := by decide +kernel
theorem dX6_undo_35 : decode cX6_undo 35 = .ok (.aload_n 0, 1) := by decide +kernel
theorem dX6_undo_36 : decode cX6_undo 36 = .ok (.getfield 24, 3) := by decide +kernel
theorem dX6_undo_39 : decode cX6_undo 39 = .ok (.iaload, 1) := by decide +kernel
theorem dX6_undo_40 : decode cX6_undo 40 = .ok (.aaload, 1) := by decide +kernel
theorem dX6_undo_41 : decode cX6_undo 41 = .ok (.aload_n 0, 1) := by decide +kernel
theorem dX6_undo_42 : decode cX6_undo 42 = .ok (.getfield 17, 3) := by decide +kernel
theorem dX6_undo_45 : decode cX6_undo 45 = .ok (.aload_n 0, 1) := by decide +kernel
theorem dX6_undo_46 : decode cX6_undo 46 = .ok (.getfield 24, 3) := by decide +kernel
theorem dX6_undo_49 : decode cX6_undo 49 = .ok (.aaload, 1) := by decide +kernel
theorem dX6_undo_50 : decode cX6_undo 50 = .ok (.invokevirtual 172, 3) := by decide +kernel
theorem dX6_undo_53 : decode cX6_undo 53 = .ok (.aload_n 0, 1) := by decide +kernel
theorem dX6_undo_54 : decode cX6_undo 54 = .ok (.getfield 24, 3) := by decide +kernel
theorem dX6_undo_57 : decode cX6_undo 57 = .ok (.ireturn, 1) := by decide +kernel
theorem dX6_digest_0 : decode cX6_digest 0 = .ok (.ldc2_w 253, 3) := by decide +kernel
theorem dX6_digest_3 : decode cX6_digest 3 = .ok (.aload_n 0, 1) := by decide +kernel
theorem dX6_digest_4 : decode cX6_digest 4 = .ok (.getfield 74, 3) := by decide +kernel
theorem dX6_digest_7 : decode cX6_digest 7 = .ok (.getfield 233, 3) := by decide +kernel
theorem dX6_digest_10 : decode cX6_digest 10 = .ok (.i2l, 1) := by decide +kernel
theorem dX6_digest_11 : decode cX6_digest 11 = .ok (.ladd, 1) := by decide +kernel
theorem dX6_digest_12 : decode cX6_digest 12 = .ok (.lstore_n 1, 1) := by decide +kernel
theorem dX6_digest_13 : decode cX6_digest 13 = .ok (.iconst 0, 1) := by decide +kernel
theorem dX6_digest_14 : decode cX6_digest 14 = .ok (.istore_n 3, 1) := by decide +kernel
theorem dX6_digest_15 : decode cX6_digest 15 = .ok (.iload_n 3, 1) := by decide +kernel
theorem dX6_digest_16 : decode cX6_digest 16 = .ok (.iconst 4, 1) := by decide +kernel
theorem dX6_digest_17 : decode cX6_digest 17 = .ok (.if_icmp .ge 50, 3) := by decide +kernel
theorem dX6_digest_20 : decode cX6_digest 20 = .ok (.aload_n 0, 1) := by decide +kernel
theorem dX6_digest_21 : decode cX6_digest 21 = .ok (.getfield 13, 3) := by decide +kernel
theorem dX6_digest_24 : decode cX6_digest 24 = .ok (.iload_n 3, 1) := by decide +kernel
theorem dX6_digest_25 : decode cX6_digest 25 = .ok (.aaload, 1) := by decide +kernel
theorem dX6_digest_26 : decode cX6_digest 26 = .ok (.lload_n 1, 1) := by decide +kernel
theorem dX6_digest_27 : decode cX6_digest 27 = .ok (.invokevirtual 255, 3) := by decide +kernel
theorem dX6_digest_30 : decode cX6_digest 30 = .ok (.lstore_n 1, 1) := by decide +kernel
theorem dX6_digest_31 : decode cX6_digest 31 = .ok (.iconst 0, 1) := by decide +kernel
theorem dX6_digest_32 : decode cX6_digest 32 = .ok (.istore 4, 2) := by decide +kernel
theorem dX6_digest_34 : decode cX6_digest 34 = .ok (.iload 4, 2) := by decide +kernel
theorem dX6_digest_36 : decode cX6_digest 36 = .ok (.iconst 2, 1) := by decide +kernel
theorem dX6_digest_37 : decode cX6_digest 37 = .ok (.if_icmp .gt 24, 3) := by decide +kernel
theorem dX6_digest_40 : decode cX6_digest 40 = .ok (.ldc2_w 259, 3) := by decide +kernel
theorem dX6_digest_43 : decode cX6_digest 43 = .ok (.lload_n 1, 1) := by decide +kernel
theorem dX6_digest_44 : decode cX6_digest 44 = .ok (.lmul, 1) := by decide +kernel
theorem dX6_digest_45 : decode cX6_digest 45 = .ok (.aload_n 0, 1) := by decide +kernel
theorem dX6_digest_46 : decode cX6_digest 46 = .ok (.iload_n 3, 1) := by decide +kernel
theorem dX6_digest_47 : decode cX6_digest 47 = .ok (.iload 4, 2) := by decide +kernel
theorem dX6_digest_49 : decode cX6_digest 49 = .ok (.invokevirtual 197, 3) := by decide +kernel
theorem dX6_digest_52 : decode cX6_digest 52 = .ok (.i2l, 1) := by decide +kernel
theorem dX6_digest_53 : decode cX6_digest 53 = .ok (.ladd, 1) := by decide +kernel
theorem dX6_digest_54 : decode cX6_digest 54 = .ok (.lstore_n 1, 1) := by decide +kernel
theorem dX6_digest_55 : decode cX6_digest 55 = .ok (.iinc 4 1, 3) := by decide +kernel
theorem dX6_digest_58 : decode cX6_digest 58 = .ok (.goto (-24), 3) := by decide +kernel
theorem dX6_digest_61 : decode cX6_digest 61 = .ok (.iinc 3 1, 3) := by decide +kernel
theorem dX6_digest_64 : decode cX6_digest 64 = .ok (.goto (-49), 3) := by decide +kernel
theorem dX6_digest_67 : decode cX6_digest 67 = .ok (.ldc2_w 259, 3) := by decide +kernel
theorem dX6_digest_70 : decode cX6_digest 70 = .ok (.lload_n 1, 1) := by decide +kernel
theorem dX6_digest_71 : decode cX6_digest 71 = .ok (.lmul, 1) := by decide +kernel
theorem dX6_digest_72 : decode cX6_digest 72 = .ok (.aload_n 0, 1) := by decide +kernel
theorem dX6_digest_73 : decode cX6_digest 73 = .ok (.getfield 24, 3) := by decide +kernel
theorem dX6_digest_76 : decode cX6_digest 76 = .ok (.i2l, 1) := by decide +kernel
theorem dX6_digest_77 : decode cX6_digest 77 = .ok (.ladd, 1) := by decide +kernel
theorem dX6_digest_78 : decode cX6_digest 78 = .ok (.lreturn, 1) := by decide +kernel
theorem dX6_automata_0 : decode cX6_automata 0 = .ok (.iload_n 0, 1) := by decide +kernel
theorem dX6_automata_1 : decode cX6_automata 1 = .ok (.anewarray 28, 3) := by decide +kernel
theorem dX6_automata_4 : decode cX6_automata 4 = .ok (.astore_n 1, 1) := by decide +kernel
theorem dX6_automata_5 : decode cX6_automata 5 = .ok (.iconst 0, 1) := by decide +kernel
theorem dX6_automata_6 : decode cX6_automata 6 = .ok (.istore_n 2, 1) := by decide +kernel
theorem dX6_automata_7 : decode cX6_automata 7 = .ok (.iload_n 2, 1) := by decide +kernel
theorem dX6_automata_8 : decode cX6_automata 8 = .ok (.iload_n 0, 1) := by decide +kernel
theorem dX6_automata_9 : decode cX6_automata 9 = .ok (.if_icmp .ge 21, 3) := by decide +kernel
theorem dX6_automata_12 : decode cX6_automata 12 = .ok (.aload_n 1, 1) := by decide +kernel
theorem dX6_automata_13 : decode cX6_automata 13 = .ok (.iload_n 2, 1) := by decide +kernel
theorem dX6_automata_14 : decode cX6_automata 14 = .ok (.new 28, 3) := by decide +kernel
theorem dX6_automata_17 : decode cX6_automata 17 = .ok (.dup, 1) := by decide +kernel
theorem dX6_automata_18 : decode cX6_automata 18 = .ok (.bipush 12, 2) := by decide +kernel
theorem dX6_automata_20 : decode cX6_automata 20 = .ok (.invokespecial 30, 3) := by decide +kernel
theorem dX6_automata_23 : decode cX6_automata 23 = .ok (.aastore, 1) := by decide +kernel
theorem dX6_automata_24 : decode cX6_automata 24 = .ok (.iinc 2 1, 3) := by decide +kernel
theorem dX6_automata_27 : decode cX6_automata 27 = .ok (.goto (-20), 3) := by decide +kernel
theorem dX6_automata_30 : decode cX6_automata 30 = .ok (.aload_n 1, 1) := by decide +kernel
theorem dX6_automata_31 : decode cX6_automata 31 = .ok (.areturn, 1) := by decide +kernel
theorem dX6_checkSlot_0 : decode cX6_checkSlot 0 = .ok (.iload_n 0, 1) := by decide +kernel
theorem dX6_checkSlot_1 : decode cX6_checkSlot 1 = .ok (.ifCond .lt 8, 3) := by decide +kernel
theorem dX6_checkSlot_4 : decode cX6_checkSlot 4 = .ok (.iload_n 0, 1) := by decide +kernel
theorem dX6_checkSlot_5 : decode cX6_checkSlot 5 = .ok (.iconst 4, 1) := by decide +kernel
theorem dX6_checkSlot_6 : decode cX6_checkSlot 6 = .ok (.if_icmp .lt 14, 3) := by decide +kernel
theorem dX6_checkSlot_9 : decode cX6_checkSlot 9 = .ok (.new 204, 3) := by decide +kernel
theorem dX6_checkSlot_12 : decode cX6_checkSlot 12 = .ok (.dup, 1) := by decide +kernel
theorem dX6_checkSlot_13 : decode cX6_checkSlot 13 = .ok (.ldc_w 261, 3) := by decide +kernel
theorem dX6_checkSlot_16 : decode cX6_checkSlot 16 = .ok (.invokespecial 208, 3) := by decide +kernel
theorem dX6_checkSlot_19 : decode cX6_checkSlot 19 = .ok (.athrow, 1) := by decide +kernel
theorem dX6_checkSlot_20 : decode cX6_checkSlot 20 = .ok (.return_, 1) := by decide +kernel
theorem dX6_checkState_0 : decode cX6_checkState 0 = .ok (.iload_n 2, 1) := by decide +kernel
theorem dX6_checkState_1 : decode cX6_checkState 1 = .ok (.ifCond .lt 16, 3) := by decide +kernel
theorem dX6_checkState_4 : decode cX6_checkState 4 = .ok (.iload_n 2, 1) := by decide +kernel
theorem dX6_checkState_5 : decode cX6_checkState 5 = .ok (.aload_n 0, 1) := by decide +kernel
theorem dX6_checkState_6 : decode cX6_checkState 6 = .ok (.getfield 13, 3) := by decide +kernel
theorem dX6_checkState_9 : decode cX6_checkState 9 = .ok (.iload_n 1, 1) := by decide +kernel
theorem dX6_checkState_10 : decode cX6_checkState 10 = .ok (.aaload, 1) := by decide +kernel
theorem dX6_checkState_11 : decode cX6_checkState 11 = .ok (.getfield 85, 3) := by decide +kernel
theorem dX6_checkState_14 : decode cX6_checkState 14 = .ok (.if_icmp .lt 14, 3) := by decide +kernel
theorem dX6_checkState_17 : decode cX6_checkState 17 = .ok (.new 204, 3) := by decide +kernel
theorem dX6_checkState_20 : decode cX6_checkState 20 = .ok (.dup, 1) := by decide +kernel
theorem dX6_checkState_21 : decode cX6_checkState 21 = .ok (.ldc_w 263, 3) := by decide +kernel
theorem dX6_checkState_24 : decode cX6_checkState 24 = .ok (.invokespecial 208, 3) := by decide +kernel
theorem dX6_checkState_27 : decode cX6_checkState 27 = .ok (.athrow, 1) := by decide +kernel
theorem dX6_checkState_28 : decode cX6_checkState 28 = .ok (.return_, 1) := by decide +kernel
theorem dX6_checkStep_0 : decode cX6_checkStep 0 = .ok (.iload_n 2, 1) := by decide +kernel
theorem dX6_checkStep_1 : decode cX6_checkStep 1 = .ok (.ifCond .lt 8, 3) := by decide +kernel
theorem dX6_checkStep_4 : decode cX6_checkStep 4 = .ok (.iload_n 2, 1) := by decide +kernel
theorem dX6_checkStep_5 : decode cX6_checkStep 5 = .ok (.iconst 2, 1) := by decide +kernel
theorem dX6_checkStep_6 : decode cX6_checkStep 6 = .ok (.if_icmp .lt 14, 3) := by decide +kernel
theorem dX6_checkStep_9 : decode cX6_checkStep 9 = .ok (.new 204, 3) := by decide +kernel
theorem dX6_checkStep_12 : decode cX6_checkStep 12 = .ok (.dup, 1) := by decide +kernel
theorem dX6_checkStep_13 : decode cX6_checkStep 13 = .ok (.ldc_w 265, 3) := by decide +kernel
theorem dX6_checkStep_16 : decode cX6_checkStep 16 = .ok (.invokespecial 208, 3) := by decide +kernel
theorem dX6_checkStep_19 : decode cX6_checkStep 19 = .ok (.athrow, 1) := by decide +kernel
theorem dX6_checkStep_20 : decode cX6_checkStep 20 = .ok (.aload_n 0, 1) := by decide +kernel
theorem dX6_checkStep_21 : decode cX6_checkStep 21 = .ok (.iload_n 1, 1) := by decide +kernel
theorem dX6_checkStep_22 : decode cX6_checkStep 22 = .ok (.iload_n 3, 1) := by decide +kernel
theorem dX6_checkStep_23 : decode cX6_checkStep 23 = .ok (.invokevirtual 94, 3) := by decide +kernel
theorem dX6_checkStep_26 : decode cX6_checkStep 26 = .ok (.aload_n 0, 1) := by decide +kernel
theorem dX6_checkStep_27 : decode cX6_checkStep 27 = .ok (.iload_n 1, 1) := by decide +kernel
theorem dX6_checkStep_28 : decode cX6_checkStep 28 = .ok (.iload 4, 2) := by decide +kernel
theorem dX6_checkStep_30 : decode cX6_checkStep 30 = .ok (.invokevirtual 94, 3) := by decide +kernel
theorem dX6_checkStep_33 : decode cX6_checkStep 33 = .ok (.return_, 1) := by decide +kernel
theorem dX6_checkRange_0 : decode cX6_checkRange 0 = .ok (.iload_n 0, 1) := by decide +kernel
theorem dX6_checkRange_1 : decode cX6_checkRange 1 = .ok (.iload_n 1, 1) := by decide +kernel
theorem dX6_checkRange_2 : decode cX6_checkRange 2 = .ok (.if_icmp .lt 8, 3) := by decide +kernel
theorem dX6_checkRange_5 : decode cX6_checkRange 5 = .ok (.iload_n 0, 1) := by decide +kernel
theorem dX6_checkRange_6 : decode cX6_checkRange 6 = .ok (.iload_n 2, 1) := by decide +kernel
theorem dX6_checkRange_7 : decode cX6_checkRange 7 = .ok (.if_icmp .le 14, 3) := by decide +kernel
theorem dX6_checkRange_10 : decode cX6_checkRange 10 = .ok (.new 267, 3) := by decide +kernel
theorem dX6_checkRange_13 : decode cX6_checkRange 13 = .ok (.dup, 1) := by decide +kernel
theorem dX6_checkRange_14 : decode cX6_checkRange 14 = .ok (.ldc_w 269, 3) := by decide +kernel
theorem dX6_checkRange_17 : decode cX6_checkRange 17 = .ok (.invokespecial 271, 3) := by decide +kernel
theorem dX6_checkRange_20 : decode cX6_checkRange 20 = .ok (.athrow, 1) := by decide +kernel
theorem dX6_checkRange_21 : decode cX6_checkRange 21 = .ok (.return_, 1) := by decide +kernel
theorem dX6_save_0 : decode cX6_save 0 = .ok (.aload_n 0, 1) := by decide +kernel
theorem dX6_save_1 : decode cX6_save 1 = .ok (.getfield 24, 3) := by decide +kernel
theorem dX6_save_4 : decode cX6_save 4 = .ok (.iconst 4, 1) := by decide +kernel
theorem dX6_save_5 : decode cX6_save 5 = .ok (.if_icmp .lt 7, 3) := by decide +kernel
theorem dX6_save_8 : decode cX6_save 8 = .ok (.aload_n 0, 1) := by decide +kernel
theorem dX6_save_9 : decode cX6_save 9 = .ok (.invokevirtual 272, 3) := by decide +kernel
theorem dX6_save_12 : decode cX6_save 12 = .ok (.aload_n 0, 1) := by decide +kernel
theorem dX6_save_13 : decode cX6_save 13 = .ok (.getfield 20, 3) := by decide +kernel
theorem dX6_save_16 : decode cX6_save 16 = .ok (.aload_n 0, 1) := by decide +kernel
theorem dX6_save_17 : decode cX6_save 17 = .ok (.getfield 24, 3) := by decide +kernel
theorem dX6_save_20 : decode cX6_save 20 = .ok (.iload_n 1, 1) := by decide +kernel
theorem dX6_save_21 : decode cX6_save 21 = .ok (.iastore, 1) := by decide +kernel
theorem dX6_save_22 : decode cX6_save 22 = .ok (.aload_n 0, 1) := by decide +kernel
theorem dX6_save_23 : decode cX6_save 23 = .ok (.getfield 17, 3) := by decide +kernel
theorem dX6_save_26 : decode cX6_save 26 = .ok (.aload_n 0, 1) := by decide +kernel
theorem dX6_save_27 : decode cX6_save 27 = .ok (.getfield 24, 3) := by decide +kernel
theorem dX6_save_30 : decode cX6_save 30 = .ok (.aaload, 1) := by decide +kernel
theorem dX6_save_31 : decode cX6_save 31 = .ok (.aload_n 0, 1) := by decide +kernel
theorem dX6_save_32 : decode cX6_save 32 = .ok (.getfield 13, 3) := by decide +kernel
theorem dX6_save_35 : decode cX6_save 35 = .ok (.iload_n 1, 1) := by decide +kernel
theorem dX6_save_36 : decode cX6_save 36 = .ok (.aaload, 1) := by decide +kernel
theorem dX6_save_37 : decode cX6_save 37 = .ok (.invokevirtual 172, 3) := by decide +kernel
theorem dX6_save_40 : decode cX6_save 40 = .ok (.aload_n 0, 1) := by decide +kernel
theorem dX6_save_41 : decode cX6_save 41 = .ok (.dup, 1) := by decide +kernel
theorem dX6_save_42 : decode cX6_save 42 = .ok (.getfield 24, 3) := by decide +kernel
theorem dX6_save_45 : decode cX6_save 45 = .ok (.iconst 1, 1) := by decide +kernel
theorem dX6_save_46 : decode cX6_save 46 = .ok (.iadd, 1) := by decide +kernel
theorem dX6_save_47 : decode cX6_save 47 = .ok (.putfield 24, 3) := by decide +kernel
theorem dX6_save_50 : decode cX6_save 50 = .ok (.return_, 1) := by decide +kernel
theorem dX6_dropOldest_0 : decode cX6_dropOldest 0 = .ok (.aload_n 0, 1) := by decide +kernel
theorem dX6_dropOldest_1 : decode cX6_dropOldest 1 = .ok (.getfield 17, 3) := by decide +kernel
theorem dX6_dropOldest_4 : decode cX6_dropOldest 4 = .ok (.iconst 0, 1) := by decide +kernel
theorem dX6_dropOldest_5 : decode cX6_dropOldest 5 = .ok (.aaload, 1) := by decide +kernel
theorem dX6_dropOldest_6 : decode cX6_dropOldest 6 = .ok (.astore_n 1, 1) := by decide +kernel
theorem dX6_dropOldest_7 : decode cX6_dropOldest 7 = .ok (.iconst 1, 1) := by decide +kernel
theorem dX6_dropOldest_8 : decode cX6_dropOldest 8 = .ok (.istore_n 2, 1) := by decide +kernel
theorem dX6_dropOldest_9 : decode cX6_dropOldest 9 = .ok (.iload_n 2, 1) := by decide +kernel
theorem dX6_dropOldest_10 : decode cX6_dropOldest 10 = .ok (.iconst 4, 1) := by decide +kernel
theorem dX6_dropOldest_11 : decode cX6_dropOldest 11 = .ok (.if_icmp .ge 37, 3) := by decide +kernel
theorem dX6_dropOldest_14 : decode cX6_dropOldest 14 = .ok (.aload_n 0, 1) := by decide +kernel
theorem dX6_dropOldest_15 : decode cX6_dropOldest 15 = .ok (.getfield 17, 3) := by decide +kernel
theorem dX6_dropOldest_18 : decode cX6_dropOldest 18 = .ok (.iload_n 2, 1) := by decide +kernel
theorem dX6_dropOldest_19 : decode cX6_dropOldest 19 = .ok (.iconst 1, 1) := by decide +kernel
theorem dX6_dropOldest_20 : decode cX6_dropOldest 20 = .ok (.isub, 1) := by decide +kernel
theorem dX6_dropOldest_21 : decode cX6_dropOldest 21 = .ok (.aload_n 0, 1) := by decide +kernel
theorem dX6_dropOldest_22 : decode cX6_dropOldest 22 = .ok (.getfield 17, 3) := by decide +kernel
theorem dX6_dropOldest_25 : decode cX6_dropOldest 25 = .ok (.iload_n 2, 1) := by decide +kernel
theorem dX6_dropOldest_26 : decode cX6_dropOldest 26 = .ok (.aaload, 1) := by decide +kernel
theorem dX6_dropOldest_27 : decode cX6_dropOldest 27 = .ok (.aastore, 1) := by decide +kernel
theorem dX6_dropOldest_28 : decode cX6_dropOldest 28 = .ok (.aload_n 0, 1) := by decide +kernel
theorem dX6_dropOldest_29 : decode cX6_dropOldest 29 = .ok (.getfield 20, 3) := by decide +kernel
theorem dX6_dropOldest_32 : decode cX6_dropOldest 32 = .ok (.iload_n 2, 1) := by decide +kernel
theorem dX6_dropOldest_33 : decode cX6_dropOldest 33 = .ok (.iconst 1, 1) := by decide +kernel
theorem dX6_dropOldest_34 : decode cX6_dropOldest 34 = .ok (.isub, 1) := by decide +kernel
theorem dX6_dropOldest_35 : decode cX6_dropOldest 35 = .ok (.aload_n 0, 1) := by decide +kernel
theorem dX6_dropOldest_36 : decode cX6_dropOldest 36 = .ok (.getfield 20, 3) := by decide +kernel
theorem dX6_dropOldest_39 : decode cX6_dropOldest 39 = .ok (.iload_n 2, 1) := by decide +kernel
theorem dX6_dropOldest_40 : decode cX6_dropOldest 40 = .ok (.iaload, 1) := by decide +kernel
theorem dX6_dropOldest_41 : decode cX6_dropOldest 41 = .ok (.iastore, 1) := by decide +kernel
theorem dX6_dropOldest_42 : decode cX6_dropOldest 42 = .ok (.iinc 2 1, 3) := by decide +kernel
theorem dX6_dropOldest_45 : decode cX6_dropOldest 45 = .ok (.goto (-36), 3) := by decide +kernel
theorem dX6_dropOldest_48 : decode cX6_dropOldest 48 = .ok (.aload_n 0, 1) := by decide +kernel
theorem dX6_dropOldest_49 : decode cX6_dropOldest 49 = .ok (.getfield 17, 3) := by decide +kernel
theorem dX6_dropOldest_52 : decode cX6_dropOldest 52 = .ok (.iconst 3, 1) := by decide +kernel
theorem dX6_dropOldest_53 : decode cX6_dropOldest 53 = .ok (.aload_n 1, 1) := by decide +kernel
theorem dX6_dropOldest_54 : decode cX6_dropOldest 54 = .ok (.aastore, 1) := by decide +kernel
theorem dX6_dropOldest_55 : decode cX6_dropOldest 55 = .ok (.aload_n 0, 1) := by decide +kernel
theorem dX6_dropOldest_56 : decode cX6_dropOldest 56 = .ok (.iconst 3, 1) := by decide +kernel
theorem dX6_dropOldest_57 : decode cX6_dropOldest 57 = .ok (.putfield 24, 3) := by decide +kernel
theorem dX6_dropOldest_60 : decode cX6_dropOldest 60 = .ok (.return_, 1) := by decide +kernel
theorem dX6_store_0 : decode cX6_store 0 = .ok (.aload_n 0, 1) := by decide +kernel
theorem dX6_store_1 : decode cX6_store 1 = .ok (.iload_n 1, 1) := by decide +kernel
theorem dX6_store_2 : decode cX6_store 2 = .ok (.invokevirtual 88, 3) := by decide +kernel
theorem dX6_store_5 : decode cX6_store 5 = .ok (.aload_n 0, 1) := by decide +kernel
theorem dX6_store_6 : decode cX6_store 6 = .ok (.getfield 13, 3) := by decide +kernel
theorem dX6_store_9 : decode cX6_store 9 = .ok (.iload_n 1, 1) := by decide +kernel
theorem dX6_store_10 : decode cX6_store 10 = .ok (.aaload, 1) := by decide +kernel
theorem dX6_store_11 : decode cX6_store 11 = .ok (.aload_n 0, 1) := by decide +kernel
theorem dX6_store_12 : decode cX6_store 12 = .ok (.getfield 33, 3) := by decide +kernel
theorem dX6_store_15 : decode cX6_store 15 = .ok (.invokevirtual 172, 3) := by decide +kernel
theorem dX6_store_18 : decode cX6_store 18 = .ok (.aload_n 0, 1) := by decide +kernel
theorem dX6_store_19 : decode cX6_store 19 = .ok (.getfield 33, 3) := by decide +kernel
theorem dX6_store_22 : decode cX6_store 22 = .ok (.getfield 85, 3) := by decide +kernel
theorem dX6_store_25 : decode cX6_store 25 = .ok (.ireturn, 1) := by decide +kernel
theorem dX6_spaceSize_0 : decode cX6_spaceSize 0 = .ok (.aload_n 0, 1) := by decide +kernel
theorem dX6_spaceSize_1 : decode cX6_spaceSize 1 = .ok (.getfield 33, 3) := by decide +kernel
theorem dX6_spaceSize_4 : decode cX6_spaceSize 4 = .ok (.aload_n 0, 1) := by decide +kernel
theorem dX6_spaceSize_5 : decode cX6_spaceSize 5 = .ok (.getfield 13, 3) := by decide +kernel
theorem dX6_spaceSize_8 : decode cX6_spaceSize 8 = .ok (.iload_n 1, 1) := by decide +kernel
theorem dX6_spaceSize_9 : decode cX6_spaceSize 9 = .ok (.aaload, 1) := by decide +kernel
theorem dX6_spaceSize_10 : decode cX6_spaceSize 10 = .ok (.invokevirtual 172, 3) := by decide +kernel
theorem dX6_spaceSize_13 : decode cX6_spaceSize 13 = .ok (.iload_n 2, 1) := by decide +kernel
theorem dX6_spaceSize_14 : decode cX6_spaceSize 14 = .ok (.iconst 1, 1) := by decide +kernel
theorem dX6_spaceSize_15 : decode cX6_spaceSize 15 = .ok (.if_icmp .ne 10, 3) := by decide +kernel
theorem dX6_spaceSize_18 : decode cX6_spaceSize 18 = .ok (.aload_n 0, 1) := by decide +kernel
theorem dX6_spaceSize_19 : decode cX6_spaceSize 19 = .ok (.getfield 33, 3) := by decide +kernel
theorem dX6_spaceSize_22 : decode cX6_spaceSize 22 = .ok (.invokevirtual 175, 3) := by decide +kernel
theorem dX6_spaceSize_25 : decode cX6_spaceSize 25 = .ok (.iload_n 2, 1) := by decide +kernel
theorem dX6_spaceSize_26 : decode cX6_spaceSize 26 = .ok (.iconst 2, 1) := by decide +kernel
theorem dX6_spaceSize_27 : decode cX6_spaceSize 27 = .ok (.if_icmp .ne 17, 3) := by decide +kernel
theorem dX6_spaceSize_30 : decode cX6_spaceSize 30 = .ok (.aload_n 0, 1) := by decide +kernel
theorem dX6_spaceSize_31 : decode cX6_spaceSize 31 = .ok (.getfield 57, 3) := by decide +kernel
theorem dX6_spaceSize_34 : decode cX6_spaceSize 34 = .ok (.aload_n 0, 1) := by decide +kernel
theorem dX6_spaceSize_35 : decode cX6_spaceSize 35 = .ok (.getfield 33, 3) := by decide +kernel
theorem dX6_spaceSize_38 : decode cX6_spaceSize 38 = .ok (.invokevirtual 187, 3) := by decide +kernel
theorem dX6_spaceSize_41 : decode cX6_spaceSize 41 = .ok (.goto 14, 3) := by decide +kernel
theorem dX6_spaceSize_44 : decode cX6_spaceSize 44 = .ok (.aload_n 0, 1) := by decide +kernel
theorem dX6_spaceSize_45 : decode cX6_spaceSize 45 = .ok (.getfield 57, 3) := by decide +kernel
theorem dX6_spaceSize_48 : decode cX6_spaceSize 48 = .ok (.aload_n 0, 1) := by decide +kernel
theorem dX6_spaceSize_49 : decode cX6_spaceSize 49 = .ok (.getfield 33, 3) := by decide +kernel
theorem dX6_spaceSize_52 : decode cX6_spaceSize 52 = .ok (.invokevirtual 184, 3) := by decide +kernel
theorem dX6_spaceSize_55 : decode cX6_spaceSize 55 = .ok (.aload_n 0, 1) := by decide +kernel
theorem dX6_spaceSize_56 : decode cX6_spaceSize 56 = .ok (.getfield 33, 3) := by decide +kernel
theorem dX6_spaceSize_59 : decode cX6_spaceSize 59 = .ok (.getfield 85, 3) := by decide +kernel
theorem dX6_spaceSize_62 : decode cX6_spaceSize 62 = .ok (.ireturn, 1) := by decide +kernel
theorem dX6_collectTotals_0 : decode cX6_collectTotals 0 = .ok (.aload_n 0, 1) := by decide +kernel
theorem dX6_collectTotals_1 : decode cX6_collectTotals 1 = .ok (.getfield 43, 3) := by decide +kernel
theorem dX6_collectTotals_4 : decode cX6_collectTotals 4 = .ok (.aload_n 0, 1) := by decide +kernel
theorem dX6_collectTotals_5 : decode cX6_collectTotals 5 = .ok (.getfield 13, 3) := by decide +kernel
theorem dX6_collectTotals_8 : decode cX6_collectTotals 8 = .ok (.iload_n 1, 1) := by decide +kernel
theorem dX6_collectTotals_9 : decode cX6_collectTotals 9 = .ok (.aaload, 1) := by decide +kernel
theorem dX6_collectTotals_10 : decode cX6_collectTotals 10 = .ok (.invokevirtual 119, 3) := by decide +kernel
theorem dX6_collectTotals_13 : decode cX6_collectTotals 13 = .ok (.iconst 0, 1) := by decide +kernel
theorem dX6_collectTotals_14 : decode cX6_collectTotals 14 = .ok (.istore_n 3, 1) := by decide +kernel
theorem dX6_collectTotals_15 : decode cX6_collectTotals 15 = .ok (.iload_n 3, 1) := by decide +kernel
theorem dX6_collectTotals_16 : decode cX6_collectTotals 16 = .ok (.iload_n 2, 1) := by decide +kernel
theorem dX6_collectTotals_17 : decode cX6_collectTotals 17 = .ok (.if_icmp .ge 41, 3) := by decide +kernel
theorem dX6_collectTotals_20 : decode cX6_collectTotals 20 = .ok (.aload_n 0, 1) := by decide +kernel
theorem dX6_collectTotals_21 : decode cX6_collectTotals 21 = .ok (.getfield 68, 3) := by decide +kernel
theorem dX6_collectTotals_24 : decode cX6_collectTotals 24 = .ok (.iload_n 3, 1) := by decide +kernel
theorem dX6_collectTotals_25 : decode cX6_collectTotals 25 = .ok (.aload_n 0, 1) := by decide +kernel
theorem dX6_collectTotals_26 : decode cX6_collectTotals 26 = .ok (.getfield 43, 3) := by decide +kernel
theorem dX6_collectTotals_29 : decode cX6_collectTotals 29 = .ok (.aload_n 0, 1) := by decide +kernel
theorem dX6_collectTotals_30 : decode cX6_collectTotals 30 = .ok (.getfield 13, 3) := by decide +kernel
theorem dX6_collectTotals_33 : decode cX6_collectTotals 33 = .ok (.iload_n 1, 1) := by decide +kernel
theorem dX6_collectTotals_34 : decode cX6_collectTotals 34 = .ok (.aaload, 1) := by decide +kernel
theorem dX6_collectTotals_35 : decode cX6_collectTotals 35 = .ok (.invokevirtual 127, 3) := by decide +kernel
theorem dX6_collectTotals_38 : decode cX6_collectTotals 38 = .ok (.iastore, 1) := by decide +kernel
theorem dX6_collectTotals_39 : decode cX6_collectTotals 39 = .ok (.aload_n 0, 1) := by decide +kernel
theorem dX6_collectTotals_40 : decode cX6_collectTotals 40 = .ok (.getfield 43, 3) := by decide +kernel
theorem dX6_collectTotals_43 : decode cX6_collectTotals 43 = .ok (.aload_n 0, 1) := by decide +kernel
theorem dX6_collectTotals_44 : decode cX6_collectTotals 44 = .ok (.getfield 13, 3) := by decide +kernel
theorem dX6_collectTotals_47 : decode cX6_collectTotals 47 = .ok (.iload_n 1, 1) := by decide +kernel
theorem dX6_collectTotals_48 : decode cX6_collectTotals 48 = .ok (.aaload, 1) := by decide +kernel
theorem dX6_collectTotals_49 : decode cX6_collectTotals 49 = .ok (.invokevirtual 131, 3) := by decide +kernel
theorem dX6_collectTotals_52 : decode cX6_collectTotals 52 = .ok (.iinc 3 1, 3) := by decide +kernel
theorem dX6_collectTotals_55 : decode cX6_collectTotals 55 = .ok (.goto (-40), 3) := by decide +kernel
theorem dX6_collectTotals_58 : decode cX6_collectTotals 58 = .ok (.return_, 1) := by decide +kernel
theorem dX6_fillRecurrences_0 : decode cX6_fillRecurrences 0 = .ok (.iconst 0, 1) := by decide +kernel
theorem dX6_fillRecurrences_1 : decode cX6_fillRecurrences 1 = .ok (.istore_n 2, 1) := by decide +kernel
theorem dX6_fillRecurrences_2 : decode cX6_fillRecurrences 2 = .ok (.iload_n 2, 1) := by decide +kernel
theorem dX6_fillRecurrences_3 : decode cX6_fillRecurrences 3 = .ok (.bipush 31, 2) := by decide +kernel
theorem dX6_fillRecurrences_5 : decode cX6_fillRecurrences 5 = .ok (.if_icmp .ge 41, 3) := by decide +kernel
theorem dX6_fillRecurrences_8 : decode cX6_fillRecurrences 8 = .ok (.iconst 0, 1) := by decide +kernel
theorem dX6_fillRecurrences_9 : decode cX6_fillRecurrences 9 = .ok (.istore_n 3, 1) := by decide +kernel
theorem dX6_fillRecurrences_10 : decode cX6_fillRecurrences 10 = .ok (.iload_n 3, 1) := by decide +kernel
theorem dX6_fillRecurrences_11 : decode cX6_fillRecurrences 11 = .ok (.iload_n 1, 1) := by decide +kernel
theorem dX6_fillRecurrences_12 : decode cX6_fillRecurrences 12 = .ok (.if_icmp .gt 28, 3) := by decide +kernel
theorem dX6_fillRecurrences_15 : decode cX6_fillRecurrences 15 = .ok (.aload_n 0, 1) := by decide +kernel
theorem dX6_fillRecurrences_16 : decode cX6_fillRecurrences 16 = .ok (.getfield 64, 3) := by decide +kernel
theorem dX6_fillRecurrences_19 : decode cX6_fillRecurrences 19 = .ok (.getfield 215, 3) := by decide +kernel
theorem dX6_fillRecurrences_22 : decode cX6_fillRecurrences 22 = .ok (.iload_n 2, 1) := by decide +kernel
theorem dX6_fillRecurrences_23 : decode cX6_fillRecurrences 23 = .ok (.aaload, 1) := by decide +kernel
theorem dX6_fillRecurrences_24 : decode cX6_fillRecurrences 24 = .ok (.iload_n 3, 1) := by decide +kernel
theorem dX6_fillRecurrences_25 : decode cX6_fillRecurrences 25 = .ok (.aload_n 0, 1) := by decide +kernel
theorem dX6_fillRecurrences_26 : decode cX6_fillRecurrences 26 = .ok (.getfield 68, 3) := by decide +kernel
theorem dX6_fillRecurrences_29 : decode cX6_fillRecurrences 29 = .ok (.iload_n 2, 1) := by decide +kernel
theorem dX6_fillRecurrences_30 : decode cX6_fillRecurrences 30 = .ok (.iload_n 3, 1) := by decide +kernel
theorem dX6_fillRecurrences_31 : decode cX6_fillRecurrences 31 = .ok (.iadd, 1) := by decide +kernel
theorem dX6_fillRecurrences_32 : decode cX6_fillRecurrences 32 = .ok (.iaload, 1) := by decide +kernel
theorem dX6_fillRecurrences_33 : decode cX6_fillRecurrences 33 = .ok (.iastore, 1) := by decide +kernel
theorem dX6_fillRecurrences_34 : decode cX6_fillRecurrences 34 = .ok (.iinc 3 1, 3) := by decide +kernel
theorem dX6_fillRecurrences_37 : decode cX6_fillRecurrences 37 = .ok (.goto (-27), 3) := by decide +kernel
theorem dX6_fillRecurrences_40 : decode cX6_fillRecurrences 40 = .ok (.iinc 2 1, 3) := by decide +kernel
theorem dX6_fillRecurrences_43 : decode cX6_fillRecurrences 43 = .ok (.goto (-41), 3) := by decide +kernel
theorem dX6_fillRecurrences_46 : decode cX6_fillRecurrences 46 = .ok (.return_, 1) := by decide +kernel
theorem dX6_lengthOf_0 : decode cX6_lengthOf 0 = .ok (.iconst 0, 1) := by decide +kernel
theorem dX6_lengthOf_1 : decode cX6_lengthOf 1 = .ok (.istore_n 1, 1) := by decide +kernel
theorem dX6_lengthOf_2 : decode cX6_lengthOf 2 = .ok (.iload_n 0, 1) := by decide +kernel
theorem dX6_lengthOf_3 : decode cX6_lengthOf 3 = .ok (.iconst 1, 1) := by decide +kernel
theorem dX6_lengthOf_4 : decode cX6_lengthOf 4 = .ok (.iadd, 1) := by decide +kernel
theorem dX6_lengthOf_5 : decode cX6_lengthOf 5 = .ok (.iconst 1, 1) := by decide +kernel
theorem dX6_lengthOf_6 : decode cX6_lengthOf 6 = .ok (.ishr, 1) := by decide +kernel
theorem dX6_lengthOf_7 : decode cX6_lengthOf 7 = .ok (.istore_n 2, 1) := by decide +kernel
theorem dX6_lengthOf_8 : decode cX6_lengthOf 8 = .ok (.iload_n 2, 1) := by decide +kernel
theorem dX6_lengthOf_9 : decode cX6_lengthOf 9 = .ok (.ifCond .le 13, 3) := by decide +kernel
theorem dX6_lengthOf_12 : decode cX6_lengthOf 12 = .ok (.iinc 1 1, 3) := by decide +kernel
theorem dX6_lengthOf_15 : decode cX6_lengthOf 15 = .ok (.iload_n 2, 1) := by decide +kernel
theorem dX6_lengthOf_16 : decode cX6_lengthOf 16 = .ok (.iconst 1, 1) := by decide +kernel
theorem dX6_lengthOf_17 : decode cX6_lengthOf 17 = .ok (.ishr, 1) := by decide +kernel
theorem dX6_lengthOf_18 : decode cX6_lengthOf 18 = .ok (.istore_n 2, 1) := by decide +kernel
theorem dX6_lengthOf_19 : decode cX6_lengthOf 19 = .ok (.goto (-11), 3) := by decide +kernel
theorem dX6_lengthOf_22 : decode cX6_lengthOf 22 = .ok (.iload_n 1, 1) := by decide +kernel
theorem dX6_lengthOf_23 : decode cX6_lengthOf 23 = .ok (.ireturn, 1) := by decide +kernel
theorem dX6_joinedWord_0 : decode cX6_joinedWord 0 = .ok (.iconst 1, 1) := by decide +kernel
theorem dX6_joinedWord_1 : decode cX6_joinedWord 1 = .ok (.iload_n 1, 1) := by decide +kernel
theorem dX6_joinedWord_2 : decode cX6_joinedWord 2 = .ok (.invokestatic 275, 3) := by decide +kernel
theorem dX6_joinedWord_5 : decode cX6_joinedWord 5 = .ok (.ishl, 1) := by decide +kernel
theorem dX6_joinedWord_6 : decode cX6_joinedWord 6 = .ok (.istore_n 2, 1) := by decide +kernel
theorem dX6_joinedWord_7 : decode cX6_joinedWord 7 = .ok (.iload_n 0, 1) := by decide +kernel
theorem dX6_joinedWord_8 : decode cX6_joinedWord 8 = .ok (.iconst 1, 1) := by decide +kernel
theorem dX6_joinedWord_9 : decode cX6_joinedWord 9 = .ok (.iadd, 1) := by decide +kernel
theorem dX6_joinedWord_10 : decode cX6_joinedWord 10 = .ok (.iload_n 2, 1) := by decide +kernel
theorem dX6_joinedWord_11 : decode cX6_joinedWord 11 = .ok (.imul, 1) := by decide +kernel
theorem dX6_joinedWord_12 : decode cX6_joinedWord 12 = .ok (.iload_n 1, 1) := by decide +kernel
theorem dX6_joinedWord_13 : decode cX6_joinedWord 13 = .ok (.iconst 1, 1) := by decide +kernel
theorem dX6_joinedWord_14 : decode cX6_joinedWord 14 = .ok (.iadd, 1) := by decide +kernel
theorem dX6_joinedWord_15 : decode cX6_joinedWord 15 = .ok (.iload_n 2, 1) := by decide +kernel
theorem dX6_joinedWord_16 : decode cX6_joinedWord 16 = .ok (.isub, 1) := by decide +kernel
theorem dX6_joinedWord_17 : decode cX6_joinedWord 17 = .ok (.iadd, 1) := by decide +kernel
theorem dX6_joinedWord_18 : decode cX6_joinedWord 18 = .ok (.iconst 1, 1) := by decide +kernel
theorem dX6_joinedWord_19 : decode cX6_joinedWord 19 = .ok (.isub, 1) := by decide +kernel
theorem dX6_joinedWord_20 : decode cX6_joinedWord 20 = .ok (.ireturn, 1) := by decide +kernel
theorem dX6_reciprocal_0 : decode cX6_reciprocal 0 = .ok (.iconst 1, 1) := by decide +kernel
theorem dX6_reciprocal_1 : decode cX6_reciprocal 1 = .ok (.istore_n 1, 1) := by decide +kernel
theorem dX6_reciprocal_2 : decode cX6_reciprocal 2 = .ok (.iload_n 0, 1) := by decide +kernel
theorem dX6_reciprocal_3 : decode cX6_reciprocal 3 = .ok (.istore_n 2, 1) := by decide +kernel
theorem dX6_reciprocal_4 : decode cX6_reciprocal 4 = .ok (.sipush 10005, 3) := by decide +kernel
theorem dX6_reciprocal_7 : decode cX6_reciprocal 7 = .ok (.istore_n 3, 1) := by decide +kernel
theorem dX6_reciprocal_8 : decode cX6_reciprocal 8 = .ok (.iload_n 3, 1) := by decide +kernel
theorem dX6_reciprocal_9 : decode cX6_reciprocal 9 = .ok (.ifCond .le 33, 3) := by decide +kernel
theorem dX6_reciprocal_12 : decode cX6_reciprocal 12 = .ok (.iload_n 3, 1) := by decide +kernel
theorem dX6_reciprocal_13 : decode cX6_reciprocal 13 = .ok (.iconst 1, 1) := by decide +kernel
theorem dX6_reciprocal_14 : decode cX6_reciprocal 14 = .ok (.iand, 1) := by decide +kernel
theorem dX6_reciprocal_15 : decode cX6_reciprocal 15 = .ok (.iconst 1, 1) := by decide +kernel
theorem dX6_reciprocal_16 : decode cX6_reciprocal 16 = .ok (.if_icmp .ne 11, 3) := by decide +kernel
theorem dX6_reciprocal_19 : decode cX6_reciprocal 19 = .ok (.iload_n 1, 1) := by decide +kernel
theorem dX6_reciprocal_20 : decode cX6_reciprocal 20 = .ok (.iload_n 2, 1) := by decide +kernel
theorem dX6_reciprocal_21 : decode cX6_reciprocal 21 = .ok (.imul, 1) := by decide +kernel
theorem dX6_reciprocal_22 : decode cX6_reciprocal 22 = .ok (.sipush 10007, 3) := by decide +kernel
theorem dX6_reciprocal_25 : decode cX6_reciprocal 25 = .ok (.irem, 1) := by decide +kernel
theorem dX6_reciprocal_26 : decode cX6_reciprocal 26 = .ok (.istore_n 1, 1) := by decide +kernel
theorem dX6_reciprocal_27 : decode cX6_reciprocal 27 = .ok (.iload_n 2, 1) := by decide +kernel
theorem dX6_reciprocal_28 : decode cX6_reciprocal 28 = .ok (.iload_n 2, 1) := by decide +kernel
theorem dX6_reciprocal_29 : decode cX6_reciprocal 29 = .ok (.imul, 1) := by decide +kernel
theorem dX6_reciprocal_30 : decode cX6_reciprocal 30 = .ok (.sipush 10007, 3) := by decide +kernel
theorem dX6_reciprocal_33 : decode cX6_reciprocal 33 = .ok (.irem, 1) := by decide +kernel
theorem dX6_reciprocal_34 : decode cX6_reciprocal 34 = .ok (.istore_n 2, 1) := by decide +kernel
theorem dX6_reciprocal_35 : decode cX6_reciprocal 35 = .ok (.iload_n 3, 1) := by decide +kernel
theorem dX6_reciprocal_36 : decode cX6_reciprocal 36 = .ok (.iconst 1, 1) := by decide +kernel
theorem dX6_reciprocal_37 : decode cX6_reciprocal 37 = .ok (.ishr, 1) := by decide +kernel
theorem dX6_reciprocal_38 : decode cX6_reciprocal 38 = .ok (.istore_n 3, 1) := by decide +kernel
theorem dX6_reciprocal_39 : decode cX6_reciprocal 39 = .ok (.goto (-31), 3) := by decide +kernel
theorem dX6_reciprocal_42 : decode cX6_reciprocal 42 = .ok (.iload_n 1, 1) := by decide +kernel
theorem dX6_reciprocal_43 : decode cX6_reciprocal 43 = .ok (.ireturn, 1) := by decide +kernel
theorem dX6_addMultiple_0 : decode cX6_addMultiple 0 = .ok (.iconst 0, 1) := by decide +kernel
theorem dX6_addMultiple_1 : decode cX6_addMultiple 1 = .ok (.istore 4, 2) := by decide +kernel
theorem dX6_addMultiple_3 : decode cX6_addMultiple 3 = .ok (.iload 4, 2) := by decide +kernel
theorem dX6_addMultiple_5 : decode cX6_addMultiple 5 = .ok (.iload_n 3, 1) := by decide +kernel
theorem dX6_addMultiple_6 : decode cX6_addMultiple 6 = .ok (.if_icmp .ge 28, 3) := by decide +kernel
theorem dX6_addMultiple_9 : decode cX6_addMultiple 9 = .ok (.aload_n 0, 1) := by decide +kernel
theorem dX6_addMultiple_10 : decode cX6_addMultiple 10 = .ok (.iload 4, 2) := by decide +kernel
theorem dX6_addMultiple_12 : decode cX6_addMultiple 12 = .ok (.aload_n 0, 1) := by decide +kernel
theorem dX6_addMultiple_13 : decode cX6_addMultiple 13 = .ok (.iload 4, 2) := by decide +kernel
theorem dX6_addMultiple_15 : decode cX6_addMultiple 15 = .ok (.iaload, 1) := by decide +kernel
theorem dX6_addMultiple_16 : decode cX6_addMultiple 16 = .ok (.iload_n 1, 1) := by decide +kernel
theorem dX6_addMultiple_17 : decode cX6_addMultiple 17 = .ok (.aload_n 2, 1) := by decide +kernel
theorem dX6_addMultiple_18 : decode cX6_addMultiple 18 = .ok (.iload 4, 2) := by decide +kernel
theorem dX6_addMultiple_20 : decode cX6_addMultiple 20 = .ok (.iaload, 1) := by decide +kernel
theorem dX6_addMultiple_21 : decode cX6_addMultiple 21 = .ok (.imul, 1) := by decide +kernel
theorem dX6_addMultiple_22 : decode cX6_addMultiple 22 = .ok (.iadd, 1) := by decide +kernel
theorem dX6_addMultiple_23 : decode cX6_addMultiple 23 = .ok (.sipush 10007, 3) := by decide +kernel
theorem dX6_addMultiple_26 : decode cX6_addMultiple 26 = .ok (.irem, 1) := by decide +kernel
theorem dX6_addMultiple_27 : decode cX6_addMultiple 27 = .ok (.iastore, 1) := by decide +kernel
theorem dX6_addMultiple_28 : decode cX6_addMultiple 28 = .ok (.iinc 4 1, 3) := by decide +kernel
theorem dX6_addMultiple_31 : decode cX6_addMultiple 31 = .ok (.goto (-28), 3) := by decide +kernel
theorem dX6_addMultiple_34 : decode cX6_addMultiple 34 = .ok (.return_, 1) := by decide +kernel
theorem dX6_multiply_0 : decode cX6_multiply 0 = .ok (.iconst 0, 1) := by decide +kernel
theorem dX6_multiply_1 : decode cX6_multiply 1 = .ok (.istore_n 3, 1) := by decide +kernel
theorem dX6_multiply_2 : decode cX6_multiply 2 = .ok (.iload_n 3, 1) := by decide +kernel
theorem dX6_multiply_3 : decode cX6_multiply 3 = .ok (.iload_n 2, 1) := by decide +kernel
theorem dX6_multiply_4 : decode cX6_multiply 4 = .ok (.if_icmp .ge 21, 3) := by decide +kernel
theorem dX6_multiply_7 : decode cX6_multiply 7 = .ok (.aload_n 0, 1) := by decide +kernel
theorem dX6_multiply_8 : decode cX6_multiply 8 = .ok (.iload_n 3, 1) := by decide +kernel
theorem dX6_multiply_9 : decode cX6_multiply 9 = .ok (.aload_n 0, 1) := by decide +kernel
theorem dX6_multiply_10 : decode cX6_multiply 10 = .ok (.iload_n 3, 1) := by decide +kernel
theorem dX6_multiply_11 : decode cX6_multiply 11 = .ok (.iaload, 1) := by decide +kernel
theorem dX6_multiply_12 : decode cX6_multiply 12 = .ok (.iload_n 1, 1) := by decide +kernel
theorem dX6_multiply_13 : decode cX6_multiply 13 = .ok (.imul, 1) := by decide +kernel
theorem dX6_multiply_14 : decode cX6_multiply 14 = .ok (.sipush 10007, 3) := by decide +kernel
theorem dX6_multiply_17 : decode cX6_multiply 17 = .ok (.irem, 1) := by decide +kernel
theorem dX6_multiply_18 : decode cX6_multiply 18 = .ok (.iastore, 1) := by decide +kernel
theorem dX6_multiply_19 : decode cX6_multiply 19 = .ok (.iinc 3 1, 3) := by decide +kernel
theorem dX6_multiply_22 : decode cX6_multiply 22 = .ok (.goto (-20), 3) := by decide +kernel
theorem dX6_multiply_25 : decode cX6_multiply 25 = .ok (.return_, 1) := by decide +kernel
theorem dX6_firstNonZero_0 : decode cX6_firstNonZero 0 = .ok (.iconst 0, 1) := by decide +kernel
theorem dX6_firstNonZero_1 : decode cX6_firstNonZero 1 = .ok (.istore_n 2, 1) := by decide +kernel
theorem dX6_firstNonZero_2 : decode cX6_firstNonZero 2 = .ok (.iload_n 2, 1) := by decide +kernel
theorem dX6_firstNonZero_3 : decode cX6_firstNonZero 3 = .ok (.iload_n 1, 1) := by decide +kernel
theorem dX6_firstNonZero_4 : decode cX6_firstNonZero 4 = .ok (.if_icmp .ge 17, 3) := by decide +kernel
theorem dX6_firstNonZero_7 : decode cX6_firstNonZero 7 = .ok (.aload_n 0, 1) := by decide +kernel
theorem dX6_firstNonZero_8 : decode cX6_firstNonZero 8 = .ok (.iload_n 2, 1) := by decide +kernel
theorem dX6_firstNonZero_9 : decode cX6_firstNonZero 9 = .ok (.iaload, 1) := by decide +kernel
theorem dX6_firstNonZero_10 : decode cX6_firstNonZero 10 = .ok (.ifCond .eq 5, 3) := by decide +kernel
theorem dX6_firstNonZero_13 : decode cX6_firstNonZero 13 = .ok (.iload_n 2, 1) := by decide +kernel
theorem dX6_firstNonZero_14 : decode cX6_firstNonZero 14 = .ok (.ireturn, 1) := by decide +kernel
theorem dX6_firstNonZero_15 : decode cX6_firstNonZero 15 = .ok (.iinc 2 1, 3) := by decide +kernel
theorem dX6_firstNonZero_18 : decode cX6_firstNonZero 18 = .ok (.goto (-16), 3) := by decide +kernel
theorem dX6_firstNonZero_21 : decode cX6_firstNonZero 21 = .ok (.iconst (-1), 1) := by decide +kernel
theorem dX6_firstNonZero_22 : decode cX6_firstNonZero 22 = .ok (.ireturn, 1) := by decide +kernel
theorem dX7_init_0 : decode cX7_init 0 = .ok (.aload_n 0, 1) := by decide +kernel
theorem dX7_init_1 : decode cX7_init 1 = .ok (.invokespecial 1, 3) := by decide +kernel
theorem dX7_init_4 : decode cX7_init 4 = .ok (.aload_n 0, 1) := by decide +kernel
theorem dX7_init_5 : decode cX7_init 5 = .ok (.sipush 8138, 3) := by decide +kernel
theorem dX7_init_8 : decode cX7_init 8 = .ok (.newarray .int, 2) := by decide +kernel
theorem dX7_init_10 : decode cX7_init 10 = .ok (.putfield 7, 3) := by decide +kernel
theorem dX7_init_13 : decode cX7_init 13 = .ok (.aload_n 0, 1) := by decide +kernel
theorem dX7_init_14 : decode cX7_init 14 = .ok (.sipush 5008, 3) := by decide +kernel
theorem dX7_init_17 : decode cX7_init 17 = .ok (.newarray .int, 2) := by decide +kernel
theorem dX7_init_19 : decode cX7_init 19 = .ok (.putfield 13, 3) := by decide +kernel
theorem dX7_init_22 : decode cX7_init 22 = .ok (.aload_n 0, 1) := by decide +kernel
theorem dX7_init_23 : decode cX7_init 23 = .ok (.bipush 24, 2) := by decide +kernel
theorem dX7_init_25 : decode cX7_init 25 = .ok (.newarray .int, 2) := by decide +kernel
theorem dX7_init_27 : decode cX7_init 27 = .ok (.putfield 16, 3) := by decide +kernel
theorem dX7_init_30 : decode cX7_init 30 = .ok (.aload_n 0, 1) := by decide +kernel
theorem dX7_init_31 : decode cX7_init 31 = .ok (.bipush 24, 2) := by decide +kernel
theorem dX7_init_33 : decode cX7_init 33 = .ok (.newarray .int, 2) := by decide +kernel
theorem dX7_init_35 : decode cX7_init 35 = .ok (.putfield 19, 3) := by decide +kernel
theorem dX7_init_38 : decode cX7_init 38 = .ok (.aload_n 0, 1) := by decide +kernel
theorem dX7_init_39 : decode cX7_init 39 = .ok (.sipush 576, 3) := by decide +kernel
theorem dX7_init_42 : decode cX7_init 42 = .ok (.newarray .int, 2) := by decide +kernel
theorem dX7_init_44 : decode cX7_init 44 = .ok (.putfield 22, 3) := by decide +kernel
theorem dX7_init_47 : decode cX7_init 47 = .ok (.aload_n 0, 1) := by decide +kernel
theorem dX7_init_48 : decode cX7_init 48 = .ok (.sipush 576, 3) := by decide +kernel
theorem dX7_init_51 : decode cX7_init 51 = .ok (.newarray .int, 2) := by decide +kernel
theorem dX7_init_53 : decode cX7_init 53 = .ok (.putfield 25, 3) := by decide +kernel
theorem dX7_init_56 : decode cX7_init 56 = .ok (.aload_n 0, 1) := by decide +kernel
theorem dX7_init_57 : decode cX7_init 57 = .ok (.sipush 576, 3) := by decide +kernel
theorem dX7_init_60 : decode cX7_init 60 = .ok (.newarray .int, 2) := by decide +kernel
theorem dX7_init_62 : decode cX7_init 62 = .ok (.putfield 28, 3) := by decide +kernel
theorem dX7_init_65 : decode cX7_init 65 = .ok (.aload_n 0, 1) := by decide +kernel
theorem dX7_init_66 : decode cX7_init 66 = .ok (.bipush 24, 2) := by decide +kernel
theorem dX7_init_68 : decode cX7_init 68 = .ok (.newarray .int, 2) := by decide +kernel
theorem dX7_init_70 : decode cX7_init 70 = .ok (.putfield 31, 3) := by decide +kernel
theorem dX7_init_73 : decode cX7_init 73 = .ok (.aload_n 0, 1) := by decide +kernel
theorem dX7_init_74 : decode cX7_init 74 = .ok (.bipush 24, 2) := by decide +kernel
theorem dX7_init_76 : decode cX7_init 76 = .ok (.newarray .int, 2) := by decide +kernel
theorem dX7_init_78 : decode cX7_init 78 = .ok (.putfield 34, 3) := by decide +kernel
theorem dX7_init_81 : decode cX7_init 81 = .ok (.aload_n 0, 1) := by decide +kernel
theorem dX7_init_82 : decode cX7_init 82 = .ok (.bipush 24, 2) := by decide +kernel
theorem dX7_init_84 : decode cX7_init 84 = .ok (.newarray .int, 2) := by decide +kernel
theorem dX7_init_86 : decode cX7_init 86 = .ok (.putfield 37, 3) := by decide +kernel
theorem dX7_init_89 : decode cX7_init 89 = .ok (.aload_n 0, 1) := by decide +kernel
theorem dX7_init_90 : decode cX7_init 90 = .ok (.bipush 24, 2) := by decide +kernel
theorem dX7_init_92 : decode cX7_init 92 = .ok (.newarray .int, 2) := by decide +kernel
theorem dX7_init_94 : decode cX7_init 94 = .ok (.putfield 40, 3) := by decide +kernel
theorem dX7_init_97 : decode cX7_init 97 = .ok (.aload_n 0, 1) := by decide +kernel
theorem dX7_init_98 : decode cX7_init 98 = .ok (.sipush 1024, 3) := by decide +kernel
theorem dX7_init_101 : decode cX7_init 101 = .ok (.newarray .int, 2) := by decide +kernel
theorem dX7_init_103 : decode cX7_init 103 = .ok (.putfield 43, 3) := by decide +kernel
theorem dX7_init_106 : decode cX7_init 106 = .ok (.aload_n 0, 1) := by decide +kernel
theorem dX7_init_107 : decode cX7_init 107 = .ok (.bipush 43, 2) := by decide +kernel
theorem dX7_init_109 : decode cX7_init 109 = .ok (.newarray .int, 2) := by decide +kernel
theorem dX7_init_111 : decode cX7_init 111 = .ok (.putfield 46, 3) := by decide +kernel
theorem dX7_init_114 : decode cX7_init 114 = .ok (.aload_n 0, 1) := by decide +kernel
theorem dX7_init_115 : decode cX7_init 115 = .ok (.bipush 60, 2) := by decide +kernel
theorem dX7_init_117 : decode cX7_init 117 = .ok (.newarray .int, 2) := by decide +kernel
theorem dX7_init_119 : decode cX7_init 119 = .ok (.putfield 49, 3) := by decide +kernel
theorem dX7_init_122 : decode cX7_init 122 = .ok (.aload_n 0, 1) := by decide +kernel
theorem dX7_init_123 : decode cX7_init 123 = .ok (.bipush 9, 2) := by decide +kernel
theorem dX7_init_125 : decode cX7_init 125 = .ok (.newarray .boolean, 2) := by decide +kernel
theorem dX7_init_127 : decode cX7_init 127 = .ok (.putfield 52, 3) := by decide +kernel
theorem dX7_init_130 : decode cX7_init 130 = .ok (.aload_n 0, 1) := by decide +kernel
theorem dX7_init_131 : decode cX7_init 131 = .ok (.bipush 9, 2) := by decide +kernel
theorem dX7_init_133 : decode cX7_init 133 = .ok (.newarray .boolean, 2) := by decide +kernel
theorem dX7_init_135 : decode cX7_init 135 = .ok (.putfield 56, 3) := by decide +kernel
theorem dX7_init_138 : decode cX7_init 138 = .ok (.return_, 1) := by decide +kernel
theorem dX7_thrown_0 : decode cX7_thrown 0 = .ok (.aload_n 0, 1) := by decide +kernel
theorem dX7_thrown_1 : decode cX7_thrown 1 = .ok (.getfield 59, 3) := by decide +kernel
theorem dX7_thrown_4 : decode cX7_thrown 4 = .ok (.ireturn, 1) := by decide +kernel
theorem dX7_in_0 : decode cX7_in 0 = .ok (.lload_n 0, 1) := by decide +kernel
theorem dX7_in_1 : decode cX7_in 1 = .ok (.lload_n 2, 1) := by decide +kernel
theorem dX7_in_2 : decode cX7_in 2 = .ok (.lcmp, 1) := by decide +kernel
theorem dX7_in_3 : decode cX7_in 3 = .ok (.ifCond .lt 14, 3) := by decide +kernel
theorem dX7_in_6 : decode cX7_in 6 = .ok (.lload_n 0, 1) := by decide +kernel
theorem dX7_in_7 : decode cX7_in 7 = .ok (.lload 4, 2) := by decide +kernel
theorem dX7_in_9 : decode cX7_in 9 = .ok (.lcmp, 1) := by decide +kernel
theorem dX7_in_10 : decode cX7_in 10 = .ok (.ifCond .gt 7, 3) := by decide +kernel
theorem dX7_in_13 : decode cX7_in 13 = .ok (.iconst 1, 1) := by decide +kernel
theorem dX7_in_14 : decode cX7_in 14 = .ok (.goto 4, 3) := by decide +kernel
theorem dX7_in_17 : decode cX7_in 17 = .ok (.iconst 0, 1) := by decide +kernel
theorem dX7_in_18 : decode cX7_in 18 = .ok (.ireturn, 1) := by decide +kernel
theorem dX7_goes_0 : decode cX7_goes 0 = .ok (.aload_n 0, 1) := by decide +kernel
theorem dX7_goes_1 : decode cX7_goes 1 = .ok (.iload_n 1, 1) := by decide +kernel
theorem dX7_goes_2 : decode cX7_goes 2 = .ok (.ifCond .ne 7, 3) := by decide +kernel
theorem dX7_goes_5 : decode cX7_goes 5 = .ok (.iconst 1, 1) := by decide +kernel
theorem dX7_goes_6 : decode cX7_goes 6 = .ok (.goto 20, 3) := by decide +kernel
theorem dX7_goes_9 : decode cX7_goes 9 = .ok (.iload_n 2, 1) := by decide +kernel
theorem dX7_goes_10 : decode cX7_goes 10 = .ok (.ifCond .ne 7, 3) := by decide +kernel
theorem dX7_goes_13 : decode cX7_goes 13 = .ok (.iconst 2, 1) := by decide +kernel
theorem dX7_goes_14 : decode cX7_goes 14 = .ok (.goto 12, 3) := by decide +kernel
theorem dX7_goes_17 : decode cX7_goes 17 = .ok (.iload_n 3, 1) := by decide +kernel
theorem dX7_goes_18 : decode cX7_goes 18 = .ok (.ifCond .ne 7, 3) := by decide +kernel
theorem dX7_goes_21 : decode cX7_goes 21 = .ok (.iconst 3, 1) := by decide +kernel
theorem dX7_goes_22 : decode cX7_goes 22 = .ok (.goto 4, 3) := by decide +kernel
theorem dX7_goes_25 : decode cX7_goes 25 = .ok (.iconst 0, 1) := by decide +kernel
theorem dX7_goes_26 : decode cX7_goes 26 = .ok (.putfield 59, 3) := by decide +kernel
theorem dX7_goes_29 : decode cX7_goes 29 = .ok (.aload_n 0, 1) := by decide +kernel
theorem dX7_goes_30 : decode cX7_goes 30 = .ok (.getfield 59, 3) := by decide +kernel
theorem dX7_goes_33 : decode cX7_goes 33 = .ok (.ifCond .ne 7, 3) := by decide +kernel
theorem dX7_goes_36 : decode cX7_goes 36 = .ok (.iconst 1, 1) := by decide +kernel
theorem dX7_goes_37 : decode cX7_goes 37 = .ok (.goto 4, 3) := by decide +kernel
theorem dX7_goes_40 : decode cX7_goes 40 = .ok (.iconst 0, 1) := by decide +kernel
theorem dX7_goes_41 : decode cX7_goes 41 = .ok (.ireturn, 1) := by decide +kernel
theorem dX7_save_0 : decode cX7_save 0 = .ok (.aload_n 0, 1) := by decide +kernel
theorem dX7_save_1 : decode cX7_save 1 = .ok (.getfield 63, 3) := by decide +kernel
theorem dX7_save_4 : decode cX7_save 4 = .ok (.iconst 4, 1) := by decide +kernel
theorem dX7_save_5 : decode cX7_save 5 = .ok (.if_icmp .ne 44, 3) := by decide +kernel
theorem dX7_save_8 : decode cX7_save 8 = .ok (.iconst 0, 1) := by decide +kernel
theorem dX7_save_9 : decode cX7_save 9 = .ok (.istore_n 1, 1) := by decide +kernel
theorem dX7_save_10 : decode cX7_save 10 = .ok (.iload_n 1, 1) := by decide +kernel
theorem dX7_save_11 : decode cX7_save 11 = .ok (.sipush 3756, 3) := by decide +kernel
theorem dX7_save_14 : decode cX7_save 14 = .ok (.if_icmp .ge 25, 3) := by decide +kernel
theorem dX7_save_17 : decode cX7_save 17 = .ok (.aload_n 0, 1) := by decide +kernel
theorem dX7_save_18 : decode cX7_save 18 = .ok (.getfield 13, 3) := by decide +kernel
theorem dX7_save_21 : decode cX7_save 21 = .ok (.iload_n 1, 1) := by decide +kernel
theorem dX7_save_22 : decode cX7_save 22 = .ok (.aload_n 0, 1) := by decide +kernel
theorem dX7_save_23 : decode cX7_save 23 = .ok (.getfield 13, 3) := by decide +kernel
theorem dX7_save_26 : decode cX7_save 26 = .ok (.iload_n 1, 1) := by decide +kernel
theorem dX7_save_27 : decode cX7_save 27 = .ok (.sipush 1252, 3) := by decide +kernel
theorem dX7_save_30 : decode cX7_save 30 = .ok (.iadd, 1) := by decide +kernel
theorem dX7_save_31 : decode cX7_save 31 = .ok (.iaload, 1) := by decide +kernel
theorem dX7_save_32 : decode cX7_save 32 = .ok (.iastore, 1) := by decide +kernel
theorem dX7_save_33 : decode cX7_save 33 = .ok (.iinc 1 1, 3) := by decide +kernel
theorem dX7_save_36 : decode cX7_save 36 = .ok (.goto (-26), 3) := by decide +kernel
theorem dX7_save_39 : decode cX7_save 39 = .ok (.aload_n 0, 1) := by decide +kernel
theorem dX7_save_40 : decode cX7_save 40 = .ok (.dup, 1) := by decide +kernel
theorem dX7_save_41 : decode cX7_save 41 = .ok (.getfield 63, 3) := by decide +kernel
theorem dX7_save_44 : decode cX7_save 44 = .ok (.iconst 1, 1) := by decide +kernel
theorem dX7_save_45 : decode cX7_save 45 = .ok (.isub, 1) := by decide +kernel
theorem dX7_save_46 : decode cX7_save 46 = .ok (.putfield 63, 3) := by decide +kernel
theorem dX7_save_49 : decode cX7_save 49 = .ok (.iconst 0, 1) := by decide +kernel
theorem dX7_save_50 : decode cX7_save 50 = .ok (.istore_n 1, 1) := by decide +kernel
theorem dX7_save_51 : decode cX7_save 51 = .ok (.iload_n 1, 1) := by decide +kernel
theorem dX7_save_52 : decode cX7_save 52 = .ok (.sipush 1252, 3) := by decide +kernel
theorem dX7_save_55 : decode cX7_save 55 = .ok (.if_icmp .ge 30, 3) := by decide +kernel
theorem dX7_save_58 : decode cX7_save 58 = .ok (.aload_n 0, 1) := by decide +kernel
theorem dX7_save_59 : decode cX7_save 59 = .ok (.getfield 13, 3) := by decide +kernel
theorem dX7_save_62 : decode cX7_save 62 = .ok (.sipush 1252, 3) := by decide +kernel
theorem dX7_save_65 : decode cX7_save 65 = .ok (.aload_n 0, 1) := by decide +kernel
theorem dX7_save_66 : decode cX7_save 66 = .ok (.getfield 63, 3) := by decide +kernel
theorem dX7_save_69 : decode cX7_save 69 = .ok (.imul, 1) := by decide +kernel
theorem dX7_save_70 : decode cX7_save 70 = .ok (.iload_n 1, 1) := by decide +kernel
theorem dX7_save_71 : decode cX7_save 71 = .ok (.iadd, 1) := by decide +kernel
theorem dX7_save_72 : decode cX7_save 72 = .ok (.aload_n 0, 1) := by decide +kernel
theorem dX7_save_73 : decode cX7_save 73 = .ok (.getfield 7, 3) := by decide +kernel
theorem dX7_save_76 : decode cX7_save 76 = .ok (.iload_n 1, 1) := by decide +kernel
theorem dX7_save_77 : decode cX7_save 77 = .ok (.iaload, 1) := by decide +kernel
theorem dX7_save_78 : decode cX7_save 78 = .ok (.iastore, 1) := by decide +kernel
theorem dX7_save_79 : decode cX7_save 79 = .ok (.iinc 1 1, 3) := by decide +kernel
theorem dX7_save_82 : decode cX7_save 82 = .ok (.goto (-31), 3) := by decide +kernel
theorem dX7_save_85 : decode cX7_save 85 = .ok (.aload_n 0, 1) := by decide +kernel
theorem dX7_save_86 : decode cX7_save 86 = .ok (.dup, 1) := by decide +kernel
theorem dX7_save_87 : decode cX7_save 87 = .ok (.getfield 63, 3) := by decide +kernel
theorem dX7_save_90 : decode cX7_save 90 = .ok (.iconst 1, 1) := by decide +kernel
theorem dX7_save_91 : decode cX7_save 91 = .ok (.iadd, 1) := by decide +kernel
theorem dX7_save_92 : decode cX7_save 92 = .ok (.putfield 63, 3) := by decide +kernel
theorem dX7_save_95 : decode cX7_save 95 = .ok (.return_, 1) := by decide +kernel
theorem dX7_isSlot_0 : decode cX7_isSlot 0 = .ok (.iload_n 0, 1) := by decide +kernel
theorem dX7_isSlot_1 : decode cX7_isSlot 1 = .ok (.i2l, 1) := by decide +kernel
theorem dX7_isSlot_2 : decode cX7_isSlot 2 = .ok (.lconst 0, 1) := by decide +kernel
theorem dX7_isSlot_3 : decode cX7_isSlot 3 = .ok (.ldc2_w 66, 3) := by decide +kernel
theorem dX7_isSlot_6 : decode cX7_isSlot 6 = .ok (.invokestatic 68, 3) := by decide +kernel
theorem dX7_isSlot_9 : decode cX7_isSlot 9 = .ok (.ireturn, 1) := by decide +kernel
theorem dX7_isNumber_0 : decode cX7_isNumber 0 = .ok (.iload_n 0, 1) := by decide +kernel
theorem dX7_isNumber_1 : decode cX7_isNumber 1 = .ok (.i2l, 1) := by decide +kernel
theorem dX7_isNumber_2 : decode cX7_isNumber 2 = .ok (.lconst 0, 1) := by decide +kernel
theorem dX7_isNumber_3 : decode cX7_isNumber 3 = .ok (.ldc2_w 72, 3) := by decide +kernel
theorem dX7_isNumber_6 : decode cX7_isNumber 6 = .ok (.invokestatic 68, 3) := by decide +kernel
theorem dX7_isNumber_9 : decode cX7_isNumber 9 = .ok (.ireturn, 1) := by decide +kernel
theorem dX7_power_0 : decode cX7_power 0 = .ok (.iconst 1, 1) := by decide +kernel
theorem dX7_power_1 : decode cX7_power 1 = .ok (.istore_n 2, 1) := by decide +kernel
theorem dX7_power_2 : decode cX7_power 2 = .ok (.iload_n 0, 1) := by decide +kernel
theorem dX7_power_3 : decode cX7_power 3 = .ok (.istore_n 3, 1) := by decide +kernel
theorem dX7_power_4 : decode cX7_power 4 = .ok (.iload_n 1, 1) := by decide +kernel
theorem dX7_power_5 : decode cX7_power 5 = .ok (.istore 4, 2) := by decide +kernel
theorem dX7_power_7 : decode cX7_power 7 = .ok (.iload 4, 2) := by decide +kernel
theorem dX7_power_9 : decode cX7_power 9 = .ok (.ifCond .le 40, 3) := by decide +kernel
theorem dX7_power_12 : decode cX7_power 12 = .ok (.iload 4, 2) := by decide +kernel
theorem dX7_power_14 : decode cX7_power 14 = .ok (.iconst 2, 1) := by decide +kernel
theorem dX7_power_15 : decode cX7_power 15 = .ok (.irem, 1) := by decide +kernel
theorem dX7_power_16 : decode cX7_power 16 = .ok (.iconst 1, 1) := by decide +kernel
theorem dX7_power_17 : decode cX7_power 17 = .ok (.if_icmp .ne 13, 3) := by decide +kernel
theorem dX7_power_20 : decode cX7_power 20 = .ok (.iload_n 2, 1) := by decide +kernel
theorem dX7_power_21 : decode cX7_power 21 = .ok (.iload_n 3, 1) := by decide +kernel
theorem dX7_power_22 : decode cX7_power 22 = .ok (.imul, 1) := by decide +kernel
theorem dX7_power_23 : decode cX7_power 23 = .ok (.sipush 10007, 3) := by decide +kernel
theorem dX7_power_26 : decode cX7_power 26 = .ok (.irem, 1) := by decide +kernel
theorem dX7_power_27 : decode cX7_power 27 = .ok (.goto 4, 3) := by decide +kernel
theorem dX7_power_30 : decode cX7_power 30 = .ok (.iload_n 2, 1) := by decide +kernel
theorem dX7_power_31 : decode cX7_power 31 = .ok (.istore_n 2, 1) := by decide +kernel
theorem dX7_power_32 : decode cX7_power 32 = .ok (.iload_n 3, 1) := by decide +kernel
theorem dX7_power_33 : decode cX7_power 33 = .ok (.iload_n 3, 1) := by decide +kernel
theorem dX7_power_34 : decode cX7_power 34 = .ok (.imul, 1) := by decide +kernel
theorem dX7_power_35 : decode cX7_power 35 = .ok (.sipush 10007, 3) := by decide +kernel
theorem dX7_power_38 : decode cX7_power 38 = .ok (.irem, 1) := by decide +kernel
theorem dX7_power_39 : decode cX7_power 39 = .ok (.istore_n 3, 1) := by decide +kernel
theorem dX7_power_40 : decode cX7_power 40 = .ok (.iload 4, 2) := by decide +kernel
theorem dX7_power_42 : decode cX7_power 42 = .ok (.iconst 2, 1) := by decide +kernel
theorem dX7_power_43 : decode cX7_power 43 = .ok (.idiv, 1) := by decide +kernel
theorem dX7_power_44 : decode cX7_power 44 = .ok (.istore 4, 2) := by decide +kernel
theorem dX7_power_46 : decode cX7_power 46 = .ok (.goto (-39), 3) := by decide +kernel
theorem dX7_power_49 : decode cX7_power 49 = .ok (.iload_n 2, 1) := by decide +kernel
theorem dX7_power_50 : decode cX7_power 50 = .ok (.ireturn, 1) := by decide +kernel
theorem dX7_inverted_0 : decode cX7_inverted 0 = .ok (.iload_n 0, 1) := by decide +kernel
theorem dX7_inverted_1 : decode cX7_inverted 1 = .ok (.sipush 10005, 3) := by decide +kernel
theorem dX7_inverted_4 : decode cX7_inverted 4 = .ok (.invokestatic 74, 3) := by decide +kernel
theorem dX7_inverted_7 : decode cX7_inverted 7 = .ok (.ireturn, 1) := by decide +kernel
theorem dX7_many_0 : decode cX7_many 0 = .ok (.aload_n 0, 1) := by decide +kernel
theorem dX7_many_1 : decode cX7_many 1 = .ok (.getfield 7, 3) := by decide +kernel
theorem dX7_many_4 : decode cX7_many 4 = .ok (.sipush 313, 3) := by decide +kernel
theorem dX7_many_7 : decode cX7_many 7 = .ok (.iload_n 1, 1) := by decide +kernel
theorem dX7_many_8 : decode cX7_many 8 = .ok (.imul, 1) := by decide +kernel
theorem dX7_many_9 : decode cX7_many 9 = .ok (.iaload, 1) := by decide +kernel
theorem dX7_many_10 : decode cX7_many 10 = .ok (.ireturn, 1) := by decide +kernel
theorem dX7_initialAt_0 : decode cX7_initialAt 0 = .ok (.sipush 313, 3) := by decide +kernel
theorem dX7_initialAt_3 : decode cX7_initialAt 3 = .ok (.iload_n 0, 1) := by decide +kernel
theorem dX7_initialAt_4 : decode cX7_initialAt 4 = .ok (.imul, 1) := by decide +kernel
theorem dX7_initialAt_5 : decode cX7_initialAt 5 = .ok (.iconst 1, 1) := by decide +kernel
theorem dX7_initialAt_6 : decode cX7_initialAt 6 = .ok (.iadd, 1) := by decide +kernel
theorem dX7_initialAt_7 : decode cX7_initialAt 7 = .ok (.iload_n 1, 1) := by decide +kernel
theorem dX7_initialAt_8 : decode cX7_initialAt 8 = .ok (.iadd, 1) := by decide +kernel
theorem dX7_initialAt_9 : decode cX7_initialAt 9 = .ok (.ireturn, 1) := by decide +kernel
theorem dX7_finalAt_0 : decode cX7_finalAt 0 = .ok (.sipush 313, 3) := by decide +kernel
theorem dX7_finalAt_3 : decode cX7_finalAt 3 = .ok (.iload_n 0, 1) := by decide +kernel
theorem dX7_finalAt_4 : decode cX7_finalAt 4 = .ok (.imul, 1) := by decide +kernel
theorem dX7_finalAt_5 : decode cX7_finalAt 5 = .ok (.bipush 13, 2) := by decide +kernel
theorem dX7_finalAt_7 : decode cX7_finalAt 7 = .ok (.iadd, 1) := by decide +kernel
theorem dX7_finalAt_8 : decode cX7_finalAt 8 = .ok (.iload_n 1, 1) := by decide +kernel
theorem dX7_finalAt_9 : decode cX7_finalAt 9 = .ok (.iadd, 1) := by decide +kernel
theorem dX7_finalAt_10 : decode cX7_finalAt 10 = .ok (.ireturn, 1) := by decide +kernel
theorem dX7_at_0 : decode cX7_at 0 = .ok (.sipush 313, 3) := by decide +kernel
theorem dX7_at_3 : decode cX7_at 3 = .ok (.iload_n 0, 1) := by decide +kernel
theorem dX7_at_4 : decode cX7_at 4 = .ok (.imul, 1) := by decide +kernel
theorem dX7_at_5 : decode cX7_at 5 = .ok (.bipush 25, 2) := by decide +kernel
theorem dX7_at_7 : decode cX7_at 7 = .ok (.iadd, 1) := by decide +kernel
theorem dX7_at_8 : decode cX7_at 8 = .ok (.sipush 144, 3) := by decide +kernel
theorem dX7_at_11 : decode cX7_at 11 = .ok (.iload_n 1, 1) := by decide +kernel
theorem dX7_at_12 : decode cX7_at 12 = .ok (.imul, 1) := by decide +kernel
theorem dX7_at_13 : decode cX7_at 13 = .ok (.iadd, 1) := by decide +kernel
theorem dX7_at_14 : decode cX7_at 14 = .ok (.bipush 12, 2) := by decide +kernel
theorem dX7_at_16 : decode cX7_at 16 = .ok (.iload_n 2, 1) := by decide +kernel
theorem dX7_at_17 : decode cX7_at 17 = .ok (.imul, 1) := by decide +kernel
theorem dX7_at_18 : decode cX7_at 18 = .ok (.iadd, 1) := by decide +kernel
theorem dX7_at_19 : decode cX7_at 19 = .ok (.iload_n 3, 1) := by decide +kernel
theorem dX7_at_20 : decode cX7_at 20 = .ok (.iadd, 1) := by decide +kernel
theorem dX7_at_21 : decode cX7_at 21 = .ok (.ireturn, 1) := by decide +kernel
theorem dX7_clears_0 : decode cX7_clears 0 = .ok (.iconst 0, 1) := by decide +kernel
theorem dX7_clears_1 : decode cX7_clears 1 = .ok (.istore_n 3, 1) := by decide +kernel
theorem dX7_clears_2 : decode cX7_clears 2 = .ok (.iload_n 3, 1) := by decide +kernel
theorem dX7_clears_3 : decode cX7_clears 3 = .ok (.sipush 313, 3) := by decide +kernel
theorem dX7_clears_6 : decode cX7_clears 6 = .ok (.if_icmp .ge 22, 3) := by decide +kernel
theorem dX7_clears_9 : decode cX7_clears 9 = .ok (.aload_n 0, 1) := by decide +kernel
theorem dX7_clears_10 : decode cX7_clears 10 = .ok (.getfield 7, 3) := by decide +kernel
theorem dX7_clears_13 : decode cX7_clears 13 = .ok (.sipush 313, 3) := by decide +kernel
theorem dX7_clears_16 : decode cX7_clears 16 = .ok (.iload_n 1, 1) := by decide +kernel
theorem dX7_clears_17 : decode cX7_clears 17 = .ok (.imul, 1) := by decide +kernel
theorem dX7_clears_18 : decode cX7_clears 18 = .ok (.iload_n 3, 1) := by decide +kernel
theorem dX7_clears_19 : decode cX7_clears 19 = .ok (.iadd, 1) := by decide +kernel
theorem dX7_clears_20 : decode cX7_clears 20 = .ok (.iconst 0, 1) := by decide +kernel
theorem dX7_clears_21 : decode cX7_clears 21 = .ok (.iastore, 1) := by decide +kernel
theorem dX7_clears_22 : decode cX7_clears 22 = .ok (.iinc 3 1, 3) := by decide +kernel
theorem dX7_clears_25 : decode cX7_clears 25 = .ok (.goto (-23), 3) := by decide +kernel
theorem dX7_clears_28 : decode cX7_clears 28 = .ok (.aload_n 0, 1) := by decide +kernel
theorem dX7_clears_29 : decode cX7_clears 29 = .ok (.getfield 7, 3) := by decide +kernel
theorem dX7_clears_32 : decode cX7_clears 32 = .ok (.sipush 313, 3) := by decide +kernel
theorem dX7_clears_35 : decode cX7_clears 35 = .ok (.iload_n 1, 1) := by decide +kernel
theorem dX7_clears_36 : decode cX7_clears 36 = .ok (.imul, 1) := by decide +kernel
theorem dX7_clears_37 : decode cX7_clears 37 = .ok (.iload_n 2, 1) := by decide +kernel
theorem dX7_clears_38 : decode cX7_clears 38 = .ok (.iastore, 1) := by decide +kernel
theorem dX7_clears_39 : decode cX7_clears 39 = .ok (.return_, 1) := by decide +kernel
theorem dX7_copies_0 : decode cX7_copies 0 = .ok (.iconst 0, 1) := by decide +kernel
theorem dX7_copies_1 : decode cX7_copies 1 = .ok (.istore_n 3, 1) := by decide +kernel
theorem dX7_copies_2 : decode cX7_copies 2 = .ok (.iload_n 3, 1) := by decide +kernel
theorem dX7_copies_3 : decode cX7_copies 3 = .ok (.sipush 313, 3) := by decide +kernel
theorem dX7_copies_6 : decode cX7_copies 6 = .ok (.if_icmp .ge 33, 3) := by decide +kernel
theorem dX7_copies_9 : decode cX7_copies 9 = .ok (.aload_n 0, 1) := by decide +kernel
theorem dX7_copies_10 : decode cX7_copies 10 = .ok (.getfield 7, 3) := by decide +kernel
theorem dX7_copies_13 : decode cX7_copies 13 = .ok (.sipush 313, 3) := by decide +kernel
theorem dX7_copies_16 : decode cX7_copies 16 = .ok (.iload_n 2, 1) := by decide +kernel
theorem dX7_copies_17 : decode cX7_copies 17 = .ok (.imul, 1) := by decide +kernel
theorem dX7_copies_18 : decode cX7_copies 18 = .ok (.iload_n 3, 1) := by decide +kernel
theorem dX7_copies_19 : decode cX7_copies 19 = .ok (.iadd, 1) := by decide +kernel
theorem dX7_copies_20 : decode cX7_copies 20 = .ok (.aload_n 0, 1) := by decide +kernel
theorem dX7_copies_21 : decode cX7_copies 21 = .ok (.getfield 7, 3) := by decide +kernel
theorem dX7_copies_24 : decode cX7_copies 24 = .ok (.sipush 313, 3) := by decide +kernel
theorem dX7_copies_27 : decode cX7_copies 27 = .ok (.iload_n 1, 1) := by decide +kernel
theorem dX7_copies_28 : decode cX7_copies 28 = .ok (.imul, 1) := by decide +kernel
theorem dX7_copies_29 : decode cX7_copies 29 = .ok (.iload_n 3, 1) := by decide +kernel
theorem dX7_copies_30 : decode cX7_copies 30 = .ok (.iadd, 1) := by decide +kernel
theorem dX7_copies_31 : decode cX7_copies 31 = .ok (.iaload, 1) := by decide +kernel
theorem dX7_copies_32 : decode cX7_copies 32 = .ok (.iastore, 1) := by decide +kernel
theorem dX7_copies_33 : decode cX7_copies 33 = .ok (.iinc 3 1, 3) := by decide +kernel
theorem dX7_copies_36 : decode cX7_copies 36 = .ok (.goto (-34), 3) := by decide +kernel
theorem dX7_copies_39 : decode cX7_copies 39 = .ok (.return_, 1) := by decide +kernel
theorem dX7_emptyWeight_0 : decode cX7_emptyWeight 0 = .ok (.iconst 0, 1) := by decide +kernel
theorem dX7_emptyWeight_1 : decode cX7_emptyWeight 1 = .ok (.istore_n 2, 1) := by decide +kernel
theorem dX7_emptyWeight_2 : decode cX7_emptyWeight 2 = .ok (.iconst 0, 1) := by decide +kernel
theorem dX7_emptyWeight_3 : decode cX7_emptyWeight 3 = .ok (.istore_n 3, 1) := by decide +kernel
theorem dX7_emptyWeight_4 : decode cX7_emptyWeight 4 = .ok (.iload_n 3, 1) := by decide +kernel
theorem dX7_emptyWeight_5 : decode cX7_emptyWeight 5 = .ok (.aload_n 0, 1) := by decide +kernel
theorem dX7_emptyWeight_6 : decode cX7_emptyWeight 6 = .ok (.iload_n 1, 1) := by decide +kernel
theorem dX7_emptyWeight_7 : decode cX7_emptyWeight 7 = .ok (.invokevirtual 78, 3) := by decide +kernel
theorem dX7_emptyWeight_10 : decode cX7_emptyWeight 10 = .ok (.if_icmp .ge 37, 3) := by decide +kernel
theorem dX7_emptyWeight_13 : decode cX7_emptyWeight 13 = .ok (.iload_n 2, 1) := by decide +kernel
theorem dX7_emptyWeight_14 : decode cX7_emptyWeight 14 = .ok (.aload_n 0, 1) := by decide +kernel
theorem dX7_emptyWeight_15 : decode cX7_emptyWeight 15 = .ok (.getfield 7, 3) := by decide +kernel
theorem dX7_emptyWeight_18 : decode cX7_emptyWeight 18 = .ok (.iload_n 1, 1) := by decide +kernel
theorem dX7_emptyWeight_19 : decode cX7_emptyWeight 19 = .ok (.iload_n 3, 1) := by decide +kernel
theorem dX7_emptyWeight_20 : decode cX7_emptyWeight 20 = .ok (.invokestatic 82, 3) := by decide +kernel
theorem dX7_emptyWeight_23 : decode cX7_emptyWeight 23 = .ok (.iaload, 1) := by decide +kernel
theorem dX7_emptyWeight_24 : decode cX7_emptyWeight 24 = .ok (.aload_n 0, 1) := by decide +kernel
theorem dX7_emptyWeight_25 : decode cX7_emptyWeight 25 = .ok (.getfield 7, 3) := by decide +kernel
theorem dX7_emptyWeight_28 : decode cX7_emptyWeight 28 = .ok (.iload_n 1, 1) := by decide +kernel
theorem dX7_emptyWeight_29 : decode cX7_emptyWeight 29 = .ok (.iload_n 3, 1) := by decide +kernel
theorem dX7_emptyWeight_30 : decode cX7_emptyWeight 30 = .ok (.invokestatic 85, 3) := by decide +kernel
theorem dX7_emptyWeight_33 : decode cX7_emptyWeight 33 = .ok (.iaload, 1) := by decide +kernel
theorem dX7_emptyWeight_34 : decode cX7_emptyWeight 34 = .ok (.imul, 1) := by decide +kernel
theorem dX7_emptyWeight_35 : decode cX7_emptyWeight 35 = .ok (.iadd, 1) := by decide +kernel
theorem dX7_emptyWeight_36 : decode cX7_emptyWeight 36 = .ok (.sipush 10007, 3) := by decide +kernel
theorem dX7_emptyWeight_39 : decode cX7_emptyWeight 39 = .ok (.irem, 1) := by decide +kernel
theorem dX7_emptyWeight_40 : decode cX7_emptyWeight 40 = .ok (.istore_n 2, 1) := by decide +kernel
theorem dX7_emptyWeight_41 : decode cX7_emptyWeight 41 = .ok (.iinc 3 1, 3) := by decide +kernel
theorem dX7_emptyWeight_44 : decode cX7_emptyWeight 44 = .ok (.goto (-40), 3) := by decide +kernel
theorem dX7_emptyWeight_47 : decode cX7_emptyWeight 47 = .ok (.iload_n 2, 1) := by decide +kernel
theorem dX7_emptyWeight_48 : decode cX7_emptyWeight 48 = .ok (.ireturn, 1) := by decide +kernel
theorem dX7_begin_0 : decode cX7_begin 0 = .ok (.aload_n 0, 1) := by decide +kernel
theorem dX7_begin_1 : decode cX7_begin 1 = .ok (.iload_n 1, 1) := by decide +kernel
theorem dX7_begin_2 : decode cX7_begin 2 = .ok (.invokestatic 88, 3) := by decide +kernel
theorem dX7_begin_5 : decode cX7_begin 5 = .ok (.iload_n 2, 1) := by decide +kernel
theorem dX7_begin_6 : decode cX7_begin 6 = .ok (.i2l, 1) := by decide +kernel
theorem dX7_begin_7 : decode cX7_begin 7 = .ok (.lconst 0, 1) := by decide +kernel
theorem dX7_begin_8 : decode cX7_begin 8 = .ok (.ldc2_w 92, 3) := by decide +kernel
theorem dX7_begin_11 : decode cX7_begin 11 = .ok (.invokestatic 68, 3) := by decide +kernel
theorem dX7_begin_14 : decode cX7_begin 14 = .ok (.iconst 1, 1) := by decide +kernel
theorem dX7_begin_15 : decode cX7_begin 15 = .ok (.invokevirtual 94, 3) := by decide +kernel
theorem dX7_begin_18 : decode cX7_begin 18 = .ok (.ifCond .ne 5, 3) := by decide +kernel
theorem dX7_begin_21 : decode cX7_begin 21 = .ok (.iconst 0, 1) := by decide +kernel
theorem dX7_begin_22 : decode cX7_begin 22 = .ok (.ireturn, 1) := by decide +kernel
theorem dX7_begin_23 : decode cX7_begin 23 = .ok (.aload_n 0, 1) := by decide +kernel
theorem dX7_begin_24 : decode cX7_begin 24 = .ok (.invokevirtual 98, 3) := by decide +kernel
theorem dX7_begin_27 : decode cX7_begin 27 = .ok (.aload_n 0, 1) := by decide +kernel
theorem dX7_begin_28 : decode cX7_begin 28 = .ok (.iload_n 1, 1) := by decide +kernel
theorem dX7_begin_29 : decode cX7_begin 29 = .ok (.invokevirtual 78, 3) := by decide +kernel
theorem dX7_begin_32 : decode cX7_begin 32 = .ok (.istore_n 3, 1) := by decide +kernel
theorem dX7_begin_33 : decode cX7_begin 33 = .ok (.aload_n 0, 1) := by decide +kernel
theorem dX7_begin_34 : decode cX7_begin 34 = .ok (.iload_n 1, 1) := by decide +kernel
theorem dX7_begin_35 : decode cX7_begin 35 = .ok (.iload_n 2, 1) := by decide +kernel
theorem dX7_begin_36 : decode cX7_begin 36 = .ok (.invokevirtual 101, 3) := by decide +kernel
theorem dX7_begin_39 : decode cX7_begin 39 = .ok (.iload_n 3, 1) := by decide +kernel
theorem dX7_begin_40 : decode cX7_begin 40 = .ok (.ireturn, 1) := by decide +kernel
theorem dX7_isState_0 : decode cX7_isState 0 = .ok (.iload_n 1, 1) := by decide +kernel
theorem dX7_isState_1 : decode cX7_isState 1 = .ok (.invokestatic 88, 3) := by decide +kernel
theorem dX7_isState_4 : decode cX7_isState 4 = .ok (.ifCond .eq 24, 3) := by decide +kernel
theorem dX7_isState_7 : decode cX7_isState 7 = .ok (.iload_n 2, 1) := by decide +kernel
theorem dX7_isState_8 : decode cX7_isState 8 = .ok (.i2l, 1) := by decide +kernel
theorem dX7_isState_9 : decode cX7_isState 9 = .ok (.lconst 0, 1) := by decide +kernel
theorem dX7_isState_10 : decode cX7_isState 10 = .ok (.aload_n 0, 1) := by decide +kernel
theorem dX7_isState_11 : decode cX7_isState 11 = .ok (.iload_n 1, 1) := by decide +kernel
theorem dX7_isState_12 : decode cX7_isState 12 = .ok (.invokevirtual 78, 3) := by decide +kernel
theorem dX7_isState_15 : decode cX7_isState 15 = .ok (.iconst 1, 1) := by decide +kernel
theorem dX7_isState_16 : decode cX7_isState 16 = .ok (.isub, 1) := by decide +kernel
theorem dX7_isState_17 : decode cX7_isState 17 = .ok (.i2l, 1) := by decide +kernel
theorem dX7_isState_18 : decode cX7_isState 18 = .ok (.invokestatic 68, 3) := by decide +kernel
theorem dX7_isState_21 : decode cX7_isState 21 = .ok (.ifCond .eq 7, 3) := by decide +kernel
theorem dX7_isState_24 : decode cX7_isState 24 = .ok (.iconst 1, 1) := by decide +kernel
theorem dX7_isState_25 : decode cX7_isState 25 = .ok (.goto 4, 3) := by decide +kernel
theorem dX7_isState_28 : decode cX7_isState 28 = .ok (.iconst 0, 1) := by decide +kernel
theorem dX7_isState_29 : decode cX7_isState 29 = .ok (.ireturn, 1) := by decide +kernel
theorem dX7_setEnd_0 : decode cX7_setEnd 0 = .ok (.aload_n 0, 1) := by decide +kernel
theorem dX7_setEnd_1 : decode cX7_setEnd 1 = .ok (.aload_n 0, 1) := by decide +kernel
theorem dX7_setEnd_2 : decode cX7_setEnd 2 = .ok (.iload_n 1, 1) := by decide +kernel
theorem dX7_setEnd_3 : decode cX7_setEnd 3 = .ok (.iload_n 2, 1) := by decide +kernel
theorem dX7_setEnd_4 : decode cX7_setEnd 4 = .ok (.invokevirtual 105, 3) := by decide +kernel
theorem dX7_setEnd_7 : decode cX7_setEnd 7 = .ok (.iload 4, 2) := by decide +kernel
theorem dX7_setEnd_9 : decode cX7_setEnd 9 = .ok (.invokestatic 109, 3) := by decide +kernel
theorem dX7_setEnd_12 : decode cX7_setEnd 12 = .ok (.iconst 1, 1) := by decide +kernel
theorem dX7_setEnd_13 : decode cX7_setEnd 13 = .ok (.invokevirtual 94, 3) := by decide +kernel
theorem dX7_setEnd_16 : decode cX7_setEnd 16 = .ok (.ifCond .ne 5, 3) := by decide +kernel
theorem dX7_setEnd_19 : decode cX7_setEnd 19 = .ok (.iconst 0, 1) := by decide +kernel
theorem dX7_setEnd_20 : decode cX7_setEnd 20 = .ok (.ireturn, 1) := by decide +kernel
theorem dX7_setEnd_21 : decode cX7_setEnd 21 = .ok (.aload_n 0, 1) := by decide +kernel
theorem dX7_setEnd_22 : decode cX7_setEnd 22 = .ok (.invokevirtual 98, 3) := by decide +kernel
theorem dX7_setEnd_25 : decode cX7_setEnd 25 = .ok (.iload_n 3, 1) := by decide +kernel
theorem dX7_setEnd_26 : decode cX7_setEnd 26 = .ok (.ifCond .eq 11, 3) := by decide +kernel
theorem dX7_setEnd_29 : decode cX7_setEnd 29 = .ok (.iload_n 1, 1) := by decide +kernel
theorem dX7_setEnd_30 : decode cX7_setEnd 30 = .ok (.iload_n 2, 1) := by decide +kernel
theorem dX7_setEnd_31 : decode cX7_setEnd 31 = .ok (.invokestatic 85, 3) := by decide +kernel
theorem dX7_setEnd_34 : decode cX7_setEnd 34 = .ok (.goto 8, 3) := by decide +kernel
theorem dX7_setEnd_37 : decode cX7_setEnd 37 = .ok (.iload_n 1, 1) := by decide +kernel
theorem dX7_setEnd_38 : decode cX7_setEnd 38 = .ok (.iload_n 2, 1) := by decide +kernel
theorem dX7_setEnd_39 : decode cX7_setEnd 39 = .ok (.invokestatic 82, 3) := by decide +kernel
theorem dX7_setEnd_42 : decode cX7_setEnd 42 = .ok (.istore 5, 2) := by decide +kernel
theorem dX7_setEnd_44 : decode cX7_setEnd 44 = .ok (.aload_n 0, 1) := by decide +kernel
theorem dX7_setEnd_45 : decode cX7_setEnd 45 = .ok (.getfield 7, 3) := by decide +kernel
theorem dX7_setEnd_48 : decode cX7_setEnd 48 = .ok (.iload 5, 2) := by decide +kernel
theorem dX7_setEnd_50 : decode cX7_setEnd 50 = .ok (.iaload, 1) := by decide +kernel
theorem dX7_setEnd_51 : decode cX7_setEnd 51 = .ok (.istore 6, 2) := by decide +kernel
theorem dX7_setEnd_53 : decode cX7_setEnd 53 = .ok (.aload_n 0, 1) := by decide +kernel
theorem dX7_setEnd_54 : decode cX7_setEnd 54 = .ok (.getfield 7, 3) := by decide +kernel
theorem dX7_setEnd_57 : decode cX7_setEnd 57 = .ok (.iload 5, 2) := by decide +kernel
theorem dX7_setEnd_59 : decode cX7_setEnd 59 = .ok (.iload 4, 2) := by decide +kernel
theorem dX7_setEnd_61 : decode cX7_setEnd 61 = .ok (.iastore, 1) := by decide +kernel
theorem dX7_setEnd_62 : decode cX7_setEnd 62 = .ok (.iload 6, 2) := by decide +kernel
theorem dX7_setEnd_64 : decode cX7_setEnd 64 = .ok (.ireturn, 1) := by decide +kernel
theorem dX7_isStep_0 : decode cX7_isStep 0 = .ok (.aload_n 0, 1) := by decide +kernel
theorem dX7_isStep_1 : decode cX7_isStep 1 = .ok (.iload_n 1, 1) := by decide +kernel
theorem dX7_isStep_2 : decode cX7_isStep 2 = .ok (.iload_n 3, 1) := by decide +kernel
theorem dX7_isStep_3 : decode cX7_isStep 3 = .ok (.invokevirtual 105, 3) := by decide +kernel
theorem dX7_isStep_6 : decode cX7_isStep 6 = .ok (.ifCond .eq 27, 3) := by decide +kernel
theorem dX7_isStep_9 : decode cX7_isStep 9 = .ok (.aload_n 0, 1) := by decide +kernel
theorem dX7_isStep_10 : decode cX7_isStep 10 = .ok (.iload_n 1, 1) := by decide +kernel
theorem dX7_isStep_11 : decode cX7_isStep 11 = .ok (.iload 4, 2) := by decide +kernel
theorem dX7_isStep_13 : decode cX7_isStep 13 = .ok (.invokevirtual 105, 3) := by decide +kernel
theorem dX7_isStep_16 : decode cX7_isStep 16 = .ok (.ifCond .eq 17, 3) := by decide +kernel
theorem dX7_isStep_19 : decode cX7_isStep 19 = .ok (.iload_n 2, 1) := by decide +kernel
theorem dX7_isStep_20 : decode cX7_isStep 20 = .ok (.i2l, 1) := by decide +kernel
theorem dX7_isStep_21 : decode cX7_isStep 21 = .ok (.lconst 0, 1) := by decide +kernel
theorem dX7_isStep_22 : decode cX7_isStep 22 = .ok (.lconst 1, 1) := by decide +kernel
theorem dX7_isStep_23 : decode cX7_isStep 23 = .ok (.invokestatic 68, 3) := by decide +kernel
theorem dX7_isStep_26 : decode cX7_isStep 26 = .ok (.ifCond .eq 7, 3) := by decide +kernel
theorem dX7_isStep_29 : decode cX7_isStep 29 = .ok (.iconst 1, 1) := by decide +kernel
theorem dX7_isStep_30 : decode cX7_isStep 30 = .ok (.goto 4, 3) := by decide +kernel
theorem dX7_isStep_33 : decode cX7_isStep 33 = .ok (.iconst 0, 1) := by decide +kernel
theorem dX7_isStep_34 : decode cX7_isStep 34 = .ok (.ireturn, 1) := by decide +kernel
theorem dX7_setStep_0 : decode cX7_setStep 0 = .ok (.aload_n 0, 1) := by decide +kernel
theorem dX7_setStep_1 : decode cX7_setStep 1 = .ok (.aload_n 0, 1) := by decide +kernel
theorem dX7_setStep_2 : decode cX7_setStep 2 = .ok (.iload_n 1, 1) := by decide +kernel
theorem dX7_setStep_3 : decode cX7_setStep 3 = .ok (.iload_n 2, 1) := by decide +kernel
theorem dX7_setStep_4 : decode cX7_setStep 4 = .ok (.iload_n 3, 1) := by decide +kernel
theorem dX7_setStep_5 : decode cX7_setStep 5 = .ok (.iload 4, 2) := by decide +kernel
theorem dX7_setStep_7 : decode cX7_setStep 7 = .ok (.invokevirtual 112, 3) := by decide +kernel
theorem dX7_setStep_10 : decode cX7_setStep 10 = .ok (.iload 5, 2) := by decide +kernel
theorem dX7_setStep_12 : decode cX7_setStep 12 = .ok (.invokestatic 109, 3) := by decide +kernel
theorem dX7_setStep_15 : decode cX7_setStep 15 = .ok (.iconst 1, 1) := by decide +kernel
theorem dX7_setStep_16 : decode cX7_setStep 16 = .ok (.invokevirtual 94, 3) := by decide +kernel
theorem dX7_setStep_19 : decode cX7_setStep 19 = .ok (.ifCond .ne 5, 3) := by decide +kernel
theorem dX7_setStep_22 : decode cX7_setStep 22 = .ok (.iconst 0, 1) := by decide +kernel
theorem dX7_setStep_23 : decode cX7_setStep 23 = .ok (.ireturn, 1) := by decide +kernel
theorem dX7_setStep_24 : decode cX7_setStep 24 = .ok (.aload_n 0, 1) := by decide +kernel
theorem dX7_setStep_25 : decode cX7_setStep 25 = .ok (.invokevirtual 98, 3) := by decide +kernel
theorem dX7_setStep_28 : decode cX7_setStep 28 = .ok (.aload_n 0, 1) := by decide +kernel
theorem dX7_setStep_29 : decode cX7_setStep 29 = .ok (.getfield 7, 3) := by decide +kernel
theorem dX7_setStep_32 : decode cX7_setStep 32 = .ok (.iload_n 1, 1) := by decide +kernel
theorem dX7_setStep_33 : decode cX7_setStep 33 = .ok (.iload_n 2, 1) := by decide +kernel
theorem dX7_setStep_34 : decode cX7_setStep 34 = .ok (.iload_n 3, 1) := by decide +kernel
theorem dX7_setStep_35 : decode cX7_setStep 35 = .ok (.iload 4, 2) := by decide +kernel
theorem dX7_setStep_37 : decode cX7_setStep 37 = .ok (.invokestatic 116, 3) := by decide +kernel
theorem dX7_setStep_40 : decode cX7_setStep 40 = .ok (.iaload, 1) := by decide +kernel
theorem dX7_setStep_41 : decode cX7_setStep 41 = .ok (.istore 6, 2) := by decide +kernel
theorem dX7_setStep_43 : decode cX7_setStep 43 = .ok (.aload_n 0, 1) := by decide +kernel
theorem dX7_setStep_44 : decode cX7_setStep 44 = .ok (.getfield 7, 3) := by decide +kernel
theorem dX7_setStep_47 : decode cX7_setStep 47 = .ok (.iload_n 1, 1) := by decide +kernel
theorem dX7_setStep_48 : decode cX7_setStep 48 = .ok (.iload_n 2, 1) := by decide +kernel
theorem dX7_setStep_49 : decode cX7_setStep 49 = .ok (.iload_n 3, 1) := by decide +kernel
theorem dX7_setStep_50 : decode cX7_setStep 50 = .ok (.iload 4, 2) := by decide +kernel
theorem dX7_setStep_52 : decode cX7_setStep 52 = .ok (.invokestatic 116, 3) := by decide +kernel
theorem dX7_setStep_55 : decode cX7_setStep 55 = .ok (.iload 5, 2) := by decide +kernel
theorem dX7_setStep_57 : decode cX7_setStep 57 = .ok (.iastore, 1) := by decide +kernel
theorem dX7_setStep_58 : decode cX7_setStep 58 = .ok (.iload 6, 2) := by decide +kernel
theorem dX7_setStep_60 : decode cX7_setStep 60 = .ok (.ireturn, 1) := by decide +kernel
theorem dX7_draws_0 : decode cX7_draws 0 = .ok (.aload_n 0, 1) := by decide +kernel
theorem dX7_draws_1 : decode cX7_draws 1 = .ok (.ldc2_w 120, 3) := by decide +kernel
theorem dX7_draws_4 : decode cX7_draws 4 = .ok (.aload_n 0, 1) := by decide +kernel
theorem dX7_draws_5 : decode cX7_draws 5 = .ok (.getfield 122, 3) := by decide +kernel
theorem dX7_draws_8 : decode cX7_draws 8 = .ok (.lmul, 1) := by decide +kernel
theorem dX7_draws_9 : decode cX7_draws 9 = .ok (.ldc2_w 126, 3) := by decide +kernel
theorem dX7_draws_12 : decode cX7_draws 12 = .ok (.ladd, 1) := by decide +kernel
theorem dX7_draws_13 : decode cX7_draws 13 = .ok (.ldc2_w 128, 3) := by decide +kernel
theorem dX7_draws_16 : decode cX7_draws 16 = .ok (.lrem, 1) := by decide +kernel
theorem dX7_draws_17 : decode cX7_draws 17 = .ok (.putfield 122, 3) := by decide +kernel
theorem dX7_draws_20 : decode cX7_draws 20 = .ok (.aload_n 0, 1) := by decide +kernel
theorem dX7_draws_21 : decode cX7_draws 21 = .ok (.getfield 122, 3) := by decide +kernel
theorem dX7_draws_24 : decode cX7_draws 24 = .ok (.ldc2_w 130, 3) := by decide +kernel
theorem dX7_draws_27 : decode cX7_draws 27 = .ok (.ldiv, 1) := by decide +kernel
theorem dX7_draws_28 : decode cX7_draws 28 = .ok (.ldc2_w 132, 3) := by decide +kernel
theorem dX7_draws_31 : decode cX7_draws 31 = .ok (.lrem, 1) := by decide +kernel
theorem dX7_draws_32 : decode cX7_draws 32 = .ok (.l2i, 1) := by decide +kernel
theorem dX7_draws_33 : decode cX7_draws 33 = .ok (.ireturn, 1) := by decide +kernel
theorem dX7_random_0 : decode cX7_random 0 = .ok (.aload_n 0, 1) := by decide +kernel
theorem dX7_random_1 : decode cX7_random 1 = .ok (.iload_n 1, 1) := by decide +kernel
theorem dX7_random_2 : decode cX7_random 2 = .ok (.invokestatic 88, 3) := by decide +kernel
theorem dX7_random_5 : decode cX7_random 5 = .ok (.iload_n 2, 1) := by decide +kernel
theorem dX7_random_6 : decode cX7_random 6 = .ok (.i2l, 1) := by decide +kernel
theorem dX7_random_7 : decode cX7_random 7 = .ok (.lconst 0, 1) := by decide +kernel
theorem dX7_random_8 : decode cX7_random 8 = .ok (.ldc2_w 92, 3) := by decide +kernel
theorem dX7_random_11 : decode cX7_random 11 = .ok (.invokestatic 68, 3) := by decide +kernel
theorem dX7_random_14 : decode cX7_random 14 = .ok (.ifCond .eq 19, 3) := by decide +kernel
theorem dX7_random_17 : decode cX7_random 17 = .ok (.iload_n 3, 1) := by decide +kernel
theorem dX7_random_18 : decode cX7_random 18 = .ok (.i2l, 1) := by decide +kernel
theorem dX7_random_19 : decode cX7_random 19 = .ok (.lconst 0, 1) := by decide +kernel
theorem dX7_random_20 : decode cX7_random 20 = .ok (.ldc2_w 134, 3) := by decide +kernel
theorem dX7_random_23 : decode cX7_random 23 = .ok (.invokestatic 68, 3) := by decide +kernel
theorem dX7_random_26 : decode cX7_random 26 = .ok (.ifCond .eq 7, 3) := by decide +kernel
theorem dX7_random_29 : decode cX7_random 29 = .ok (.iconst 1, 1) := by decide +kernel
theorem dX7_random_30 : decode cX7_random 30 = .ok (.goto 4, 3) := by decide +kernel
theorem dX7_random_33 : decode cX7_random 33 = .ok (.iconst 0, 1) := by decide +kernel
theorem dX7_random_34 : decode cX7_random 34 = .ok (.iconst 1, 1) := by decide +kernel
theorem dX7_random_35 : decode cX7_random 35 = .ok (.invokevirtual 94, 3) := by decide +kernel
theorem dX7_random_38 : decode cX7_random 38 = .ok (.ifCond .ne 5, 3) := by decide +kernel
theorem dX7_random_41 : decode cX7_random 41 = .ok (.iconst 0, 1) := by decide +kernel
theorem dX7_random_42 : decode cX7_random 42 = .ok (.ireturn, 1) := by decide +kernel
theorem dX7_random_43 : decode cX7_random 43 = .ok (.aload_n 0, 1) := by decide +kernel
theorem dX7_random_44 : decode cX7_random 44 = .ok (.invokevirtual 98, 3) := by decide +kernel
theorem dX7_random_47 : decode cX7_random 47 = .ok (.aload_n 0, 1) := by decide +kernel
theorem dX7_random_48 : decode cX7_random 48 = .ok (.iload_n 1, 1) := by decide +kernel
theorem dX7_random_49 : decode cX7_random 49 = .ok (.iload_n 2, 1) := by decide +kernel
theorem dX7_random_50 : decode cX7_random 50 = .ok (.invokevirtual 101, 3) := by decide +kernel
theorem dX7_random_53 : decode cX7_random 53 = .ok (.aload_n 0, 1) := by decide +kernel
theorem dX7_random_54 : decode cX7_random 54 = .ok (.iload_n 3, 1) := by decide +kernel
theorem dX7_random_55 : decode cX7_random 55 = .ok (.i2l, 1) := by decide +kernel
theorem dX7_random_56 : decode cX7_random 56 = .ok (.putfield 122, 3) := by decide +kernel
theorem dX7_random_59 : decode cX7_random 59 = .ok (.iconst 0, 1) := by decide +kernel
theorem dX7_random_60 : decode cX7_random 60 = .ok (.istore 4, 2) := by decide +kernel
theorem dX7_random_62 : decode cX7_random 62 = .ok (.iload 4, 2) := by decide +kernel
theorem dX7_random_64 : decode cX7_random 64 = .ok (.iload_n 2, 1) := by decide +kernel
theorem dX7_random_65 : decode cX7_random 65 = .ok (.if_icmp .ge 39, 3) := by decide +kernel
theorem dX7_random_68 : decode cX7_random 68 = .ok (.aload_n 0, 1) := by decide +kernel
theorem dX7_random_69 : decode cX7_random 69 = .ok (.getfield 7, 3) := by decide +kernel
theorem dX7_random_72 : decode cX7_random 72 = .ok (.iload_n 1, 1) := by decide +kernel
theorem dX7_random_73 : decode cX7_random 73 = .ok (.iload 4, 2) := by decide +kernel
theorem dX7_random_75 : decode cX7_random 75 = .ok (.invokestatic 82, 3) := by decide +kernel
theorem dX7_random_78 : decode cX7_random 78 = .ok (.aload_n 0, 1) := by decide +kernel
theorem dX7_random_79 : decode cX7_random 79 = .ok (.invokevirtual 136, 3) := by decide +kernel
theorem dX7_random_82 : decode cX7_random 82 = .ok (.iastore, 1) := by decide +kernel
theorem dX7_random_83 : decode cX7_random 83 = .ok (.aload_n 0, 1) := by decide +kernel
theorem dX7_random_84 : decode cX7_random 84 = .ok (.getfield 7, 3) := by decide +kernel
theorem dX7_random_87 : decode cX7_random 87 = .ok (.iload_n 1, 1) := by decide +kernel
theorem dX7_random_88 : decode cX7_random 88 = .ok (.iload 4, 2) := by decide +kernel
theorem dX7_random_90 : decode cX7_random 90 = .ok (.invokestatic 85, 3) := by decide +kernel
theorem dX7_random_93 : decode cX7_random 93 = .ok (.aload_n 0, 1) := by decide +kernel
theorem dX7_random_94 : decode cX7_random 94 = .ok (.invokevirtual 136, 3) := by decide +kernel
theorem dX7_random_97 : decode cX7_random 97 = .ok (.iastore, 1) := by decide +kernel
theorem dX7_random_98 : decode cX7_random 98 = .ok (.iinc 4 1, 3) := by decide +kernel
theorem dX7_random_101 : decode cX7_random 101 = .ok (.goto (-39), 3) := by decide +kernel
theorem dX7_random_104 : decode cX7_random 104 = .ok (.iconst 0, 1) := by decide +kernel
theorem dX7_random_105 : decode cX7_random 105 = .ok (.istore 4, 2) := by decide +kernel
theorem dX7_random_107 : decode cX7_random 107 = .ok (.iload 4, 2) := by decide +kernel
theorem dX7_random_109 : decode cX7_random 109 = .ok (.iconst 2, 1) := by decide +kernel
theorem dX7_random_110 : decode cX7_random 110 = .ok (.iload_n 2, 1) := by decide +kernel
theorem dX7_random_111 : decode cX7_random 111 = .ok (.imul, 1) := by decide +kernel
theorem dX7_random_112 : decode cX7_random 112 = .ok (.iload_n 2, 1) := by decide +kernel
theorem dX7_random_113 : decode cX7_random 113 = .ok (.imul, 1) := by decide +kernel
theorem dX7_random_114 : decode cX7_random 114 = .ok (.if_icmp .ge 48, 3) := by decide +kernel
theorem dX7_random_117 : decode cX7_random 117 = .ok (.iload 4, 2) := by decide +kernel
theorem dX7_random_119 : decode cX7_random 119 = .ok (.iload_n 2, 1) := by decide +kernel
theorem dX7_random_120 : decode cX7_random 120 = .ok (.iload_n 2, 1) := by decide +kernel
theorem dX7_random_121 : decode cX7_random 121 = .ok (.imul, 1) := by decide +kernel
theorem dX7_random_122 : decode cX7_random 122 = .ok (.idiv, 1) := by decide +kernel
theorem dX7_random_123 : decode cX7_random 123 = .ok (.istore 5, 2) := by decide +kernel
theorem dX7_random_125 : decode cX7_random 125 = .ok (.iload 4, 2) := by decide +kernel
theorem dX7_random_127 : decode cX7_random 127 = .ok (.iload_n 2, 1) := by decide +kernel
theorem dX7_random_128 : decode cX7_random 128 = .ok (.iload_n 2, 1) := by decide +kernel
theorem dX7_random_129 : decode cX7_random 129 = .ok (.imul, 1) := by decide +kernel
theorem dX7_random_130 : decode cX7_random 130 = .ok (.irem, 1) := by decide +kernel
theorem dX7_random_131 : decode cX7_random 131 = .ok (.istore 6, 2) := by decide +kernel
theorem dX7_random_133 : decode cX7_random 133 = .ok (.aload_n 0, 1) := by decide +kernel
theorem dX7_random_134 : decode cX7_random 134 = .ok (.getfield 7, 3) := by decide +kernel
theorem dX7_random_137 : decode cX7_random 137 = .ok (.iload_n 1, 1) := by decide +kernel
theorem dX7_random_138 : decode cX7_random 138 = .ok (.iload 5, 2) := by decide +kernel
theorem dX7_random_140 : decode cX7_random 140 = .ok (.iload 6, 2) := by decide +kernel
theorem dX7_random_142 : decode cX7_random 142 = .ok (.iload_n 2, 1) := by decide +kernel
theorem dX7_random_143 : decode cX7_random 143 = .ok (.idiv, 1) := by decide +kernel
theorem dX7_random_144 : decode cX7_random 144 = .ok (.iload 6, 2) := by decide +kernel
theorem dX7_random_146 : decode cX7_random 146 = .ok (.iload_n 2, 1) := by decide +kernel
theorem dX7_random_147 : decode cX7_random 147 = .ok (.irem, 1) := by decide +kernel
theorem dX7_random_148 : decode cX7_random 148 = .ok (.invokestatic 116, 3) := by decide +kernel
theorem dX7_random_151 : decode cX7_random 151 = .ok (.aload_n 0, 1) := by decide +kernel
theorem dX7_random_152 : decode cX7_random 152 = .ok (.invokevirtual 136, 3) := by decide +kernel
theorem dX7_random_155 : decode cX7_random 155 = .ok (.iastore, 1) := by decide +kernel
theorem dX7_random_156 : decode cX7_random 156 = .ok (.iinc 4 1, 3) := by decide +kernel
theorem dX7_random_159 : decode cX7_random 159 = .ok (.goto (-52), 3) := by decide +kernel
theorem dX7_random_162 : decode cX7_random 162 = .ok (.aload_n 0, 1) := by decide +kernel
theorem dX7_random_163 : decode cX7_random 163 = .ok (.iload_n 1, 1) := by decide +kernel
theorem dX7_random_164 : decode cX7_random 164 = .ok (.invokevirtual 140, 3) := by decide +kernel
theorem dX7_random_167 : decode cX7_random 167 = .ok (.ireturn, 1) := by decide +kernel
theorem dX7_states_0 : decode cX7_states 0 = .ok (.aload_n 0, 1) := by decide +kernel
theorem dX7_states_1 : decode cX7_states 1 = .ok (.iload_n 1, 1) := by decide +kernel
theorem dX7_states_2 : decode cX7_states 2 = .ok (.invokestatic 88, 3) := by decide +kernel
theorem dX7_states_5 : decode cX7_states 5 = .ok (.iconst 1, 1) := by decide +kernel
theorem dX7_states_6 : decode cX7_states 6 = .ok (.iconst 1, 1) := by decide +kernel
theorem dX7_states_7 : decode cX7_states 7 = .ok (.invokevirtual 94, 3) := by decide +kernel
theorem dX7_states_10 : decode cX7_states 10 = .ok (.ifCond .eq 11, 3) := by decide +kernel
theorem dX7_states_13 : decode cX7_states 13 = .ok (.aload_n 0, 1) := by decide +kernel
theorem dX7_states_14 : decode cX7_states 14 = .ok (.iload_n 1, 1) := by decide +kernel
theorem dX7_states_15 : decode cX7_states 15 = .ok (.invokevirtual 78, 3) := by decide +kernel
theorem dX7_states_18 : decode cX7_states 18 = .ok (.goto 4, 3) := by decide +kernel
theorem dX7_states_21 : decode cX7_states 21 = .ok (.iconst 0, 1) := by decide +kernel
theorem dX7_states_22 : decode cX7_states 22 = .ok (.ireturn, 1) := by decide +kernel
theorem dX7_end_0 : decode cX7_end 0 = .ok (.aload_n 0, 1) := by decide +kernel
theorem dX7_end_1 : decode cX7_end 1 = .ok (.aload_n 0, 1) := by decide +kernel
theorem dX7_end_2 : decode cX7_end 2 = .ok (.iload_n 1, 1) := by decide +kernel
theorem dX7_end_3 : decode cX7_end 3 = .ok (.iload_n 2, 1) := by decide +kernel
theorem dX7_end_4 : decode cX7_end 4 = .ok (.invokevirtual 105, 3) := by decide +kernel
theorem dX7_end_7 : decode cX7_end 7 = .ok (.iconst 1, 1) := by decide +kernel
theorem dX7_end_8 : decode cX7_end 8 = .ok (.iconst 1, 1) := by decide +kernel
theorem dX7_end_9 : decode cX7_end 9 = .ok (.invokevirtual 94, 3) := by decide +kernel
theorem dX7_end_12 : decode cX7_end 12 = .ok (.ifCond .eq 28, 3) := by decide +kernel
theorem dX7_end_15 : decode cX7_end 15 = .ok (.aload_n 0, 1) := by decide +kernel
theorem dX7_end_16 : decode cX7_end 16 = .ok (.getfield 7, 3) := by decide +kernel
theorem dX7_end_19 : decode cX7_end 19 = .ok (.iload_n 3, 1) := by decide +kernel
theorem dX7_end_20 : decode cX7_end 20 = .ok (.ifCond .eq 11, 3) := by decide +kernel
theorem dX7_end_23 : decode cX7_end 23 = .ok (.iload_n 1, 1) := by decide +kernel
theorem dX7_end_24 : decode cX7_end 24 = .ok (.iload_n 2, 1) := by decide +kernel
theorem dX7_end_25 : decode cX7_end 25 = .ok (.invokestatic 85, 3) := by decide +kernel
theorem dX7_end_28 : decode cX7_end 28 = .ok (.goto 8, 3) := by decide +kernel
theorem dX7_end_31 : decode cX7_end 31 = .ok (.iload_n 1, 1) := by decide +kernel
theorem dX7_end_32 : decode cX7_end 32 = .ok (.iload_n 2, 1) := by decide +kernel
theorem dX7_end_33 : decode cX7_end 33 = .ok (.invokestatic 82, 3) := by decide +kernel
theorem dX7_end_36 : decode cX7_end 36 = .ok (.iaload, 1) := by decide +kernel
theorem dX7_end_37 : decode cX7_end 37 = .ok (.goto 4, 3) := by decide +kernel
theorem dX7_end_40 : decode cX7_end 40 = .ok (.iconst 0, 1) := by decide +kernel
theorem dX7_end_41 : decode cX7_end 41 = .ok (.ireturn, 1) := by decide +kernel
theorem dX7_step_0 : decode cX7_step 0 = .ok (.aload_n 0, 1) := by decide +kernel
theorem dX7_step_1 : decode cX7_step 1 = .ok (.aload_n 0, 1) := by decide +kernel
theorem dX7_step_2 : decode cX7_step 2 = .ok (.iload_n 1, 1) := by decide +kernel
theorem dX7_step_3 : decode cX7_step 3 = .ok (.iload_n 2, 1) := by decide +kernel
theorem dX7_step_4 : decode cX7_step 4 = .ok (.iload_n 3, 1) := by decide +kernel
theorem dX7_step_5 : decode cX7_step 5 = .ok (.iload 4, 2) := by decide +kernel
theorem dX7_step_7 : decode cX7_step 7 = .ok (.invokevirtual 112, 3) := by decide +kernel
theorem dX7_step_10 : decode cX7_step 10 = .ok (.iconst 1, 1) := by decide +kernel
theorem dX7_step_11 : decode cX7_step 11 = .ok (.iconst 1, 1) := by decide +kernel
theorem dX7_step_12 : decode cX7_step 12 = .ok (.invokevirtual 94, 3) := by decide +kernel
theorem dX7_step_15 : decode cX7_step 15 = .ok (.ifCond .eq 19, 3) := by decide +kernel
theorem dX7_step_18 : decode cX7_step 18 = .ok (.aload_n 0, 1) := by decide +kernel
theorem dX7_step_19 : decode cX7_step 19 = .ok (.getfield 7, 3) := by decide +kernel
theorem dX7_step_22 : decode cX7_step 22 = .ok (.iload_n 1, 1) := by decide +kernel
theorem dX7_step_23 : decode cX7_step 23 = .ok (.iload_n 2, 1) := by decide +kernel
theorem dX7_step_24 : decode cX7_step 24 = .ok (.iload_n 3, 1) := by decide +kernel
theorem dX7_step_25 : decode cX7_step 25 = .ok (.iload 4, 2) := by decide +kernel
theorem dX7_step_27 : decode cX7_step 27 = .ok (.invokestatic 116, 3) := by decide +kernel
theorem dX7_step_30 : decode cX7_step 30 = .ok (.iaload, 1) := by decide +kernel
theorem dX7_step_31 : decode cX7_step 31 = .ok (.goto 4, 3) := by decide +kernel
theorem dX7_step_34 : decode cX7_step 34 = .ok (.iconst 0, 1) := by decide +kernel
theorem dX7_step_35 : decode cX7_step 35 = .ok (.ireturn, 1) := by decide +kernel
theorem dX7_laysInitial_0 : decode cX7_laysInitial 0 = .ok (.iconst 0, 1) := by decide +kernel
theorem dX7_laysInitial_1 : decode cX7_laysInitial 1 = .ok (.istore_n 3, 1) := by decide +kernel
theorem dX7_laysInitial_2 : decode cX7_laysInitial 2 = .ok (.iload_n 3, 1) := by decide +kernel
theorem dX7_laysInitial_3 : decode cX7_laysInitial 3 = .ok (.aload_n 0, 1) := by decide +kernel
theorem dX7_laysInitial_4 : decode cX7_laysInitial 4 = .ok (.iload_n 1, 1) := by decide +kernel
theorem dX7_laysInitial_5 : decode cX7_laysInitial 5 = .ok (.invokevirtual 78, 3) := by decide +kernel
theorem dX7_laysInitial_8 : decode cX7_laysInitial 8 = .ok (.if_icmp .ge 27, 3) := by decide +kernel
theorem dX7_laysInitial_11 : decode cX7_laysInitial 11 = .ok (.aload_n 0, 1) := by decide +kernel
theorem dX7_laysInitial_12 : decode cX7_laysInitial 12 = .ok (.getfield 16, 3) := by decide +kernel
theorem dX7_laysInitial_15 : decode cX7_laysInitial 15 = .ok (.iload_n 2, 1) := by decide +kernel
theorem dX7_laysInitial_16 : decode cX7_laysInitial 16 = .ok (.iload_n 3, 1) := by decide +kernel
theorem dX7_laysInitial_17 : decode cX7_laysInitial 17 = .ok (.iadd, 1) := by decide +kernel
theorem dX7_laysInitial_18 : decode cX7_laysInitial 18 = .ok (.aload_n 0, 1) := by decide +kernel
theorem dX7_laysInitial_19 : decode cX7_laysInitial 19 = .ok (.getfield 7, 3) := by decide +kernel
theorem dX7_laysInitial_22 : decode cX7_laysInitial 22 = .ok (.iload_n 1, 1) := by decide +kernel
theorem dX7_laysInitial_23 : decode cX7_laysInitial 23 = .ok (.iload_n 3, 1) := by decide +kernel
theorem dX7_laysInitial_24 : decode cX7_laysInitial 24 = .ok (.invokestatic 82, 3) := by decide +kernel
theorem dX7_laysInitial_27 : decode cX7_laysInitial 27 = .ok (.iaload, 1) := by decide +kernel
theorem dX7_laysInitial_28 : decode cX7_laysInitial 28 = .ok (.iastore, 1) := by decide +kernel
theorem dX7_laysInitial_29 : decode cX7_laysInitial 29 = .ok (.iinc 3 1, 3) := by decide +kernel
theorem dX7_laysInitial_32 : decode cX7_laysInitial 32 = .ok (.goto (-30), 3) := by decide +kernel
theorem dX7_laysInitial_35 : decode cX7_laysInitial 35 = .ok (.return_, 1) := by decide +kernel
theorem dX7_passes_0 : decode cX7_passes 0 = .ok (.iconst 0, 1) := by decide +kernel
theorem dX7_passes_1 : decode cX7_passes 1 = .ok (.istore 4, 2) := by decide +kernel
theorem dX7_passes_3 : decode cX7_passes 3 = .ok (.iload 4, 2) := by decide +kernel
theorem dX7_passes_5 : decode cX7_passes 5 = .ok (.aload_n 0, 1) := by decide +kernel
theorem dX7_passes_6 : decode cX7_passes 6 = .ok (.iload_n 1, 1) := by decide +kernel
theorem dX7_passes_7 : decode cX7_passes 7 = .ok (.invokevirtual 78, 3) := by decide +kernel
theorem dX7_passes_10 : decode cX7_passes 10 = .ok (.if_icmp .ge 114, 3) := by decide +kernel
theorem dX7_passes_13 : decode cX7_passes 13 = .ok (.iconst 0, 1) := by decide +kernel
theorem dX7_passes_14 : decode cX7_passes 14 = .ok (.istore 5, 2) := by decide +kernel
theorem dX7_passes_16 : decode cX7_passes 16 = .ok (.iconst 0, 1) := by decide +kernel
theorem dX7_passes_17 : decode cX7_passes 17 = .ok (.istore 6, 2) := by decide +kernel
theorem dX7_passes_19 : decode cX7_passes 19 = .ok (.iload 6, 2) := by decide +kernel
theorem dX7_passes_21 : decode cX7_passes 21 = .ok (.aload_n 0, 1) := by decide +kernel
theorem dX7_passes_22 : decode cX7_passes 22 = .ok (.iload_n 1, 1) := by decide +kernel
theorem dX7_passes_23 : decode cX7_passes 23 = .ok (.invokevirtual 78, 3) := by decide +kernel
theorem dX7_passes_26 : decode cX7_passes 26 = .ok (.if_icmp .ge 83, 3) := by decide +kernel
theorem dX7_passes_29 : decode cX7_passes 29 = .ok (.iload_n 3, 1) := by decide +kernel
theorem dX7_passes_30 : decode cX7_passes 30 = .ok (.iconst 2, 1) := by decide +kernel
theorem dX7_passes_31 : decode cX7_passes 31 = .ok (.if_icmp .ne 35, 3) := by decide +kernel
theorem dX7_passes_34 : decode cX7_passes 34 = .ok (.aload_n 0, 1) := by decide +kernel
theorem dX7_passes_35 : decode cX7_passes 35 = .ok (.getfield 7, 3) := by decide +kernel
theorem dX7_passes_38 : decode cX7_passes 38 = .ok (.iload_n 1, 1) := by decide +kernel
theorem dX7_passes_39 : decode cX7_passes 39 = .ok (.iconst 0, 1) := by decide +kernel
theorem dX7_passes_40 : decode cX7_passes 40 = .ok (.iload 6, 2) := by decide +kernel
theorem dX7_passes_42 : decode cX7_passes 42 = .ok (.iload 4, 2) := by decide +kernel
theorem dX7_passes_44 : decode cX7_passes 44 = .ok (.invokestatic 116, 3) := by decide +kernel
theorem dX7_passes_47 : decode cX7_passes 47 = .ok (.iaload, 1) := by decide +kernel
theorem dX7_passes_48 : decode cX7_passes 48 = .ok (.aload_n 0, 1) := by decide +kernel
theorem dX7_passes_49 : decode cX7_passes 49 = .ok (.getfield 7, 3) := by decide +kernel
theorem dX7_passes_52 : decode cX7_passes 52 = .ok (.iload_n 1, 1) := by decide +kernel
theorem dX7_passes_53 : decode cX7_passes 53 = .ok (.iconst 1, 1) := by decide +kernel
theorem dX7_passes_54 : decode cX7_passes 54 = .ok (.iload 6, 2) := by decide +kernel
theorem dX7_passes_56 : decode cX7_passes 56 = .ok (.iload 4, 2) := by decide +kernel
theorem dX7_passes_58 : decode cX7_passes 58 = .ok (.invokestatic 116, 3) := by decide +kernel
theorem dX7_passes_61 : decode cX7_passes 61 = .ok (.iaload, 1) := by decide +kernel
theorem dX7_passes_62 : decode cX7_passes 62 = .ok (.iadd, 1) := by decide +kernel
theorem dX7_passes_63 : decode cX7_passes 63 = .ok (.goto 17, 3) := by decide +kernel
theorem dX7_passes_66 : decode cX7_passes 66 = .ok (.aload_n 0, 1) := by decide +kernel
theorem dX7_passes_67 : decode cX7_passes 67 = .ok (.getfield 7, 3) := by decide +kernel
theorem dX7_passes_70 : decode cX7_passes 70 = .ok (.iload_n 1, 1) := by decide +kernel
theorem dX7_passes_71 : decode cX7_passes 71 = .ok (.iload_n 3, 1) := by decide +kernel
theorem dX7_passes_72 : decode cX7_passes 72 = .ok (.iload 6, 2) := by decide +kernel
theorem dX7_passes_74 : decode cX7_passes 74 = .ok (.iload 4, 2) := by decide +kernel
theorem dX7_passes_76 : decode cX7_passes 76 = .ok (.invokestatic 116, 3) := by decide +kernel
theorem dX7_passes_79 : decode cX7_passes 79 = .ok (.iaload, 1) := by decide +kernel
theorem dX7_passes_80 : decode cX7_passes 80 = .ok (.istore 7, 2) := by decide +kernel
theorem dX7_passes_82 : decode cX7_passes 82 = .ok (.iload 5, 2) := by decide +kernel
theorem dX7_passes_84 : decode cX7_passes 84 = .ok (.aload_n 0, 1) := by decide +kernel
theorem dX7_passes_85 : decode cX7_passes 85 = .ok (.getfield 16, 3) := by decide +kernel
theorem dX7_passes_88 : decode cX7_passes 88 = .ok (.iload_n 2, 1) := by decide +kernel
theorem dX7_passes_89 : decode cX7_passes 89 = .ok (.iload 6, 2) := by decide +kernel
theorem dX7_passes_91 : decode cX7_passes 91 = .ok (.iadd, 1) := by decide +kernel
theorem dX7_passes_92 : decode cX7_passes 92 = .ok (.iaload, 1) := by decide +kernel
theorem dX7_passes_93 : decode cX7_passes 93 = .ok (.iload 7, 2) := by decide +kernel
theorem dX7_passes_95 : decode cX7_passes 95 = .ok (.imul, 1) := by decide +kernel
theorem dX7_passes_96 : decode cX7_passes 96 = .ok (.iadd, 1) := by decide +kernel
theorem dX7_passes_97 : decode cX7_passes 97 = .ok (.sipush 10007, 3) := by decide +kernel
theorem dX7_passes_100 : decode cX7_passes 100 = .ok (.irem, 1) := by decide +kernel
theorem dX7_passes_101 : decode cX7_passes 101 = .ok (.istore 5, 2) := by decide +kernel
theorem dX7_passes_103 : decode cX7_passes 103 = .ok (.iinc 6 1, 3) := by decide +kernel
theorem dX7_passes_106 : decode cX7_passes 106 = .ok (.goto (-87), 3) := by decide +kernel
theorem dX7_passes_109 : decode cX7_passes 109 = .ok (.aload_n 0, 1) := by decide +kernel
theorem dX7_passes_110 : decode cX7_passes 110 = .ok (.getfield 19, 3) := by decide +kernel
theorem dX7_passes_113 : decode cX7_passes 113 = .ok (.iload 4, 2) := by decide +kernel
theorem dX7_passes_115 : decode cX7_passes 115 = .ok (.iload 5, 2) := by decide +kernel
theorem dX7_passes_117 : decode cX7_passes 117 = .ok (.iastore, 1) := by decide +kernel
theorem dX7_passes_118 : decode cX7_passes 118 = .ok (.iinc 4 1, 3) := by decide +kernel
theorem dX7_passes_121 : decode cX7_passes 121 = .ok (.goto (-118), 3) := by decide +kernel
theorem dX7_passes_124 : decode cX7_passes 124 = .ok (.iconst 0, 1) := by decide +kernel
theorem dX7_passes_125 : decode cX7_passes 125 = .ok (.istore 4, 2) := by decide +kernel
theorem dX7_passes_127 : decode cX7_passes 127 = .ok (.iload 4, 2) := by decide +kernel
theorem dX7_passes_129 : decode cX7_passes 129 = .ok (.aload_n 0, 1) := by decide +kernel
theorem dX7_passes_130 : decode cX7_passes 130 = .ok (.iload_n 1, 1) := by decide +kernel
theorem dX7_passes_131 : decode cX7_passes 131 = .ok (.invokevirtual 78, 3) := by decide +kernel
theorem dX7_passes_134 : decode cX7_passes 134 = .ok (.if_icmp .ge 25, 3) := by decide +kernel
theorem dX7_passes_137 : decode cX7_passes 137 = .ok (.aload_n 0, 1) := by decide +kernel
theorem dX7_passes_138 : decode cX7_passes 138 = .ok (.getfield 16, 3) := by decide +kernel
theorem dX7_passes_141 : decode cX7_passes 141 = .ok (.iload_n 2, 1) := by decide +kernel
theorem dX7_passes_142 : decode cX7_passes 142 = .ok (.iload 4, 2) := by decide +kernel
theorem dX7_passes_144 : decode cX7_passes 144 = .ok (.iadd, 1) := by decide +kernel
theorem dX7_passes_145 : decode cX7_passes 145 = .ok (.aload_n 0, 1) := by decide +kernel
theorem dX7_passes_146 : decode cX7_passes 146 = .ok (.getfield 19, 3) := by decide +kernel
theorem dX7_passes_149 : decode cX7_passes 149 = .ok (.iload 4, 2) := by decide +kernel
theorem dX7_passes_151 : decode cX7_passes 151 = .ok (.iaload, 1) := by decide +kernel
theorem dX7_passes_152 : decode cX7_passes 152 = .ok (.iastore, 1) := by decide +kernel
theorem dX7_passes_153 : decode cX7_passes 153 = .ok (.iinc 4 1, 3) := by decide +kernel
theorem dX7_passes_156 : decode cX7_passes 156 = .ok (.goto (-29), 3) := by decide +kernel
theorem dX7_passes_159 : decode cX7_passes 159 = .ok (.return_, 1) := by decide +kernel
theorem dX7_ends_0 : decode cX7_ends 0 = .ok (.iconst 0, 1) := by decide +kernel
theorem dX7_ends_1 : decode cX7_ends 1 = .ok (.istore_n 3, 1) := by decide +kernel
theorem dX7_ends_2 : decode cX7_ends 2 = .ok (.iconst 0, 1) := by decide +kernel
theorem dX7_ends_3 : decode cX7_ends 3 = .ok (.istore 4, 2) := by decide +kernel
theorem dX7_ends_5 : decode cX7_ends 5 = .ok (.iload 4, 2) := by decide +kernel
theorem dX7_ends_7 : decode cX7_ends 7 = .ok (.aload_n 0, 1) := by decide +kernel
theorem dX7_ends_8 : decode cX7_ends 8 = .ok (.iload_n 1, 1) := by decide +kernel
theorem dX7_ends_9 : decode cX7_ends 9 = .ok (.invokevirtual 78, 3) := by decide +kernel
theorem dX7_ends_12 : decode cX7_ends 12 = .ok (.if_icmp .ge 37, 3) := by decide +kernel
theorem dX7_ends_15 : decode cX7_ends 15 = .ok (.iload_n 3, 1) := by decide +kernel
theorem dX7_ends_16 : decode cX7_ends 16 = .ok (.aload_n 0, 1) := by decide +kernel
theorem dX7_ends_17 : decode cX7_ends 17 = .ok (.getfield 16, 3) := by decide +kernel
theorem dX7_ends_20 : decode cX7_ends 20 = .ok (.iload_n 2, 1) := by decide +kernel
theorem dX7_ends_21 : decode cX7_ends 21 = .ok (.iload 4, 2) := by decide +kernel
theorem dX7_ends_23 : decode cX7_ends 23 = .ok (.iadd, 1) := by decide +kernel
theorem dX7_ends_24 : decode cX7_ends 24 = .ok (.iaload, 1) := by decide +kernel
theorem dX7_ends_25 : decode cX7_ends 25 = .ok (.aload_n 0, 1) := by decide +kernel
theorem dX7_ends_26 : decode cX7_ends 26 = .ok (.getfield 7, 3) := by decide +kernel
theorem dX7_ends_29 : decode cX7_ends 29 = .ok (.iload_n 1, 1) := by decide +kernel
theorem dX7_ends_30 : decode cX7_ends 30 = .ok (.iload 4, 2) := by decide +kernel
theorem dX7_ends_32 : decode cX7_ends 32 = .ok (.invokestatic 85, 3) := by decide +kernel
theorem dX7_ends_35 : decode cX7_ends 35 = .ok (.iaload, 1) := by decide +kernel
theorem dX7_ends_36 : decode cX7_ends 36 = .ok (.imul, 1) := by decide +kernel
theorem dX7_ends_37 : decode cX7_ends 37 = .ok (.iadd, 1) := by decide +kernel
theorem dX7_ends_38 : decode cX7_ends 38 = .ok (.sipush 10007, 3) := by decide +kernel
theorem dX7_ends_41 : decode cX7_ends 41 = .ok (.irem, 1) := by decide +kernel
theorem dX7_ends_42 : decode cX7_ends 42 = .ok (.istore_n 3, 1) := by decide +kernel
theorem dX7_ends_43 : decode cX7_ends 43 = .ok (.iinc 4 1, 3) := by decide +kernel
theorem dX7_ends_46 : decode cX7_ends 46 = .ok (.goto (-41), 3) := by decide +kernel
theorem dX7_ends_49 : decode cX7_ends 49 = .ok (.iload_n 3, 1) := by decide +kernel
theorem dX7_ends_50 : decode cX7_ends 50 = .ok (.ireturn, 1) := by decide +kernel
theorem dX7_passesWord_0 : decode cX7_passesWord 0 = .ok (.iconst 1, 1) := by decide +kernel
theorem dX7_passesWord_1 : decode cX7_passesWord 1 = .ok (.istore_n 3, 1) := by decide +kernel
theorem dX7_passesWord_2 : decode cX7_passesWord 2 = .ok (.iconst 2, 1) := by decide +kernel
theorem dX7_passesWord_3 : decode cX7_passesWord 3 = .ok (.iload_n 3, 1) := by decide +kernel
theorem dX7_passesWord_4 : decode cX7_passesWord 4 = .ok (.imul, 1) := by decide +kernel
theorem dX7_passesWord_5 : decode cX7_passesWord 5 = .ok (.iload_n 2, 1) := by decide +kernel
theorem dX7_passesWord_6 : decode cX7_passesWord 6 = .ok (.iconst 1, 1) := by decide +kernel
theorem dX7_passesWord_7 : decode cX7_passesWord 7 = .ok (.iadd, 1) := by decide +kernel
theorem dX7_passesWord_8 : decode cX7_passesWord 8 = .ok (.if_icmp .gt 10, 3) := by decide +kernel
theorem dX7_passesWord_11 : decode cX7_passesWord 11 = .ok (.iload_n 3, 1) := by decide +kernel
theorem dX7_passesWord_12 : decode cX7_passesWord 12 = .ok (.iconst 2, 1) := by decide +kernel
theorem dX7_passesWord_13 : decode cX7_passesWord 13 = .ok (.imul, 1) := by decide +kernel
theorem dX7_passesWord_14 : decode cX7_passesWord 14 = .ok (.istore_n 3, 1) := by decide +kernel
theorem dX7_passesWord_15 : decode cX7_passesWord 15 = .ok (.goto (-13), 3) := by decide +kernel
theorem dX7_passesWord_18 : decode cX7_passesWord 18 = .ok (.iload_n 3, 1) := by decide +kernel
theorem dX7_passesWord_19 : decode cX7_passesWord 19 = .ok (.iconst 2, 1) := by decide +kernel
theorem dX7_passesWord_20 : decode cX7_passesWord 20 = .ok (.idiv, 1) := by decide +kernel
theorem dX7_passesWord_21 : decode cX7_passesWord 21 = .ok (.istore 4, 2) := by decide +kernel
theorem dX7_passesWord_23 : decode cX7_passesWord 23 = .ok (.iload 4, 2) := by decide +kernel
theorem dX7_passesWord_25 : decode cX7_passesWord 25 = .ok (.ifCond .le 26, 3) := by decide +kernel
theorem dX7_passesWord_28 : decode cX7_passesWord 28 = .ok (.aload_n 0, 1) := by decide +kernel
theorem dX7_passesWord_29 : decode cX7_passesWord 29 = .ok (.iload_n 1, 1) := by decide +kernel
theorem dX7_passesWord_30 : decode cX7_passesWord 30 = .ok (.iconst 0, 1) := by decide +kernel
theorem dX7_passesWord_31 : decode cX7_passesWord 31 = .ok (.iload_n 2, 1) := by decide +kernel
theorem dX7_passesWord_32 : decode cX7_passesWord 32 = .ok (.iconst 1, 1) := by decide +kernel
theorem dX7_passesWord_33 : decode cX7_passesWord 33 = .ok (.iadd, 1) := by decide +kernel
theorem dX7_passesWord_34 : decode cX7_passesWord 34 = .ok (.iload 4, 2) := by decide +kernel
theorem dX7_passesWord_36 : decode cX7_passesWord 36 = .ok (.idiv, 1) := by decide +kernel
theorem dX7_passesWord_37 : decode cX7_passesWord 37 = .ok (.iconst 2, 1) := by decide +kernel
theorem dX7_passesWord_38 : decode cX7_passesWord 38 = .ok (.irem, 1) := by decide +kernel
theorem dX7_passesWord_39 : decode cX7_passesWord 39 = .ok (.invokevirtual 143, 3) := by decide +kernel
theorem dX7_passesWord_42 : decode cX7_passesWord 42 = .ok (.iload 4, 2) := by decide +kernel
theorem dX7_passesWord_44 : decode cX7_passesWord 44 = .ok (.iconst 2, 1) := by decide +kernel
theorem dX7_passesWord_45 : decode cX7_passesWord 45 = .ok (.idiv, 1) := by decide +kernel
theorem dX7_passesWord_46 : decode cX7_passesWord 46 = .ok (.istore 4, 2) := by decide +kernel
theorem dX7_passesWord_48 : decode cX7_passesWord 48 = .ok (.goto (-25), 3) := by decide +kernel
theorem dX7_passesWord_51 : decode cX7_passesWord 51 = .ok (.return_, 1) := by decide +kernel
theorem dX7_weighs_0 : decode cX7_weighs 0 = .ok (.aload_n 0, 1) := by decide +kernel
theorem dX7_weighs_1 : decode cX7_weighs 1 = .ok (.iload_n 1, 1) := by decide +kernel
theorem dX7_weighs_2 : decode cX7_weighs 2 = .ok (.iconst 0, 1) := by decide +kernel
theorem dX7_weighs_3 : decode cX7_weighs 3 = .ok (.invokevirtual 147, 3) := by decide +kernel
theorem dX7_weighs_6 : decode cX7_weighs 6 = .ok (.aload_n 0, 1) := by decide +kernel
theorem dX7_weighs_7 : decode cX7_weighs 7 = .ok (.iload_n 1, 1) := by decide +kernel
theorem dX7_weighs_8 : decode cX7_weighs 8 = .ok (.iload_n 2, 1) := by decide +kernel
theorem dX7_weighs_9 : decode cX7_weighs 9 = .ok (.invokevirtual 150, 3) := by decide +kernel
theorem dX7_weighs_12 : decode cX7_weighs 12 = .ok (.aload_n 0, 1) := by decide +kernel
theorem dX7_weighs_13 : decode cX7_weighs 13 = .ok (.iload_n 1, 1) := by decide +kernel
theorem dX7_weighs_14 : decode cX7_weighs 14 = .ok (.iconst 0, 1) := by decide +kernel
theorem dX7_weighs_15 : decode cX7_weighs 15 = .ok (.invokevirtual 153, 3) := by decide +kernel
theorem dX7_weighs_18 : decode cX7_weighs 18 = .ok (.ireturn, 1) := by decide +kernel
theorem dX7_weight_0 : decode cX7_weight 0 = .ok (.aload_n 0, 1) := by decide +kernel
theorem dX7_weight_1 : decode cX7_weight 1 = .ok (.iload_n 1, 1) := by decide +kernel
theorem dX7_weight_2 : decode cX7_weight 2 = .ok (.invokestatic 88, 3) := by decide +kernel
theorem dX7_weight_5 : decode cX7_weight 5 = .ok (.iload_n 2, 1) := by decide +kernel
theorem dX7_weight_6 : decode cX7_weight 6 = .ok (.i2l, 1) := by decide +kernel
theorem dX7_weight_7 : decode cX7_weight 7 = .ok (.lconst 0, 1) := by decide +kernel
theorem dX7_weight_8 : decode cX7_weight 8 = .ok (.ldc2_w 156, 3) := by decide +kernel
theorem dX7_weight_11 : decode cX7_weight 11 = .ok (.invokestatic 68, 3) := by decide +kernel
theorem dX7_weight_14 : decode cX7_weight 14 = .ok (.iconst 1, 1) := by decide +kernel
theorem dX7_weight_15 : decode cX7_weight 15 = .ok (.invokevirtual 94, 3) := by decide +kernel
theorem dX7_weight_18 : decode cX7_weight 18 = .ok (.ifCond .eq 12, 3) := by decide +kernel
theorem dX7_weight_21 : decode cX7_weight 21 = .ok (.aload_n 0, 1) := by decide +kernel
theorem dX7_weight_22 : decode cX7_weight 22 = .ok (.iload_n 1, 1) := by decide +kernel
theorem dX7_weight_23 : decode cX7_weight 23 = .ok (.iload_n 2, 1) := by decide +kernel
theorem dX7_weight_24 : decode cX7_weight 24 = .ok (.invokevirtual 158, 3) := by decide +kernel
theorem dX7_weight_27 : decode cX7_weight 27 = .ok (.goto 4, 3) := by decide +kernel
theorem dX7_weight_30 : decode cX7_weight 30 = .ok (.iconst 0, 1) := by decide +kernel
theorem dX7_weight_31 : decode cX7_weight 31 = .ok (.ireturn, 1) := by decide +kernel
theorem dX7_powerWeight_0 : decode cX7_powerWeight 0 = .ok (.aload_n 0, 1) := by decide +kernel
theorem dX7_powerWeight_1 : decode cX7_powerWeight 1 = .ok (.iload_n 1, 1) := by decide +kernel
theorem dX7_powerWeight_2 : decode cX7_powerWeight 2 = .ok (.invokestatic 88, 3) := by decide +kernel
theorem dX7_powerWeight_5 : decode cX7_powerWeight 5 = .ok (.iload_n 2, 1) := by decide +kernel
theorem dX7_powerWeight_6 : decode cX7_powerWeight 6 = .ok (.i2l, 1) := by decide +kernel
theorem dX7_powerWeight_7 : decode cX7_powerWeight 7 = .ok (.lconst 0, 1) := by decide +kernel
theorem dX7_powerWeight_8 : decode cX7_powerWeight 8 = .ok (.ldc2_w 156, 3) := by decide +kernel
theorem dX7_powerWeight_11 : decode cX7_powerWeight 11 = .ok (.invokestatic 68, 3) := by decide +kernel
theorem dX7_powerWeight_14 : decode cX7_powerWeight 14 = .ok (.ifCond .eq 19, 3) := by decide +kernel
theorem dX7_powerWeight_17 : decode cX7_powerWeight 17 = .ok (.iload_n 3, 1) := by decide +kernel
theorem dX7_powerWeight_18 : decode cX7_powerWeight 18 = .ok (.i2l, 1) := by decide +kernel
theorem dX7_powerWeight_19 : decode cX7_powerWeight 19 = .ok (.lconst 0, 1) := by decide +kernel
theorem dX7_powerWeight_20 : decode cX7_powerWeight 20 = .ok (.ldc2_w 161, 3) := by decide +kernel
theorem dX7_powerWeight_23 : decode cX7_powerWeight 23 = .ok (.invokestatic 68, 3) := by decide +kernel
theorem dX7_powerWeight_26 : decode cX7_powerWeight 26 = .ok (.ifCond .eq 7, 3) := by decide +kernel
theorem dX7_powerWeight_29 : decode cX7_powerWeight 29 = .ok (.iconst 1, 1) := by decide +kernel
theorem dX7_powerWeight_30 : decode cX7_powerWeight 30 = .ok (.goto 4, 3) := by decide +kernel
theorem dX7_powerWeight_33 : decode cX7_powerWeight 33 = .ok (.iconst 0, 1) := by decide +kernel
theorem dX7_powerWeight_34 : decode cX7_powerWeight 34 = .ok (.iconst 1, 1) := by decide +kernel
theorem dX7_powerWeight_35 : decode cX7_powerWeight 35 = .ok (.invokevirtual 94, 3) := by decide +kernel
theorem dX7_powerWeight_38 : decode cX7_powerWeight 38 = .ok (.ifCond .ne 5, 3) := by decide +kernel
theorem dX7_powerWeight_41 : decode cX7_powerWeight 41 = .ok (.iconst 0, 1) := by decide +kernel
theorem dX7_powerWeight_42 : decode cX7_powerWeight 42 = .ok (.ireturn, 1) := by decide +kernel
theorem dX7_powerWeight_43 : decode cX7_powerWeight 43 = .ok (.aload_n 0, 1) := by decide +kernel
theorem dX7_powerWeight_44 : decode cX7_powerWeight 44 = .ok (.iload_n 1, 1) := by decide +kernel
theorem dX7_powerWeight_45 : decode cX7_powerWeight 45 = .ok (.iconst 0, 1) := by decide +kernel
theorem dX7_powerWeight_46 : decode cX7_powerWeight 46 = .ok (.invokevirtual 147, 3) := by decide +kernel
theorem dX7_powerWeight_49 : decode cX7_powerWeight 49 = .ok (.iconst 0, 1) := by decide +kernel
theorem dX7_powerWeight_50 : decode cX7_powerWeight 50 = .ok (.istore 4, 2) := by decide +kernel
theorem dX7_powerWeight_52 : decode cX7_powerWeight 52 = .ok (.iload 4, 2) := by decide +kernel
theorem dX7_powerWeight_54 : decode cX7_powerWeight 54 = .ok (.iload_n 3, 1) := by decide +kernel
theorem dX7_powerWeight_55 : decode cX7_powerWeight 55 = .ok (.if_icmp .ge 15, 3) := by decide +kernel
theorem dX7_powerWeight_58 : decode cX7_powerWeight 58 = .ok (.aload_n 0, 1) := by decide +kernel
theorem dX7_powerWeight_59 : decode cX7_powerWeight 59 = .ok (.iload_n 1, 1) := by decide +kernel
theorem dX7_powerWeight_60 : decode cX7_powerWeight 60 = .ok (.iload_n 2, 1) := by decide +kernel
theorem dX7_powerWeight_61 : decode cX7_powerWeight 61 = .ok (.invokevirtual 150, 3) := by decide +kernel
theorem dX7_powerWeight_64 : decode cX7_powerWeight 64 = .ok (.iinc 4 1, 3) := by decide +kernel
theorem dX7_powerWeight_67 : decode cX7_powerWeight 67 = .ok (.goto (-15), 3) := by decide +kernel
theorem dX7_powerWeight_70 : decode cX7_powerWeight 70 = .ok (.aload_n 0, 1) := by decide +kernel
theorem dX7_powerWeight_71 : decode cX7_powerWeight 71 = .ok (.iload_n 1, 1) := by decide +kernel
theorem dX7_powerWeight_72 : decode cX7_powerWeight 72 = .ok (.iconst 0, 1) := by decide +kernel
theorem dX7_powerWeight_73 : decode cX7_powerWeight 73 = .ok (.invokevirtual 153, 3) := by decide +kernel
theorem dX7_powerWeight_76 : decode cX7_powerWeight 76 = .ok (.ireturn, 1) := by decide +kernel
theorem dX7_total_0 : decode cX7_total 0 = .ok (.aload_n 0, 1) := by decide +kernel
theorem dX7_total_1 : decode cX7_total 1 = .ok (.iload_n 1, 1) := by decide +kernel
theorem dX7_total_2 : decode cX7_total 2 = .ok (.invokestatic 88, 3) := by decide +kernel
theorem dX7_total_5 : decode cX7_total 5 = .ok (.iload_n 2, 1) := by decide +kernel
theorem dX7_total_6 : decode cX7_total 6 = .ok (.i2l, 1) := by decide +kernel
theorem dX7_total_7 : decode cX7_total 7 = .ok (.lconst 0, 1) := by decide +kernel
theorem dX7_total_8 : decode cX7_total 8 = .ok (.ldc2_w 163, 3) := by decide +kernel
theorem dX7_total_11 : decode cX7_total 11 = .ok (.invokestatic 68, 3) := by decide +kernel
theorem dX7_total_14 : decode cX7_total 14 = .ok (.iconst 1, 1) := by decide +kernel
theorem dX7_total_15 : decode cX7_total 15 = .ok (.invokevirtual 94, 3) := by decide +kernel
theorem dX7_total_18 : decode cX7_total 18 = .ok (.ifCond .ne 5, 3) := by decide +kernel
theorem dX7_total_21 : decode cX7_total 21 = .ok (.iconst 0, 1) := by decide +kernel
theorem dX7_total_22 : decode cX7_total 22 = .ok (.ireturn, 1) := by decide +kernel
theorem dX7_total_23 : decode cX7_total 23 = .ok (.aload_n 0, 1) := by decide +kernel
theorem dX7_total_24 : decode cX7_total 24 = .ok (.iload_n 1, 1) := by decide +kernel
theorem dX7_total_25 : decode cX7_total 25 = .ok (.iconst 0, 1) := by decide +kernel
theorem dX7_total_26 : decode cX7_total 26 = .ok (.invokevirtual 147, 3) := by decide +kernel
theorem dX7_total_29 : decode cX7_total 29 = .ok (.iconst 0, 1) := by decide +kernel
theorem dX7_total_30 : decode cX7_total 30 = .ok (.istore_n 3, 1) := by decide +kernel
theorem dX7_total_31 : decode cX7_total 31 = .ok (.iload_n 3, 1) := by decide +kernel
theorem dX7_total_32 : decode cX7_total 32 = .ok (.iload_n 2, 1) := by decide +kernel
theorem dX7_total_33 : decode cX7_total 33 = .ok (.if_icmp .ge 16, 3) := by decide +kernel
theorem dX7_total_36 : decode cX7_total 36 = .ok (.aload_n 0, 1) := by decide +kernel
theorem dX7_total_37 : decode cX7_total 37 = .ok (.iload_n 1, 1) := by decide +kernel
theorem dX7_total_38 : decode cX7_total 38 = .ok (.iconst 0, 1) := by decide +kernel
theorem dX7_total_39 : decode cX7_total 39 = .ok (.iconst 2, 1) := by decide +kernel
theorem dX7_total_40 : decode cX7_total 40 = .ok (.invokevirtual 143, 3) := by decide +kernel
theorem dX7_total_43 : decode cX7_total 43 = .ok (.iinc 3 1, 3) := by decide +kernel
theorem dX7_total_46 : decode cX7_total 46 = .ok (.goto (-15), 3) := by decide +kernel
theorem dX7_total_49 : decode cX7_total 49 = .ok (.aload_n 0, 1) := by decide +kernel
theorem dX7_total_50 : decode cX7_total 50 = .ok (.iload_n 1, 1) := by decide +kernel
theorem dX7_total_51 : decode cX7_total 51 = .ok (.iconst 0, 1) := by decide +kernel
theorem dX7_total_52 : decode cX7_total 52 = .ok (.invokevirtual 153, 3) := by decide +kernel
theorem dX7_total_55 : decode cX7_total 55 = .ok (.ireturn, 1) := by decide +kernel
theorem dX7_support_0 : decode cX7_support 0 = .ok (.aload_n 0, 1) := by decide +kernel
theorem dX7_support_1 : decode cX7_support 1 = .ok (.iload_n 1, 1) := by decide +kernel
theorem dX7_support_2 : decode cX7_support 2 = .ok (.invokestatic 88, 3) := by decide +kernel
theorem dX7_support_5 : decode cX7_support 5 = .ok (.iload_n 2, 1) := by decide +kernel
theorem dX7_support_6 : decode cX7_support 6 = .ok (.i2l, 1) := by decide +kernel
theorem dX7_support_7 : decode cX7_support 7 = .ok (.lconst 0, 1) := by decide +kernel
theorem dX7_support_8 : decode cX7_support 8 = .ok (.ldc2_w 165, 3) := by decide +kernel
theorem dX7_support_11 : decode cX7_support 11 = .ok (.invokestatic 68, 3) := by decide +kernel
theorem dX7_support_14 : decode cX7_support 14 = .ok (.iconst 1, 1) := by decide +kernel
theorem dX7_support_15 : decode cX7_support 15 = .ok (.invokevirtual 94, 3) := by decide +kernel
theorem dX7_support_18 : decode cX7_support 18 = .ok (.ifCond .ne 5, 3) := by decide +kernel
theorem dX7_support_21 : decode cX7_support 21 = .ok (.iconst 0, 1) := by decide +kernel
theorem dX7_support_22 : decode cX7_support 22 = .ok (.ireturn, 1) := by decide +kernel
theorem dX7_support_23 : decode cX7_support 23 = .ok (.iconst 0, 1) := by decide +kernel
theorem dX7_support_24 : decode cX7_support 24 = .ok (.istore_n 3, 1) := by decide +kernel
theorem dX7_support_25 : decode cX7_support 25 = .ok (.iconst 0, 1) := by decide +kernel
theorem dX7_support_26 : decode cX7_support 26 = .ok (.istore 4, 2) := by decide +kernel
theorem dX7_support_28 : decode cX7_support 28 = .ok (.iload 4, 2) := by decide +kernel
theorem dX7_support_30 : decode cX7_support 30 = .ok (.iload_n 2, 1) := by decide +kernel
theorem dX7_support_31 : decode cX7_support 31 = .ok (.if_icmp .ge 27, 3) := by decide +kernel
theorem dX7_support_34 : decode cX7_support 34 = .ok (.iload_n 3, 1) := by decide +kernel
theorem dX7_support_35 : decode cX7_support 35 = .ok (.aload_n 0, 1) := by decide +kernel
theorem dX7_support_36 : decode cX7_support 36 = .ok (.iload_n 1, 1) := by decide +kernel
theorem dX7_support_37 : decode cX7_support 37 = .ok (.iload 4, 2) := by decide +kernel
theorem dX7_support_39 : decode cX7_support 39 = .ok (.invokevirtual 158, 3) := by decide +kernel
theorem dX7_support_42 : decode cX7_support 42 = .ok (.ifCond .eq 7, 3) := by decide +kernel
theorem dX7_support_45 : decode cX7_support 45 = .ok (.iconst 1, 1) := by decide +kernel
theorem dX7_support_46 : decode cX7_support 46 = .ok (.goto 4, 3) := by decide +kernel
theorem dX7_support_49 : decode cX7_support 49 = .ok (.iconst 0, 1) := by decide +kernel
theorem dX7_support_50 : decode cX7_support 50 = .ok (.iadd, 1) := by decide +kernel
theorem dX7_support_51 : decode cX7_support 51 = .ok (.istore_n 3, 1) := by decide +kernel
theorem dX7_support_52 : decode cX7_support 52 = .ok (.iinc 4 1, 3) := by decide +kernel
theorem dX7_support_55 : decode cX7_support 55 = .ok (.goto (-27), 3) := by decide +kernel
theorem dX7_support_58 : decode cX7_support 58 = .ok (.iload_n 3, 1) := by decide +kernel
theorem dX7_support_59 : decode cX7_support 59 = .ok (.ireturn, 1) := by decide +kernel
theorem dX7_reduces_0 : decode cX7_reduces 0 = .ok (.iconst 0, 1) := by decide +kernel
theorem dX7_reduces_1 : decode cX7_reduces 1 = .ok (.istore_n 2, 1) := by decide +kernel
theorem dX7_reduces_2 : decode cX7_reduces 2 = .ok (.iload_n 2, 1) := by decide +kernel
theorem dX7_reduces_3 : decode cX7_reduces 3 = .ok (.bipush 24, 2) := by decide +kernel
theorem dX7_reduces_5 : decode cX7_reduces 5 = .ok (.if_icmp .ge 37, 3) := by decide +kernel
theorem dX7_reduces_8 : decode cX7_reduces 8 = .ok (.aload_n 0, 1) := by decide +kernel
theorem dX7_reduces_9 : decode cX7_reduces 9 = .ok (.getfield 37, 3) := by decide +kernel
theorem dX7_reduces_12 : decode cX7_reduces 12 = .ok (.iload_n 2, 1) := by decide +kernel
theorem dX7_reduces_13 : decode cX7_reduces 13 = .ok (.iload_n 2, 1) := by decide +kernel
theorem dX7_reduces_14 : decode cX7_reduces 14 = .ok (.iload_n 1, 1) := by decide +kernel
theorem dX7_reduces_15 : decode cX7_reduces 15 = .ok (.if_icmp .ge 12, 3) := by decide +kernel
theorem dX7_reduces_18 : decode cX7_reduces 18 = .ok (.aload_n 0, 1) := by decide +kernel
theorem dX7_reduces_19 : decode cX7_reduces 19 = .ok (.getfield 16, 3) := by decide +kernel
theorem dX7_reduces_22 : decode cX7_reduces 22 = .ok (.iload_n 2, 1) := by decide +kernel
theorem dX7_reduces_23 : decode cX7_reduces 23 = .ok (.iaload, 1) := by decide +kernel
theorem dX7_reduces_24 : decode cX7_reduces 24 = .ok (.goto 4, 3) := by decide +kernel
theorem dX7_reduces_27 : decode cX7_reduces 27 = .ok (.iconst 0, 1) := by decide +kernel
theorem dX7_reduces_28 : decode cX7_reduces 28 = .ok (.iastore, 1) := by decide +kernel
theorem dX7_reduces_29 : decode cX7_reduces 29 = .ok (.aload_n 0, 1) := by decide +kernel
theorem dX7_reduces_30 : decode cX7_reduces 30 = .ok (.getfield 40, 3) := by decide +kernel
theorem dX7_reduces_33 : decode cX7_reduces 33 = .ok (.iload_n 2, 1) := by decide +kernel
theorem dX7_reduces_34 : decode cX7_reduces 34 = .ok (.iconst 0, 1) := by decide +kernel
theorem dX7_reduces_35 : decode cX7_reduces 35 = .ok (.iastore, 1) := by decide +kernel
theorem dX7_reduces_36 : decode cX7_reduces 36 = .ok (.iinc 2 1, 3) := by decide +kernel
theorem dX7_reduces_39 : decode cX7_reduces 39 = .ok (.goto (-37), 3) := by decide +kernel
theorem dX7_reduces_42 : decode cX7_reduces 42 = .ok (.iconst 0, 1) := by decide +kernel
theorem dX7_reduces_43 : decode cX7_reduces 43 = .ok (.istore_n 2, 1) := by decide +kernel
theorem dX7_reduces_44 : decode cX7_reduces 44 = .ok (.iload_n 2, 1) := by decide +kernel
theorem dX7_reduces_45 : decode cX7_reduces 45 = .ok (.aload_n 0, 1) := by decide +kernel
theorem dX7_reduces_46 : decode cX7_reduces 46 = .ok (.getfield 167, 3) := by decide +kernel
theorem dX7_reduces_49 : decode cX7_reduces 49 = .ok (.if_icmp .ge 111, 3) := by decide +kernel
theorem dX7_reduces_52 : decode cX7_reduces 52 = .ok (.aload_n 0, 1) := by decide +kernel
theorem dX7_reduces_53 : decode cX7_reduces 53 = .ok (.getfield 37, 3) := by decide +kernel
theorem dX7_reduces_56 : decode cX7_reduces 56 = .ok (.aload_n 0, 1) := by decide +kernel
theorem dX7_reduces_57 : decode cX7_reduces 57 = .ok (.getfield 31, 3) := by decide +kernel
theorem dX7_reduces_60 : decode cX7_reduces 60 = .ok (.iload_n 2, 1) := by decide +kernel
theorem dX7_reduces_61 : decode cX7_reduces 61 = .ok (.iaload, 1) := by decide +kernel
theorem dX7_reduces_62 : decode cX7_reduces 62 = .ok (.iaload, 1) := by decide +kernel
theorem dX7_reduces_63 : decode cX7_reduces 63 = .ok (.istore_n 3, 1) := by decide +kernel
theorem dX7_reduces_64 : decode cX7_reduces 64 = .ok (.iconst 0, 1) := by decide +kernel
theorem dX7_reduces_65 : decode cX7_reduces 65 = .ok (.istore 4, 2) := by decide +kernel
theorem dX7_reduces_67 : decode cX7_reduces 67 = .ok (.iload 4, 2) := by decide +kernel
theorem dX7_reduces_69 : decode cX7_reduces 69 = .ok (.bipush 24, 2) := by decide +kernel
theorem dX7_reduces_71 : decode cX7_reduces 71 = .ok (.if_icmp .ge 83, 3) := by decide +kernel
theorem dX7_reduces_74 : decode cX7_reduces 74 = .ok (.iload_n 3, 1) := by decide +kernel
theorem dX7_reduces_75 : decode cX7_reduces 75 = .ok (.ifCond .le 79, 3) := by decide +kernel
theorem dX7_reduces_78 : decode cX7_reduces 78 = .ok (.aload_n 0, 1) := by decide +kernel
theorem dX7_reduces_79 : decode cX7_reduces 79 = .ok (.getfield 37, 3) := by decide +kernel
theorem dX7_reduces_82 : decode cX7_reduces 82 = .ok (.iload 4, 2) := by decide +kernel
theorem dX7_reduces_84 : decode cX7_reduces 84 = .ok (.aload_n 0, 1) := by decide +kernel
theorem dX7_reduces_85 : decode cX7_reduces 85 = .ok (.getfield 37, 3) := by decide +kernel
theorem dX7_reduces_88 : decode cX7_reduces 88 = .ok (.iload 4, 2) := by decide +kernel
theorem dX7_reduces_90 : decode cX7_reduces 90 = .ok (.iaload, 1) := by decide +kernel
theorem dX7_reduces_91 : decode cX7_reduces 91 = .ok (.sipush 10007, 3) := by decide +kernel
theorem dX7_reduces_94 : decode cX7_reduces 94 = .ok (.iload_n 3, 1) := by decide +kernel
theorem dX7_reduces_95 : decode cX7_reduces 95 = .ok (.isub, 1) := by decide +kernel
theorem dX7_reduces_96 : decode cX7_reduces 96 = .ok (.aload_n 0, 1) := by decide +kernel
theorem dX7_reduces_97 : decode cX7_reduces 97 = .ok (.getfield 25, 3) := by decide +kernel
theorem dX7_reduces_100 : decode cX7_reduces 100 = .ok (.bipush 24, 2) := by decide +kernel
theorem dX7_reduces_102 : decode cX7_reduces 102 = .ok (.iload_n 2, 1) := by decide +kernel
theorem dX7_reduces_103 : decode cX7_reduces 103 = .ok (.imul, 1) := by decide +kernel
theorem dX7_reduces_104 : decode cX7_reduces 104 = .ok (.iload 4, 2) := by decide +kernel
theorem dX7_reduces_106 : decode cX7_reduces 106 = .ok (.iadd, 1) := by decide +kernel
theorem dX7_reduces_107 : decode cX7_reduces 107 = .ok (.iaload, 1) := by decide +kernel
theorem dX7_reduces_108 : decode cX7_reduces 108 = .ok (.imul, 1) := by decide +kernel
theorem dX7_reduces_109 : decode cX7_reduces 109 = .ok (.iadd, 1) := by decide +kernel
theorem dX7_reduces_110 : decode cX7_reduces 110 = .ok (.sipush 10007, 3) := by decide +kernel
theorem dX7_reduces_113 : decode cX7_reduces 113 = .ok (.irem, 1) := by decide +kernel
theorem dX7_reduces_114 : decode cX7_reduces 114 = .ok (.iastore, 1) := by decide +kernel
theorem dX7_reduces_115 : decode cX7_reduces 115 = .ok (.aload_n 0, 1) := by decide +kernel
theorem dX7_reduces_116 : decode cX7_reduces 116 = .ok (.getfield 40, 3) := by decide +kernel
theorem dX7_reduces_119 : decode cX7_reduces 119 = .ok (.iload 4, 2) := by decide +kernel
theorem dX7_reduces_121 : decode cX7_reduces 121 = .ok (.aload_n 0, 1) := by decide +kernel
theorem dX7_reduces_122 : decode cX7_reduces 122 = .ok (.getfield 40, 3) := by decide +kernel
theorem dX7_reduces_125 : decode cX7_reduces 125 = .ok (.iload 4, 2) := by decide +kernel
theorem dX7_reduces_127 : decode cX7_reduces 127 = .ok (.iaload, 1) := by decide +kernel
theorem dX7_reduces_128 : decode cX7_reduces 128 = .ok (.iload_n 3, 1) := by decide +kernel
theorem dX7_reduces_129 : decode cX7_reduces 129 = .ok (.aload_n 0, 1) := by decide +kernel
theorem dX7_reduces_130 : decode cX7_reduces 130 = .ok (.getfield 28, 3) := by decide +kernel
theorem dX7_reduces_133 : decode cX7_reduces 133 = .ok (.bipush 24, 2) := by decide +kernel
theorem dX7_reduces_135 : decode cX7_reduces 135 = .ok (.iload_n 2, 1) := by decide +kernel
theorem dX7_reduces_136 : decode cX7_reduces 136 = .ok (.imul, 1) := by decide +kernel
theorem dX7_reduces_137 : decode cX7_reduces 137 = .ok (.iload 4, 2) := by decide +kernel
theorem dX7_reduces_139 : decode cX7_reduces 139 = .ok (.iadd, 1) := by decide +kernel
theorem dX7_reduces_140 : decode cX7_reduces 140 = .ok (.iaload, 1) := by decide +kernel
theorem dX7_reduces_141 : decode cX7_reduces 141 = .ok (.imul, 1) := by decide +kernel
theorem dX7_reduces_142 : decode cX7_reduces 142 = .ok (.iadd, 1) := by decide +kernel
theorem dX7_reduces_143 : decode cX7_reduces 143 = .ok (.sipush 10007, 3) := by decide +kernel
theorem dX7_reduces_146 : decode cX7_reduces 146 = .ok (.irem, 1) := by decide +kernel
theorem dX7_reduces_147 : decode cX7_reduces 147 = .ok (.iastore, 1) := by decide +kernel
theorem dX7_reduces_148 : decode cX7_reduces 148 = .ok (.iinc 4 1, 3) := by decide +kernel
theorem dX7_reduces_151 : decode cX7_reduces 151 = .ok (.goto (-84), 3) := by decide +kernel
theorem dX7_reduces_154 : decode cX7_reduces 154 = .ok (.iinc 2 1, 3) := by decide +kernel
theorem dX7_reduces_157 : decode cX7_reduces 157 = .ok (.goto (-113), 3) := by decide +kernel
theorem dX7_reduces_160 : decode cX7_reduces 160 = .ok (.iconst 0, 1) := by decide +kernel
theorem dX7_reduces_161 : decode cX7_reduces 161 = .ok (.istore_n 2, 1) := by decide +kernel
theorem dX7_reduces_162 : decode cX7_reduces 162 = .ok (.iconst 0, 1) := by decide +kernel
theorem dX7_reduces_163 : decode cX7_reduces 163 = .ok (.istore_n 3, 1) := by decide +kernel
theorem dX7_reduces_164 : decode cX7_reduces 164 = .ok (.iload_n 3, 1) := by decide +kernel
theorem dX7_reduces_165 : decode cX7_reduces 165 = .ok (.iload_n 1, 1) := by decide +kernel
theorem dX7_reduces_166 : decode cX7_reduces 166 = .ok (.if_icmp .ge 28, 3) := by decide +kernel
theorem dX7_reduces_169 : decode cX7_reduces 169 = .ok (.iload_n 2, 1) := by decide +kernel
theorem dX7_reduces_170 : decode cX7_reduces 170 = .ok (.ifCond .ne 12, 3) := by decide +kernel
theorem dX7_reduces_173 : decode cX7_reduces 173 = .ok (.aload_n 0, 1) := by decide +kernel
theorem dX7_reduces_174 : decode cX7_reduces 174 = .ok (.getfield 37, 3) := by decide +kernel
theorem dX7_reduces_177 : decode cX7_reduces 177 = .ok (.iload_n 3, 1) := by decide +kernel
theorem dX7_reduces_178 : decode cX7_reduces 178 = .ok (.iaload, 1) := by decide +kernel
theorem dX7_reduces_179 : decode cX7_reduces 179 = .ok (.ifCond .eq 7, 3) := by decide +kernel
theorem dX7_reduces_182 : decode cX7_reduces 182 = .ok (.iconst 1, 1) := by decide +kernel
theorem dX7_reduces_183 : decode cX7_reduces 183 = .ok (.goto 4, 3) := by decide +kernel
theorem dX7_reduces_186 : decode cX7_reduces 186 = .ok (.iconst 0, 1) := by decide +kernel
theorem dX7_reduces_187 : decode cX7_reduces 187 = .ok (.istore_n 2, 1) := by decide +kernel
theorem dX7_reduces_188 : decode cX7_reduces 188 = .ok (.iinc 3 1, 3) := by decide +kernel
theorem dX7_reduces_191 : decode cX7_reduces 191 = .ok (.goto (-27), 3) := by decide +kernel
theorem dX7_reduces_194 : decode cX7_reduces 194 = .ok (.iload_n 2, 1) := by decide +kernel
theorem dX7_reduces_195 : decode cX7_reduces 195 = .ok (.ireturn, 1) := by decide +kernel
theorem dX7_offers_0 : decode cX7_offers 0 = .ok (.aload_n 0, 1) := by decide +kernel
theorem dX7_offers_1 : decode cX7_offers 1 = .ok (.iload_n 1, 1) := by decide +kernel
theorem dX7_offers_2 : decode cX7_offers 2 = .ok (.invokevirtual 170, 3) := by decide +kernel
theorem dX7_offers_5 : decode cX7_offers 5 = .ok (.ifCond .ne 4, 3) := by decide +kernel
theorem dX7_offers_8 : decode cX7_offers 8 = .ok (.return_, 1) := by decide +kernel
theorem dX7_offers_9 : decode cX7_offers 9 = .ok (.aload_n 0, 1) := by decide +kernel
theorem dX7_offers_10 : decode cX7_offers 10 = .ok (.getfield 167, 3) := by decide +kernel
theorem dX7_offers_13 : decode cX7_offers 13 = .ok (.istore_n 3, 1) := by decide +kernel
theorem dX7_offers_14 : decode cX7_offers 14 = .ok (.iconst 0, 1) := by decide +kernel
theorem dX7_offers_15 : decode cX7_offers 15 = .ok (.istore 4, 2) := by decide +kernel
theorem dX7_offers_17 : decode cX7_offers 17 = .ok (.aload_n 0, 1) := by decide +kernel
theorem dX7_offers_18 : decode cX7_offers 18 = .ok (.getfield 37, 3) := by decide +kernel
theorem dX7_offers_21 : decode cX7_offers 21 = .ok (.iload 4, 2) := by decide +kernel
theorem dX7_offers_23 : decode cX7_offers 23 = .ok (.iaload, 1) := by decide +kernel
theorem dX7_offers_24 : decode cX7_offers 24 = .ok (.ifCond .ne 9, 3) := by decide +kernel
theorem dX7_offers_27 : decode cX7_offers 27 = .ok (.iinc 4 1, 3) := by decide +kernel
theorem dX7_offers_30 : decode cX7_offers 30 = .ok (.goto (-13), 3) := by decide +kernel
theorem dX7_offers_33 : decode cX7_offers 33 = .ok (.aload_n 0, 1) := by decide +kernel
theorem dX7_offers_34 : decode cX7_offers 34 = .ok (.getfield 37, 3) := by decide +kernel
theorem dX7_offers_37 : decode cX7_offers 37 = .ok (.iload 4, 2) := by decide +kernel
theorem dX7_offers_39 : decode cX7_offers 39 = .ok (.iaload, 1) := by decide +kernel
theorem dX7_offers_40 : decode cX7_offers 40 = .ok (.invokestatic 173, 3) := by decide +kernel
theorem dX7_offers_43 : decode cX7_offers 43 = .ok (.istore 5, 2) := by decide +kernel
theorem dX7_offers_45 : decode cX7_offers 45 = .ok (.iconst 0, 1) := by decide +kernel
theorem dX7_offers_46 : decode cX7_offers 46 = .ok (.istore 6, 2) := by decide +kernel
theorem dX7_offers_48 : decode cX7_offers 48 = .ok (.iload 6, 2) := by decide +kernel
theorem dX7_offers_50 : decode cX7_offers 50 = .ok (.bipush 24, 2) := by decide +kernel
theorem dX7_offers_52 : decode cX7_offers 52 = .ok (.if_icmp .ge 114, 3) := by decide +kernel
theorem dX7_offers_55 : decode cX7_offers 55 = .ok (.aload_n 0, 1) := by decide +kernel
theorem dX7_offers_56 : decode cX7_offers 56 = .ok (.getfield 22, 3) := by decide +kernel
theorem dX7_offers_59 : decode cX7_offers 59 = .ok (.bipush 24, 2) := by decide +kernel
theorem dX7_offers_61 : decode cX7_offers 61 = .ok (.iload_n 3, 1) := by decide +kernel
theorem dX7_offers_62 : decode cX7_offers 62 = .ok (.imul, 1) := by decide +kernel
theorem dX7_offers_63 : decode cX7_offers 63 = .ok (.iload 6, 2) := by decide +kernel
theorem dX7_offers_65 : decode cX7_offers 65 = .ok (.iadd, 1) := by decide +kernel
theorem dX7_offers_66 : decode cX7_offers 66 = .ok (.iload 6, 2) := by decide +kernel
theorem dX7_offers_68 : decode cX7_offers 68 = .ok (.iload_n 1, 1) := by decide +kernel
theorem dX7_offers_69 : decode cX7_offers 69 = .ok (.if_icmp .ge 13, 3) := by decide +kernel
theorem dX7_offers_72 : decode cX7_offers 72 = .ok (.aload_n 0, 1) := by decide +kernel
theorem dX7_offers_73 : decode cX7_offers 73 = .ok (.getfield 16, 3) := by decide +kernel
theorem dX7_offers_76 : decode cX7_offers 76 = .ok (.iload 6, 2) := by decide +kernel
theorem dX7_offers_78 : decode cX7_offers 78 = .ok (.iaload, 1) := by decide +kernel
theorem dX7_offers_79 : decode cX7_offers 79 = .ok (.goto 4, 3) := by decide +kernel
theorem dX7_offers_82 : decode cX7_offers 82 = .ok (.iconst 0, 1) := by decide +kernel
theorem dX7_offers_83 : decode cX7_offers 83 = .ok (.iastore, 1) := by decide +kernel
theorem dX7_offers_84 : decode cX7_offers 84 = .ok (.aload_n 0, 1) := by decide +kernel
theorem dX7_offers_85 : decode cX7_offers 85 = .ok (.getfield 25, 3) := by decide +kernel
theorem dX7_offers_88 : decode cX7_offers 88 = .ok (.bipush 24, 2) := by decide +kernel
theorem dX7_offers_90 : decode cX7_offers 90 = .ok (.iload_n 3, 1) := by decide +kernel
theorem dX7_offers_91 : decode cX7_offers 91 = .ok (.imul, 1) := by decide +kernel
theorem dX7_offers_92 : decode cX7_offers 92 = .ok (.iload 6, 2) := by decide +kernel
theorem dX7_offers_94 : decode cX7_offers 94 = .ok (.iadd, 1) := by decide +kernel
theorem dX7_offers_95 : decode cX7_offers 95 = .ok (.aload_n 0, 1) := by decide +kernel
theorem dX7_offers_96 : decode cX7_offers 96 = .ok (.getfield 37, 3) := by decide +kernel
theorem dX7_offers_99 : decode cX7_offers 99 = .ok (.iload 6, 2) := by decide +kernel
theorem dX7_offers_101 : decode cX7_offers 101 = .ok (.iaload, 1) := by decide +kernel
theorem dX7_offers_102 : decode cX7_offers 102 = .ok (.iload 5, 2) := by decide +kernel
theorem dX7_offers_104 : decode cX7_offers 104 = .ok (.imul, 1) := by decide +kernel
theorem dX7_offers_105 : decode cX7_offers 105 = .ok (.sipush 10007, 3) := by decide +kernel
theorem dX7_offers_108 : decode cX7_offers 108 = .ok (.irem, 1) := by decide +kernel
theorem dX7_offers_109 : decode cX7_offers 109 = .ok (.iastore, 1) := by decide +kernel
theorem dX7_offers_110 : decode cX7_offers 110 = .ok (.iload 6, 2) := by decide +kernel
theorem dX7_offers_112 : decode cX7_offers 112 = .ok (.iload_n 3, 1) := by decide +kernel
theorem dX7_offers_113 : decode cX7_offers 113 = .ok (.if_icmp .ne 7, 3) := by decide +kernel
theorem dX7_offers_116 : decode cX7_offers 116 = .ok (.iconst 1, 1) := by decide +kernel
theorem dX7_offers_117 : decode cX7_offers 117 = .ok (.goto 4, 3) := by decide +kernel
theorem dX7_offers_120 : decode cX7_offers 120 = .ok (.iconst 0, 1) := by decide +kernel
theorem dX7_offers_121 : decode cX7_offers 121 = .ok (.sipush 10007, 3) := by decide +kernel
theorem dX7_offers_124 : decode cX7_offers 124 = .ok (.iadd, 1) := by decide +kernel
theorem dX7_offers_125 : decode cX7_offers 125 = .ok (.aload_n 0, 1) := by decide +kernel
theorem dX7_offers_126 : decode cX7_offers 126 = .ok (.getfield 40, 3) := by decide +kernel
theorem dX7_offers_129 : decode cX7_offers 129 = .ok (.iload 6, 2) := by decide +kernel
theorem dX7_offers_131 : decode cX7_offers 131 = .ok (.iaload, 1) := by decide +kernel
theorem dX7_offers_132 : decode cX7_offers 132 = .ok (.isub, 1) := by decide +kernel
theorem dX7_offers_133 : decode cX7_offers 133 = .ok (.sipush 10007, 3) := by decide +kernel
theorem dX7_offers_136 : decode cX7_offers 136 = .ok (.irem, 1) := by decide +kernel
theorem dX7_offers_137 : decode cX7_offers 137 = .ok (.istore 7, 2) := by decide +kernel
theorem dX7_offers_139 : decode cX7_offers 139 = .ok (.aload_n 0, 1) := by decide +kernel
theorem dX7_offers_140 : decode cX7_offers 140 = .ok (.getfield 28, 3) := by decide +kernel
theorem dX7_offers_143 : decode cX7_offers 143 = .ok (.bipush 24, 2) := by decide +kernel
theorem dX7_offers_145 : decode cX7_offers 145 = .ok (.iload_n 3, 1) := by decide +kernel
theorem dX7_offers_146 : decode cX7_offers 146 = .ok (.imul, 1) := by decide +kernel
theorem dX7_offers_147 : decode cX7_offers 147 = .ok (.iload 6, 2) := by decide +kernel
theorem dX7_offers_149 : decode cX7_offers 149 = .ok (.iadd, 1) := by decide +kernel
theorem dX7_offers_150 : decode cX7_offers 150 = .ok (.iload 7, 2) := by decide +kernel
theorem dX7_offers_152 : decode cX7_offers 152 = .ok (.iload 5, 2) := by decide +kernel
theorem dX7_offers_154 : decode cX7_offers 154 = .ok (.imul, 1) := by decide +kernel
theorem dX7_offers_155 : decode cX7_offers 155 = .ok (.sipush 10007, 3) := by decide +kernel
theorem dX7_offers_158 : decode cX7_offers 158 = .ok (.irem, 1) := by decide +kernel
theorem dX7_offers_159 : decode cX7_offers 159 = .ok (.iastore, 1) := by decide +kernel
theorem dX7_offers_160 : decode cX7_offers 160 = .ok (.iinc 6 1, 3) := by decide +kernel
theorem dX7_offers_163 : decode cX7_offers 163 = .ok (.goto (-115), 3) := by decide +kernel
theorem dX7_offers_166 : decode cX7_offers 166 = .ok (.aload_n 0, 1) := by decide +kernel
theorem dX7_offers_167 : decode cX7_offers 167 = .ok (.getfield 31, 3) := by decide +kernel
theorem dX7_offers_170 : decode cX7_offers 170 = .ok (.iload_n 3, 1) := by decide +kernel
theorem dX7_offers_171 : decode cX7_offers 171 = .ok (.iload 4, 2) := by decide +kernel
theorem dX7_offers_173 : decode cX7_offers 173 = .ok (.iastore, 1) := by decide +kernel
theorem dX7_offers_174 : decode cX7_offers 174 = .ok (.aload_n 0, 1) := by decide +kernel
theorem dX7_offers_175 : decode cX7_offers 175 = .ok (.getfield 34, 3) := by decide +kernel
theorem dX7_offers_178 : decode cX7_offers 178 = .ok (.iload_n 3, 1) := by decide +kernel
theorem dX7_offers_179 : decode cX7_offers 179 = .ok (.iload_n 2, 1) := by decide +kernel
theorem dX7_offers_180 : decode cX7_offers 180 = .ok (.iastore, 1) := by decide +kernel
theorem dX7_offers_181 : decode cX7_offers 181 = .ok (.aload_n 0, 1) := by decide +kernel
theorem dX7_offers_182 : decode cX7_offers 182 = .ok (.dup, 1) := by decide +kernel
theorem dX7_offers_183 : decode cX7_offers 183 = .ok (.getfield 167, 3) := by decide +kernel
theorem dX7_offers_186 : decode cX7_offers 186 = .ok (.iconst 1, 1) := by decide +kernel
theorem dX7_offers_187 : decode cX7_offers 187 = .ok (.iadd, 1) := by decide +kernel
theorem dX7_offers_188 : decode cX7_offers 188 = .ok (.putfield 167, 3) := by decide +kernel
theorem dX7_offers_191 : decode cX7_offers 191 = .ok (.return_, 1) := by decide +kernel
theorem dX7_laysBasis_0 : decode cX7_laysBasis 0 = .ok (.iconst 0, 1) := by decide +kernel
theorem dX7_laysBasis_1 : decode cX7_laysBasis 1 = .ok (.istore_n 3, 1) := by decide +kernel
theorem dX7_laysBasis_2 : decode cX7_laysBasis 2 = .ok (.iload_n 3, 1) := by decide +kernel
theorem dX7_laysBasis_3 : decode cX7_laysBasis 3 = .ok (.iload_n 2, 1) := by decide +kernel
theorem dX7_laysBasis_4 : decode cX7_laysBasis 4 = .ok (.if_icmp .ge 26, 3) := by decide +kernel
theorem dX7_laysBasis_7 : decode cX7_laysBasis 7 = .ok (.aload_n 0, 1) := by decide +kernel
theorem dX7_laysBasis_8 : decode cX7_laysBasis 8 = .ok (.getfield 16, 3) := by decide +kernel
theorem dX7_laysBasis_11 : decode cX7_laysBasis 11 = .ok (.iload_n 3, 1) := by decide +kernel
theorem dX7_laysBasis_12 : decode cX7_laysBasis 12 = .ok (.aload_n 0, 1) := by decide +kernel
theorem dX7_laysBasis_13 : decode cX7_laysBasis 13 = .ok (.getfield 22, 3) := by decide +kernel
theorem dX7_laysBasis_16 : decode cX7_laysBasis 16 = .ok (.bipush 24, 2) := by decide +kernel
theorem dX7_laysBasis_18 : decode cX7_laysBasis 18 = .ok (.iload_n 1, 1) := by decide +kernel
theorem dX7_laysBasis_19 : decode cX7_laysBasis 19 = .ok (.imul, 1) := by decide +kernel
theorem dX7_laysBasis_20 : decode cX7_laysBasis 20 = .ok (.iload_n 3, 1) := by decide +kernel
theorem dX7_laysBasis_21 : decode cX7_laysBasis 21 = .ok (.iadd, 1) := by decide +kernel
theorem dX7_laysBasis_22 : decode cX7_laysBasis 22 = .ok (.iaload, 1) := by decide +kernel
theorem dX7_laysBasis_23 : decode cX7_laysBasis 23 = .ok (.iastore, 1) := by decide +kernel
theorem dX7_laysBasis_24 : decode cX7_laysBasis 24 = .ok (.iinc 3 1, 3) := by decide +kernel
theorem dX7_laysBasis_27 : decode cX7_laysBasis 27 = .ok (.goto (-25), 3) := by decide +kernel
theorem dX7_laysBasis_30 : decode cX7_laysBasis 30 = .ok (.return_, 1) := by decide +kernel
theorem dX7_spans_0 : decode cX7_spans 0 = .ok (.aload_n 0, 1) := by decide +kernel
theorem dX7_spans_1 : decode cX7_spans 1 = .ok (.iload_n 1, 1) := by decide +kernel
theorem dX7_spans_2 : decode cX7_spans 2 = .ok (.invokevirtual 78, 3) := by decide +kernel
theorem dX7_spans_5 : decode cX7_spans 5 = .ok (.iload_n 2, 1) := by decide +kernel
theorem dX7_spans_6 : decode cX7_spans 6 = .ok (.iconst (-1), 1) := by decide +kernel
theorem dX7_spans_7 : decode cX7_spans 7 = .ok (.if_icmp .ne 7, 3) := by decide +kernel
theorem dX7_spans_10 : decode cX7_spans 10 = .ok (.iconst 0, 1) := by decide +kernel
theorem dX7_spans_11 : decode cX7_spans 11 = .ok (.goto 8, 3) := by decide +kernel
theorem dX7_spans_14 : decode cX7_spans 14 = .ok (.aload_n 0, 1) := by decide +kernel
theorem dX7_spans_15 : decode cX7_spans 15 = .ok (.iload_n 2, 1) := by decide +kernel
theorem dX7_spans_16 : decode cX7_spans 16 = .ok (.invokevirtual 78, 3) := by decide +kernel
theorem dX7_spans_19 : decode cX7_spans 19 = .ok (.iadd, 1) := by decide +kernel
theorem dX7_spans_20 : decode cX7_spans 20 = .ok (.istore_n 3, 1) := by decide +kernel
theorem dX7_spans_21 : decode cX7_spans 21 = .ok (.aload_n 0, 1) := by decide +kernel
theorem dX7_spans_22 : decode cX7_spans 22 = .ok (.iconst 0, 1) := by decide +kernel
theorem dX7_spans_23 : decode cX7_spans 23 = .ok (.putfield 167, 3) := by decide +kernel
theorem dX7_spans_26 : decode cX7_spans 26 = .ok (.aload_n 0, 1) := by decide +kernel
theorem dX7_spans_27 : decode cX7_spans 27 = .ok (.iload_n 1, 1) := by decide +kernel
theorem dX7_spans_28 : decode cX7_spans 28 = .ok (.iconst 0, 1) := by decide +kernel
theorem dX7_spans_29 : decode cX7_spans 29 = .ok (.invokevirtual 147, 3) := by decide +kernel
theorem dX7_spans_32 : decode cX7_spans 32 = .ok (.iload_n 2, 1) := by decide +kernel
theorem dX7_spans_33 : decode cX7_spans 33 = .ok (.iconst (-1), 1) := by decide +kernel
theorem dX7_spans_34 : decode cX7_spans 34 = .ok (.if_icmp .eq 13, 3) := by decide +kernel
theorem dX7_spans_37 : decode cX7_spans 37 = .ok (.aload_n 0, 1) := by decide +kernel
theorem dX7_spans_38 : decode cX7_spans 38 = .ok (.iload_n 2, 1) := by decide +kernel
theorem dX7_spans_39 : decode cX7_spans 39 = .ok (.aload_n 0, 1) := by decide +kernel
theorem dX7_spans_40 : decode cX7_spans 40 = .ok (.iload_n 1, 1) := by decide +kernel
theorem dX7_spans_41 : decode cX7_spans 41 = .ok (.invokevirtual 78, 3) := by decide +kernel
theorem dX7_spans_44 : decode cX7_spans 44 = .ok (.invokevirtual 147, 3) := by decide +kernel
theorem dX7_spans_47 : decode cX7_spans 47 = .ok (.aload_n 0, 1) := by decide +kernel
theorem dX7_spans_48 : decode cX7_spans 48 = .ok (.iload_n 3, 1) := by decide +kernel
theorem dX7_spans_49 : decode cX7_spans 49 = .ok (.iconst 0, 1) := by decide +kernel
theorem dX7_spans_50 : decode cX7_spans 50 = .ok (.invokevirtual 176, 3) := by decide +kernel
theorem dX7_spans_53 : decode cX7_spans 53 = .ok (.iconst 0, 1) := by decide +kernel
theorem dX7_spans_54 : decode cX7_spans 54 = .ok (.istore 4, 2) := by decide +kernel
theorem dX7_spans_56 : decode cX7_spans 56 = .ok (.iload 4, 2) := by decide +kernel
theorem dX7_spans_58 : decode cX7_spans 58 = .ok (.aload_n 0, 1) := by decide +kernel
theorem dX7_spans_59 : decode cX7_spans 59 = .ok (.getfield 167, 3) := by decide +kernel
theorem dX7_spans_62 : decode cX7_spans 62 = .ok (.if_icmp .ge 75, 3) := by decide +kernel
theorem dX7_spans_65 : decode cX7_spans 65 = .ok (.iconst 0, 1) := by decide +kernel
theorem dX7_spans_66 : decode cX7_spans 66 = .ok (.istore 5, 2) := by decide +kernel
theorem dX7_spans_68 : decode cX7_spans 68 = .ok (.iload 5, 2) := by decide +kernel
theorem dX7_spans_70 : decode cX7_spans 70 = .ok (.iconst 2, 1) := by decide +kernel
theorem dX7_spans_71 : decode cX7_spans 71 = .ok (.if_icmp .ge 60, 3) := by decide +kernel
theorem dX7_spans_74 : decode cX7_spans 74 = .ok (.aload_n 0, 1) := by decide +kernel
theorem dX7_spans_75 : decode cX7_spans 75 = .ok (.iload 4, 2) := by decide +kernel
theorem dX7_spans_77 : decode cX7_spans 77 = .ok (.iload_n 3, 1) := by decide +kernel
theorem dX7_spans_78 : decode cX7_spans 78 = .ok (.invokevirtual 179, 3) := by decide +kernel
theorem dX7_spans_81 : decode cX7_spans 81 = .ok (.aload_n 0, 1) := by decide +kernel
theorem dX7_spans_82 : decode cX7_spans 82 = .ok (.iload_n 1, 1) := by decide +kernel
theorem dX7_spans_83 : decode cX7_spans 83 = .ok (.iconst 0, 1) := by decide +kernel
theorem dX7_spans_84 : decode cX7_spans 84 = .ok (.iload 5, 2) := by decide +kernel
theorem dX7_spans_86 : decode cX7_spans 86 = .ok (.invokevirtual 143, 3) := by decide +kernel
theorem dX7_spans_89 : decode cX7_spans 89 = .ok (.iload_n 2, 1) := by decide +kernel
theorem dX7_spans_90 : decode cX7_spans 90 = .ok (.iconst (-1), 1) := by decide +kernel
theorem dX7_spans_91 : decode cX7_spans 91 = .ok (.if_icmp .eq 15, 3) := by decide +kernel
theorem dX7_spans_94 : decode cX7_spans 94 = .ok (.aload_n 0, 1) := by decide +kernel
theorem dX7_spans_95 : decode cX7_spans 95 = .ok (.iload_n 2, 1) := by decide +kernel
theorem dX7_spans_96 : decode cX7_spans 96 = .ok (.aload_n 0, 1) := by decide +kernel
theorem dX7_spans_97 : decode cX7_spans 97 = .ok (.iload_n 1, 1) := by decide +kernel
theorem dX7_spans_98 : decode cX7_spans 98 = .ok (.invokevirtual 78, 3) := by decide +kernel
theorem dX7_spans_101 : decode cX7_spans 101 = .ok (.iload 5, 2) := by decide +kernel
theorem dX7_spans_103 : decode cX7_spans 103 = .ok (.invokevirtual 143, 3) := by decide +kernel
theorem dX7_spans_106 : decode cX7_spans 106 = .ok (.aload_n 0, 1) := by decide +kernel
theorem dX7_spans_107 : decode cX7_spans 107 = .ok (.iload_n 3, 1) := by decide +kernel
theorem dX7_spans_108 : decode cX7_spans 108 = .ok (.iconst 2, 1) := by decide +kernel
theorem dX7_spans_109 : decode cX7_spans 109 = .ok (.aload_n 0, 1) := by decide +kernel
theorem dX7_spans_110 : decode cX7_spans 110 = .ok (.getfield 34, 3) := by decide +kernel
theorem dX7_spans_113 : decode cX7_spans 113 = .ok (.iload 4, 2) := by decide +kernel
theorem dX7_spans_115 : decode cX7_spans 115 = .ok (.iaload, 1) := by decide +kernel
theorem dX7_spans_116 : decode cX7_spans 116 = .ok (.imul, 1) := by decide +kernel
theorem dX7_spans_117 : decode cX7_spans 117 = .ok (.iconst 1, 1) := by decide +kernel
theorem dX7_spans_118 : decode cX7_spans 118 = .ok (.iadd, 1) := by decide +kernel
theorem dX7_spans_119 : decode cX7_spans 119 = .ok (.iload 5, 2) := by decide +kernel
theorem dX7_spans_121 : decode cX7_spans 121 = .ok (.iadd, 1) := by decide +kernel
theorem dX7_spans_122 : decode cX7_spans 122 = .ok (.invokevirtual 176, 3) := by decide +kernel
theorem dX7_spans_125 : decode cX7_spans 125 = .ok (.iinc 5 1, 3) := by decide +kernel
theorem dX7_spans_128 : decode cX7_spans 128 = .ok (.goto (-60), 3) := by decide +kernel
theorem dX7_spans_131 : decode cX7_spans 131 = .ok (.iinc 4 1, 3) := by decide +kernel
theorem dX7_spans_134 : decode cX7_spans 134 = .ok (.goto (-78), 3) := by decide +kernel
theorem dX7_spans_137 : decode cX7_spans 137 = .ok (.return_, 1) := by decide +kernel
theorem dX7_endsBasis_0 : decode cX7_endsBasis 0 = .ok (.aload_n 0, 1) := by decide +kernel
theorem dX7_endsBasis_1 : decode cX7_endsBasis 1 = .ok (.iload_n 1, 1) := by decide +kernel
theorem dX7_endsBasis_2 : decode cX7_endsBasis 2 = .ok (.bipush 24, 2) := by decide +kernel
theorem dX7_endsBasis_4 : decode cX7_endsBasis 4 = .ok (.invokevirtual 179, 3) := by decide +kernel
theorem dX7_endsBasis_7 : decode cX7_endsBasis 7 = .ok (.aload_n 0, 1) := by decide +kernel
theorem dX7_endsBasis_8 : decode cX7_endsBasis 8 = .ok (.iload_n 2, 1) := by decide +kernel
theorem dX7_endsBasis_9 : decode cX7_endsBasis 9 = .ok (.iconst 0, 1) := by decide +kernel
theorem dX7_endsBasis_10 : decode cX7_endsBasis 10 = .ok (.invokevirtual 153, 3) := by decide +kernel
theorem dX7_endsBasis_13 : decode cX7_endsBasis 13 = .ok (.iload_n 3, 1) := by decide +kernel
theorem dX7_endsBasis_14 : decode cX7_endsBasis 14 = .ok (.iconst (-1), 1) := by decide +kernel
theorem dX7_endsBasis_15 : decode cX7_endsBasis 15 = .ok (.if_icmp .ne 7, 3) := by decide +kernel
theorem dX7_endsBasis_18 : decode cX7_endsBasis 18 = .ok (.iconst 0, 1) := by decide +kernel
theorem dX7_endsBasis_19 : decode cX7_endsBasis 19 = .ok (.goto 17, 3) := by decide +kernel
theorem dX7_endsBasis_22 : decode cX7_endsBasis 22 = .ok (.sipush 10007, 3) := by decide +kernel
theorem dX7_endsBasis_25 : decode cX7_endsBasis 25 = .ok (.aload_n 0, 1) := by decide +kernel
theorem dX7_endsBasis_26 : decode cX7_endsBasis 26 = .ok (.iload_n 3, 1) := by decide +kernel
theorem dX7_endsBasis_27 : decode cX7_endsBasis 27 = .ok (.aload_n 0, 1) := by decide +kernel
theorem dX7_endsBasis_28 : decode cX7_endsBasis 28 = .ok (.iload_n 2, 1) := by decide +kernel
theorem dX7_endsBasis_29 : decode cX7_endsBasis 29 = .ok (.invokevirtual 78, 3) := by decide +kernel
theorem dX7_endsBasis_32 : decode cX7_endsBasis 32 = .ok (.invokevirtual 153, 3) := by decide +kernel
theorem dX7_endsBasis_35 : decode cX7_endsBasis 35 = .ok (.isub, 1) := by decide +kernel
theorem dX7_endsBasis_36 : decode cX7_endsBasis 36 = .ok (.iadd, 1) := by decide +kernel
theorem dX7_endsBasis_37 : decode cX7_endsBasis 37 = .ok (.sipush 10007, 3) := by decide +kernel
theorem dX7_endsBasis_40 : decode cX7_endsBasis 40 = .ok (.irem, 1) := by decide +kernel
theorem dX7_endsBasis_41 : decode cX7_endsBasis 41 = .ok (.ireturn, 1) := by decide +kernel
theorem dX7_firstWord_0 : decode cX7_firstWord 0 = .ok (.aload_n 0, 1) := by decide +kernel
theorem dX7_firstWord_1 : decode cX7_firstWord 1 = .ok (.iload_n 1, 1) := by decide +kernel
theorem dX7_firstWord_2 : decode cX7_firstWord 2 = .ok (.iload_n 2, 1) := by decide +kernel
theorem dX7_firstWord_3 : decode cX7_firstWord 3 = .ok (.invokevirtual 182, 3) := by decide +kernel
theorem dX7_firstWord_6 : decode cX7_firstWord 6 = .ok (.iconst 0, 1) := by decide +kernel
theorem dX7_firstWord_7 : decode cX7_firstWord 7 = .ok (.istore_n 3, 1) := by decide +kernel
theorem dX7_firstWord_8 : decode cX7_firstWord 8 = .ok (.iload_n 3, 1) := by decide +kernel
theorem dX7_firstWord_9 : decode cX7_firstWord 9 = .ok (.aload_n 0, 1) := by decide +kernel
theorem dX7_firstWord_10 : decode cX7_firstWord 10 = .ok (.getfield 167, 3) := by decide +kernel
theorem dX7_firstWord_13 : decode cX7_firstWord 13 = .ok (.if_icmp .ge 26, 3) := by decide +kernel
theorem dX7_firstWord_16 : decode cX7_firstWord 16 = .ok (.aload_n 0, 1) := by decide +kernel
theorem dX7_firstWord_17 : decode cX7_firstWord 17 = .ok (.iload_n 3, 1) := by decide +kernel
theorem dX7_firstWord_18 : decode cX7_firstWord 18 = .ok (.iload_n 1, 1) := by decide +kernel
theorem dX7_firstWord_19 : decode cX7_firstWord 19 = .ok (.iload_n 2, 1) := by decide +kernel
theorem dX7_firstWord_20 : decode cX7_firstWord 20 = .ok (.invokevirtual 185, 3) := by decide +kernel
theorem dX7_firstWord_23 : decode cX7_firstWord 23 = .ok (.ifCond .eq 10, 3) := by decide +kernel
theorem dX7_firstWord_26 : decode cX7_firstWord 26 = .ok (.aload_n 0, 1) := by decide +kernel
theorem dX7_firstWord_27 : decode cX7_firstWord 27 = .ok (.getfield 34, 3) := by decide +kernel
theorem dX7_firstWord_30 : decode cX7_firstWord 30 = .ok (.iload_n 3, 1) := by decide +kernel
theorem dX7_firstWord_31 : decode cX7_firstWord 31 = .ok (.iaload, 1) := by decide +kernel
theorem dX7_firstWord_32 : decode cX7_firstWord 32 = .ok (.ireturn, 1) := by decide +kernel
theorem dX7_firstWord_33 : decode cX7_firstWord 33 = .ok (.iinc 3 1, 3) := by decide +kernel
theorem dX7_firstWord_36 : decode cX7_firstWord 36 = .ok (.goto (-28), 3) := by decide +kernel
theorem dX7_firstWord_39 : decode cX7_firstWord 39 = .ok (.iconst (-1), 1) := by decide +kernel
theorem dX7_firstWord_40 : decode cX7_firstWord 40 = .ok (.ireturn, 1) := by decide +kernel
theorem dX7_first_0 : decode cX7_first 0 = .ok (.aload_n 0, 1) := by decide +kernel
theorem dX7_first_1 : decode cX7_first 1 = .ok (.iload_n 1, 1) := by decide +kernel
theorem dX7_first_2 : decode cX7_first 2 = .ok (.invokestatic 88, 3) := by decide +kernel
theorem dX7_first_5 : decode cX7_first 5 = .ok (.iconst 1, 1) := by decide +kernel
theorem dX7_first_6 : decode cX7_first 6 = .ok (.iconst 1, 1) := by decide +kernel
theorem dX7_first_7 : decode cX7_first 7 = .ok (.invokevirtual 94, 3) := by decide +kernel
theorem dX7_first_10 : decode cX7_first 10 = .ok (.ifCond .eq 12, 3) := by decide +kernel
theorem dX7_first_13 : decode cX7_first 13 = .ok (.aload_n 0, 1) := by decide +kernel
theorem dX7_first_14 : decode cX7_first 14 = .ok (.iload_n 1, 1) := by decide +kernel
theorem dX7_first_15 : decode cX7_first 15 = .ok (.iconst (-1), 1) := by decide +kernel
theorem dX7_first_16 : decode cX7_first 16 = .ok (.invokevirtual 189, 3) := by decide +kernel
theorem dX7_first_19 : decode cX7_first 19 = .ok (.goto 4, 3) := by decide +kernel
theorem dX7_first_22 : decode cX7_first 22 = .ok (.iconst 0, 1) := by decide +kernel
theorem dX7_first_23 : decode cX7_first 23 = .ok (.ireturn, 1) := by decide +kernel
theorem dX7_differing_0 : decode cX7_differing 0 = .ok (.aload_n 0, 1) := by decide +kernel
theorem dX7_differing_1 : decode cX7_differing 1 = .ok (.iload_n 1, 1) := by decide +kernel
theorem dX7_differing_2 : decode cX7_differing 2 = .ok (.invokestatic 88, 3) := by decide +kernel
theorem dX7_differing_5 : decode cX7_differing 5 = .ok (.ifCond .eq 14, 3) := by decide +kernel
theorem dX7_differing_8 : decode cX7_differing 8 = .ok (.iload_n 2, 1) := by decide +kernel
theorem dX7_differing_9 : decode cX7_differing 9 = .ok (.invokestatic 88, 3) := by decide +kernel
theorem dX7_differing_12 : decode cX7_differing 12 = .ok (.ifCond .eq 7, 3) := by decide +kernel
theorem dX7_differing_15 : decode cX7_differing 15 = .ok (.iconst 1, 1) := by decide +kernel
theorem dX7_differing_16 : decode cX7_differing 16 = .ok (.goto 4, 3) := by decide +kernel
theorem dX7_differing_19 : decode cX7_differing 19 = .ok (.iconst 0, 1) := by decide +kernel
theorem dX7_differing_20 : decode cX7_differing 20 = .ok (.iconst 1, 1) := by decide +kernel
theorem dX7_differing_21 : decode cX7_differing 21 = .ok (.iconst 1, 1) := by decide +kernel
theorem dX7_differing_22 : decode cX7_differing 22 = .ok (.invokevirtual 94, 3) := by decide +kernel
theorem dX7_differing_25 : decode cX7_differing 25 = .ok (.ifCond .eq 12, 3) := by decide +kernel
theorem dX7_differing_28 : decode cX7_differing 28 = .ok (.aload_n 0, 1) := by decide +kernel
theorem dX7_differing_29 : decode cX7_differing 29 = .ok (.iload_n 1, 1) := by decide +kernel
theorem dX7_differing_30 : decode cX7_differing 30 = .ok (.iload_n 2, 1) := by decide +kernel
theorem dX7_differing_31 : decode cX7_differing 31 = .ok (.invokevirtual 189, 3) := by decide +kernel
theorem dX7_differing_34 : decode cX7_differing 34 = .ok (.goto 4, 3) := by decide +kernel
theorem dX7_differing_37 : decode cX7_differing 37 = .ok (.iconst 0, 1) := by decide +kernel
theorem dX7_differing_38 : decode cX7_differing 38 = .ok (.ireturn, 1) := by decide +kernel
theorem dX7_forwards_0 : decode cX7_forwards 0 = .ok (.aload_n 0, 1) := by decide +kernel
theorem dX7_forwards_1 : decode cX7_forwards 1 = .ok (.iload_n 1, 1) := by decide +kernel
theorem dX7_forwards_2 : decode cX7_forwards 2 = .ok (.iconst (-1), 1) := by decide +kernel
theorem dX7_forwards_3 : decode cX7_forwards 3 = .ok (.invokevirtual 182, 3) := by decide +kernel
theorem dX7_forwards_6 : decode cX7_forwards 6 = .ok (.aload_n 0, 1) := by decide +kernel
theorem dX7_forwards_7 : decode cX7_forwards 7 = .ok (.iload_n 2, 1) := by decide +kernel
theorem dX7_forwards_8 : decode cX7_forwards 8 = .ok (.aload_n 0, 1) := by decide +kernel
theorem dX7_forwards_9 : decode cX7_forwards 9 = .ok (.getfield 167, 3) := by decide +kernel
theorem dX7_forwards_12 : decode cX7_forwards 12 = .ok (.invokevirtual 101, 3) := by decide +kernel
theorem dX7_forwards_15 : decode cX7_forwards 15 = .ok (.iconst 0, 1) := by decide +kernel
theorem dX7_forwards_16 : decode cX7_forwards 16 = .ok (.istore_n 3, 1) := by decide +kernel
theorem dX7_forwards_17 : decode cX7_forwards 17 = .ok (.iload_n 3, 1) := by decide +kernel
theorem dX7_forwards_18 : decode cX7_forwards 18 = .ok (.aload_n 0, 1) := by decide +kernel
theorem dX7_forwards_19 : decode cX7_forwards 19 = .ok (.getfield 167, 3) := by decide +kernel
theorem dX7_forwards_22 : decode cX7_forwards 22 = .ok (.if_icmp .ge 128, 3) := by decide +kernel
theorem dX7_forwards_25 : decode cX7_forwards 25 = .ok (.aload_n 0, 1) := by decide +kernel
theorem dX7_forwards_26 : decode cX7_forwards 26 = .ok (.getfield 7, 3) := by decide +kernel
theorem dX7_forwards_29 : decode cX7_forwards 29 = .ok (.iload_n 2, 1) := by decide +kernel
theorem dX7_forwards_30 : decode cX7_forwards 30 = .ok (.iload_n 3, 1) := by decide +kernel
theorem dX7_forwards_31 : decode cX7_forwards 31 = .ok (.invokestatic 82, 3) := by decide +kernel
theorem dX7_forwards_34 : decode cX7_forwards 34 = .ok (.iload_n 3, 1) := by decide +kernel
theorem dX7_forwards_35 : decode cX7_forwards 35 = .ok (.ifCond .ne 7, 3) := by decide +kernel
theorem dX7_forwards_38 : decode cX7_forwards 38 = .ok (.iconst 1, 1) := by decide +kernel
theorem dX7_forwards_39 : decode cX7_forwards 39 = .ok (.goto 4, 3) := by decide +kernel
theorem dX7_forwards_42 : decode cX7_forwards 42 = .ok (.iconst 0, 1) := by decide +kernel
theorem dX7_forwards_43 : decode cX7_forwards 43 = .ok (.iastore, 1) := by decide +kernel
theorem dX7_forwards_44 : decode cX7_forwards 44 = .ok (.aload_n 0, 1) := by decide +kernel
theorem dX7_forwards_45 : decode cX7_forwards 45 = .ok (.getfield 7, 3) := by decide +kernel
theorem dX7_forwards_48 : decode cX7_forwards 48 = .ok (.iload_n 2, 1) := by decide +kernel
theorem dX7_forwards_49 : decode cX7_forwards 49 = .ok (.iload_n 3, 1) := by decide +kernel
theorem dX7_forwards_50 : decode cX7_forwards 50 = .ok (.invokestatic 85, 3) := by decide +kernel
theorem dX7_forwards_53 : decode cX7_forwards 53 = .ok (.aload_n 0, 1) := by decide +kernel
theorem dX7_forwards_54 : decode cX7_forwards 54 = .ok (.iload_n 3, 1) := by decide +kernel
theorem dX7_forwards_55 : decode cX7_forwards 55 = .ok (.iload_n 1, 1) := by decide +kernel
theorem dX7_forwards_56 : decode cX7_forwards 56 = .ok (.iconst (-1), 1) := by decide +kernel
theorem dX7_forwards_57 : decode cX7_forwards 57 = .ok (.invokevirtual 185, 3) := by decide +kernel
theorem dX7_forwards_60 : decode cX7_forwards 60 = .ok (.iastore, 1) := by decide +kernel
theorem dX7_forwards_61 : decode cX7_forwards 61 = .ok (.iconst 0, 1) := by decide +kernel
theorem dX7_forwards_62 : decode cX7_forwards 62 = .ok (.istore 4, 2) := by decide +kernel
theorem dX7_forwards_64 : decode cX7_forwards 64 = .ok (.iload 4, 2) := by decide +kernel
theorem dX7_forwards_66 : decode cX7_forwards 66 = .ok (.iconst 2, 1) := by decide +kernel
theorem dX7_forwards_67 : decode cX7_forwards 67 = .ok (.if_icmp .ge 77, 3) := by decide +kernel
theorem dX7_forwards_70 : decode cX7_forwards 70 = .ok (.aload_n 0, 1) := by decide +kernel
theorem dX7_forwards_71 : decode cX7_forwards 71 = .ok (.iload_n 3, 1) := by decide +kernel
theorem dX7_forwards_72 : decode cX7_forwards 72 = .ok (.aload_n 0, 1) := by decide +kernel
theorem dX7_forwards_73 : decode cX7_forwards 73 = .ok (.iload_n 1, 1) := by decide +kernel
theorem dX7_forwards_74 : decode cX7_forwards 74 = .ok (.invokevirtual 78, 3) := by decide +kernel
theorem dX7_forwards_77 : decode cX7_forwards 77 = .ok (.invokevirtual 179, 3) := by decide +kernel
theorem dX7_forwards_80 : decode cX7_forwards 80 = .ok (.aload_n 0, 1) := by decide +kernel
theorem dX7_forwards_81 : decode cX7_forwards 81 = .ok (.iload_n 1, 1) := by decide +kernel
theorem dX7_forwards_82 : decode cX7_forwards 82 = .ok (.iconst 0, 1) := by decide +kernel
theorem dX7_forwards_83 : decode cX7_forwards 83 = .ok (.iload 4, 2) := by decide +kernel
theorem dX7_forwards_85 : decode cX7_forwards 85 = .ok (.invokevirtual 143, 3) := by decide +kernel
theorem dX7_forwards_88 : decode cX7_forwards 88 = .ok (.aload_n 0, 1) := by decide +kernel
theorem dX7_forwards_89 : decode cX7_forwards 89 = .ok (.aload_n 0, 1) := by decide +kernel
theorem dX7_forwards_90 : decode cX7_forwards 90 = .ok (.iload_n 1, 1) := by decide +kernel
theorem dX7_forwards_91 : decode cX7_forwards 91 = .ok (.invokevirtual 78, 3) := by decide +kernel
theorem dX7_forwards_94 : decode cX7_forwards 94 = .ok (.invokevirtual 170, 3) := by decide +kernel
theorem dX7_forwards_97 : decode cX7_forwards 97 = .ok (.istore 5, 2) := by decide +kernel
theorem dX7_forwards_99 : decode cX7_forwards 99 = .ok (.iconst 0, 1) := by decide +kernel
theorem dX7_forwards_100 : decode cX7_forwards 100 = .ok (.istore 6, 2) := by decide +kernel
theorem dX7_forwards_102 : decode cX7_forwards 102 = .ok (.iload 6, 2) := by decide +kernel
theorem dX7_forwards_104 : decode cX7_forwards 104 = .ok (.aload_n 0, 1) := by decide +kernel
theorem dX7_forwards_105 : decode cX7_forwards 105 = .ok (.getfield 167, 3) := by decide +kernel
theorem dX7_forwards_108 : decode cX7_forwards 108 = .ok (.if_icmp .ge 30, 3) := by decide +kernel
theorem dX7_forwards_111 : decode cX7_forwards 111 = .ok (.aload_n 0, 1) := by decide +kernel
theorem dX7_forwards_112 : decode cX7_forwards 112 = .ok (.getfield 7, 3) := by decide +kernel
theorem dX7_forwards_115 : decode cX7_forwards 115 = .ok (.iload_n 2, 1) := by decide +kernel
theorem dX7_forwards_116 : decode cX7_forwards 116 = .ok (.iload 4, 2) := by decide +kernel
theorem dX7_forwards_118 : decode cX7_forwards 118 = .ok (.iload_n 3, 1) := by decide +kernel
theorem dX7_forwards_119 : decode cX7_forwards 119 = .ok (.iload 6, 2) := by decide +kernel
theorem dX7_forwards_121 : decode cX7_forwards 121 = .ok (.invokestatic 116, 3) := by decide +kernel
theorem dX7_forwards_124 : decode cX7_forwards 124 = .ok (.aload_n 0, 1) := by decide +kernel
theorem dX7_forwards_125 : decode cX7_forwards 125 = .ok (.getfield 40, 3) := by decide +kernel
theorem dX7_forwards_128 : decode cX7_forwards 128 = .ok (.iload 6, 2) := by decide +kernel
theorem dX7_forwards_130 : decode cX7_forwards 130 = .ok (.iaload, 1) := by decide +kernel
theorem dX7_forwards_131 : decode cX7_forwards 131 = .ok (.iastore, 1) := by decide +kernel
theorem dX7_forwards_132 : decode cX7_forwards 132 = .ok (.iinc 6 1, 3) := by decide +kernel
theorem dX7_forwards_135 : decode cX7_forwards 135 = .ok (.goto (-33), 3) := by decide +kernel
theorem dX7_forwards_138 : decode cX7_forwards 138 = .ok (.iinc 4 1, 3) := by decide +kernel
theorem dX7_forwards_141 : decode cX7_forwards 141 = .ok (.goto (-77), 3) := by decide +kernel
theorem dX7_forwards_144 : decode cX7_forwards 144 = .ok (.iinc 3 1, 3) := by decide +kernel
theorem dX7_forwards_147 : decode cX7_forwards 147 = .ok (.goto (-130), 3) := by decide +kernel
theorem dX7_forwards_150 : decode cX7_forwards 150 = .ok (.return_, 1) := by decide +kernel
theorem dX7_turns_0 : decode cX7_turns 0 = .ok (.aload_n 0, 1) := by decide +kernel
theorem dX7_turns_1 : decode cX7_turns 1 = .ok (.iload_n 2, 1) := by decide +kernel
theorem dX7_turns_2 : decode cX7_turns 2 = .ok (.aload_n 0, 1) := by decide +kernel
theorem dX7_turns_3 : decode cX7_turns 3 = .ok (.iload_n 1, 1) := by decide +kernel
theorem dX7_turns_4 : decode cX7_turns 4 = .ok (.invokevirtual 78, 3) := by decide +kernel
theorem dX7_turns_7 : decode cX7_turns 7 = .ok (.invokevirtual 101, 3) := by decide +kernel
theorem dX7_turns_10 : decode cX7_turns 10 = .ok (.iconst 0, 1) := by decide +kernel
theorem dX7_turns_11 : decode cX7_turns 11 = .ok (.istore_n 3, 1) := by decide +kernel
theorem dX7_turns_12 : decode cX7_turns 12 = .ok (.iload_n 3, 1) := by decide +kernel
theorem dX7_turns_13 : decode cX7_turns 13 = .ok (.aload_n 0, 1) := by decide +kernel
theorem dX7_turns_14 : decode cX7_turns 14 = .ok (.iload_n 1, 1) := by decide +kernel
theorem dX7_turns_15 : decode cX7_turns 15 = .ok (.invokevirtual 78, 3) := by decide +kernel
theorem dX7_turns_18 : decode cX7_turns 18 = .ok (.if_icmp .ge 120, 3) := by decide +kernel
theorem dX7_turns_21 : decode cX7_turns 21 = .ok (.aload_n 0, 1) := by decide +kernel
theorem dX7_turns_22 : decode cX7_turns 22 = .ok (.getfield 7, 3) := by decide +kernel
theorem dX7_turns_25 : decode cX7_turns 25 = .ok (.iload_n 2, 1) := by decide +kernel
theorem dX7_turns_26 : decode cX7_turns 26 = .ok (.iload_n 3, 1) := by decide +kernel
theorem dX7_turns_27 : decode cX7_turns 27 = .ok (.invokestatic 82, 3) := by decide +kernel
theorem dX7_turns_30 : decode cX7_turns 30 = .ok (.aload_n 0, 1) := by decide +kernel
theorem dX7_turns_31 : decode cX7_turns 31 = .ok (.getfield 7, 3) := by decide +kernel
theorem dX7_turns_34 : decode cX7_turns 34 = .ok (.iload_n 1, 1) := by decide +kernel
theorem dX7_turns_35 : decode cX7_turns 35 = .ok (.iload_n 3, 1) := by decide +kernel
theorem dX7_turns_36 : decode cX7_turns 36 = .ok (.invokestatic 85, 3) := by decide +kernel
theorem dX7_turns_39 : decode cX7_turns 39 = .ok (.iaload, 1) := by decide +kernel
theorem dX7_turns_40 : decode cX7_turns 40 = .ok (.iastore, 1) := by decide +kernel
theorem dX7_turns_41 : decode cX7_turns 41 = .ok (.aload_n 0, 1) := by decide +kernel
theorem dX7_turns_42 : decode cX7_turns 42 = .ok (.getfield 7, 3) := by decide +kernel
theorem dX7_turns_45 : decode cX7_turns 45 = .ok (.iload_n 2, 1) := by decide +kernel
theorem dX7_turns_46 : decode cX7_turns 46 = .ok (.iload_n 3, 1) := by decide +kernel
theorem dX7_turns_47 : decode cX7_turns 47 = .ok (.invokestatic 85, 3) := by decide +kernel
theorem dX7_turns_50 : decode cX7_turns 50 = .ok (.aload_n 0, 1) := by decide +kernel
theorem dX7_turns_51 : decode cX7_turns 51 = .ok (.getfield 7, 3) := by decide +kernel
theorem dX7_turns_54 : decode cX7_turns 54 = .ok (.iload_n 1, 1) := by decide +kernel
theorem dX7_turns_55 : decode cX7_turns 55 = .ok (.iload_n 3, 1) := by decide +kernel
theorem dX7_turns_56 : decode cX7_turns 56 = .ok (.invokestatic 82, 3) := by decide +kernel
theorem dX7_turns_59 : decode cX7_turns 59 = .ok (.iaload, 1) := by decide +kernel
theorem dX7_turns_60 : decode cX7_turns 60 = .ok (.iastore, 1) := by decide +kernel
theorem dX7_turns_61 : decode cX7_turns 61 = .ok (.iconst 0, 1) := by decide +kernel
theorem dX7_turns_62 : decode cX7_turns 62 = .ok (.istore 4, 2) := by decide +kernel
theorem dX7_turns_64 : decode cX7_turns 64 = .ok (.iload 4, 2) := by decide +kernel
theorem dX7_turns_66 : decode cX7_turns 66 = .ok (.aload_n 0, 1) := by decide +kernel
theorem dX7_turns_67 : decode cX7_turns 67 = .ok (.iload_n 1, 1) := by decide +kernel
theorem dX7_turns_68 : decode cX7_turns 68 = .ok (.invokevirtual 78, 3) := by decide +kernel
theorem dX7_turns_71 : decode cX7_turns 71 = .ok (.if_icmp .ge 61, 3) := by decide +kernel
theorem dX7_turns_74 : decode cX7_turns 74 = .ok (.aload_n 0, 1) := by decide +kernel
theorem dX7_turns_75 : decode cX7_turns 75 = .ok (.getfield 7, 3) := by decide +kernel
theorem dX7_turns_78 : decode cX7_turns 78 = .ok (.iload_n 2, 1) := by decide +kernel
theorem dX7_turns_79 : decode cX7_turns 79 = .ok (.iconst 0, 1) := by decide +kernel
theorem dX7_turns_80 : decode cX7_turns 80 = .ok (.iload_n 3, 1) := by decide +kernel
theorem dX7_turns_81 : decode cX7_turns 81 = .ok (.iload 4, 2) := by decide +kernel
theorem dX7_turns_83 : decode cX7_turns 83 = .ok (.invokestatic 116, 3) := by decide +kernel
theorem dX7_turns_86 : decode cX7_turns 86 = .ok (.aload_n 0, 1) := by decide +kernel
theorem dX7_turns_87 : decode cX7_turns 87 = .ok (.getfield 7, 3) := by decide +kernel
theorem dX7_turns_90 : decode cX7_turns 90 = .ok (.iload_n 1, 1) := by decide +kernel
theorem dX7_turns_91 : decode cX7_turns 91 = .ok (.iconst 0, 1) := by decide +kernel
theorem dX7_turns_92 : decode cX7_turns 92 = .ok (.iload 4, 2) := by decide +kernel
theorem dX7_turns_94 : decode cX7_turns 94 = .ok (.iload_n 3, 1) := by decide +kernel
theorem dX7_turns_95 : decode cX7_turns 95 = .ok (.invokestatic 116, 3) := by decide +kernel
theorem dX7_turns_98 : decode cX7_turns 98 = .ok (.iaload, 1) := by decide +kernel
theorem dX7_turns_99 : decode cX7_turns 99 = .ok (.iastore, 1) := by decide +kernel
theorem dX7_turns_100 : decode cX7_turns 100 = .ok (.aload_n 0, 1) := by decide +kernel
theorem dX7_turns_101 : decode cX7_turns 101 = .ok (.getfield 7, 3) := by decide +kernel
theorem dX7_turns_104 : decode cX7_turns 104 = .ok (.iload_n 2, 1) := by decide +kernel
theorem dX7_turns_105 : decode cX7_turns 105 = .ok (.iconst 1, 1) := by decide +kernel
theorem dX7_turns_106 : decode cX7_turns 106 = .ok (.iload_n 3, 1) := by decide +kernel
theorem dX7_turns_107 : decode cX7_turns 107 = .ok (.iload 4, 2) := by decide +kernel
theorem dX7_turns_109 : decode cX7_turns 109 = .ok (.invokestatic 116, 3) := by decide +kernel
theorem dX7_turns_112 : decode cX7_turns 112 = .ok (.aload_n 0, 1) := by decide +kernel
theorem dX7_turns_113 : decode cX7_turns 113 = .ok (.getfield 7, 3) := by decide +kernel
theorem dX7_turns_116 : decode cX7_turns 116 = .ok (.iload_n 1, 1) := by decide +kernel
theorem dX7_turns_117 : decode cX7_turns 117 = .ok (.iconst 1, 1) := by decide +kernel
theorem dX7_turns_118 : decode cX7_turns 118 = .ok (.iload 4, 2) := by decide +kernel
theorem dX7_turns_120 : decode cX7_turns 120 = .ok (.iload_n 3, 1) := by decide +kernel
theorem dX7_turns_121 : decode cX7_turns 121 = .ok (.invokestatic 116, 3) := by decide +kernel
theorem dX7_turns_124 : decode cX7_turns 124 = .ok (.iaload, 1) := by decide +kernel
theorem dX7_turns_125 : decode cX7_turns 125 = .ok (.iastore, 1) := by decide +kernel
theorem dX7_turns_126 : decode cX7_turns 126 = .ok (.iinc 4 1, 3) := by decide +kernel
theorem dX7_turns_129 : decode cX7_turns 129 = .ok (.goto (-65), 3) := by decide +kernel
theorem dX7_turns_132 : decode cX7_turns 132 = .ok (.iinc 3 1, 3) := by decide +kernel
theorem dX7_turns_135 : decode cX7_turns 135 = .ok (.goto (-123), 3) := by decide +kernel
theorem dX7_turns_138 : decode cX7_turns 138 = .ok (.return_, 1) := by decide +kernel
theorem dX7_minimizes_0 : decode cX7_minimizes 0 = .ok (.aload_n 0, 1) := by decide +kernel
theorem dX7_minimizes_1 : decode cX7_minimizes 1 = .ok (.iload_n 1, 1) := by decide +kernel
theorem dX7_minimizes_2 : decode cX7_minimizes 2 = .ok (.bipush 7, 2) := by decide +kernel
theorem dX7_minimizes_4 : decode cX7_minimizes 4 = .ok (.invokevirtual 192, 3) := by decide +kernel
theorem dX7_minimizes_7 : decode cX7_minimizes 7 = .ok (.aload_n 0, 1) := by decide +kernel
theorem dX7_minimizes_8 : decode cX7_minimizes 8 = .ok (.bipush 7, 2) := by decide +kernel
theorem dX7_minimizes_10 : decode cX7_minimizes 10 = .ok (.bipush 6, 2) := by decide +kernel
theorem dX7_minimizes_12 : decode cX7_minimizes 12 = .ok (.invokevirtual 195, 3) := by decide +kernel
theorem dX7_minimizes_15 : decode cX7_minimizes 15 = .ok (.aload_n 0, 1) := by decide +kernel
theorem dX7_minimizes_16 : decode cX7_minimizes 16 = .ok (.bipush 6, 2) := by decide +kernel
theorem dX7_minimizes_18 : decode cX7_minimizes 18 = .ok (.bipush 7, 2) := by decide +kernel
theorem dX7_minimizes_20 : decode cX7_minimizes 20 = .ok (.invokevirtual 192, 3) := by decide +kernel
theorem dX7_minimizes_23 : decode cX7_minimizes 23 = .ok (.aload_n 0, 1) := by decide +kernel
theorem dX7_minimizes_24 : decode cX7_minimizes 24 = .ok (.bipush 7, 2) := by decide +kernel
theorem dX7_minimizes_26 : decode cX7_minimizes 26 = .ok (.iload_n 2, 1) := by decide +kernel
theorem dX7_minimizes_27 : decode cX7_minimizes 27 = .ok (.invokevirtual 195, 3) := by decide +kernel
theorem dX7_minimizes_30 : decode cX7_minimizes 30 = .ok (.return_, 1) := by decide +kernel
theorem dX7_dimensionOf_0 : decode cX7_dimensionOf 0 = .ok (.iload_n 2, 1) := by decide +kernel
theorem dX7_dimensionOf_1 : decode cX7_dimensionOf 1 = .ok (.ifCond .ne 14, 3) := by decide +kernel
theorem dX7_dimensionOf_4 : decode cX7_dimensionOf 4 = .ok (.aload_n 0, 1) := by decide +kernel
theorem dX7_dimensionOf_5 : decode cX7_dimensionOf 5 = .ok (.iload_n 1, 1) := by decide +kernel
theorem dX7_dimensionOf_6 : decode cX7_dimensionOf 6 = .ok (.iconst (-1), 1) := by decide +kernel
theorem dX7_dimensionOf_7 : decode cX7_dimensionOf 7 = .ok (.invokevirtual 182, 3) := by decide +kernel
theorem dX7_dimensionOf_10 : decode cX7_dimensionOf 10 = .ok (.aload_n 0, 1) := by decide +kernel
theorem dX7_dimensionOf_11 : decode cX7_dimensionOf 11 = .ok (.getfield 167, 3) := by decide +kernel
theorem dX7_dimensionOf_14 : decode cX7_dimensionOf 14 = .ok (.ireturn, 1) := by decide +kernel
theorem dX7_dimensionOf_15 : decode cX7_dimensionOf 15 = .ok (.iload_n 2, 1) := by decide +kernel
theorem dX7_dimensionOf_16 : decode cX7_dimensionOf 16 = .ok (.iconst 1, 1) := by decide +kernel
theorem dX7_dimensionOf_17 : decode cX7_dimensionOf 17 = .ok (.if_icmp .ne 22, 3) := by decide +kernel
theorem dX7_dimensionOf_20 : decode cX7_dimensionOf 20 = .ok (.aload_n 0, 1) := by decide +kernel
theorem dX7_dimensionOf_21 : decode cX7_dimensionOf 21 = .ok (.iload_n 1, 1) := by decide +kernel
theorem dX7_dimensionOf_22 : decode cX7_dimensionOf 22 = .ok (.bipush 6, 2) := by decide +kernel
theorem dX7_dimensionOf_24 : decode cX7_dimensionOf 24 = .ok (.invokevirtual 195, 3) := by decide +kernel
theorem dX7_dimensionOf_27 : decode cX7_dimensionOf 27 = .ok (.aload_n 0, 1) := by decide +kernel
theorem dX7_dimensionOf_28 : decode cX7_dimensionOf 28 = .ok (.bipush 6, 2) := by decide +kernel
theorem dX7_dimensionOf_30 : decode cX7_dimensionOf 30 = .ok (.iconst (-1), 1) := by decide +kernel
theorem dX7_dimensionOf_31 : decode cX7_dimensionOf 31 = .ok (.invokevirtual 182, 3) := by decide +kernel
theorem dX7_dimensionOf_34 : decode cX7_dimensionOf 34 = .ok (.aload_n 0, 1) := by decide +kernel
theorem dX7_dimensionOf_35 : decode cX7_dimensionOf 35 = .ok (.getfield 167, 3) := by decide +kernel
theorem dX7_dimensionOf_38 : decode cX7_dimensionOf 38 = .ok (.ireturn, 1) := by decide +kernel
theorem dX7_dimensionOf_39 : decode cX7_dimensionOf 39 = .ok (.aload_n 0, 1) := by decide +kernel
theorem dX7_dimensionOf_40 : decode cX7_dimensionOf 40 = .ok (.iload_n 1, 1) := by decide +kernel
theorem dX7_dimensionOf_41 : decode cX7_dimensionOf 41 = .ok (.iconst 5, 1) := by decide +kernel
theorem dX7_dimensionOf_42 : decode cX7_dimensionOf 42 = .ok (.invokevirtual 198, 3) := by decide +kernel
theorem dX7_dimensionOf_45 : decode cX7_dimensionOf 45 = .ok (.aload_n 0, 1) := by decide +kernel
theorem dX7_dimensionOf_46 : decode cX7_dimensionOf 46 = .ok (.iconst 5, 1) := by decide +kernel
theorem dX7_dimensionOf_47 : decode cX7_dimensionOf 47 = .ok (.invokevirtual 78, 3) := by decide +kernel
theorem dX7_dimensionOf_50 : decode cX7_dimensionOf 50 = .ok (.ireturn, 1) := by decide +kernel
theorem dX7_dimension_0 : decode cX7_dimension 0 = .ok (.aload_n 0, 1) := by decide +kernel
theorem dX7_dimension_1 : decode cX7_dimension 1 = .ok (.iload_n 1, 1) := by decide +kernel
theorem dX7_dimension_2 : decode cX7_dimension 2 = .ok (.invokestatic 88, 3) := by decide +kernel
theorem dX7_dimension_5 : decode cX7_dimension 5 = .ok (.iload_n 2, 1) := by decide +kernel
theorem dX7_dimension_6 : decode cX7_dimension 6 = .ok (.i2l, 1) := by decide +kernel
theorem dX7_dimension_7 : decode cX7_dimension 7 = .ok (.lconst 0, 1) := by decide +kernel
theorem dX7_dimension_8 : decode cX7_dimension 8 = .ok (.ldc2_w 201, 3) := by decide +kernel
theorem dX7_dimension_11 : decode cX7_dimension 11 = .ok (.invokestatic 68, 3) := by decide +kernel
theorem dX7_dimension_14 : decode cX7_dimension 14 = .ok (.iconst 1, 1) := by decide +kernel
theorem dX7_dimension_15 : decode cX7_dimension 15 = .ok (.invokevirtual 94, 3) := by decide +kernel
theorem dX7_dimension_18 : decode cX7_dimension 18 = .ok (.ifCond .eq 12, 3) := by decide +kernel
theorem dX7_dimension_21 : decode cX7_dimension 21 = .ok (.aload_n 0, 1) := by decide +kernel
theorem dX7_dimension_22 : decode cX7_dimension 22 = .ok (.iload_n 1, 1) := by decide +kernel
theorem dX7_dimension_23 : decode cX7_dimension 23 = .ok (.iload_n 2, 1) := by decide +kernel
theorem dX7_dimension_24 : decode cX7_dimension 24 = .ok (.invokevirtual 203, 3) := by decide +kernel
theorem dX7_dimension_27 : decode cX7_dimension 27 = .ok (.goto 4, 3) := by decide +kernel
theorem dX7_dimension_30 : decode cX7_dimension 30 = .ok (.iconst 0, 1) := by decide +kernel
theorem dX7_dimension_31 : decode cX7_dimension 31 = .ok (.ireturn, 1) := by decide +kernel
theorem dX7_basisWord_0 : decode cX7_basisWord 0 = .ok (.iload_n 1, 1) := by decide +kernel
theorem dX7_basisWord_1 : decode cX7_basisWord 1 = .ok (.invokestatic 88, 3) := by decide +kernel
theorem dX7_basisWord_4 : decode cX7_basisWord 4 = .ok (.istore_n 3, 1) := by decide +kernel
theorem dX7_basisWord_5 : decode cX7_basisWord 5 = .ok (.iload_n 3, 1) := by decide +kernel
theorem dX7_basisWord_6 : decode cX7_basisWord 6 = .ok (.ifCond .eq 9, 3) := by decide +kernel
theorem dX7_basisWord_9 : decode cX7_basisWord 9 = .ok (.aload_n 0, 1) := by decide +kernel
theorem dX7_basisWord_10 : decode cX7_basisWord 10 = .ok (.iload_n 1, 1) := by decide +kernel
theorem dX7_basisWord_11 : decode cX7_basisWord 11 = .ok (.iconst (-1), 1) := by decide +kernel
theorem dX7_basisWord_12 : decode cX7_basisWord 12 = .ok (.invokevirtual 182, 3) := by decide +kernel
theorem dX7_basisWord_15 : decode cX7_basisWord 15 = .ok (.aload_n 0, 1) := by decide +kernel
theorem dX7_basisWord_16 : decode cX7_basisWord 16 = .ok (.iload_n 3, 1) := by decide +kernel
theorem dX7_basisWord_17 : decode cX7_basisWord 17 = .ok (.ifCond .eq 23, 3) := by decide +kernel
theorem dX7_basisWord_20 : decode cX7_basisWord 20 = .ok (.iload_n 2, 1) := by decide +kernel
theorem dX7_basisWord_21 : decode cX7_basisWord 21 = .ok (.i2l, 1) := by decide +kernel
theorem dX7_basisWord_22 : decode cX7_basisWord 22 = .ok (.lconst 0, 1) := by decide +kernel
theorem dX7_basisWord_23 : decode cX7_basisWord 23 = .ok (.aload_n 0, 1) := by decide +kernel
theorem dX7_basisWord_24 : decode cX7_basisWord 24 = .ok (.getfield 167, 3) := by decide +kernel
theorem dX7_basisWord_27 : decode cX7_basisWord 27 = .ok (.iconst 1, 1) := by decide +kernel
theorem dX7_basisWord_28 : decode cX7_basisWord 28 = .ok (.isub, 1) := by decide +kernel
theorem dX7_basisWord_29 : decode cX7_basisWord 29 = .ok (.i2l, 1) := by decide +kernel
theorem dX7_basisWord_30 : decode cX7_basisWord 30 = .ok (.invokestatic 68, 3) := by decide +kernel
theorem dX7_basisWord_33 : decode cX7_basisWord 33 = .ok (.ifCond .eq 7, 3) := by decide +kernel
theorem dX7_basisWord_36 : decode cX7_basisWord 36 = .ok (.iconst 1, 1) := by decide +kernel
theorem dX7_basisWord_37 : decode cX7_basisWord 37 = .ok (.goto 4, 3) := by decide +kernel
theorem dX7_basisWord_40 : decode cX7_basisWord 40 = .ok (.iconst 0, 1) := by decide +kernel
theorem dX7_basisWord_41 : decode cX7_basisWord 41 = .ok (.iconst 1, 1) := by decide +kernel
theorem dX7_basisWord_42 : decode cX7_basisWord 42 = .ok (.iconst 1, 1) := by decide +kernel
theorem dX7_basisWord_43 : decode cX7_basisWord 43 = .ok (.invokevirtual 94, 3) := by decide +kernel
theorem dX7_basisWord_46 : decode cX7_basisWord 46 = .ok (.ifCond .eq 12, 3) := by decide +kernel
theorem dX7_basisWord_49 : decode cX7_basisWord 49 = .ok (.aload_n 0, 1) := by decide +kernel
theorem dX7_basisWord_50 : decode cX7_basisWord 50 = .ok (.getfield 34, 3) := by decide +kernel
theorem dX7_basisWord_53 : decode cX7_basisWord 53 = .ok (.iload_n 2, 1) := by decide +kernel
theorem dX7_basisWord_54 : decode cX7_basisWord 54 = .ok (.iaload, 1) := by decide +kernel
theorem dX7_basisWord_55 : decode cX7_basisWord 55 = .ok (.goto 4, 3) := by decide +kernel
theorem dX7_basisWord_58 : decode cX7_basisWord 58 = .ok (.iconst 0, 1) := by decide +kernel
theorem dX7_basisWord_59 : decode cX7_basisWord 59 = .ok (.ireturn, 1) := by decide +kernel
theorem dX7_blocks_0 : decode cX7_blocks 0 = .ok (.iconst 0, 1) := by decide +kernel
theorem dX7_blocks_1 : decode cX7_blocks 1 = .ok (.istore 4, 2) := by decide +kernel
theorem dX7_blocks_3 : decode cX7_blocks 3 = .ok (.iload 4, 2) := by decide +kernel
theorem dX7_blocks_5 : decode cX7_blocks 5 = .ok (.aload_n 0, 1) := by decide +kernel
theorem dX7_blocks_6 : decode cX7_blocks 6 = .ok (.iload_n 1, 1) := by decide +kernel
theorem dX7_blocks_7 : decode cX7_blocks 7 = .ok (.invokevirtual 78, 3) := by decide +kernel
theorem dX7_blocks_10 : decode cX7_blocks 10 = .ok (.if_icmp .ge 92, 3) := by decide +kernel
theorem dX7_blocks_13 : decode cX7_blocks 13 = .ok (.iconst 0, 1) := by decide +kernel
theorem dX7_blocks_14 : decode cX7_blocks 14 = .ok (.istore 5, 2) := by decide +kernel
theorem dX7_blocks_16 : decode cX7_blocks 16 = .ok (.iload 5, 2) := by decide +kernel
theorem dX7_blocks_18 : decode cX7_blocks 18 = .ok (.aload_n 0, 1) := by decide +kernel
theorem dX7_blocks_19 : decode cX7_blocks 19 = .ok (.iload_n 1, 1) := by decide +kernel
theorem dX7_blocks_20 : decode cX7_blocks 20 = .ok (.invokevirtual 78, 3) := by decide +kernel
theorem dX7_blocks_23 : decode cX7_blocks 23 = .ok (.if_icmp .ge 73, 3) := by decide +kernel
theorem dX7_blocks_26 : decode cX7_blocks 26 = .ok (.aload_n 0, 1) := by decide +kernel
theorem dX7_blocks_27 : decode cX7_blocks 27 = .ok (.getfield 7, 3) := by decide +kernel
theorem dX7_blocks_30 : decode cX7_blocks 30 = .ok (.iload_n 2, 1) := by decide +kernel
theorem dX7_blocks_31 : decode cX7_blocks 31 = .ok (.iconst 0, 1) := by decide +kernel
theorem dX7_blocks_32 : decode cX7_blocks 32 = .ok (.iload_n 3, 1) := by decide +kernel
theorem dX7_blocks_33 : decode cX7_blocks 33 = .ok (.iload 4, 2) := by decide +kernel
theorem dX7_blocks_35 : decode cX7_blocks 35 = .ok (.iadd, 1) := by decide +kernel
theorem dX7_blocks_36 : decode cX7_blocks 36 = .ok (.iload_n 3, 1) := by decide +kernel
theorem dX7_blocks_37 : decode cX7_blocks 37 = .ok (.iload 5, 2) := by decide +kernel
theorem dX7_blocks_39 : decode cX7_blocks 39 = .ok (.iadd, 1) := by decide +kernel
theorem dX7_blocks_40 : decode cX7_blocks 40 = .ok (.invokestatic 116, 3) := by decide +kernel
theorem dX7_blocks_43 : decode cX7_blocks 43 = .ok (.aload_n 0, 1) := by decide +kernel
theorem dX7_blocks_44 : decode cX7_blocks 44 = .ok (.getfield 7, 3) := by decide +kernel
theorem dX7_blocks_47 : decode cX7_blocks 47 = .ok (.iload_n 1, 1) := by decide +kernel
theorem dX7_blocks_48 : decode cX7_blocks 48 = .ok (.iconst 0, 1) := by decide +kernel
theorem dX7_blocks_49 : decode cX7_blocks 49 = .ok (.iload 4, 2) := by decide +kernel
theorem dX7_blocks_51 : decode cX7_blocks 51 = .ok (.iload 5, 2) := by decide +kernel
theorem dX7_blocks_53 : decode cX7_blocks 53 = .ok (.invokestatic 116, 3) := by decide +kernel
theorem dX7_blocks_56 : decode cX7_blocks 56 = .ok (.iaload, 1) := by decide +kernel
theorem dX7_blocks_57 : decode cX7_blocks 57 = .ok (.iastore, 1) := by decide +kernel
theorem dX7_blocks_58 : decode cX7_blocks 58 = .ok (.aload_n 0, 1) := by decide +kernel
theorem dX7_blocks_59 : decode cX7_blocks 59 = .ok (.getfield 7, 3) := by decide +kernel
theorem dX7_blocks_62 : decode cX7_blocks 62 = .ok (.iload_n 2, 1) := by decide +kernel
theorem dX7_blocks_63 : decode cX7_blocks 63 = .ok (.iconst 1, 1) := by decide +kernel
theorem dX7_blocks_64 : decode cX7_blocks 64 = .ok (.iload_n 3, 1) := by decide +kernel
theorem dX7_blocks_65 : decode cX7_blocks 65 = .ok (.iload 4, 2) := by decide +kernel
theorem dX7_blocks_67 : decode cX7_blocks 67 = .ok (.iadd, 1) := by decide +kernel
theorem dX7_blocks_68 : decode cX7_blocks 68 = .ok (.iload_n 3, 1) := by decide +kernel
theorem dX7_blocks_69 : decode cX7_blocks 69 = .ok (.iload 5, 2) := by decide +kernel
theorem dX7_blocks_71 : decode cX7_blocks 71 = .ok (.iadd, 1) := by decide +kernel
theorem dX7_blocks_72 : decode cX7_blocks 72 = .ok (.invokestatic 116, 3) := by decide +kernel
theorem dX7_blocks_75 : decode cX7_blocks 75 = .ok (.aload_n 0, 1) := by decide +kernel
theorem dX7_blocks_76 : decode cX7_blocks 76 = .ok (.getfield 7, 3) := by decide +kernel
theorem dX7_blocks_79 : decode cX7_blocks 79 = .ok (.iload_n 1, 1) := by decide +kernel
theorem dX7_blocks_80 : decode cX7_blocks 80 = .ok (.iconst 1, 1) := by decide +kernel
theorem dX7_blocks_81 : decode cX7_blocks 81 = .ok (.iload 4, 2) := by decide +kernel
theorem dX7_blocks_83 : decode cX7_blocks 83 = .ok (.iload 5, 2) := by decide +kernel
theorem dX7_blocks_85 : decode cX7_blocks 85 = .ok (.invokestatic 116, 3) := by decide +kernel
theorem dX7_blocks_88 : decode cX7_blocks 88 = .ok (.iaload, 1) := by decide +kernel
theorem dX7_blocks_89 : decode cX7_blocks 89 = .ok (.iastore, 1) := by decide +kernel
theorem dX7_blocks_90 : decode cX7_blocks 90 = .ok (.iinc 5 1, 3) := by decide +kernel
theorem dX7_blocks_93 : decode cX7_blocks 93 = .ok (.goto (-77), 3) := by decide +kernel
theorem dX7_blocks_96 : decode cX7_blocks 96 = .ok (.iinc 4 1, 3) := by decide +kernel
theorem dX7_blocks_99 : decode cX7_blocks 99 = .ok (.goto (-96), 3) := by decide +kernel
theorem dX7_blocks_102 : decode cX7_blocks 102 = .ok (.return_, 1) := by decide +kernel
theorem dX7_sums_0 : decode cX7_sums 0 = .ok (.aload_n 0, 1) := by decide +kernel
theorem dX7_sums_1 : decode cX7_sums 1 = .ok (.iload_n 3, 1) := by decide +kernel
theorem dX7_sums_2 : decode cX7_sums 2 = .ok (.aload_n 0, 1) := by decide +kernel
theorem dX7_sums_3 : decode cX7_sums 3 = .ok (.iload_n 1, 1) := by decide +kernel
theorem dX7_sums_4 : decode cX7_sums 4 = .ok (.invokevirtual 78, 3) := by decide +kernel
theorem dX7_sums_7 : decode cX7_sums 7 = .ok (.aload_n 0, 1) := by decide +kernel
theorem dX7_sums_8 : decode cX7_sums 8 = .ok (.iload_n 2, 1) := by decide +kernel
theorem dX7_sums_9 : decode cX7_sums 9 = .ok (.invokevirtual 78, 3) := by decide +kernel
theorem dX7_sums_12 : decode cX7_sums 12 = .ok (.iadd, 1) := by decide +kernel
theorem dX7_sums_13 : decode cX7_sums 13 = .ok (.invokevirtual 101, 3) := by decide +kernel
theorem dX7_sums_16 : decode cX7_sums 16 = .ok (.aload_n 0, 1) := by decide +kernel
theorem dX7_sums_17 : decode cX7_sums 17 = .ok (.iload_n 1, 1) := by decide +kernel
theorem dX7_sums_18 : decode cX7_sums 18 = .ok (.iload_n 3, 1) := by decide +kernel
theorem dX7_sums_19 : decode cX7_sums 19 = .ok (.iconst 0, 1) := by decide +kernel
theorem dX7_sums_20 : decode cX7_sums 20 = .ok (.invokevirtual 206, 3) := by decide +kernel
theorem dX7_sums_23 : decode cX7_sums 23 = .ok (.aload_n 0, 1) := by decide +kernel
theorem dX7_sums_24 : decode cX7_sums 24 = .ok (.iload_n 2, 1) := by decide +kernel
theorem dX7_sums_25 : decode cX7_sums 25 = .ok (.iload_n 3, 1) := by decide +kernel
theorem dX7_sums_26 : decode cX7_sums 26 = .ok (.aload_n 0, 1) := by decide +kernel
theorem dX7_sums_27 : decode cX7_sums 27 = .ok (.iload_n 1, 1) := by decide +kernel
theorem dX7_sums_28 : decode cX7_sums 28 = .ok (.invokevirtual 78, 3) := by decide +kernel
theorem dX7_sums_31 : decode cX7_sums 31 = .ok (.invokevirtual 206, 3) := by decide +kernel
theorem dX7_sums_34 : decode cX7_sums 34 = .ok (.iconst 0, 1) := by decide +kernel
theorem dX7_sums_35 : decode cX7_sums 35 = .ok (.istore 4, 2) := by decide +kernel
theorem dX7_sums_37 : decode cX7_sums 37 = .ok (.iload 4, 2) := by decide +kernel
theorem dX7_sums_39 : decode cX7_sums 39 = .ok (.aload_n 0, 1) := by decide +kernel
theorem dX7_sums_40 : decode cX7_sums 40 = .ok (.iload_n 3, 1) := by decide +kernel
theorem dX7_sums_41 : decode cX7_sums 41 = .ok (.invokevirtual 78, 3) := by decide +kernel
theorem dX7_sums_44 : decode cX7_sums 44 = .ok (.if_icmp .ge 108, 3) := by decide +kernel
theorem dX7_sums_47 : decode cX7_sums 47 = .ok (.iload 4, 2) := by decide +kernel
theorem dX7_sums_49 : decode cX7_sums 49 = .ok (.aload_n 0, 1) := by decide +kernel
theorem dX7_sums_50 : decode cX7_sums 50 = .ok (.iload_n 1, 1) := by decide +kernel
theorem dX7_sums_51 : decode cX7_sums 51 = .ok (.invokevirtual 78, 3) := by decide +kernel
theorem dX7_sums_54 : decode cX7_sums 54 = .ok (.if_icmp .ge 7, 3) := by decide +kernel
theorem dX7_sums_57 : decode cX7_sums 57 = .ok (.iconst 1, 1) := by decide +kernel
theorem dX7_sums_58 : decode cX7_sums 58 = .ok (.goto 4, 3) := by decide +kernel
theorem dX7_sums_61 : decode cX7_sums 61 = .ok (.iconst 0, 1) := by decide +kernel
theorem dX7_sums_62 : decode cX7_sums 62 = .ok (.istore 5, 2) := by decide +kernel
theorem dX7_sums_64 : decode cX7_sums 64 = .ok (.iload 5, 2) := by decide +kernel
theorem dX7_sums_66 : decode cX7_sums 66 = .ok (.ifCond .eq 8, 3) := by decide +kernel
theorem dX7_sums_69 : decode cX7_sums 69 = .ok (.iload 4, 2) := by decide +kernel
theorem dX7_sums_71 : decode cX7_sums 71 = .ok (.goto 11, 3) := by decide +kernel
theorem dX7_sums_74 : decode cX7_sums 74 = .ok (.iload 4, 2) := by decide +kernel
theorem dX7_sums_76 : decode cX7_sums 76 = .ok (.aload_n 0, 1) := by decide +kernel
theorem dX7_sums_77 : decode cX7_sums 77 = .ok (.iload_n 1, 1) := by decide +kernel
theorem dX7_sums_78 : decode cX7_sums 78 = .ok (.invokevirtual 78, 3) := by decide +kernel
theorem dX7_sums_81 : decode cX7_sums 81 = .ok (.isub, 1) := by decide +kernel
theorem dX7_sums_82 : decode cX7_sums 82 = .ok (.istore 6, 2) := by decide +kernel
theorem dX7_sums_84 : decode cX7_sums 84 = .ok (.aload_n 0, 1) := by decide +kernel
theorem dX7_sums_85 : decode cX7_sums 85 = .ok (.getfield 7, 3) := by decide +kernel
theorem dX7_sums_88 : decode cX7_sums 88 = .ok (.iload_n 3, 1) := by decide +kernel
theorem dX7_sums_89 : decode cX7_sums 89 = .ok (.iload 4, 2) := by decide +kernel
theorem dX7_sums_91 : decode cX7_sums 91 = .ok (.invokestatic 82, 3) := by decide +kernel
theorem dX7_sums_94 : decode cX7_sums 94 = .ok (.aload_n 0, 1) := by decide +kernel
theorem dX7_sums_95 : decode cX7_sums 95 = .ok (.getfield 7, 3) := by decide +kernel
theorem dX7_sums_98 : decode cX7_sums 98 = .ok (.iload 5, 2) := by decide +kernel
theorem dX7_sums_100 : decode cX7_sums 100 = .ok (.ifCond .eq 7, 3) := by decide +kernel
theorem dX7_sums_103 : decode cX7_sums 103 = .ok (.iload_n 1, 1) := by decide +kernel
theorem dX7_sums_104 : decode cX7_sums 104 = .ok (.goto 4, 3) := by decide +kernel
theorem dX7_sums_107 : decode cX7_sums 107 = .ok (.iload_n 2, 1) := by decide +kernel
theorem dX7_sums_108 : decode cX7_sums 108 = .ok (.iload 6, 2) := by decide +kernel
theorem dX7_sums_110 : decode cX7_sums 110 = .ok (.invokestatic 82, 3) := by decide +kernel
theorem dX7_sums_113 : decode cX7_sums 113 = .ok (.iaload, 1) := by decide +kernel
theorem dX7_sums_114 : decode cX7_sums 114 = .ok (.iastore, 1) := by decide +kernel
theorem dX7_sums_115 : decode cX7_sums 115 = .ok (.aload_n 0, 1) := by decide +kernel
theorem dX7_sums_116 : decode cX7_sums 116 = .ok (.getfield 7, 3) := by decide +kernel
theorem dX7_sums_119 : decode cX7_sums 119 = .ok (.iload_n 3, 1) := by decide +kernel
theorem dX7_sums_120 : decode cX7_sums 120 = .ok (.iload 4, 2) := by decide +kernel
theorem dX7_sums_122 : decode cX7_sums 122 = .ok (.invokestatic 85, 3) := by decide +kernel
theorem dX7_sums_125 : decode cX7_sums 125 = .ok (.aload_n 0, 1) := by decide +kernel
theorem dX7_sums_126 : decode cX7_sums 126 = .ok (.getfield 7, 3) := by decide +kernel
theorem dX7_sums_129 : decode cX7_sums 129 = .ok (.iload 5, 2) := by decide +kernel
theorem dX7_sums_131 : decode cX7_sums 131 = .ok (.ifCond .eq 7, 3) := by decide +kernel
theorem dX7_sums_134 : decode cX7_sums 134 = .ok (.iload_n 1, 1) := by decide +kernel
theorem dX7_sums_135 : decode cX7_sums 135 = .ok (.goto 4, 3) := by decide +kernel
theorem dX7_sums_138 : decode cX7_sums 138 = .ok (.iload_n 2, 1) := by decide +kernel
theorem dX7_sums_139 : decode cX7_sums 139 = .ok (.iload 6, 2) := by decide +kernel
theorem dX7_sums_141 : decode cX7_sums 141 = .ok (.invokestatic 85, 3) := by decide +kernel
theorem dX7_sums_144 : decode cX7_sums 144 = .ok (.iaload, 1) := by decide +kernel
theorem dX7_sums_145 : decode cX7_sums 145 = .ok (.iastore, 1) := by decide +kernel
theorem dX7_sums_146 : decode cX7_sums 146 = .ok (.iinc 4 1, 3) := by decide +kernel
theorem dX7_sums_149 : decode cX7_sums 149 = .ok (.goto (-112), 3) := by decide +kernel
theorem dX7_sums_152 : decode cX7_sums 152 = .ok (.return_, 1) := by decide +kernel
theorem dX7_multiplies_0 : decode cX7_multiplies 0 = .ok (.aload_n 0, 1) := by decide +kernel
theorem dX7_multiplies_1 : decode cX7_multiplies 1 = .ok (.iload_n 3, 1) := by decide +kernel
theorem dX7_multiplies_2 : decode cX7_multiplies 2 = .ok (.aload_n 0, 1) := by decide +kernel
theorem dX7_multiplies_3 : decode cX7_multiplies 3 = .ok (.iload_n 1, 1) := by decide +kernel
theorem dX7_multiplies_4 : decode cX7_multiplies 4 = .ok (.invokevirtual 78, 3) := by decide +kernel
theorem dX7_multiplies_7 : decode cX7_multiplies 7 = .ok (.aload_n 0, 1) := by decide +kernel
theorem dX7_multiplies_8 : decode cX7_multiplies 8 = .ok (.iload_n 2, 1) := by decide +kernel
theorem dX7_multiplies_9 : decode cX7_multiplies 9 = .ok (.invokevirtual 78, 3) := by decide +kernel
theorem dX7_multiplies_12 : decode cX7_multiplies 12 = .ok (.imul, 1) := by decide +kernel
theorem dX7_multiplies_13 : decode cX7_multiplies 13 = .ok (.invokevirtual 101, 3) := by decide +kernel
theorem dX7_multiplies_16 : decode cX7_multiplies 16 = .ok (.iconst 0, 1) := by decide +kernel
theorem dX7_multiplies_17 : decode cX7_multiplies 17 = .ok (.istore 4, 2) := by decide +kernel
theorem dX7_multiplies_19 : decode cX7_multiplies 19 = .ok (.iload 4, 2) := by decide +kernel
theorem dX7_multiplies_21 : decode cX7_multiplies 21 = .ok (.aload_n 0, 1) := by decide +kernel
theorem dX7_multiplies_22 : decode cX7_multiplies 22 = .ok (.iload_n 3, 1) := by decide +kernel
theorem dX7_multiplies_23 : decode cX7_multiplies 23 = .ok (.invokevirtual 78, 3) := by decide +kernel
theorem dX7_multiplies_26 : decode cX7_multiplies 26 = .ok (.if_icmp .ge 201, 3) := by decide +kernel
theorem dX7_multiplies_29 : decode cX7_multiplies 29 = .ok (.iload 4, 2) := by decide +kernel
theorem dX7_multiplies_31 : decode cX7_multiplies 31 = .ok (.aload_n 0, 1) := by decide +kernel
theorem dX7_multiplies_32 : decode cX7_multiplies 32 = .ok (.iload_n 2, 1) := by decide +kernel
theorem dX7_multiplies_33 : decode cX7_multiplies 33 = .ok (.invokevirtual 78, 3) := by decide +kernel
theorem dX7_multiplies_36 : decode cX7_multiplies 36 = .ok (.idiv, 1) := by decide +kernel
theorem dX7_multiplies_37 : decode cX7_multiplies 37 = .ok (.istore 5, 2) := by decide +kernel
theorem dX7_multiplies_39 : decode cX7_multiplies 39 = .ok (.iload 4, 2) := by decide +kernel
theorem dX7_multiplies_41 : decode cX7_multiplies 41 = .ok (.aload_n 0, 1) := by decide +kernel
theorem dX7_multiplies_42 : decode cX7_multiplies 42 = .ok (.iload_n 2, 1) := by decide +kernel
theorem dX7_multiplies_43 : decode cX7_multiplies 43 = .ok (.invokevirtual 78, 3) := by decide +kernel
theorem dX7_multiplies_46 : decode cX7_multiplies 46 = .ok (.irem, 1) := by decide +kernel
theorem dX7_multiplies_47 : decode cX7_multiplies 47 = .ok (.istore 6, 2) := by decide +kernel
theorem dX7_multiplies_49 : decode cX7_multiplies 49 = .ok (.aload_n 0, 1) := by decide +kernel
theorem dX7_multiplies_50 : decode cX7_multiplies 50 = .ok (.getfield 7, 3) := by decide +kernel
theorem dX7_multiplies_53 : decode cX7_multiplies 53 = .ok (.iload_n 3, 1) := by decide +kernel
theorem dX7_multiplies_54 : decode cX7_multiplies 54 = .ok (.iload 4, 2) := by decide +kernel
theorem dX7_multiplies_56 : decode cX7_multiplies 56 = .ok (.invokestatic 82, 3) := by decide +kernel
theorem dX7_multiplies_59 : decode cX7_multiplies 59 = .ok (.aload_n 0, 1) := by decide +kernel
theorem dX7_multiplies_60 : decode cX7_multiplies 60 = .ok (.getfield 7, 3) := by decide +kernel
theorem dX7_multiplies_63 : decode cX7_multiplies 63 = .ok (.iload_n 1, 1) := by decide +kernel
theorem dX7_multiplies_64 : decode cX7_multiplies 64 = .ok (.iload 5, 2) := by decide +kernel
theorem dX7_multiplies_66 : decode cX7_multiplies 66 = .ok (.invokestatic 82, 3) := by decide +kernel
theorem dX7_multiplies_69 : decode cX7_multiplies 69 = .ok (.iaload, 1) := by decide +kernel
theorem dX7_multiplies_70 : decode cX7_multiplies 70 = .ok (.aload_n 0, 1) := by decide +kernel
theorem dX7_multiplies_71 : decode cX7_multiplies 71 = .ok (.getfield 7, 3) := by decide +kernel
theorem dX7_multiplies_74 : decode cX7_multiplies 74 = .ok (.iload_n 2, 1) := by decide +kernel
theorem dX7_multiplies_75 : decode cX7_multiplies 75 = .ok (.iload 6, 2) := by decide +kernel
theorem dX7_multiplies_77 : decode cX7_multiplies 77 = .ok (.invokestatic 82, 3) := by decide +kernel
theorem dX7_multiplies_80 : decode cX7_multiplies 80 = .ok (.iaload, 1) := by decide +kernel
theorem dX7_multiplies_81 : decode cX7_multiplies 81 = .ok (.imul, 1) := by decide +kernel
theorem dX7_multiplies_82 : decode cX7_multiplies 82 = .ok (.sipush 10007, 3) := by decide +kernel
theorem dX7_multiplies_85 : decode cX7_multiplies 85 = .ok (.irem, 1) := by decide +kernel
theorem dX7_multiplies_86 : decode cX7_multiplies 86 = .ok (.iastore, 1) := by decide +kernel
theorem dX7_multiplies_87 : decode cX7_multiplies 87 = .ok (.aload_n 0, 1) := by decide +kernel
theorem dX7_multiplies_88 : decode cX7_multiplies 88 = .ok (.getfield 7, 3) := by decide +kernel
theorem dX7_multiplies_91 : decode cX7_multiplies 91 = .ok (.iload_n 3, 1) := by decide +kernel
theorem dX7_multiplies_92 : decode cX7_multiplies 92 = .ok (.iload 4, 2) := by decide +kernel
theorem dX7_multiplies_94 : decode cX7_multiplies 94 = .ok (.invokestatic 85, 3) := by decide +kernel
theorem dX7_multiplies_97 : decode cX7_multiplies 97 = .ok (.aload_n 0, 1) := by decide +kernel
theorem dX7_multiplies_98 : decode cX7_multiplies 98 = .ok (.getfield 7, 3) := by decide +kernel
theorem dX7_multiplies_101 : decode cX7_multiplies 101 = .ok (.iload_n 1, 1) := by decide +kernel
theorem dX7_multiplies_102 : decode cX7_multiplies 102 = .ok (.iload 5, 2) := by decide +kernel
theorem dX7_multiplies_104 : decode cX7_multiplies 104 = .ok (.invokestatic 85, 3) := by decide +kernel
theorem dX7_multiplies_107 : decode cX7_multiplies 107 = .ok (.iaload, 1) := by decide +kernel
theorem dX7_multiplies_108 : decode cX7_multiplies 108 = .ok (.aload_n 0, 1) := by decide +kernel
theorem dX7_multiplies_109 : decode cX7_multiplies 109 = .ok (.getfield 7, 3) := by decide +kernel
theorem dX7_multiplies_112 : decode cX7_multiplies 112 = .ok (.iload_n 2, 1) := by decide +kernel
theorem dX7_multiplies_113 : decode cX7_multiplies 113 = .ok (.iload 6, 2) := by decide +kernel
theorem dX7_multiplies_115 : decode cX7_multiplies 115 = .ok (.invokestatic 85, 3) := by decide +kernel
theorem dX7_multiplies_118 : decode cX7_multiplies 118 = .ok (.iaload, 1) := by decide +kernel
theorem dX7_multiplies_119 : decode cX7_multiplies 119 = .ok (.imul, 1) := by decide +kernel
theorem dX7_multiplies_120 : decode cX7_multiplies 120 = .ok (.sipush 10007, 3) := by decide +kernel
theorem dX7_multiplies_123 : decode cX7_multiplies 123 = .ok (.irem, 1) := by decide +kernel
theorem dX7_multiplies_124 : decode cX7_multiplies 124 = .ok (.iastore, 1) := by decide +kernel
theorem dX7_multiplies_125 : decode cX7_multiplies 125 = .ok (.iconst 0, 1) := by decide +kernel
theorem dX7_multiplies_126 : decode cX7_multiplies 126 = .ok (.istore 7, 2) := by decide +kernel
theorem dX7_multiplies_128 : decode cX7_multiplies 128 = .ok (.iload 7, 2) := by decide +kernel
theorem dX7_multiplies_130 : decode cX7_multiplies 130 = .ok (.aload_n 0, 1) := by decide +kernel
theorem dX7_multiplies_131 : decode cX7_multiplies 131 = .ok (.iload_n 3, 1) := by decide +kernel
theorem dX7_multiplies_132 : decode cX7_multiplies 132 = .ok (.invokevirtual 78, 3) := by decide +kernel
theorem dX7_multiplies_135 : decode cX7_multiplies 135 = .ok (.if_icmp .ge 86, 3) := by decide +kernel
theorem dX7_multiplies_138 : decode cX7_multiplies 138 = .ok (.iconst 0, 1) := by decide +kernel
theorem dX7_multiplies_139 : decode cX7_multiplies 139 = .ok (.istore 8, 2) := by decide +kernel
theorem dX7_multiplies_141 : decode cX7_multiplies 141 = .ok (.iload 8, 2) := by decide +kernel
theorem dX7_multiplies_143 : decode cX7_multiplies 143 = .ok (.iconst 2, 1) := by decide +kernel
theorem dX7_multiplies_144 : decode cX7_multiplies 144 = .ok (.if_icmp .ge 71, 3) := by decide +kernel
theorem dX7_multiplies_147 : decode cX7_multiplies 147 = .ok (.aload_n 0, 1) := by decide +kernel
theorem dX7_multiplies_148 : decode cX7_multiplies 148 = .ok (.getfield 7, 3) := by decide +kernel
theorem dX7_multiplies_151 : decode cX7_multiplies 151 = .ok (.iload_n 3, 1) := by decide +kernel
theorem dX7_multiplies_152 : decode cX7_multiplies 152 = .ok (.iload 8, 2) := by decide +kernel
theorem dX7_multiplies_154 : decode cX7_multiplies 154 = .ok (.iload 4, 2) := by decide +kernel
theorem dX7_multiplies_156 : decode cX7_multiplies 156 = .ok (.iload 7, 2) := by decide +kernel
theorem dX7_multiplies_158 : decode cX7_multiplies 158 = .ok (.invokestatic 116, 3) := by decide +kernel
theorem dX7_multiplies_161 : decode cX7_multiplies 161 = .ok (.aload_n 0, 1) := by decide +kernel
theorem dX7_multiplies_162 : decode cX7_multiplies 162 = .ok (.getfield 7, 3) := by decide +kernel
theorem dX7_multiplies_165 : decode cX7_multiplies 165 = .ok (.iload_n 1, 1) := by decide +kernel
theorem dX7_multiplies_166 : decode cX7_multiplies 166 = .ok (.iload 8, 2) := by decide +kernel
theorem dX7_multiplies_168 : decode cX7_multiplies 168 = .ok (.iload 5, 2) := by decide +kernel
theorem dX7_multiplies_170 : decode cX7_multiplies 170 = .ok (.iload 7, 2) := by decide +kernel
theorem dX7_multiplies_172 : decode cX7_multiplies 172 = .ok (.aload_n 0, 1) := by decide +kernel
theorem dX7_multiplies_173 : decode cX7_multiplies 173 = .ok (.iload_n 2, 1) := by decide +kernel
theorem dX7_multiplies_174 : decode cX7_multiplies 174 = .ok (.invokevirtual 78, 3) := by decide +kernel
theorem dX7_multiplies_177 : decode cX7_multiplies 177 = .ok (.idiv, 1) := by decide +kernel
theorem dX7_multiplies_178 : decode cX7_multiplies 178 = .ok (.invokestatic 116, 3) := by decide +kernel
theorem dX7_multiplies_181 : decode cX7_multiplies 181 = .ok (.iaload, 1) := by decide +kernel
theorem dX7_multiplies_182 : decode cX7_multiplies 182 = .ok (.aload_n 0, 1) := by decide +kernel
theorem dX7_multiplies_183 : decode cX7_multiplies 183 = .ok (.getfield 7, 3) := by decide +kernel
theorem dX7_multiplies_186 : decode cX7_multiplies 186 = .ok (.iload_n 2, 1) := by decide +kernel
theorem dX7_multiplies_187 : decode cX7_multiplies 187 = .ok (.iload 8, 2) := by decide +kernel
theorem dX7_multiplies_189 : decode cX7_multiplies 189 = .ok (.iload 6, 2) := by decide +kernel
theorem dX7_multiplies_191 : decode cX7_multiplies 191 = .ok (.iload 7, 2) := by decide +kernel
theorem dX7_multiplies_193 : decode cX7_multiplies 193 = .ok (.aload_n 0, 1) := by decide +kernel
theorem dX7_multiplies_194 : decode cX7_multiplies 194 = .ok (.iload_n 2, 1) := by decide +kernel
theorem dX7_multiplies_195 : decode cX7_multiplies 195 = .ok (.invokevirtual 78, 3) := by decide +kernel
theorem dX7_multiplies_198 : decode cX7_multiplies 198 = .ok (.irem, 1) := by decide +kernel
theorem dX7_multiplies_199 : decode cX7_multiplies 199 = .ok (.invokestatic 116, 3) := by decide +kernel
theorem dX7_multiplies_202 : decode cX7_multiplies 202 = .ok (.iaload, 1) := by decide +kernel
theorem dX7_multiplies_203 : decode cX7_multiplies 203 = .ok (.imul, 1) := by decide +kernel
theorem dX7_multiplies_204 : decode cX7_multiplies 204 = .ok (.sipush 10007, 3) := by decide +kernel
theorem dX7_multiplies_207 : decode cX7_multiplies 207 = .ok (.irem, 1) := by decide +kernel
theorem dX7_multiplies_208 : decode cX7_multiplies 208 = .ok (.iastore, 1) := by decide +kernel
theorem dX7_multiplies_209 : decode cX7_multiplies 209 = .ok (.iinc 8 1, 3) := by decide +kernel
theorem dX7_multiplies_212 : decode cX7_multiplies 212 = .ok (.goto (-71), 3) := by decide +kernel
theorem dX7_multiplies_215 : decode cX7_multiplies 215 = .ok (.iinc 7 1, 3) := by decide +kernel
theorem dX7_multiplies_218 : decode cX7_multiplies 218 = .ok (.goto (-90), 3) := by decide +kernel
theorem dX7_multiplies_221 : decode cX7_multiplies 221 = .ok (.iinc 4 1, 3) := by decide +kernel
theorem dX7_multiplies_224 : decode cX7_multiplies 224 = .ok (.goto (-205), 3) := by decide +kernel
theorem dX7_multiplies_227 : decode cX7_multiplies 227 = .ok (.return_, 1) := by decide +kernel
theorem dX7_out_0 : decode cX7_out 0 = .ok (.iconst 0, 1) := by decide +kernel
theorem dX7_out_1 : decode cX7_out 1 = .ok (.istore 4, 2) := by decide +kernel
theorem dX7_out_3 : decode cX7_out 3 = .ok (.iconst 0, 1) := by decide +kernel
theorem dX7_out_4 : decode cX7_out 4 = .ok (.istore 5, 2) := by decide +kernel
theorem dX7_out_6 : decode cX7_out 6 = .ok (.iload 5, 2) := by decide +kernel
theorem dX7_out_8 : decode cX7_out 8 = .ok (.aload_n 0, 1) := by decide +kernel
theorem dX7_out_9 : decode cX7_out 9 = .ok (.iload_n 1, 1) := by decide +kernel
theorem dX7_out_10 : decode cX7_out 10 = .ok (.invokevirtual 78, 3) := by decide +kernel
theorem dX7_out_13 : decode cX7_out 13 = .ok (.if_icmp .ge 43, 3) := by decide +kernel
theorem dX7_out_16 : decode cX7_out 16 = .ok (.iload 4, 2) := by decide +kernel
theorem dX7_out_18 : decode cX7_out 18 = .ok (.aload_n 0, 1) := by decide +kernel
theorem dX7_out_19 : decode cX7_out 19 = .ok (.getfield 7, 3) := by decide +kernel
theorem dX7_out_22 : decode cX7_out 22 = .ok (.iload_n 1, 1) := by decide +kernel
theorem dX7_out_23 : decode cX7_out 23 = .ok (.iload_n 2, 1) := by decide +kernel
theorem dX7_out_24 : decode cX7_out 24 = .ok (.iload_n 3, 1) := by decide +kernel
theorem dX7_out_25 : decode cX7_out 25 = .ok (.iload 5, 2) := by decide +kernel
theorem dX7_out_27 : decode cX7_out 27 = .ok (.invokestatic 116, 3) := by decide +kernel
theorem dX7_out_30 : decode cX7_out 30 = .ok (.iaload, 1) := by decide +kernel
theorem dX7_out_31 : decode cX7_out 31 = .ok (.aload_n 0, 1) := by decide +kernel
theorem dX7_out_32 : decode cX7_out 32 = .ok (.getfield 7, 3) := by decide +kernel
theorem dX7_out_35 : decode cX7_out 35 = .ok (.iload_n 1, 1) := by decide +kernel
theorem dX7_out_36 : decode cX7_out 36 = .ok (.iload 5, 2) := by decide +kernel
theorem dX7_out_38 : decode cX7_out 38 = .ok (.invokestatic 85, 3) := by decide +kernel
theorem dX7_out_41 : decode cX7_out 41 = .ok (.iaload, 1) := by decide +kernel
theorem dX7_out_42 : decode cX7_out 42 = .ok (.imul, 1) := by decide +kernel
theorem dX7_out_43 : decode cX7_out 43 = .ok (.iadd, 1) := by decide +kernel
theorem dX7_out_44 : decode cX7_out 44 = .ok (.sipush 10007, 3) := by decide +kernel
theorem dX7_out_47 : decode cX7_out 47 = .ok (.irem, 1) := by decide +kernel
theorem dX7_out_48 : decode cX7_out 48 = .ok (.istore 4, 2) := by decide +kernel
theorem dX7_out_50 : decode cX7_out 50 = .ok (.iinc 5 1, 3) := by decide +kernel
theorem dX7_out_53 : decode cX7_out 53 = .ok (.goto (-47), 3) := by decide +kernel
theorem dX7_out_56 : decode cX7_out 56 = .ok (.iload 4, 2) := by decide +kernel
theorem dX7_out_58 : decode cX7_out 58 = .ok (.ireturn, 1) := by decide +kernel
theorem dX7_into_0 : decode cX7_into 0 = .ok (.iconst 0, 1) := by decide +kernel
theorem dX7_into_1 : decode cX7_into 1 = .ok (.istore 4, 2) := by decide +kernel
theorem dX7_into_3 : decode cX7_into 3 = .ok (.iconst 0, 1) := by decide +kernel
theorem dX7_into_4 : decode cX7_into 4 = .ok (.istore 5, 2) := by decide +kernel
theorem dX7_into_6 : decode cX7_into 6 = .ok (.iload 5, 2) := by decide +kernel
theorem dX7_into_8 : decode cX7_into 8 = .ok (.aload_n 0, 1) := by decide +kernel
theorem dX7_into_9 : decode cX7_into 9 = .ok (.iload_n 1, 1) := by decide +kernel
theorem dX7_into_10 : decode cX7_into 10 = .ok (.invokevirtual 78, 3) := by decide +kernel
theorem dX7_into_13 : decode cX7_into 13 = .ok (.if_icmp .ge 43, 3) := by decide +kernel
theorem dX7_into_16 : decode cX7_into 16 = .ok (.iload 4, 2) := by decide +kernel
theorem dX7_into_18 : decode cX7_into 18 = .ok (.aload_n 0, 1) := by decide +kernel
theorem dX7_into_19 : decode cX7_into 19 = .ok (.getfield 7, 3) := by decide +kernel
theorem dX7_into_22 : decode cX7_into 22 = .ok (.iload_n 1, 1) := by decide +kernel
theorem dX7_into_23 : decode cX7_into 23 = .ok (.iload 5, 2) := by decide +kernel
theorem dX7_into_25 : decode cX7_into 25 = .ok (.invokestatic 82, 3) := by decide +kernel
theorem dX7_into_28 : decode cX7_into 28 = .ok (.iaload, 1) := by decide +kernel
theorem dX7_into_29 : decode cX7_into 29 = .ok (.aload_n 0, 1) := by decide +kernel
theorem dX7_into_30 : decode cX7_into 30 = .ok (.getfield 7, 3) := by decide +kernel
theorem dX7_into_33 : decode cX7_into 33 = .ok (.iload_n 1, 1) := by decide +kernel
theorem dX7_into_34 : decode cX7_into 34 = .ok (.iload_n 2, 1) := by decide +kernel
theorem dX7_into_35 : decode cX7_into 35 = .ok (.iload 5, 2) := by decide +kernel
theorem dX7_into_37 : decode cX7_into 37 = .ok (.iload_n 3, 1) := by decide +kernel
theorem dX7_into_38 : decode cX7_into 38 = .ok (.invokestatic 116, 3) := by decide +kernel
theorem dX7_into_41 : decode cX7_into 41 = .ok (.iaload, 1) := by decide +kernel
theorem dX7_into_42 : decode cX7_into 42 = .ok (.imul, 1) := by decide +kernel
theorem dX7_into_43 : decode cX7_into 43 = .ok (.iadd, 1) := by decide +kernel
theorem dX7_into_44 : decode cX7_into 44 = .ok (.sipush 10007, 3) := by decide +kernel
theorem dX7_into_47 : decode cX7_into 47 = .ok (.irem, 1) := by decide +kernel
theorem dX7_into_48 : decode cX7_into 48 = .ok (.istore 4, 2) := by decide +kernel
theorem dX7_into_50 : decode cX7_into 50 = .ok (.iinc 5 1, 3) := by decide +kernel
theorem dX7_into_53 : decode cX7_into 53 = .ok (.goto (-47), 3) := by decide +kernel
theorem dX7_into_56 : decode cX7_into 56 = .ok (.iload 4, 2) := by decide +kernel
theorem dX7_into_58 : decode cX7_into 58 = .ok (.ireturn, 1) := by decide +kernel
theorem dX7_joins_0 : decode cX7_joins 0 = .ok (.aload_n 0, 1) := by decide +kernel
theorem dX7_joins_1 : decode cX7_joins 1 = .ok (.iload_n 3, 1) := by decide +kernel
theorem dX7_joins_2 : decode cX7_joins 2 = .ok (.aload_n 0, 1) := by decide +kernel
theorem dX7_joins_3 : decode cX7_joins 3 = .ok (.iload_n 1, 1) := by decide +kernel
theorem dX7_joins_4 : decode cX7_joins 4 = .ok (.invokevirtual 78, 3) := by decide +kernel
theorem dX7_joins_7 : decode cX7_joins 7 = .ok (.aload_n 0, 1) := by decide +kernel
theorem dX7_joins_8 : decode cX7_joins 8 = .ok (.iload_n 2, 1) := by decide +kernel
theorem dX7_joins_9 : decode cX7_joins 9 = .ok (.invokevirtual 78, 3) := by decide +kernel
theorem dX7_joins_12 : decode cX7_joins 12 = .ok (.iadd, 1) := by decide +kernel
theorem dX7_joins_13 : decode cX7_joins 13 = .ok (.invokevirtual 101, 3) := by decide +kernel
theorem dX7_joins_16 : decode cX7_joins 16 = .ok (.aload_n 0, 1) := by decide +kernel
theorem dX7_joins_17 : decode cX7_joins 17 = .ok (.iload_n 1, 1) := by decide +kernel
theorem dX7_joins_18 : decode cX7_joins 18 = .ok (.iload_n 3, 1) := by decide +kernel
theorem dX7_joins_19 : decode cX7_joins 19 = .ok (.iconst 0, 1) := by decide +kernel
theorem dX7_joins_20 : decode cX7_joins 20 = .ok (.invokevirtual 206, 3) := by decide +kernel
theorem dX7_joins_23 : decode cX7_joins 23 = .ok (.aload_n 0, 1) := by decide +kernel
theorem dX7_joins_24 : decode cX7_joins 24 = .ok (.iload_n 2, 1) := by decide +kernel
theorem dX7_joins_25 : decode cX7_joins 25 = .ok (.iload_n 3, 1) := by decide +kernel
theorem dX7_joins_26 : decode cX7_joins 26 = .ok (.aload_n 0, 1) := by decide +kernel
theorem dX7_joins_27 : decode cX7_joins 27 = .ok (.iload_n 1, 1) := by decide +kernel
theorem dX7_joins_28 : decode cX7_joins 28 = .ok (.invokevirtual 78, 3) := by decide +kernel
theorem dX7_joins_31 : decode cX7_joins 31 = .ok (.invokevirtual 206, 3) := by decide +kernel
theorem dX7_joins_34 : decode cX7_joins 34 = .ok (.aload_n 0, 1) := by decide +kernel
theorem dX7_joins_35 : decode cX7_joins 35 = .ok (.iload_n 1, 1) := by decide +kernel
theorem dX7_joins_36 : decode cX7_joins 36 = .ok (.invokevirtual 78, 3) := by decide +kernel
theorem dX7_joins_39 : decode cX7_joins 39 = .ok (.istore 4, 2) := by decide +kernel
theorem dX7_joins_41 : decode cX7_joins 41 = .ok (.iconst 0, 1) := by decide +kernel
theorem dX7_joins_42 : decode cX7_joins 42 = .ok (.istore 5, 2) := by decide +kernel
theorem dX7_joins_44 : decode cX7_joins 44 = .ok (.iload 5, 2) := by decide +kernel
theorem dX7_joins_46 : decode cX7_joins 46 = .ok (.iload 4, 2) := by decide +kernel
theorem dX7_joins_48 : decode cX7_joins 48 = .ok (.if_icmp .ge 63, 3) := by decide +kernel
theorem dX7_joins_51 : decode cX7_joins 51 = .ok (.aload_n 0, 1) := by decide +kernel
theorem dX7_joins_52 : decode cX7_joins 52 = .ok (.getfield 7, 3) := by decide +kernel
theorem dX7_joins_55 : decode cX7_joins 55 = .ok (.iload_n 3, 1) := by decide +kernel
theorem dX7_joins_56 : decode cX7_joins 56 = .ok (.iload 5, 2) := by decide +kernel
theorem dX7_joins_58 : decode cX7_joins 58 = .ok (.invokestatic 82, 3) := by decide +kernel
theorem dX7_joins_61 : decode cX7_joins 61 = .ok (.aload_n 0, 1) := by decide +kernel
theorem dX7_joins_62 : decode cX7_joins 62 = .ok (.getfield 7, 3) := by decide +kernel
theorem dX7_joins_65 : decode cX7_joins 65 = .ok (.iload_n 1, 1) := by decide +kernel
theorem dX7_joins_66 : decode cX7_joins 66 = .ok (.iload 5, 2) := by decide +kernel
theorem dX7_joins_68 : decode cX7_joins 68 = .ok (.invokestatic 82, 3) := by decide +kernel
theorem dX7_joins_71 : decode cX7_joins 71 = .ok (.iaload, 1) := by decide +kernel
theorem dX7_joins_72 : decode cX7_joins 72 = .ok (.iastore, 1) := by decide +kernel
theorem dX7_joins_73 : decode cX7_joins 73 = .ok (.aload_n 0, 1) := by decide +kernel
theorem dX7_joins_74 : decode cX7_joins 74 = .ok (.getfield 7, 3) := by decide +kernel
theorem dX7_joins_77 : decode cX7_joins 77 = .ok (.iload_n 3, 1) := by decide +kernel
theorem dX7_joins_78 : decode cX7_joins 78 = .ok (.iload 5, 2) := by decide +kernel
theorem dX7_joins_80 : decode cX7_joins 80 = .ok (.invokestatic 85, 3) := by decide +kernel
theorem dX7_joins_83 : decode cX7_joins 83 = .ok (.aload_n 0, 1) := by decide +kernel
theorem dX7_joins_84 : decode cX7_joins 84 = .ok (.getfield 7, 3) := by decide +kernel
theorem dX7_joins_87 : decode cX7_joins 87 = .ok (.iload_n 1, 1) := by decide +kernel
theorem dX7_joins_88 : decode cX7_joins 88 = .ok (.iload 5, 2) := by decide +kernel
theorem dX7_joins_90 : decode cX7_joins 90 = .ok (.invokestatic 85, 3) := by decide +kernel
theorem dX7_joins_93 : decode cX7_joins 93 = .ok (.iaload, 1) := by decide +kernel
theorem dX7_joins_94 : decode cX7_joins 94 = .ok (.aload_n 0, 1) := by decide +kernel
theorem dX7_joins_95 : decode cX7_joins 95 = .ok (.iload_n 2, 1) := by decide +kernel
theorem dX7_joins_96 : decode cX7_joins 96 = .ok (.invokevirtual 140, 3) := by decide +kernel
theorem dX7_joins_99 : decode cX7_joins 99 = .ok (.imul, 1) := by decide +kernel
theorem dX7_joins_100 : decode cX7_joins 100 = .ok (.sipush 10007, 3) := by decide +kernel
theorem dX7_joins_103 : decode cX7_joins 103 = .ok (.irem, 1) := by decide +kernel
theorem dX7_joins_104 : decode cX7_joins 104 = .ok (.iastore, 1) := by decide +kernel
theorem dX7_joins_105 : decode cX7_joins 105 = .ok (.iinc 5 1, 3) := by decide +kernel
theorem dX7_joins_108 : decode cX7_joins 108 = .ok (.goto (-64), 3) := by decide +kernel
theorem dX7_joins_111 : decode cX7_joins 111 = .ok (.iconst 0, 1) := by decide +kernel
theorem dX7_joins_112 : decode cX7_joins 112 = .ok (.istore 5, 2) := by decide +kernel
theorem dX7_joins_114 : decode cX7_joins 114 = .ok (.iload 5, 2) := by decide +kernel
theorem dX7_joins_116 : decode cX7_joins 116 = .ok (.aload_n 0, 1) := by decide +kernel
theorem dX7_joins_117 : decode cX7_joins 117 = .ok (.iload_n 2, 1) := by decide +kernel
theorem dX7_joins_118 : decode cX7_joins 118 = .ok (.invokevirtual 78, 3) := by decide +kernel
theorem dX7_joins_121 : decode cX7_joins 121 = .ok (.if_icmp .ge 167, 3) := by decide +kernel
theorem dX7_joins_124 : decode cX7_joins 124 = .ok (.aload_n 0, 1) := by decide +kernel
theorem dX7_joins_125 : decode cX7_joins 125 = .ok (.getfield 7, 3) := by decide +kernel
theorem dX7_joins_128 : decode cX7_joins 128 = .ok (.iload_n 3, 1) := by decide +kernel
theorem dX7_joins_129 : decode cX7_joins 129 = .ok (.iload 4, 2) := by decide +kernel
theorem dX7_joins_131 : decode cX7_joins 131 = .ok (.iload 5, 2) := by decide +kernel
theorem dX7_joins_133 : decode cX7_joins 133 = .ok (.iadd, 1) := by decide +kernel
theorem dX7_joins_134 : decode cX7_joins 134 = .ok (.invokestatic 82, 3) := by decide +kernel
theorem dX7_joins_137 : decode cX7_joins 137 = .ok (.aload_n 0, 1) := by decide +kernel
theorem dX7_joins_138 : decode cX7_joins 138 = .ok (.getfield 7, 3) := by decide +kernel
theorem dX7_joins_141 : decode cX7_joins 141 = .ok (.iload_n 2, 1) := by decide +kernel
theorem dX7_joins_142 : decode cX7_joins 142 = .ok (.iload 5, 2) := by decide +kernel
theorem dX7_joins_144 : decode cX7_joins 144 = .ok (.invokestatic 82, 3) := by decide +kernel
theorem dX7_joins_147 : decode cX7_joins 147 = .ok (.iaload, 1) := by decide +kernel
theorem dX7_joins_148 : decode cX7_joins 148 = .ok (.aload_n 0, 1) := by decide +kernel
theorem dX7_joins_149 : decode cX7_joins 149 = .ok (.iload_n 1, 1) := by decide +kernel
theorem dX7_joins_150 : decode cX7_joins 150 = .ok (.invokevirtual 140, 3) := by decide +kernel
theorem dX7_joins_153 : decode cX7_joins 153 = .ok (.imul, 1) := by decide +kernel
theorem dX7_joins_154 : decode cX7_joins 154 = .ok (.sipush 10007, 3) := by decide +kernel
theorem dX7_joins_157 : decode cX7_joins 157 = .ok (.irem, 1) := by decide +kernel
theorem dX7_joins_158 : decode cX7_joins 158 = .ok (.iastore, 1) := by decide +kernel
theorem dX7_joins_159 : decode cX7_joins 159 = .ok (.aload_n 0, 1) := by decide +kernel
theorem dX7_joins_160 : decode cX7_joins 160 = .ok (.getfield 7, 3) := by decide +kernel
theorem dX7_joins_163 : decode cX7_joins 163 = .ok (.iload_n 3, 1) := by decide +kernel
theorem dX7_joins_164 : decode cX7_joins 164 = .ok (.iload 4, 2) := by decide +kernel
theorem dX7_joins_166 : decode cX7_joins 166 = .ok (.iload 5, 2) := by decide +kernel
theorem dX7_joins_168 : decode cX7_joins 168 = .ok (.iadd, 1) := by decide +kernel
theorem dX7_joins_169 : decode cX7_joins 169 = .ok (.invokestatic 85, 3) := by decide +kernel
theorem dX7_joins_172 : decode cX7_joins 172 = .ok (.aload_n 0, 1) := by decide +kernel
theorem dX7_joins_173 : decode cX7_joins 173 = .ok (.getfield 7, 3) := by decide +kernel
theorem dX7_joins_176 : decode cX7_joins 176 = .ok (.iload_n 2, 1) := by decide +kernel
theorem dX7_joins_177 : decode cX7_joins 177 = .ok (.iload 5, 2) := by decide +kernel
theorem dX7_joins_179 : decode cX7_joins 179 = .ok (.invokestatic 85, 3) := by decide +kernel
theorem dX7_joins_182 : decode cX7_joins 182 = .ok (.iaload, 1) := by decide +kernel
theorem dX7_joins_183 : decode cX7_joins 183 = .ok (.iastore, 1) := by decide +kernel
theorem dX7_joins_184 : decode cX7_joins 184 = .ok (.iconst 0, 1) := by decide +kernel
theorem dX7_joins_185 : decode cX7_joins 185 = .ok (.istore 6, 2) := by decide +kernel
theorem dX7_joins_187 : decode cX7_joins 187 = .ok (.iload 6, 2) := by decide +kernel
theorem dX7_joins_189 : decode cX7_joins 189 = .ok (.iload 4, 2) := by decide +kernel
theorem dX7_joins_191 : decode cX7_joins 191 = .ok (.if_icmp .ge 91, 3) := by decide +kernel
theorem dX7_joins_194 : decode cX7_joins 194 = .ok (.aload_n 0, 1) := by decide +kernel
theorem dX7_joins_195 : decode cX7_joins 195 = .ok (.getfield 7, 3) := by decide +kernel
theorem dX7_joins_198 : decode cX7_joins 198 = .ok (.iload_n 3, 1) := by decide +kernel
theorem dX7_joins_199 : decode cX7_joins 199 = .ok (.iconst 0, 1) := by decide +kernel
theorem dX7_joins_200 : decode cX7_joins 200 = .ok (.iload 6, 2) := by decide +kernel
theorem dX7_joins_202 : decode cX7_joins 202 = .ok (.iload 4, 2) := by decide +kernel
theorem dX7_joins_204 : decode cX7_joins 204 = .ok (.iload 5, 2) := by decide +kernel
theorem dX7_joins_206 : decode cX7_joins 206 = .ok (.iadd, 1) := by decide +kernel
theorem dX7_joins_207 : decode cX7_joins 207 = .ok (.invokestatic 116, 3) := by decide +kernel
theorem dX7_joins_210 : decode cX7_joins 210 = .ok (.aload_n 0, 1) := by decide +kernel
theorem dX7_joins_211 : decode cX7_joins 211 = .ok (.iload_n 1, 1) := by decide +kernel
theorem dX7_joins_212 : decode cX7_joins 212 = .ok (.iconst 0, 1) := by decide +kernel
theorem dX7_joins_213 : decode cX7_joins 213 = .ok (.iload 6, 2) := by decide +kernel
theorem dX7_joins_215 : decode cX7_joins 215 = .ok (.invokevirtual 209, 3) := by decide +kernel
theorem dX7_joins_218 : decode cX7_joins 218 = .ok (.aload_n 0, 1) := by decide +kernel
theorem dX7_joins_219 : decode cX7_joins 219 = .ok (.getfield 7, 3) := by decide +kernel
theorem dX7_joins_222 : decode cX7_joins 222 = .ok (.iload_n 2, 1) := by decide +kernel
theorem dX7_joins_223 : decode cX7_joins 223 = .ok (.iload 5, 2) := by decide +kernel
theorem dX7_joins_225 : decode cX7_joins 225 = .ok (.invokestatic 82, 3) := by decide +kernel
theorem dX7_joins_228 : decode cX7_joins 228 = .ok (.iaload, 1) := by decide +kernel
theorem dX7_joins_229 : decode cX7_joins 229 = .ok (.imul, 1) := by decide +kernel
theorem dX7_joins_230 : decode cX7_joins 230 = .ok (.sipush 10007, 3) := by decide +kernel
theorem dX7_joins_233 : decode cX7_joins 233 = .ok (.irem, 1) := by decide +kernel
theorem dX7_joins_234 : decode cX7_joins 234 = .ok (.iastore, 1) := by decide +kernel
theorem dX7_joins_235 : decode cX7_joins 235 = .ok (.aload_n 0, 1) := by decide +kernel
theorem dX7_joins_236 : decode cX7_joins 236 = .ok (.getfield 7, 3) := by decide +kernel
theorem dX7_joins_239 : decode cX7_joins 239 = .ok (.iload_n 3, 1) := by decide +kernel
theorem dX7_joins_240 : decode cX7_joins 240 = .ok (.iconst 1, 1) := by decide +kernel
theorem dX7_joins_241 : decode cX7_joins 241 = .ok (.iload 6, 2) := by decide +kernel
theorem dX7_joins_243 : decode cX7_joins 243 = .ok (.iload 4, 2) := by decide +kernel
theorem dX7_joins_245 : decode cX7_joins 245 = .ok (.iload 5, 2) := by decide +kernel
theorem dX7_joins_247 : decode cX7_joins 247 = .ok (.iadd, 1) := by decide +kernel
theorem dX7_joins_248 : decode cX7_joins 248 = .ok (.invokestatic 116, 3) := by decide +kernel
theorem dX7_joins_251 : decode cX7_joins 251 = .ok (.aload_n 0, 1) := by decide +kernel
theorem dX7_joins_252 : decode cX7_joins 252 = .ok (.iload_n 1, 1) := by decide +kernel
theorem dX7_joins_253 : decode cX7_joins 253 = .ok (.iconst 1, 1) := by decide +kernel
theorem dX7_joins_254 : decode cX7_joins 254 = .ok (.iload 6, 2) := by decide +kernel
theorem dX7_joins_256 : decode cX7_joins 256 = .ok (.invokevirtual 209, 3) := by decide +kernel
theorem dX7_joins_259 : decode cX7_joins 259 = .ok (.aload_n 0, 1) := by decide +kernel
theorem dX7_joins_260 : decode cX7_joins 260 = .ok (.getfield 7, 3) := by decide +kernel
theorem dX7_joins_263 : decode cX7_joins 263 = .ok (.iload_n 2, 1) := by decide +kernel
theorem dX7_joins_264 : decode cX7_joins 264 = .ok (.iload 5, 2) := by decide +kernel
theorem dX7_joins_266 : decode cX7_joins 266 = .ok (.invokestatic 82, 3) := by decide +kernel
theorem dX7_joins_269 : decode cX7_joins 269 = .ok (.iaload, 1) := by decide +kernel
theorem dX7_joins_270 : decode cX7_joins 270 = .ok (.imul, 1) := by decide +kernel
theorem dX7_joins_271 : decode cX7_joins 271 = .ok (.sipush 10007, 3) := by decide +kernel
theorem dX7_joins_274 : decode cX7_joins 274 = .ok (.irem, 1) := by decide +kernel
theorem dX7_joins_275 : decode cX7_joins 275 = .ok (.iastore, 1) := by decide +kernel
theorem dX7_joins_276 : decode cX7_joins 276 = .ok (.iinc 6 1, 3) := by decide +kernel
theorem dX7_joins_279 : decode cX7_joins 279 = .ok (.goto (-92), 3) := by decide +kernel
theorem dX7_joins_282 : decode cX7_joins 282 = .ok (.iinc 5 1, 3) := by decide +kernel
theorem dX7_joins_285 : decode cX7_joins 285 = .ok (.goto (-171), 3) := by decide +kernel
theorem dX7_joins_288 : decode cX7_joins 288 = .ok (.return_, 1) := by decide +kernel
theorem dX7_canStar_0 : decode cX7_canStar 0 = .ok (.aload_n 0, 1) := by decide +kernel
theorem dX7_canStar_1 : decode cX7_canStar 1 = .ok (.iload_n 1, 1) := by decide +kernel
theorem dX7_canStar_2 : decode cX7_canStar 2 = .ok (.invokevirtual 140, 3) := by decide +kernel
theorem dX7_canStar_5 : decode cX7_canStar 5 = .ok (.ifCond .ne 17, 3) := by decide +kernel
theorem dX7_canStar_8 : decode cX7_canStar 8 = .ok (.aload_n 0, 1) := by decide +kernel
theorem dX7_canStar_9 : decode cX7_canStar 9 = .ok (.iload_n 1, 1) := by decide +kernel
theorem dX7_canStar_10 : decode cX7_canStar 10 = .ok (.invokevirtual 78, 3) := by decide +kernel
theorem dX7_canStar_13 : decode cX7_canStar 13 = .ok (.bipush 12, 2) := by decide +kernel
theorem dX7_canStar_15 : decode cX7_canStar 15 = .ok (.if_icmp .ge 7, 3) := by decide +kernel
theorem dX7_canStar_18 : decode cX7_canStar 18 = .ok (.iconst 1, 1) := by decide +kernel
theorem dX7_canStar_19 : decode cX7_canStar 19 = .ok (.goto 4, 3) := by decide +kernel
theorem dX7_canStar_22 : decode cX7_canStar 22 = .ok (.iconst 0, 1) := by decide +kernel
theorem dX7_canStar_23 : decode cX7_canStar 23 = .ok (.ireturn, 1) := by decide +kernel
theorem dX7_stars_0 : decode cX7_stars 0 = .ok (.aload_n 0, 1) := by decide +kernel
theorem dX7_stars_1 : decode cX7_stars 1 = .ok (.iload_n 2, 1) := by decide +kernel
theorem dX7_stars_2 : decode cX7_stars 2 = .ok (.aload_n 0, 1) := by decide +kernel
theorem dX7_stars_3 : decode cX7_stars 3 = .ok (.iload_n 1, 1) := by decide +kernel
theorem dX7_stars_4 : decode cX7_stars 4 = .ok (.invokevirtual 78, 3) := by decide +kernel
theorem dX7_stars_7 : decode cX7_stars 7 = .ok (.iconst 1, 1) := by decide +kernel
theorem dX7_stars_8 : decode cX7_stars 8 = .ok (.iadd, 1) := by decide +kernel
theorem dX7_stars_9 : decode cX7_stars 9 = .ok (.invokevirtual 101, 3) := by decide +kernel
theorem dX7_stars_12 : decode cX7_stars 12 = .ok (.aload_n 0, 1) := by decide +kernel
theorem dX7_stars_13 : decode cX7_stars 13 = .ok (.iload_n 1, 1) := by decide +kernel
theorem dX7_stars_14 : decode cX7_stars 14 = .ok (.iload_n 2, 1) := by decide +kernel
theorem dX7_stars_15 : decode cX7_stars 15 = .ok (.iconst 1, 1) := by decide +kernel
theorem dX7_stars_16 : decode cX7_stars 16 = .ok (.invokevirtual 206, 3) := by decide +kernel
theorem dX7_stars_19 : decode cX7_stars 19 = .ok (.aload_n 0, 1) := by decide +kernel
theorem dX7_stars_20 : decode cX7_stars 20 = .ok (.getfield 7, 3) := by decide +kernel
theorem dX7_stars_23 : decode cX7_stars 23 = .ok (.iload_n 2, 1) := by decide +kernel
theorem dX7_stars_24 : decode cX7_stars 24 = .ok (.iconst 0, 1) := by decide +kernel
theorem dX7_stars_25 : decode cX7_stars 25 = .ok (.invokestatic 82, 3) := by decide +kernel
theorem dX7_stars_28 : decode cX7_stars 28 = .ok (.iconst 1, 1) := by decide +kernel
theorem dX7_stars_29 : decode cX7_stars 29 = .ok (.iastore, 1) := by decide +kernel
theorem dX7_stars_30 : decode cX7_stars 30 = .ok (.aload_n 0, 1) := by decide +kernel
theorem dX7_stars_31 : decode cX7_stars 31 = .ok (.getfield 7, 3) := by decide +kernel
theorem dX7_stars_34 : decode cX7_stars 34 = .ok (.iload_n 2, 1) := by decide +kernel
theorem dX7_stars_35 : decode cX7_stars 35 = .ok (.iconst 0, 1) := by decide +kernel
theorem dX7_stars_36 : decode cX7_stars 36 = .ok (.invokestatic 85, 3) := by decide +kernel
theorem dX7_stars_39 : decode cX7_stars 39 = .ok (.iconst 1, 1) := by decide +kernel
theorem dX7_stars_40 : decode cX7_stars 40 = .ok (.iastore, 1) := by decide +kernel
theorem dX7_stars_41 : decode cX7_stars 41 = .ok (.iconst 0, 1) := by decide +kernel
theorem dX7_stars_42 : decode cX7_stars 42 = .ok (.istore_n 3, 1) := by decide +kernel
theorem dX7_stars_43 : decode cX7_stars 43 = .ok (.iload_n 3, 1) := by decide +kernel
theorem dX7_stars_44 : decode cX7_stars 44 = .ok (.iconst 2, 1) := by decide +kernel
theorem dX7_stars_45 : decode cX7_stars 45 = .ok (.if_icmp .ge 120, 3) := by decide +kernel
theorem dX7_stars_48 : decode cX7_stars 48 = .ok (.iconst 0, 1) := by decide +kernel
theorem dX7_stars_49 : decode cX7_stars 49 = .ok (.istore 4, 2) := by decide +kernel
theorem dX7_stars_51 : decode cX7_stars 51 = .ok (.iconst 0, 1) := by decide +kernel
theorem dX7_stars_52 : decode cX7_stars 52 = .ok (.istore 5, 2) := by decide +kernel
theorem dX7_stars_54 : decode cX7_stars 54 = .ok (.iload 5, 2) := by decide +kernel
theorem dX7_stars_56 : decode cX7_stars 56 = .ok (.aload_n 0, 1) := by decide +kernel
theorem dX7_stars_57 : decode cX7_stars 57 = .ok (.iload_n 1, 1) := by decide +kernel
theorem dX7_stars_58 : decode cX7_stars 58 = .ok (.invokevirtual 78, 3) := by decide +kernel
theorem dX7_stars_61 : decode cX7_stars 61 = .ok (.if_icmp .ge 84, 3) := by decide +kernel
theorem dX7_stars_64 : decode cX7_stars 64 = .ok (.iload 4, 2) := by decide +kernel
theorem dX7_stars_66 : decode cX7_stars 66 = .ok (.aload_n 0, 1) := by decide +kernel
theorem dX7_stars_67 : decode cX7_stars 67 = .ok (.getfield 7, 3) := by decide +kernel
theorem dX7_stars_70 : decode cX7_stars 70 = .ok (.iload_n 1, 1) := by decide +kernel
theorem dX7_stars_71 : decode cX7_stars 71 = .ok (.iload 5, 2) := by decide +kernel
theorem dX7_stars_73 : decode cX7_stars 73 = .ok (.invokestatic 82, 3) := by decide +kernel
theorem dX7_stars_76 : decode cX7_stars 76 = .ok (.iaload, 1) := by decide +kernel
theorem dX7_stars_77 : decode cX7_stars 77 = .ok (.aload_n 0, 1) := by decide +kernel
theorem dX7_stars_78 : decode cX7_stars 78 = .ok (.iload_n 1, 1) := by decide +kernel
theorem dX7_stars_79 : decode cX7_stars 79 = .ok (.iload_n 3, 1) := by decide +kernel
theorem dX7_stars_80 : decode cX7_stars 80 = .ok (.iload 5, 2) := by decide +kernel
theorem dX7_stars_82 : decode cX7_stars 82 = .ok (.invokevirtual 209, 3) := by decide +kernel
theorem dX7_stars_85 : decode cX7_stars 85 = .ok (.imul, 1) := by decide +kernel
theorem dX7_stars_86 : decode cX7_stars 86 = .ok (.iadd, 1) := by decide +kernel
theorem dX7_stars_87 : decode cX7_stars 87 = .ok (.sipush 10007, 3) := by decide +kernel
theorem dX7_stars_90 : decode cX7_stars 90 = .ok (.irem, 1) := by decide +kernel
theorem dX7_stars_91 : decode cX7_stars 91 = .ok (.istore 4, 2) := by decide +kernel
theorem dX7_stars_93 : decode cX7_stars 93 = .ok (.aload_n 0, 1) := by decide +kernel
theorem dX7_stars_94 : decode cX7_stars 94 = .ok (.getfield 7, 3) := by decide +kernel
theorem dX7_stars_97 : decode cX7_stars 97 = .ok (.iload_n 2, 1) := by decide +kernel
theorem dX7_stars_98 : decode cX7_stars 98 = .ok (.iload_n 3, 1) := by decide +kernel
theorem dX7_stars_99 : decode cX7_stars 99 = .ok (.iconst 0, 1) := by decide +kernel
theorem dX7_stars_100 : decode cX7_stars 100 = .ok (.iconst 1, 1) := by decide +kernel
theorem dX7_stars_101 : decode cX7_stars 101 = .ok (.iload 5, 2) := by decide +kernel
theorem dX7_stars_103 : decode cX7_stars 103 = .ok (.iadd, 1) := by decide +kernel
theorem dX7_stars_104 : decode cX7_stars 104 = .ok (.invokestatic 116, 3) := by decide +kernel
theorem dX7_stars_107 : decode cX7_stars 107 = .ok (.aload_n 0, 1) := by decide +kernel
theorem dX7_stars_108 : decode cX7_stars 108 = .ok (.iload_n 1, 1) := by decide +kernel
theorem dX7_stars_109 : decode cX7_stars 109 = .ok (.iload_n 3, 1) := by decide +kernel
theorem dX7_stars_110 : decode cX7_stars 110 = .ok (.iload 5, 2) := by decide +kernel
theorem dX7_stars_112 : decode cX7_stars 112 = .ok (.invokevirtual 212, 3) := by decide +kernel
theorem dX7_stars_115 : decode cX7_stars 115 = .ok (.iastore, 1) := by decide +kernel
theorem dX7_stars_116 : decode cX7_stars 116 = .ok (.aload_n 0, 1) := by decide +kernel
theorem dX7_stars_117 : decode cX7_stars 117 = .ok (.getfield 7, 3) := by decide +kernel
theorem dX7_stars_120 : decode cX7_stars 120 = .ok (.iload_n 2, 1) := by decide +kernel
theorem dX7_stars_121 : decode cX7_stars 121 = .ok (.iload_n 3, 1) := by decide +kernel
theorem dX7_stars_122 : decode cX7_stars 122 = .ok (.iconst 1, 1) := by decide +kernel
theorem dX7_stars_123 : decode cX7_stars 123 = .ok (.iload 5, 2) := by decide +kernel
theorem dX7_stars_125 : decode cX7_stars 125 = .ok (.iadd, 1) := by decide +kernel
theorem dX7_stars_126 : decode cX7_stars 126 = .ok (.iconst 0, 1) := by decide +kernel
theorem dX7_stars_127 : decode cX7_stars 127 = .ok (.invokestatic 116, 3) := by decide +kernel
theorem dX7_stars_130 : decode cX7_stars 130 = .ok (.aload_n 0, 1) := by decide +kernel
theorem dX7_stars_131 : decode cX7_stars 131 = .ok (.iload_n 1, 1) := by decide +kernel
theorem dX7_stars_132 : decode cX7_stars 132 = .ok (.iload_n 3, 1) := by decide +kernel
theorem dX7_stars_133 : decode cX7_stars 133 = .ok (.iload 5, 2) := by decide +kernel
theorem dX7_stars_135 : decode cX7_stars 135 = .ok (.invokevirtual 209, 3) := by decide +kernel
theorem dX7_stars_138 : decode cX7_stars 138 = .ok (.iastore, 1) := by decide +kernel
theorem dX7_stars_139 : decode cX7_stars 139 = .ok (.iinc 5 1, 3) := by decide +kernel
theorem dX7_stars_142 : decode cX7_stars 142 = .ok (.goto (-88), 3) := by decide +kernel
theorem dX7_stars_145 : decode cX7_stars 145 = .ok (.aload_n 0, 1) := by decide +kernel
theorem dX7_stars_146 : decode cX7_stars 146 = .ok (.getfield 7, 3) := by decide +kernel
theorem dX7_stars_149 : decode cX7_stars 149 = .ok (.iload_n 2, 1) := by decide +kernel
theorem dX7_stars_150 : decode cX7_stars 150 = .ok (.iload_n 3, 1) := by decide +kernel
theorem dX7_stars_151 : decode cX7_stars 151 = .ok (.iconst 0, 1) := by decide +kernel
theorem dX7_stars_152 : decode cX7_stars 152 = .ok (.iconst 0, 1) := by decide +kernel
theorem dX7_stars_153 : decode cX7_stars 153 = .ok (.invokestatic 116, 3) := by decide +kernel
theorem dX7_stars_156 : decode cX7_stars 156 = .ok (.iload 4, 2) := by decide +kernel
theorem dX7_stars_158 : decode cX7_stars 158 = .ok (.iastore, 1) := by decide +kernel
theorem dX7_stars_159 : decode cX7_stars 159 = .ok (.iinc 3 1, 3) := by decide +kernel
theorem dX7_stars_162 : decode cX7_stars 162 = .ok (.goto (-119), 3) := by decide +kernel
theorem dX7_stars_165 : decode cX7_stars 165 = .ok (.return_, 1) := by decide +kernel
theorem dX7_manyOf_0 : decode cX7_manyOf 0 = .ok (.iload_n 3, 1) := by decide +kernel
theorem dX7_manyOf_1 : decode cX7_manyOf 1 = .ok (.iconst 1, 1) := by decide +kernel
theorem dX7_manyOf_2 : decode cX7_manyOf 2 = .ok (.if_icmp .ne 17, 3) := by decide +kernel
theorem dX7_manyOf_5 : decode cX7_manyOf 5 = .ok (.aload_n 0, 1) := by decide +kernel
theorem dX7_manyOf_6 : decode cX7_manyOf 6 = .ok (.iload_n 1, 1) := by decide +kernel
theorem dX7_manyOf_7 : decode cX7_manyOf 7 = .ok (.invokevirtual 78, 3) := by decide +kernel
theorem dX7_manyOf_10 : decode cX7_manyOf 10 = .ok (.aload_n 0, 1) := by decide +kernel
theorem dX7_manyOf_11 : decode cX7_manyOf 11 = .ok (.iload_n 2, 1) := by decide +kernel
theorem dX7_manyOf_12 : decode cX7_manyOf 12 = .ok (.invokevirtual 78, 3) := by decide +kernel
theorem dX7_manyOf_15 : decode cX7_manyOf 15 = .ok (.imul, 1) := by decide +kernel
theorem dX7_manyOf_16 : decode cX7_manyOf 16 = .ok (.goto 14, 3) := by decide +kernel
theorem dX7_manyOf_19 : decode cX7_manyOf 19 = .ok (.aload_n 0, 1) := by decide +kernel
theorem dX7_manyOf_20 : decode cX7_manyOf 20 = .ok (.iload_n 1, 1) := by decide +kernel
theorem dX7_manyOf_21 : decode cX7_manyOf 21 = .ok (.invokevirtual 78, 3) := by decide +kernel
theorem dX7_manyOf_24 : decode cX7_manyOf 24 = .ok (.aload_n 0, 1) := by decide +kernel
theorem dX7_manyOf_25 : decode cX7_manyOf 25 = .ok (.iload_n 2, 1) := by decide +kernel
theorem dX7_manyOf_26 : decode cX7_manyOf 26 = .ok (.invokevirtual 78, 3) := by decide +kernel
theorem dX7_manyOf_29 : decode cX7_manyOf 29 = .ok (.iadd, 1) := by decide +kernel
theorem dX7_manyOf_30 : decode cX7_manyOf 30 = .ok (.ireturn, 1) := by decide +kernel
theorem dX7_combines_0 : decode cX7_combines 0 = .ok (.iload_n 3, 1) := by decide +kernel
theorem dX7_combines_1 : decode cX7_combines 1 = .ok (.ifCond .ne 13, 3) := by decide +kernel
theorem dX7_combines_4 : decode cX7_combines 4 = .ok (.aload_n 0, 1) := by decide +kernel
theorem dX7_combines_5 : decode cX7_combines 5 = .ok (.iload_n 1, 1) := by decide +kernel
theorem dX7_combines_6 : decode cX7_combines 6 = .ok (.iload_n 2, 1) := by decide +kernel
theorem dX7_combines_7 : decode cX7_combines 7 = .ok (.iconst 5, 1) := by decide +kernel
theorem dX7_combines_8 : decode cX7_combines 8 = .ok (.invokevirtual 215, 3) := by decide +kernel
theorem dX7_combines_11 : decode cX7_combines 11 = .ok (.goto 25, 3) := by decide +kernel
theorem dX7_combines_14 : decode cX7_combines 14 = .ok (.iload_n 3, 1) := by decide +kernel
theorem dX7_combines_15 : decode cX7_combines 15 = .ok (.iconst 1, 1) := by decide +kernel
theorem dX7_combines_16 : decode cX7_combines 16 = .ok (.if_icmp .ne 13, 3) := by decide +kernel
theorem dX7_combines_19 : decode cX7_combines 19 = .ok (.aload_n 0, 1) := by decide +kernel
theorem dX7_combines_20 : decode cX7_combines 20 = .ok (.iload_n 1, 1) := by decide +kernel
theorem dX7_combines_21 : decode cX7_combines 21 = .ok (.iload_n 2, 1) := by decide +kernel
theorem dX7_combines_22 : decode cX7_combines 22 = .ok (.iconst 5, 1) := by decide +kernel
theorem dX7_combines_23 : decode cX7_combines 23 = .ok (.invokevirtual 218, 3) := by decide +kernel
theorem dX7_combines_26 : decode cX7_combines 26 = .ok (.goto 10, 3) := by decide +kernel
theorem dX7_combines_29 : decode cX7_combines 29 = .ok (.aload_n 0, 1) := by decide +kernel
theorem dX7_combines_30 : decode cX7_combines 30 = .ok (.iload_n 1, 1) := by decide +kernel
theorem dX7_combines_31 : decode cX7_combines 31 = .ok (.iload_n 2, 1) := by decide +kernel
theorem dX7_combines_32 : decode cX7_combines 32 = .ok (.iconst 5, 1) := by decide +kernel
theorem dX7_combines_33 : decode cX7_combines 33 = .ok (.invokevirtual 221, 3) := by decide +kernel
theorem dX7_combines_36 : decode cX7_combines 36 = .ok (.return_, 1) := by decide +kernel
theorem dX7_combine_0 : decode cX7_combine 0 = .ok (.iload_n 1, 1) := by decide +kernel
theorem dX7_combine_1 : decode cX7_combine 1 = .ok (.invokestatic 88, 3) := by decide +kernel
theorem dX7_combine_4 : decode cX7_combine 4 = .ok (.ifCond .eq 21, 3) := by decide +kernel
theorem dX7_combine_7 : decode cX7_combine 7 = .ok (.iload_n 2, 1) := by decide +kernel
theorem dX7_combine_8 : decode cX7_combine 8 = .ok (.invokestatic 88, 3) := by decide +kernel
theorem dX7_combine_11 : decode cX7_combine 11 = .ok (.ifCond .eq 14, 3) := by decide +kernel
theorem dX7_combine_14 : decode cX7_combine 14 = .ok (.iload_n 3, 1) := by decide +kernel
theorem dX7_combine_15 : decode cX7_combine 15 = .ok (.invokestatic 88, 3) := by decide +kernel
theorem dX7_combine_18 : decode cX7_combine 18 = .ok (.ifCond .eq 7, 3) := by decide +kernel
theorem dX7_combine_21 : decode cX7_combine 21 = .ok (.iconst 1, 1) := by decide +kernel
theorem dX7_combine_22 : decode cX7_combine 22 = .ok (.goto 4, 3) := by decide +kernel
theorem dX7_combine_25 : decode cX7_combine 25 = .ok (.iconst 0, 1) := by decide +kernel
theorem dX7_combine_26 : decode cX7_combine 26 = .ok (.istore 5, 2) := by decide +kernel
theorem dX7_combine_28 : decode cX7_combine 28 = .ok (.aload_n 0, 1) := by decide +kernel
theorem dX7_combine_29 : decode cX7_combine 29 = .ok (.iload 5, 2) := by decide +kernel
theorem dX7_combine_31 : decode cX7_combine 31 = .ok (.iload 4, 2) := by decide +kernel
theorem dX7_combine_33 : decode cX7_combine 33 = .ok (.i2l, 1) := by decide +kernel
theorem dX7_combine_34 : decode cX7_combine 34 = .ok (.lconst 0, 1) := by decide +kernel
theorem dX7_combine_35 : decode cX7_combine 35 = .ok (.ldc2_w 201, 3) := by decide +kernel
theorem dX7_combine_38 : decode cX7_combine 38 = .ok (.invokestatic 68, 3) := by decide +kernel
theorem dX7_combine_41 : decode cX7_combine 41 = .ok (.iload 5, 2) := by decide +kernel
theorem dX7_combine_43 : decode cX7_combine 43 = .ok (.ifCond .eq 33, 3) := by decide +kernel
theorem dX7_combine_46 : decode cX7_combine 46 = .ok (.iload 4, 2) := by decide +kernel
theorem dX7_combine_48 : decode cX7_combine 48 = .ok (.i2l, 1) := by decide +kernel
theorem dX7_combine_49 : decode cX7_combine 49 = .ok (.lconst 0, 1) := by decide +kernel
theorem dX7_combine_50 : decode cX7_combine 50 = .ok (.ldc2_w 201, 3) := by decide +kernel
theorem dX7_combine_53 : decode cX7_combine 53 = .ok (.invokestatic 68, 3) := by decide +kernel
theorem dX7_combine_56 : decode cX7_combine 56 = .ok (.ifCond .eq 20, 3) := by decide +kernel
theorem dX7_combine_59 : decode cX7_combine 59 = .ok (.aload_n 0, 1) := by decide +kernel
theorem dX7_combine_60 : decode cX7_combine 60 = .ok (.iload_n 2, 1) := by decide +kernel
theorem dX7_combine_61 : decode cX7_combine 61 = .ok (.iload_n 3, 1) := by decide +kernel
theorem dX7_combine_62 : decode cX7_combine 62 = .ok (.iload 4, 2) := by decide +kernel
theorem dX7_combine_64 : decode cX7_combine 64 = .ok (.invokevirtual 224, 3) := by decide +kernel
theorem dX7_combine_67 : decode cX7_combine 67 = .ok (.bipush 12, 2) := by decide +kernel
theorem dX7_combine_69 : decode cX7_combine 69 = .ok (.if_icmp .gt 7, 3) := by decide +kernel
theorem dX7_combine_72 : decode cX7_combine 72 = .ok (.iconst 1, 1) := by decide +kernel
theorem dX7_combine_73 : decode cX7_combine 73 = .ok (.goto 4, 3) := by decide +kernel
theorem dX7_combine_76 : decode cX7_combine 76 = .ok (.iconst 0, 1) := by decide +kernel
theorem dX7_combine_77 : decode cX7_combine 77 = .ok (.invokevirtual 94, 3) := by decide +kernel
theorem dX7_combine_80 : decode cX7_combine 80 = .ok (.ifCond .ne 5, 3) := by decide +kernel
theorem dX7_combine_83 : decode cX7_combine 83 = .ok (.iconst 0, 1) := by decide +kernel
theorem dX7_combine_84 : decode cX7_combine 84 = .ok (.ireturn, 1) := by decide +kernel
theorem dX7_combine_85 : decode cX7_combine 85 = .ok (.aload_n 0, 1) := by decide +kernel
theorem dX7_combine_86 : decode cX7_combine 86 = .ok (.invokevirtual 98, 3) := by decide +kernel
theorem dX7_combine_89 : decode cX7_combine 89 = .ok (.aload_n 0, 1) := by decide +kernel
theorem dX7_combine_90 : decode cX7_combine 90 = .ok (.iload_n 2, 1) := by decide +kernel
theorem dX7_combine_91 : decode cX7_combine 91 = .ok (.iload_n 3, 1) := by decide +kernel
theorem dX7_combine_92 : decode cX7_combine 92 = .ok (.iload 4, 2) := by decide +kernel
theorem dX7_combine_94 : decode cX7_combine 94 = .ok (.invokevirtual 227, 3) := by decide +kernel
theorem dX7_combine_97 : decode cX7_combine 97 = .ok (.aload_n 0, 1) := by decide +kernel
theorem dX7_combine_98 : decode cX7_combine 98 = .ok (.iconst 5, 1) := by decide +kernel
theorem dX7_combine_99 : decode cX7_combine 99 = .ok (.iload_n 1, 1) := by decide +kernel
theorem dX7_combine_100 : decode cX7_combine 100 = .ok (.invokevirtual 230, 3) := by decide +kernel
theorem dX7_combine_103 : decode cX7_combine 103 = .ok (.aload_n 0, 1) := by decide +kernel
theorem dX7_combine_104 : decode cX7_combine 104 = .ok (.iload_n 1, 1) := by decide +kernel
theorem dX7_combine_105 : decode cX7_combine 105 = .ok (.invokevirtual 78, 3) := by decide +kernel
theorem dX7_combine_108 : decode cX7_combine 108 = .ok (.ireturn, 1) := by decide +kernel
theorem dX7_derives_0 : decode cX7_derives 0 = .ok (.iload_n 2, 1) := by decide +kernel
theorem dX7_derives_1 : decode cX7_derives 1 = .ok (.tableswitch 88 0 6 #[43, 52, 61, 88, 88, 70, 79], 43) := by decide +kernel
theorem dX7_derives_44 : decode cX7_derives 44 = .ok (.aload_n 0, 1) := by decide +kernel
theorem dX7_derives_45 : decode cX7_derives 45 = .ok (.iload_n 1, 1) := by decide +kernel
theorem dX7_derives_46 : decode cX7_derives 46 = .ok (.iconst 5, 1) := by decide +kernel
theorem dX7_derives_47 : decode cX7_derives 47 = .ok (.invokevirtual 230, 3) := by decide +kernel
theorem dX7_derives_50 : decode cX7_derives 50 = .ok (.goto 81, 3) := by decide +kernel
theorem dX7_derives_53 : decode cX7_derives 53 = .ok (.aload_n 0, 1) := by decide +kernel
theorem dX7_derives_54 : decode cX7_derives 54 = .ok (.iload_n 1, 1) := by decide +kernel
theorem dX7_derives_55 : decode cX7_derives 55 = .ok (.iconst 5, 1) := by decide +kernel
theorem dX7_derives_56 : decode cX7_derives 56 = .ok (.invokevirtual 195, 3) := by decide +kernel
theorem dX7_derives_59 : decode cX7_derives 59 = .ok (.goto 72, 3) := by decide +kernel
theorem dX7_derives_62 : decode cX7_derives 62 = .ok (.aload_n 0, 1) := by decide +kernel
theorem dX7_derives_63 : decode cX7_derives 63 = .ok (.iload_n 1, 1) := by decide +kernel
theorem dX7_derives_64 : decode cX7_derives 64 = .ok (.iconst 5, 1) := by decide +kernel
theorem dX7_derives_65 : decode cX7_derives 65 = .ok (.invokevirtual 233, 3) := by decide +kernel
theorem dX7_derives_68 : decode cX7_derives 68 = .ok (.goto 63, 3) := by decide +kernel
theorem dX7_derives_71 : decode cX7_derives 71 = .ok (.aload_n 0, 1) := by decide +kernel
theorem dX7_derives_72 : decode cX7_derives 72 = .ok (.iload_n 1, 1) := by decide +kernel
theorem dX7_derives_73 : decode cX7_derives 73 = .ok (.iconst 5, 1) := by decide +kernel
theorem dX7_derives_74 : decode cX7_derives 74 = .ok (.invokevirtual 192, 3) := by decide +kernel
theorem dX7_derives_77 : decode cX7_derives 77 = .ok (.goto 54, 3) := by decide +kernel
theorem dX7_derives_80 : decode cX7_derives 80 = .ok (.aload_n 0, 1) := by decide +kernel
theorem dX7_derives_81 : decode cX7_derives 81 = .ok (.iload_n 1, 1) := by decide +kernel
theorem dX7_derives_82 : decode cX7_derives 82 = .ok (.iconst 5, 1) := by decide +kernel
theorem dX7_derives_83 : decode cX7_derives 83 = .ok (.invokevirtual 198, 3) := by decide +kernel
theorem dX7_derives_86 : decode cX7_derives 86 = .ok (.goto 45, 3) := by decide +kernel
theorem dX7_derives_89 : decode cX7_derives 89 = .ok (.aload_n 0, 1) := by decide +kernel
theorem dX7_derives_90 : decode cX7_derives 90 = .ok (.iload_n 1, 1) := by decide +kernel
theorem dX7_derives_91 : decode cX7_derives 91 = .ok (.iconst 5, 1) := by decide +kernel
theorem dX7_derives_92 : decode cX7_derives 92 = .ok (.invokevirtual 230, 3) := by decide +kernel
theorem dX7_derives_95 : decode cX7_derives 95 = .ok (.iconst 0, 1) := by decide +kernel
theorem dX7_derives_96 : decode cX7_derives 96 = .ok (.istore_n 3, 1) := by decide +kernel
theorem dX7_derives_97 : decode cX7_derives 97 = .ok (.iload_n 3, 1) := by decide +kernel
theorem dX7_derives_98 : decode cX7_derives 98 = .ok (.aload_n 0, 1) := by decide +kernel
theorem dX7_derives_99 : decode cX7_derives 99 = .ok (.iload_n 1, 1) := by decide +kernel
theorem dX7_derives_100 : decode cX7_derives 100 = .ok (.invokevirtual 78, 3) := by decide +kernel
theorem dX7_derives_103 : decode cX7_derives 103 = .ok (.if_icmp .ge 28, 3) := by decide +kernel
theorem dX7_derives_106 : decode cX7_derives 106 = .ok (.aload_n 0, 1) := by decide +kernel
theorem dX7_derives_107 : decode cX7_derives 107 = .ok (.getfield 7, 3) := by decide +kernel
theorem dX7_derives_110 : decode cX7_derives 110 = .ok (.iconst 5, 1) := by decide +kernel
theorem dX7_derives_111 : decode cX7_derives 111 = .ok (.iload_n 3, 1) := by decide +kernel
theorem dX7_derives_112 : decode cX7_derives 112 = .ok (.invokestatic 82, 3) := by decide +kernel
theorem dX7_derives_115 : decode cX7_derives 115 = .ok (.aload_n 0, 1) := by decide +kernel
theorem dX7_derives_116 : decode cX7_derives 116 = .ok (.iload_n 1, 1) := by decide +kernel
theorem dX7_derives_117 : decode cX7_derives 117 = .ok (.iload_n 2, 1) := by decide +kernel
theorem dX7_derives_118 : decode cX7_derives 118 = .ok (.iconst 3, 1) := by decide +kernel
theorem dX7_derives_119 : decode cX7_derives 119 = .ok (.isub, 1) := by decide +kernel
theorem dX7_derives_120 : decode cX7_derives 120 = .ok (.iload_n 3, 1) := by decide +kernel
theorem dX7_derives_121 : decode cX7_derives 121 = .ok (.invokevirtual 212, 3) := by decide +kernel
theorem dX7_derives_124 : decode cX7_derives 124 = .ok (.iastore, 1) := by decide +kernel
theorem dX7_derives_125 : decode cX7_derives 125 = .ok (.iinc 3 1, 3) := by decide +kernel
theorem dX7_derives_128 : decode cX7_derives 128 = .ok (.goto (-31), 3) := by decide +kernel
theorem dX7_derives_131 : decode cX7_derives 131 = .ok (.return_, 1) := by decide +kernel
theorem dX7_derive_0 : decode cX7_derive 0 = .ok (.iload_n 1, 1) := by decide +kernel
theorem dX7_derive_1 : decode cX7_derive 1 = .ok (.invokestatic 88, 3) := by decide +kernel
theorem dX7_derive_4 : decode cX7_derive 4 = .ok (.ifCond .eq 14, 3) := by decide +kernel
theorem dX7_derive_7 : decode cX7_derive 7 = .ok (.iload_n 2, 1) := by decide +kernel
theorem dX7_derive_8 : decode cX7_derive 8 = .ok (.invokestatic 88, 3) := by decide +kernel
theorem dX7_derive_11 : decode cX7_derive 11 = .ok (.ifCond .eq 7, 3) := by decide +kernel
theorem dX7_derive_14 : decode cX7_derive 14 = .ok (.iconst 1, 1) := by decide +kernel
theorem dX7_derive_15 : decode cX7_derive 15 = .ok (.goto 4, 3) := by decide +kernel
theorem dX7_derive_18 : decode cX7_derive 18 = .ok (.iconst 0, 1) := by decide +kernel
theorem dX7_derive_19 : decode cX7_derive 19 = .ok (.istore 4, 2) := by decide +kernel
theorem dX7_derive_21 : decode cX7_derive 21 = .ok (.aload_n 0, 1) := by decide +kernel
theorem dX7_derive_22 : decode cX7_derive 22 = .ok (.iload 4, 2) := by decide +kernel
theorem dX7_derive_24 : decode cX7_derive 24 = .ok (.iload_n 3, 1) := by decide +kernel
theorem dX7_derive_25 : decode cX7_derive 25 = .ok (.i2l, 1) := by decide +kernel
theorem dX7_derive_26 : decode cX7_derive 26 = .ok (.lconst 0, 1) := by decide +kernel
theorem dX7_derive_27 : decode cX7_derive 27 = .ok (.ldc2_w 236, 3) := by decide +kernel
theorem dX7_derive_30 : decode cX7_derive 30 = .ok (.invokestatic 68, 3) := by decide +kernel
theorem dX7_derive_33 : decode cX7_derive 33 = .ok (.iload 4, 2) := by decide +kernel
theorem dX7_derive_35 : decode cX7_derive 35 = .ok (.ifCond .eq 20, 3) := by decide +kernel
theorem dX7_derive_38 : decode cX7_derive 38 = .ok (.iload_n 3, 1) := by decide +kernel
theorem dX7_derive_39 : decode cX7_derive 39 = .ok (.iconst 2, 1) := by decide +kernel
theorem dX7_derive_40 : decode cX7_derive 40 = .ok (.if_icmp .ne 11, 3) := by decide +kernel
theorem dX7_derive_43 : decode cX7_derive 43 = .ok (.aload_n 0, 1) := by decide +kernel
theorem dX7_derive_44 : decode cX7_derive 44 = .ok (.iload_n 2, 1) := by decide +kernel
theorem dX7_derive_45 : decode cX7_derive 45 = .ok (.invokevirtual 238, 3) := by decide +kernel
theorem dX7_derive_48 : decode cX7_derive 48 = .ok (.ifCond .eq 7, 3) := by decide +kernel
theorem dX7_derive_51 : decode cX7_derive 51 = .ok (.iconst 1, 1) := by decide +kernel
theorem dX7_derive_52 : decode cX7_derive 52 = .ok (.goto 4, 3) := by decide +kernel
theorem dX7_derive_55 : decode cX7_derive 55 = .ok (.iconst 0, 1) := by decide +kernel
theorem dX7_derive_56 : decode cX7_derive 56 = .ok (.invokevirtual 94, 3) := by decide +kernel
theorem dX7_derive_59 : decode cX7_derive 59 = .ok (.ifCond .ne 5, 3) := by decide +kernel
theorem dX7_derive_62 : decode cX7_derive 62 = .ok (.iconst 0, 1) := by decide +kernel
theorem dX7_derive_63 : decode cX7_derive 63 = .ok (.ireturn, 1) := by decide +kernel
theorem dX7_derive_64 : decode cX7_derive 64 = .ok (.aload_n 0, 1) := by decide +kernel
theorem dX7_derive_65 : decode cX7_derive 65 = .ok (.invokevirtual 98, 3) := by decide +kernel
theorem dX7_derive_68 : decode cX7_derive 68 = .ok (.aload_n 0, 1) := by decide +kernel
theorem dX7_derive_69 : decode cX7_derive 69 = .ok (.iload_n 2, 1) := by decide +kernel
theorem dX7_derive_70 : decode cX7_derive 70 = .ok (.iload_n 3, 1) := by decide +kernel
theorem dX7_derive_71 : decode cX7_derive 71 = .ok (.invokevirtual 241, 3) := by decide +kernel
theorem dX7_derive_74 : decode cX7_derive 74 = .ok (.aload_n 0, 1) := by decide +kernel
theorem dX7_derive_75 : decode cX7_derive 75 = .ok (.iconst 5, 1) := by decide +kernel
theorem dX7_derive_76 : decode cX7_derive 76 = .ok (.iload_n 1, 1) := by decide +kernel
theorem dX7_derive_77 : decode cX7_derive 77 = .ok (.invokevirtual 230, 3) := by decide +kernel
theorem dX7_derive_80 : decode cX7_derive 80 = .ok (.aload_n 0, 1) := by decide +kernel
theorem dX7_derive_81 : decode cX7_derive 81 = .ok (.iload_n 1, 1) := by decide +kernel
theorem dX7_derive_82 : decode cX7_derive 82 = .ok (.invokevirtual 78, 3) := by decide +kernel
theorem dX7_derive_85 : decode cX7_derive 85 = .ok (.ireturn, 1) := by decide +kernel
theorem dX7_scale_0 : decode cX7_scale 0 = .ok (.aload_n 0, 1) := by decide +kernel
theorem dX7_scale_1 : decode cX7_scale 1 = .ok (.iload_n 1, 1) := by decide +kernel
theorem dX7_scale_2 : decode cX7_scale 2 = .ok (.invokestatic 88, 3) := by decide +kernel
theorem dX7_scale_5 : decode cX7_scale 5 = .ok (.iload_n 2, 1) := by decide +kernel
theorem dX7_scale_6 : decode cX7_scale 6 = .ok (.invokestatic 109, 3) := by decide +kernel
theorem dX7_scale_9 : decode cX7_scale 9 = .ok (.iconst 1, 1) := by decide +kernel
theorem dX7_scale_10 : decode cX7_scale 10 = .ok (.invokevirtual 94, 3) := by decide +kernel
theorem dX7_scale_13 : decode cX7_scale 13 = .ok (.ifCond .ne 5, 3) := by decide +kernel
theorem dX7_scale_16 : decode cX7_scale 16 = .ok (.iconst 0, 1) := by decide +kernel
theorem dX7_scale_17 : decode cX7_scale 17 = .ok (.ireturn, 1) := by decide +kernel
theorem dX7_scale_18 : decode cX7_scale 18 = .ok (.aload_n 0, 1) := by decide +kernel
theorem dX7_scale_19 : decode cX7_scale 19 = .ok (.invokevirtual 98, 3) := by decide +kernel
theorem dX7_scale_22 : decode cX7_scale 22 = .ok (.iconst 0, 1) := by decide +kernel
theorem dX7_scale_23 : decode cX7_scale 23 = .ok (.istore_n 3, 1) := by decide +kernel
theorem dX7_scale_24 : decode cX7_scale 24 = .ok (.iload_n 3, 1) := by decide +kernel
theorem dX7_scale_25 : decode cX7_scale 25 = .ok (.aload_n 0, 1) := by decide +kernel
theorem dX7_scale_26 : decode cX7_scale 26 = .ok (.iload_n 1, 1) := by decide +kernel
theorem dX7_scale_27 : decode cX7_scale 27 = .ok (.invokevirtual 78, 3) := by decide +kernel
theorem dX7_scale_30 : decode cX7_scale 30 = .ok (.if_icmp .ge 35, 3) := by decide +kernel
theorem dX7_scale_33 : decode cX7_scale 33 = .ok (.aload_n 0, 1) := by decide +kernel
theorem dX7_scale_34 : decode cX7_scale 34 = .ok (.getfield 7, 3) := by decide +kernel
theorem dX7_scale_37 : decode cX7_scale 37 = .ok (.iload_n 1, 1) := by decide +kernel
theorem dX7_scale_38 : decode cX7_scale 38 = .ok (.iload_n 3, 1) := by decide +kernel
theorem dX7_scale_39 : decode cX7_scale 39 = .ok (.invokestatic 82, 3) := by decide +kernel
theorem dX7_scale_42 : decode cX7_scale 42 = .ok (.aload_n 0, 1) := by decide +kernel
theorem dX7_scale_43 : decode cX7_scale 43 = .ok (.getfield 7, 3) := by decide +kernel
theorem dX7_scale_46 : decode cX7_scale 46 = .ok (.iload_n 1, 1) := by decide +kernel
theorem dX7_scale_47 : decode cX7_scale 47 = .ok (.iload_n 3, 1) := by decide +kernel
theorem dX7_scale_48 : decode cX7_scale 48 = .ok (.invokestatic 82, 3) := by decide +kernel
theorem dX7_scale_51 : decode cX7_scale 51 = .ok (.iaload, 1) := by decide +kernel
theorem dX7_scale_52 : decode cX7_scale 52 = .ok (.iload_n 2, 1) := by decide +kernel
theorem dX7_scale_53 : decode cX7_scale 53 = .ok (.imul, 1) := by decide +kernel
theorem dX7_scale_54 : decode cX7_scale 54 = .ok (.sipush 10007, 3) := by decide +kernel
theorem dX7_scale_57 : decode cX7_scale 57 = .ok (.irem, 1) := by decide +kernel
theorem dX7_scale_58 : decode cX7_scale 58 = .ok (.iastore, 1) := by decide +kernel
theorem dX7_scale_59 : decode cX7_scale 59 = .ok (.iinc 3 1, 3) := by decide +kernel
theorem dX7_scale_62 : decode cX7_scale 62 = .ok (.goto (-38), 3) := by decide +kernel
theorem dX7_scale_65 : decode cX7_scale 65 = .ok (.aload_n 0, 1) := by decide +kernel
theorem dX7_scale_66 : decode cX7_scale 66 = .ok (.iload_n 1, 1) := by decide +kernel
theorem dX7_scale_67 : decode cX7_scale 67 = .ok (.invokevirtual 140, 3) := by decide +kernel
theorem dX7_scale_70 : decode cX7_scale 70 = .ok (.ireturn, 1) := by decide +kernel
theorem dX7_rank_0 : decode cX7_rank 0 = .ok (.iconst 0, 1) := by decide +kernel
theorem dX7_rank_1 : decode cX7_rank 1 = .ok (.istore_n 3, 1) := by decide +kernel
theorem dX7_rank_2 : decode cX7_rank 2 = .ok (.iconst 0, 1) := by decide +kernel
theorem dX7_rank_3 : decode cX7_rank 3 = .ok (.istore 4, 2) := by decide +kernel
theorem dX7_rank_5 : decode cX7_rank 5 = .ok (.iload 4, 2) := by decide +kernel
theorem dX7_rank_7 : decode cX7_rank 7 = .ok (.iload_n 2, 1) := by decide +kernel
theorem dX7_rank_8 : decode cX7_rank 8 = .ok (.if_icmp .ge 65, 3) := by decide +kernel
theorem dX7_rank_11 : decode cX7_rank 11 = .ok (.iload_n 3, 1) := by decide +kernel
theorem dX7_rank_12 : decode cX7_rank 12 = .ok (.iload_n 1, 1) := by decide +kernel
theorem dX7_rank_13 : decode cX7_rank 13 = .ok (.if_icmp .ge 60, 3) := by decide +kernel
theorem dX7_rank_16 : decode cX7_rank 16 = .ok (.iload_n 3, 1) := by decide +kernel
theorem dX7_rank_17 : decode cX7_rank 17 = .ok (.istore 5, 2) := by decide +kernel
theorem dX7_rank_19 : decode cX7_rank 19 = .ok (.iload 5, 2) := by decide +kernel
theorem dX7_rank_21 : decode cX7_rank 21 = .ok (.iload_n 1, 1) := by decide +kernel
theorem dX7_rank_22 : decode cX7_rank 22 = .ok (.if_icmp .ge 25, 3) := by decide +kernel
theorem dX7_rank_25 : decode cX7_rank 25 = .ok (.aload_n 0, 1) := by decide +kernel
theorem dX7_rank_26 : decode cX7_rank 26 = .ok (.getfield 43, 3) := by decide +kernel
theorem dX7_rank_29 : decode cX7_rank 29 = .ok (.bipush 32, 2) := by decide +kernel
theorem dX7_rank_31 : decode cX7_rank 31 = .ok (.iload 5, 2) := by decide +kernel
theorem dX7_rank_33 : decode cX7_rank 33 = .ok (.imul, 1) := by decide +kernel
theorem dX7_rank_34 : decode cX7_rank 34 = .ok (.iload 4, 2) := by decide +kernel
theorem dX7_rank_36 : decode cX7_rank 36 = .ok (.iadd, 1) := by decide +kernel
theorem dX7_rank_37 : decode cX7_rank 37 = .ok (.iaload, 1) := by decide +kernel
theorem dX7_rank_38 : decode cX7_rank 38 = .ok (.ifCond .ne 9, 3) := by decide +kernel
theorem dX7_rank_41 : decode cX7_rank 41 = .ok (.iinc 5 1, 3) := by decide +kernel
theorem dX7_rank_44 : decode cX7_rank 44 = .ok (.goto (-25), 3) := by decide +kernel
theorem dX7_rank_47 : decode cX7_rank 47 = .ok (.iload 5, 2) := by decide +kernel
theorem dX7_rank_49 : decode cX7_rank 49 = .ok (.iload_n 1, 1) := by decide +kernel
theorem dX7_rank_50 : decode cX7_rank 50 = .ok (.if_icmp .ge 17, 3) := by decide +kernel
theorem dX7_rank_53 : decode cX7_rank 53 = .ok (.aload_n 0, 1) := by decide +kernel
theorem dX7_rank_54 : decode cX7_rank 54 = .ok (.iload 5, 2) := by decide +kernel
theorem dX7_rank_56 : decode cX7_rank 56 = .ok (.iload_n 3, 1) := by decide +kernel
theorem dX7_rank_57 : decode cX7_rank 57 = .ok (.iload 4, 2) := by decide +kernel
theorem dX7_rank_59 : decode cX7_rank 59 = .ok (.iload_n 1, 1) := by decide +kernel
theorem dX7_rank_60 : decode cX7_rank 60 = .ok (.iload_n 2, 1) := by decide +kernel
theorem dX7_rank_61 : decode cX7_rank 61 = .ok (.invokevirtual 244, 3) := by decide +kernel
theorem dX7_rank_64 : decode cX7_rank 64 = .ok (.iinc 3 1, 3) := by decide +kernel
theorem dX7_rank_67 : decode cX7_rank 67 = .ok (.iinc 4 1, 3) := by decide +kernel
theorem dX7_rank_70 : decode cX7_rank 70 = .ok (.goto (-65), 3) := by decide +kernel
theorem dX7_rank_73 : decode cX7_rank 73 = .ok (.iload_n 3, 1) := by decide +kernel
theorem dX7_rank_74 : decode cX7_rank 74 = .ok (.ireturn, 1) := by decide +kernel
theorem dX7_eliminates_0 : decode cX7_eliminates 0 = .ok (.aload_n 0, 1) := by decide +kernel
theorem dX7_eliminates_1 : decode cX7_eliminates 1 = .ok (.getfield 43, 3) := by decide +kernel
theorem dX7_eliminates_4 : decode cX7_eliminates 4 = .ok (.bipush 32, 2) := by decide +kernel
theorem dX7_eliminates_6 : decode cX7_eliminates 6 = .ok (.iload_n 1, 1) := by decide +kernel
theorem dX7_eliminates_7 : decode cX7_eliminates 7 = .ok (.imul, 1) := by decide +kernel
theorem dX7_eliminates_8 : decode cX7_eliminates 8 = .ok (.iload_n 3, 1) := by decide +kernel
theorem dX7_eliminates_9 : decode cX7_eliminates 9 = .ok (.iadd, 1) := by decide +kernel
theorem dX7_eliminates_10 : decode cX7_eliminates 10 = .ok (.iaload, 1) := by decide +kernel
theorem dX7_eliminates_11 : decode cX7_eliminates 11 = .ok (.invokestatic 173, 3) := by decide +kernel
theorem dX7_eliminates_14 : decode cX7_eliminates 14 = .ok (.istore 6, 2) := by decide +kernel
theorem dX7_eliminates_16 : decode cX7_eliminates 16 = .ok (.iconst 0, 1) := by decide +kernel
theorem dX7_eliminates_17 : decode cX7_eliminates 17 = .ok (.istore 7, 2) := by decide +kernel
theorem dX7_eliminates_19 : decode cX7_eliminates 19 = .ok (.iload 7, 2) := by decide +kernel
theorem dX7_eliminates_21 : decode cX7_eliminates 21 = .ok (.iload 5, 2) := by decide +kernel
theorem dX7_eliminates_23 : decode cX7_eliminates 23 = .ok (.if_icmp .ge 68, 3) := by decide +kernel
theorem dX7_eliminates_26 : decode cX7_eliminates 26 = .ok (.aload_n 0, 1) := by decide +kernel
theorem dX7_eliminates_27 : decode cX7_eliminates 27 = .ok (.getfield 43, 3) := by decide +kernel
theorem dX7_eliminates_30 : decode cX7_eliminates 30 = .ok (.bipush 32, 2) := by decide +kernel
theorem dX7_eliminates_32 : decode cX7_eliminates 32 = .ok (.iload_n 1, 1) := by decide +kernel
theorem dX7_eliminates_33 : decode cX7_eliminates 33 = .ok (.imul, 1) := by decide +kernel
theorem dX7_eliminates_34 : decode cX7_eliminates 34 = .ok (.iload 7, 2) := by decide +kernel
theorem dX7_eliminates_36 : decode cX7_eliminates 36 = .ok (.iadd, 1) := by decide +kernel
theorem dX7_eliminates_37 : decode cX7_eliminates 37 = .ok (.iaload, 1) := by decide +kernel
theorem dX7_eliminates_38 : decode cX7_eliminates 38 = .ok (.iload 6, 2) := by decide +kernel
theorem dX7_eliminates_40 : decode cX7_eliminates 40 = .ok (.imul, 1) := by decide +kernel
theorem dX7_eliminates_41 : decode cX7_eliminates 41 = .ok (.sipush 10007, 3) := by decide +kernel
theorem dX7_eliminates_44 : decode cX7_eliminates 44 = .ok (.irem, 1) := by decide +kernel
theorem dX7_eliminates_45 : decode cX7_eliminates 45 = .ok (.istore 8, 2) := by decide +kernel
theorem dX7_eliminates_47 : decode cX7_eliminates 47 = .ok (.aload_n 0, 1) := by decide +kernel
theorem dX7_eliminates_48 : decode cX7_eliminates 48 = .ok (.getfield 43, 3) := by decide +kernel
theorem dX7_eliminates_51 : decode cX7_eliminates 51 = .ok (.bipush 32, 2) := by decide +kernel
theorem dX7_eliminates_53 : decode cX7_eliminates 53 = .ok (.iload_n 1, 1) := by decide +kernel
theorem dX7_eliminates_54 : decode cX7_eliminates 54 = .ok (.imul, 1) := by decide +kernel
theorem dX7_eliminates_55 : decode cX7_eliminates 55 = .ok (.iload 7, 2) := by decide +kernel
theorem dX7_eliminates_57 : decode cX7_eliminates 57 = .ok (.iadd, 1) := by decide +kernel
theorem dX7_eliminates_58 : decode cX7_eliminates 58 = .ok (.aload_n 0, 1) := by decide +kernel
theorem dX7_eliminates_59 : decode cX7_eliminates 59 = .ok (.getfield 43, 3) := by decide +kernel
theorem dX7_eliminates_62 : decode cX7_eliminates 62 = .ok (.bipush 32, 2) := by decide +kernel
theorem dX7_eliminates_64 : decode cX7_eliminates 64 = .ok (.iload_n 2, 1) := by decide +kernel
theorem dX7_eliminates_65 : decode cX7_eliminates 65 = .ok (.imul, 1) := by decide +kernel
theorem dX7_eliminates_66 : decode cX7_eliminates 66 = .ok (.iload 7, 2) := by decide +kernel
theorem dX7_eliminates_68 : decode cX7_eliminates 68 = .ok (.iadd, 1) := by decide +kernel
theorem dX7_eliminates_69 : decode cX7_eliminates 69 = .ok (.iaload, 1) := by decide +kernel
theorem dX7_eliminates_70 : decode cX7_eliminates 70 = .ok (.iastore, 1) := by decide +kernel
theorem dX7_eliminates_71 : decode cX7_eliminates 71 = .ok (.aload_n 0, 1) := by decide +kernel
theorem dX7_eliminates_72 : decode cX7_eliminates 72 = .ok (.getfield 43, 3) := by decide +kernel
theorem dX7_eliminates_75 : decode cX7_eliminates 75 = .ok (.bipush 32, 2) := by decide +kernel
theorem dX7_eliminates_77 : decode cX7_eliminates 77 = .ok (.iload_n 2, 1) := by decide +kernel
theorem dX7_eliminates_78 : decode cX7_eliminates 78 = .ok (.imul, 1) := by decide +kernel
theorem dX7_eliminates_79 : decode cX7_eliminates 79 = .ok (.iload 7, 2) := by decide +kernel
theorem dX7_eliminates_81 : decode cX7_eliminates 81 = .ok (.iadd, 1) := by decide +kernel
theorem dX7_eliminates_82 : decode cX7_eliminates 82 = .ok (.iload 8, 2) := by decide +kernel
theorem dX7_eliminates_84 : decode cX7_eliminates 84 = .ok (.iastore, 1) := by decide +kernel
theorem dX7_eliminates_85 : decode cX7_eliminates 85 = .ok (.iinc 7 1, 3) := by decide +kernel
theorem dX7_eliminates_88 : decode cX7_eliminates 88 = .ok (.goto (-69), 3) := by decide +kernel
theorem dX7_eliminates_91 : decode cX7_eliminates 91 = .ok (.iload_n 2, 1) := by decide +kernel
theorem dX7_eliminates_92 : decode cX7_eliminates 92 = .ok (.iconst 1, 1) := by decide +kernel
theorem dX7_eliminates_93 : decode cX7_eliminates 93 = .ok (.iadd, 1) := by decide +kernel
theorem dX7_eliminates_94 : decode cX7_eliminates 94 = .ok (.istore 7, 2) := by decide +kernel
theorem dX7_eliminates_96 : decode cX7_eliminates 96 = .ok (.iload 7, 2) := by decide +kernel
theorem dX7_eliminates_98 : decode cX7_eliminates 98 = .ok (.iload 4, 2) := by decide +kernel
theorem dX7_eliminates_100 : decode cX7_eliminates 100 = .ok (.if_icmp .ge 94, 3) := by decide +kernel
theorem dX7_eliminates_103 : decode cX7_eliminates 103 = .ok (.aload_n 0, 1) := by decide +kernel
theorem dX7_eliminates_104 : decode cX7_eliminates 104 = .ok (.getfield 43, 3) := by decide +kernel
theorem dX7_eliminates_107 : decode cX7_eliminates 107 = .ok (.bipush 32, 2) := by decide +kernel
theorem dX7_eliminates_109 : decode cX7_eliminates 109 = .ok (.iload 7, 2) := by decide +kernel
theorem dX7_eliminates_111 : decode cX7_eliminates 111 = .ok (.imul, 1) := by decide +kernel
theorem dX7_eliminates_112 : decode cX7_eliminates 112 = .ok (.iload_n 3, 1) := by decide +kernel
theorem dX7_eliminates_113 : decode cX7_eliminates 113 = .ok (.iadd, 1) := by decide +kernel
theorem dX7_eliminates_114 : decode cX7_eliminates 114 = .ok (.iaload, 1) := by decide +kernel
theorem dX7_eliminates_115 : decode cX7_eliminates 115 = .ok (.istore 8, 2) := by decide +kernel
theorem dX7_eliminates_117 : decode cX7_eliminates 117 = .ok (.iconst 0, 1) := by decide +kernel
theorem dX7_eliminates_118 : decode cX7_eliminates 118 = .ok (.istore 9, 2) := by decide +kernel
theorem dX7_eliminates_120 : decode cX7_eliminates 120 = .ok (.iload 9, 2) := by decide +kernel
theorem dX7_eliminates_122 : decode cX7_eliminates 122 = .ok (.iload 5, 2) := by decide +kernel
theorem dX7_eliminates_124 : decode cX7_eliminates 124 = .ok (.if_icmp .ge 64, 3) := by decide +kernel
theorem dX7_eliminates_127 : decode cX7_eliminates 127 = .ok (.iload 8, 2) := by decide +kernel
theorem dX7_eliminates_129 : decode cX7_eliminates 129 = .ok (.ifCond .le 59, 3) := by decide +kernel
theorem dX7_eliminates_132 : decode cX7_eliminates 132 = .ok (.aload_n 0, 1) := by decide +kernel
theorem dX7_eliminates_133 : decode cX7_eliminates 133 = .ok (.getfield 43, 3) := by decide +kernel
theorem dX7_eliminates_136 : decode cX7_eliminates 136 = .ok (.bipush 32, 2) := by decide +kernel
theorem dX7_eliminates_138 : decode cX7_eliminates 138 = .ok (.iload 7, 2) := by decide +kernel
theorem dX7_eliminates_140 : decode cX7_eliminates 140 = .ok (.imul, 1) := by decide +kernel
theorem dX7_eliminates_141 : decode cX7_eliminates 141 = .ok (.iload 9, 2) := by decide +kernel
theorem dX7_eliminates_143 : decode cX7_eliminates 143 = .ok (.iadd, 1) := by decide +kernel
theorem dX7_eliminates_144 : decode cX7_eliminates 144 = .ok (.aload_n 0, 1) := by decide +kernel
theorem dX7_eliminates_145 : decode cX7_eliminates 145 = .ok (.getfield 43, 3) := by decide +kernel
theorem dX7_eliminates_148 : decode cX7_eliminates 148 = .ok (.bipush 32, 2) := by decide +kernel
theorem dX7_eliminates_150 : decode cX7_eliminates 150 = .ok (.iload 7, 2) := by decide +kernel
theorem dX7_eliminates_152 : decode cX7_eliminates 152 = .ok (.imul, 1) := by decide +kernel
theorem dX7_eliminates_153 : decode cX7_eliminates 153 = .ok (.iload 9, 2) := by decide +kernel
theorem dX7_eliminates_155 : decode cX7_eliminates 155 = .ok (.iadd, 1) := by decide +kernel
theorem dX7_eliminates_156 : decode cX7_eliminates 156 = .ok (.iaload, 1) := by decide +kernel
theorem dX7_eliminates_157 : decode cX7_eliminates 157 = .ok (.sipush 10007, 3) := by decide +kernel
theorem dX7_eliminates_160 : decode cX7_eliminates 160 = .ok (.iload 8, 2) := by decide +kernel
theorem dX7_eliminates_162 : decode cX7_eliminates 162 = .ok (.isub, 1) := by decide +kernel
theorem dX7_eliminates_163 : decode cX7_eliminates 163 = .ok (.aload_n 0, 1) := by decide +kernel
theorem dX7_eliminates_164 : decode cX7_eliminates 164 = .ok (.getfield 43, 3) := by decide +kernel
theorem dX7_eliminates_167 : decode cX7_eliminates 167 = .ok (.bipush 32, 2) := by decide +kernel
theorem dX7_eliminates_169 : decode cX7_eliminates 169 = .ok (.iload_n 2, 1) := by decide +kernel
theorem dX7_eliminates_170 : decode cX7_eliminates 170 = .ok (.imul, 1) := by decide +kernel
theorem dX7_eliminates_171 : decode cX7_eliminates 171 = .ok (.iload 9, 2) := by decide +kernel
theorem dX7_eliminates_173 : decode cX7_eliminates 173 = .ok (.iadd, 1) := by decide +kernel
theorem dX7_eliminates_174 : decode cX7_eliminates 174 = .ok (.iaload, 1) := by decide +kernel
theorem dX7_eliminates_175 : decode cX7_eliminates 175 = .ok (.imul, 1) := by decide +kernel
theorem dX7_eliminates_176 : decode cX7_eliminates 176 = .ok (.iadd, 1) := by decide +kernel
theorem dX7_eliminates_177 : decode cX7_eliminates 177 = .ok (.sipush 10007, 3) := by decide +kernel
theorem dX7_eliminates_180 : decode cX7_eliminates 180 = .ok (.irem, 1) := by decide +kernel
theorem dX7_eliminates_181 : decode cX7_eliminates 181 = .ok (.iastore, 1) := by decide +kernel
theorem dX7_eliminates_182 : decode cX7_eliminates 182 = .ok (.iinc 9 1, 3) := by decide +kernel
theorem dX7_eliminates_185 : decode cX7_eliminates 185 = .ok (.goto (-65), 3) := by decide +kernel
theorem dX7_eliminates_188 : decode cX7_eliminates 188 = .ok (.iinc 7 1, 3) := by decide +kernel
theorem dX7_eliminates_191 : decode cX7_eliminates 191 = .ok (.goto (-95), 3) := by decide +kernel
theorem dX7_eliminates_194 : decode cX7_eliminates 194 = .ok (.return_, 1) := by decide +kernel
theorem dX7_hankelRank_0 : decode cX7_hankelRank 0 = .ok (.aload_n 0, 1) := by decide +kernel
theorem dX7_hankelRank_1 : decode cX7_hankelRank 1 = .ok (.iload_n 1, 1) := by decide +kernel
theorem dX7_hankelRank_2 : decode cX7_hankelRank 2 = .ok (.invokestatic 88, 3) := by decide +kernel
theorem dX7_hankelRank_5 : decode cX7_hankelRank 5 = .ok (.iload_n 2, 1) := by decide +kernel
theorem dX7_hankelRank_6 : decode cX7_hankelRank 6 = .ok (.i2l, 1) := by decide +kernel
theorem dX7_hankelRank_7 : decode cX7_hankelRank 7 = .ok (.lconst 0, 1) := by decide +kernel
theorem dX7_hankelRank_8 : decode cX7_hankelRank 8 = .ok (.ldc2_w 248, 3) := by decide +kernel
theorem dX7_hankelRank_11 : decode cX7_hankelRank 11 = .ok (.invokestatic 68, 3) := by decide +kernel
theorem dX7_hankelRank_14 : decode cX7_hankelRank 14 = .ok (.iconst 1, 1) := by decide +kernel
theorem dX7_hankelRank_15 : decode cX7_hankelRank 15 = .ok (.invokevirtual 94, 3) := by decide +kernel
theorem dX7_hankelRank_18 : decode cX7_hankelRank 18 = .ok (.ifCond .ne 5, 3) := by decide +kernel
theorem dX7_hankelRank_21 : decode cX7_hankelRank 21 = .ok (.iconst 0, 1) := by decide +kernel
theorem dX7_hankelRank_22 : decode cX7_hankelRank 22 = .ok (.ireturn, 1) := by decide +kernel
theorem dX7_hankelRank_23 : decode cX7_hankelRank 23 = .ok (.iconst 0, 1) := by decide +kernel
theorem dX7_hankelRank_24 : decode cX7_hankelRank 24 = .ok (.istore_n 3, 1) := by decide +kernel
theorem dX7_hankelRank_25 : decode cX7_hankelRank 25 = .ok (.iload_n 3, 1) := by decide +kernel
theorem dX7_hankelRank_26 : decode cX7_hankelRank 26 = .ok (.iload_n 2, 1) := by decide +kernel
theorem dX7_hankelRank_27 : decode cX7_hankelRank 27 = .ok (.if_icmp .ge 61, 3) := by decide +kernel
theorem dX7_hankelRank_30 : decode cX7_hankelRank 30 = .ok (.iconst 0, 1) := by decide +kernel
theorem dX7_hankelRank_31 : decode cX7_hankelRank 31 = .ok (.istore 4, 2) := by decide +kernel
theorem dX7_hankelRank_33 : decode cX7_hankelRank 33 = .ok (.iload 4, 2) := by decide +kernel
theorem dX7_hankelRank_35 : decode cX7_hankelRank 35 = .ok (.iload_n 2, 1) := by decide +kernel
theorem dX7_hankelRank_36 : decode cX7_hankelRank 36 = .ok (.if_icmp .ge 46, 3) := by decide +kernel
theorem dX7_hankelRank_39 : decode cX7_hankelRank 39 = .ok (.aload_n 0, 1) := by decide +kernel
theorem dX7_hankelRank_40 : decode cX7_hankelRank 40 = .ok (.iload_n 1, 1) := by decide +kernel
theorem dX7_hankelRank_41 : decode cX7_hankelRank 41 = .ok (.iconst 0, 1) := by decide +kernel
theorem dX7_hankelRank_42 : decode cX7_hankelRank 42 = .ok (.invokevirtual 147, 3) := by decide +kernel
theorem dX7_hankelRank_45 : decode cX7_hankelRank 45 = .ok (.aload_n 0, 1) := by decide +kernel
theorem dX7_hankelRank_46 : decode cX7_hankelRank 46 = .ok (.iload_n 1, 1) := by decide +kernel
theorem dX7_hankelRank_47 : decode cX7_hankelRank 47 = .ok (.iload_n 3, 1) := by decide +kernel
theorem dX7_hankelRank_48 : decode cX7_hankelRank 48 = .ok (.invokevirtual 150, 3) := by decide +kernel
theorem dX7_hankelRank_51 : decode cX7_hankelRank 51 = .ok (.aload_n 0, 1) := by decide +kernel
theorem dX7_hankelRank_52 : decode cX7_hankelRank 52 = .ok (.iload_n 1, 1) := by decide +kernel
theorem dX7_hankelRank_53 : decode cX7_hankelRank 53 = .ok (.iload 4, 2) := by decide +kernel
theorem dX7_hankelRank_55 : decode cX7_hankelRank 55 = .ok (.invokevirtual 150, 3) := by decide +kernel
theorem dX7_hankelRank_58 : decode cX7_hankelRank 58 = .ok (.aload_n 0, 1) := by decide +kernel
theorem dX7_hankelRank_59 : decode cX7_hankelRank 59 = .ok (.getfield 43, 3) := by decide +kernel
theorem dX7_hankelRank_62 : decode cX7_hankelRank 62 = .ok (.bipush 32, 2) := by decide +kernel
theorem dX7_hankelRank_64 : decode cX7_hankelRank 64 = .ok (.iload_n 3, 1) := by decide +kernel
theorem dX7_hankelRank_65 : decode cX7_hankelRank 65 = .ok (.imul, 1) := by decide +kernel
theorem dX7_hankelRank_66 : decode cX7_hankelRank 66 = .ok (.iload 4, 2) := by decide +kernel
theorem dX7_hankelRank_68 : decode cX7_hankelRank 68 = .ok (.iadd, 1) := by decide +kernel
theorem dX7_hankelRank_69 : decode cX7_hankelRank 69 = .ok (.aload_n 0, 1) := by decide +kernel
theorem dX7_hankelRank_70 : decode cX7_hankelRank 70 = .ok (.iload_n 1, 1) := by decide +kernel
theorem dX7_hankelRank_71 : decode cX7_hankelRank 71 = .ok (.iconst 0, 1) := by decide +kernel
theorem dX7_hankelRank_72 : decode cX7_hankelRank 72 = .ok (.invokevirtual 153, 3) := by decide +kernel
theorem dX7_hankelRank_75 : decode cX7_hankelRank 75 = .ok (.iastore, 1) := by decide +kernel
theorem dX7_hankelRank_76 : decode cX7_hankelRank 76 = .ok (.iinc 4 1, 3) := by decide +kernel
theorem dX7_hankelRank_79 : decode cX7_hankelRank 79 = .ok (.goto (-46), 3) := by decide +kernel
theorem dX7_hankelRank_82 : decode cX7_hankelRank 82 = .ok (.iinc 3 1, 3) := by decide +kernel
theorem dX7_hankelRank_85 : decode cX7_hankelRank 85 = .ok (.goto (-60), 3) := by decide +kernel
theorem dX7_hankelRank_88 : decode cX7_hankelRank 88 = .ok (.aload_n 0, 1) := by decide +kernel
theorem dX7_hankelRank_89 : decode cX7_hankelRank 89 = .ok (.iload_n 2, 1) := by decide +kernel
theorem dX7_hankelRank_90 : decode cX7_hankelRank 90 = .ok (.iload_n 2, 1) := by decide +kernel
theorem dX7_hankelRank_91 : decode cX7_hankelRank 91 = .ok (.invokevirtual 250, 3) := by decide +kernel
theorem dX7_hankelRank_94 : decode cX7_hankelRank 94 = .ok (.ireturn, 1) := by decide +kernel
theorem dX7_recurs_0 : decode cX7_recurs 0 = .ok (.aload_n 0, 1) := by decide +kernel
theorem dX7_recurs_1 : decode cX7_recurs 1 = .ok (.iload_n 1, 1) := by decide +kernel
theorem dX7_recurs_2 : decode cX7_recurs 2 = .ok (.invokestatic 88, 3) := by decide +kernel
theorem dX7_recurs_5 : decode cX7_recurs 5 = .ok (.iload_n 2, 1) := by decide +kernel
theorem dX7_recurs_6 : decode cX7_recurs 6 = .ok (.i2l, 1) := by decide +kernel
theorem dX7_recurs_7 : decode cX7_recurs 7 = .ok (.lconst 1, 1) := by decide +kernel
theorem dX7_recurs_8 : decode cX7_recurs 8 = .ok (.ldc2_w 92, 3) := by decide +kernel
theorem dX7_recurs_11 : decode cX7_recurs 11 = .ok (.invokestatic 68, 3) := by decide +kernel
theorem dX7_recurs_14 : decode cX7_recurs 14 = .ok (.iconst 1, 1) := by decide +kernel
theorem dX7_recurs_15 : decode cX7_recurs 15 = .ok (.invokevirtual 94, 3) := by decide +kernel
theorem dX7_recurs_18 : decode cX7_recurs 18 = .ok (.ifCond .ne 5, 3) := by decide +kernel
theorem dX7_recurs_21 : decode cX7_recurs 21 = .ok (.iconst 0, 1) := by decide +kernel
theorem dX7_recurs_22 : decode cX7_recurs 22 = .ok (.ireturn, 1) := by decide +kernel
theorem dX7_recurs_23 : decode cX7_recurs 23 = .ok (.aload_n 0, 1) := by decide +kernel
theorem dX7_recurs_24 : decode cX7_recurs 24 = .ok (.iload_n 1, 1) := by decide +kernel
theorem dX7_recurs_25 : decode cX7_recurs 25 = .ok (.iconst 0, 1) := by decide +kernel
theorem dX7_recurs_26 : decode cX7_recurs 26 = .ok (.invokevirtual 147, 3) := by decide +kernel
theorem dX7_recurs_29 : decode cX7_recurs 29 = .ok (.iconst 0, 1) := by decide +kernel
theorem dX7_recurs_30 : decode cX7_recurs 30 = .ok (.istore_n 3, 1) := by decide +kernel
theorem dX7_recurs_31 : decode cX7_recurs 31 = .ok (.iload_n 3, 1) := by decide +kernel
theorem dX7_recurs_32 : decode cX7_recurs 32 = .ok (.bipush 43, 2) := by decide +kernel
theorem dX7_recurs_34 : decode cX7_recurs 34 = .ok (.if_icmp .ge 28, 3) := by decide +kernel
theorem dX7_recurs_37 : decode cX7_recurs 37 = .ok (.aload_n 0, 1) := by decide +kernel
theorem dX7_recurs_38 : decode cX7_recurs 38 = .ok (.getfield 46, 3) := by decide +kernel
theorem dX7_recurs_41 : decode cX7_recurs 41 = .ok (.iload_n 3, 1) := by decide +kernel
theorem dX7_recurs_42 : decode cX7_recurs 42 = .ok (.aload_n 0, 1) := by decide +kernel
theorem dX7_recurs_43 : decode cX7_recurs 43 = .ok (.iload_n 1, 1) := by decide +kernel
theorem dX7_recurs_44 : decode cX7_recurs 44 = .ok (.iconst 0, 1) := by decide +kernel
theorem dX7_recurs_45 : decode cX7_recurs 45 = .ok (.invokevirtual 153, 3) := by decide +kernel
theorem dX7_recurs_48 : decode cX7_recurs 48 = .ok (.iastore, 1) := by decide +kernel
theorem dX7_recurs_49 : decode cX7_recurs 49 = .ok (.aload_n 0, 1) := by decide +kernel
theorem dX7_recurs_50 : decode cX7_recurs 50 = .ok (.iload_n 1, 1) := by decide +kernel
theorem dX7_recurs_51 : decode cX7_recurs 51 = .ok (.iconst 0, 1) := by decide +kernel
theorem dX7_recurs_52 : decode cX7_recurs 52 = .ok (.iconst 2, 1) := by decide +kernel
theorem dX7_recurs_53 : decode cX7_recurs 53 = .ok (.invokevirtual 143, 3) := by decide +kernel
theorem dX7_recurs_56 : decode cX7_recurs 56 = .ok (.iinc 3 1, 3) := by decide +kernel
theorem dX7_recurs_59 : decode cX7_recurs 59 = .ok (.goto (-28), 3) := by decide +kernel
theorem dX7_recurs_62 : decode cX7_recurs 62 = .ok (.aload_n 0, 1) := by decide +kernel
theorem dX7_recurs_63 : decode cX7_recurs 63 = .ok (.iload_n 2, 1) := by decide +kernel
theorem dX7_recurs_64 : decode cX7_recurs 64 = .ok (.invokevirtual 253, 3) := by decide +kernel
theorem dX7_recurs_67 : decode cX7_recurs 67 = .ok (.aload_n 0, 1) := by decide +kernel
theorem dX7_recurs_68 : decode cX7_recurs 68 = .ok (.bipush 31, 2) := by decide +kernel
theorem dX7_recurs_70 : decode cX7_recurs 70 = .ok (.iload_n 2, 1) := by decide +kernel
theorem dX7_recurs_71 : decode cX7_recurs 71 = .ok (.invokevirtual 250, 3) := by decide +kernel
theorem dX7_recurs_74 : decode cX7_recurs 74 = .ok (.istore_n 3, 1) := by decide +kernel
theorem dX7_recurs_75 : decode cX7_recurs 75 = .ok (.aload_n 0, 1) := by decide +kernel
theorem dX7_recurs_76 : decode cX7_recurs 76 = .ok (.iload_n 2, 1) := by decide +kernel
theorem dX7_recurs_77 : decode cX7_recurs 77 = .ok (.invokevirtual 253, 3) := by decide +kernel
theorem dX7_recurs_80 : decode cX7_recurs 80 = .ok (.aload_n 0, 1) := by decide +kernel
theorem dX7_recurs_81 : decode cX7_recurs 81 = .ok (.bipush 31, 2) := by decide +kernel
theorem dX7_recurs_83 : decode cX7_recurs 83 = .ok (.iload_n 2, 1) := by decide +kernel
theorem dX7_recurs_84 : decode cX7_recurs 84 = .ok (.iconst 1, 1) := by decide +kernel
theorem dX7_recurs_85 : decode cX7_recurs 85 = .ok (.iadd, 1) := by decide +kernel
theorem dX7_recurs_86 : decode cX7_recurs 86 = .ok (.invokevirtual 250, 3) := by decide +kernel
theorem dX7_recurs_89 : decode cX7_recurs 89 = .ok (.iload_n 3, 1) := by decide +kernel
theorem dX7_recurs_90 : decode cX7_recurs 90 = .ok (.if_icmp .ne 7, 3) := by decide +kernel
theorem dX7_recurs_93 : decode cX7_recurs 93 = .ok (.iconst 1, 1) := by decide +kernel
theorem dX7_recurs_94 : decode cX7_recurs 94 = .ok (.goto 4, 3) := by decide +kernel
theorem dX7_recurs_97 : decode cX7_recurs 97 = .ok (.iconst 0, 1) := by decide +kernel
theorem dX7_recurs_98 : decode cX7_recurs 98 = .ok (.ireturn, 1) := by decide +kernel
theorem dX7_laysTotals_0 : decode cX7_laysTotals 0 = .ok (.iconst 0, 1) := by decide +kernel
theorem dX7_laysTotals_1 : decode cX7_laysTotals 1 = .ok (.istore_n 2, 1) := by decide +kernel
theorem dX7_laysTotals_2 : decode cX7_laysTotals 2 = .ok (.iload_n 2, 1) := by decide +kernel
theorem dX7_laysTotals_3 : decode cX7_laysTotals 3 = .ok (.bipush 31, 2) := by decide +kernel
theorem dX7_laysTotals_5 : decode cX7_laysTotals 5 = .ok (.if_icmp .ge 41, 3) := by decide +kernel
theorem dX7_laysTotals_8 : decode cX7_laysTotals 8 = .ok (.iconst 0, 1) := by decide +kernel
theorem dX7_laysTotals_9 : decode cX7_laysTotals 9 = .ok (.istore_n 3, 1) := by decide +kernel
theorem dX7_laysTotals_10 : decode cX7_laysTotals 10 = .ok (.iload_n 3, 1) := by decide +kernel
theorem dX7_laysTotals_11 : decode cX7_laysTotals 11 = .ok (.iload_n 1, 1) := by decide +kernel
theorem dX7_laysTotals_12 : decode cX7_laysTotals 12 = .ok (.if_icmp .gt 28, 3) := by decide +kernel
theorem dX7_laysTotals_15 : decode cX7_laysTotals 15 = .ok (.aload_n 0, 1) := by decide +kernel
theorem dX7_laysTotals_16 : decode cX7_laysTotals 16 = .ok (.getfield 43, 3) := by decide +kernel
theorem dX7_laysTotals_19 : decode cX7_laysTotals 19 = .ok (.bipush 32, 2) := by decide +kernel
theorem dX7_laysTotals_21 : decode cX7_laysTotals 21 = .ok (.iload_n 2, 1) := by decide +kernel
theorem dX7_laysTotals_22 : decode cX7_laysTotals 22 = .ok (.imul, 1) := by decide +kernel
theorem dX7_laysTotals_23 : decode cX7_laysTotals 23 = .ok (.iload_n 3, 1) := by decide +kernel
theorem dX7_laysTotals_24 : decode cX7_laysTotals 24 = .ok (.iadd, 1) := by decide +kernel
theorem dX7_laysTotals_25 : decode cX7_laysTotals 25 = .ok (.aload_n 0, 1) := by decide +kernel
theorem dX7_laysTotals_26 : decode cX7_laysTotals 26 = .ok (.getfield 46, 3) := by decide +kernel
theorem dX7_laysTotals_29 : decode cX7_laysTotals 29 = .ok (.iload_n 2, 1) := by decide +kernel
theorem dX7_laysTotals_30 : decode cX7_laysTotals 30 = .ok (.iload_n 3, 1) := by decide +kernel
theorem dX7_laysTotals_31 : decode cX7_laysTotals 31 = .ok (.iadd, 1) := by decide +kernel
theorem dX7_laysTotals_32 : decode cX7_laysTotals 32 = .ok (.iaload, 1) := by decide +kernel
theorem dX7_laysTotals_33 : decode cX7_laysTotals 33 = .ok (.iastore, 1) := by decide +kernel
theorem dX7_laysTotals_34 : decode cX7_laysTotals 34 = .ok (.iinc 3 1, 3) := by decide +kernel
theorem dX7_laysTotals_37 : decode cX7_laysTotals 37 = .ok (.goto (-27), 3) := by decide +kernel
theorem dX7_laysTotals_40 : decode cX7_laysTotals 40 = .ok (.iinc 2 1, 3) := by decide +kernel
theorem dX7_laysTotals_43 : decode cX7_laysTotals 43 = .ok (.goto (-41), 3) := by decide +kernel
theorem dX7_laysTotals_46 : decode cX7_laysTotals 46 = .ok (.return_, 1) := by decide +kernel
theorem dX7_inverse_0 : decode cX7_inverse 0 = .ok (.aload_n 0, 1) := by decide +kernel
theorem dX7_inverse_1 : decode cX7_inverse 1 = .ok (.iload_n 1, 1) := by decide +kernel
theorem dX7_inverse_2 : decode cX7_inverse 2 = .ok (.i2l, 1) := by decide +kernel
theorem dX7_inverse_3 : decode cX7_inverse 3 = .ok (.lconst 1, 1) := by decide +kernel
theorem dX7_inverse_4 : decode cX7_inverse 4 = .ok (.ldc2_w 72, 3) := by decide +kernel
theorem dX7_inverse_7 : decode cX7_inverse 7 = .ok (.invokestatic 68, 3) := by decide +kernel
theorem dX7_inverse_10 : decode cX7_inverse 10 = .ok (.iconst 1, 1) := by decide +kernel
theorem dX7_inverse_11 : decode cX7_inverse 11 = .ok (.iconst 1, 1) := by decide +kernel
theorem dX7_inverse_12 : decode cX7_inverse 12 = .ok (.invokevirtual 94, 3) := by decide +kernel
theorem dX7_inverse_15 : decode cX7_inverse 15 = .ok (.ifCond .eq 10, 3) := by decide +kernel
theorem dX7_inverse_18 : decode cX7_inverse 18 = .ok (.iload_n 1, 1) := by decide +kernel
theorem dX7_inverse_19 : decode cX7_inverse 19 = .ok (.invokestatic 173, 3) := by decide +kernel
theorem dX7_inverse_22 : decode cX7_inverse 22 = .ok (.goto 4, 3) := by decide +kernel
theorem dX7_inverse_25 : decode cX7_inverse 25 = .ok (.iconst 0, 1) := by decide +kernel
theorem dX7_inverse_26 : decode cX7_inverse 26 = .ok (.ireturn, 1) := by decide +kernel
theorem dX7_append_0 : decode cX7_append 0 = .ok (.aload_n 0, 1) := by decide +kernel
theorem dX7_append_1 : decode cX7_append 1 = .ok (.iload_n 1, 1) := by decide +kernel
theorem dX7_append_2 : decode cX7_append 2 = .ok (.i2l, 1) := by decide +kernel
theorem dX7_append_3 : decode cX7_append 3 = .ok (.lconst 0, 1) := by decide +kernel
theorem dX7_append_4 : decode cX7_append 4 = .ok (.ldc2_w 257, 3) := by decide +kernel
theorem dX7_append_7 : decode cX7_append 7 = .ok (.invokestatic 68, 3) := by decide +kernel
theorem dX7_append_10 : decode cX7_append 10 = .ok (.aload_n 0, 1) := by decide +kernel
theorem dX7_append_11 : decode cX7_append 11 = .ok (.getfield 259, 3) := by decide +kernel
theorem dX7_append_14 : decode cX7_append 14 = .ok (.bipush 60, 2) := by decide +kernel
theorem dX7_append_16 : decode cX7_append 16 = .ok (.if_icmp .ge 7, 3) := by decide +kernel
theorem dX7_append_19 : decode cX7_append 19 = .ok (.iconst 1, 1) := by decide +kernel
theorem dX7_append_20 : decode cX7_append 20 = .ok (.goto 4, 3) := by decide +kernel
theorem dX7_append_23 : decode cX7_append 23 = .ok (.iconst 0, 1) := by decide +kernel
theorem dX7_append_24 : decode cX7_append 24 = .ok (.iconst 1, 1) := by decide +kernel
theorem dX7_append_25 : decode cX7_append 25 = .ok (.invokevirtual 94, 3) := by decide +kernel
theorem dX7_append_28 : decode cX7_append 28 = .ok (.ifCond .ne 5, 3) := by decide +kernel
theorem dX7_append_31 : decode cX7_append 31 = .ok (.iconst 0, 1) := by decide +kernel
theorem dX7_append_32 : decode cX7_append 32 = .ok (.ireturn, 1) := by decide +kernel
theorem dX7_append_33 : decode cX7_append 33 = .ok (.aload_n 0, 1) := by decide +kernel
theorem dX7_append_34 : decode cX7_append 34 = .ok (.getfield 49, 3) := by decide +kernel
theorem dX7_append_37 : decode cX7_append 37 = .ok (.aload_n 0, 1) := by decide +kernel
theorem dX7_append_38 : decode cX7_append 38 = .ok (.getfield 259, 3) := by decide +kernel
theorem dX7_append_41 : decode cX7_append 41 = .ok (.iload_n 1, 1) := by decide +kernel
theorem dX7_append_42 : decode cX7_append 42 = .ok (.iastore, 1) := by decide +kernel
theorem dX7_append_43 : decode cX7_append 43 = .ok (.aload_n 0, 1) := by decide +kernel
theorem dX7_append_44 : decode cX7_append 44 = .ok (.dup, 1) := by decide +kernel
theorem dX7_append_45 : decode cX7_append 45 = .ok (.getfield 259, 3) := by decide +kernel
theorem dX7_append_48 : decode cX7_append 48 = .ok (.iconst 1, 1) := by decide +kernel
theorem dX7_append_49 : decode cX7_append 49 = .ok (.iadd, 1) := by decide +kernel
theorem dX7_append_50 : decode cX7_append 50 = .ok (.putfield 259, 3) := by decide +kernel
theorem dX7_append_53 : decode cX7_append 53 = .ok (.aload_n 0, 1) := by decide +kernel
theorem dX7_append_54 : decode cX7_append 54 = .ok (.getfield 259, 3) := by decide +kernel
theorem dX7_append_57 : decode cX7_append 57 = .ok (.ireturn, 1) := by decide +kernel
theorem dX7_clearText_0 : decode cX7_clearText 0 = .ok (.aload_n 0, 1) := by decide +kernel
theorem dX7_clearText_1 : decode cX7_clearText 1 = .ok (.iconst 0, 1) := by decide +kernel
theorem dX7_clearText_2 : decode cX7_clearText 2 = .ok (.putfield 59, 3) := by decide +kernel
theorem dX7_clearText_5 : decode cX7_clearText 5 = .ok (.aload_n 0, 1) := by decide +kernel
theorem dX7_clearText_6 : decode cX7_clearText 6 = .ok (.getfield 259, 3) := by decide +kernel
theorem dX7_clearText_9 : decode cX7_clearText 9 = .ok (.istore_n 1, 1) := by decide +kernel
theorem dX7_clearText_10 : decode cX7_clearText 10 = .ok (.aload_n 0, 1) := by decide +kernel
theorem dX7_clearText_11 : decode cX7_clearText 11 = .ok (.iconst 0, 1) := by decide +kernel
theorem dX7_clearText_12 : decode cX7_clearText 12 = .ok (.putfield 259, 3) := by decide +kernel
theorem dX7_clearText_15 : decode cX7_clearText 15 = .ok (.iload_n 1, 1) := by decide +kernel
theorem dX7_clearText_16 : decode cX7_clearText 16 = .ok (.ireturn, 1) := by decide +kernel
theorem dX7_operates_0 : decode cX7_operates 0 = .ok (.aload_n 0, 1) := by decide +kernel
theorem dX7_operates_1 : decode cX7_operates 1 = .ok (.aload_n 0, 1) := by decide +kernel
theorem dX7_operates_2 : decode cX7_operates 2 = .ok (.getfield 262, 3) := by decide +kernel
theorem dX7_operates_5 : decode cX7_operates 5 = .ok (.ifCond .ne 15, 3) := by decide +kernel
theorem dX7_operates_8 : decode cX7_operates 8 = .ok (.aload_n 0, 1) := by decide +kernel
theorem dX7_operates_9 : decode cX7_operates 9 = .ok (.iload_n 1, 1) := by decide +kernel
theorem dX7_operates_10 : decode cX7_operates 10 = .ok (.iload_n 2, 1) := by decide +kernel
theorem dX7_operates_11 : decode cX7_operates 11 = .ok (.iload_n 3, 1) := by decide +kernel
theorem dX7_operates_12 : decode cX7_operates 12 = .ok (.invokevirtual 224, 3) := by decide +kernel
theorem dX7_operates_15 : decode cX7_operates 15 = .ok (.bipush 12, 2) := by decide +kernel
theorem dX7_operates_17 : decode cX7_operates 17 = .ok (.if_icmp .le 7, 3) := by decide +kernel
theorem dX7_operates_20 : decode cX7_operates 20 = .ok (.iconst 1, 1) := by decide +kernel
theorem dX7_operates_21 : decode cX7_operates 21 = .ok (.goto 4, 3) := by decide +kernel
theorem dX7_operates_24 : decode cX7_operates 24 = .ok (.iconst 0, 1) := by decide +kernel
theorem dX7_operates_25 : decode cX7_operates 25 = .ok (.putfield 262, 3) := by decide +kernel
theorem dX7_operates_28 : decode cX7_operates 28 = .ok (.aload_n 0, 1) := by decide +kernel
theorem dX7_operates_29 : decode cX7_operates 29 = .ok (.getfield 262, 3) := by decide +kernel
theorem dX7_operates_32 : decode cX7_operates 32 = .ok (.ifCond .ne 16, 3) := by decide +kernel
theorem dX7_operates_35 : decode cX7_operates 35 = .ok (.aload_n 0, 1) := by decide +kernel
theorem dX7_operates_36 : decode cX7_operates 36 = .ok (.iload_n 1, 1) := by decide +kernel
theorem dX7_operates_37 : decode cX7_operates 37 = .ok (.iload_n 2, 1) := by decide +kernel
theorem dX7_operates_38 : decode cX7_operates 38 = .ok (.iload_n 3, 1) := by decide +kernel
theorem dX7_operates_39 : decode cX7_operates 39 = .ok (.invokevirtual 227, 3) := by decide +kernel
theorem dX7_operates_42 : decode cX7_operates 42 = .ok (.aload_n 0, 1) := by decide +kernel
theorem dX7_operates_43 : decode cX7_operates 43 = .ok (.iconst 5, 1) := by decide +kernel
theorem dX7_operates_44 : decode cX7_operates 44 = .ok (.iload_n 1, 1) := by decide +kernel
theorem dX7_operates_45 : decode cX7_operates 45 = .ok (.invokevirtual 198, 3) := by decide +kernel
theorem dX7_operates_48 : decode cX7_operates 48 = .ok (.return_, 1) := by decide +kernel
theorem dX7_endsFactor_0 : decode cX7_endsFactor 0 = .ok (.bipush 9, 2) := by decide +kernel
theorem dX7_endsFactor_2 : decode cX7_endsFactor 2 = .ok (.iconst 2, 1) := by decide +kernel
theorem dX7_endsFactor_3 : decode cX7_endsFactor 3 = .ok (.aload_n 0, 1) := by decide +kernel
theorem dX7_endsFactor_4 : decode cX7_endsFactor 4 = .ok (.getfield 266, 3) := by decide +kernel
theorem dX7_endsFactor_7 : decode cX7_endsFactor 7 = .ok (.imul, 1) := by decide +kernel
theorem dX7_endsFactor_8 : decode cX7_endsFactor 8 = .ok (.iadd, 1) := by decide +kernel
theorem dX7_endsFactor_9 : decode cX7_endsFactor 9 = .ok (.istore_n 1, 1) := by decide +kernel
theorem dX7_endsFactor_10 : decode cX7_endsFactor 10 = .ok (.aload_n 0, 1) := by decide +kernel
theorem dX7_endsFactor_11 : decode cX7_endsFactor 11 = .ok (.getfield 56, 3) := by decide +kernel
theorem dX7_endsFactor_14 : decode cX7_endsFactor 14 = .ok (.aload_n 0, 1) := by decide +kernel
theorem dX7_endsFactor_15 : decode cX7_endsFactor 15 = .ok (.getfield 266, 3) := by decide +kernel
theorem dX7_endsFactor_18 : decode cX7_endsFactor 18 = .ok (.baload, 1) := by decide +kernel
theorem dX7_endsFactor_19 : decode cX7_endsFactor 19 = .ok (.ifCond .eq 13, 3) := by decide +kernel
theorem dX7_endsFactor_22 : decode cX7_endsFactor 22 = .ok (.aload_n 0, 1) := by decide +kernel
theorem dX7_endsFactor_23 : decode cX7_endsFactor 23 = .ok (.iload_n 1, 1) := by decide +kernel
theorem dX7_endsFactor_24 : decode cX7_endsFactor 24 = .ok (.iconst 4, 1) := by decide +kernel
theorem dX7_endsFactor_25 : decode cX7_endsFactor 25 = .ok (.iconst 2, 1) := by decide +kernel
theorem dX7_endsFactor_26 : decode cX7_endsFactor 26 = .ok (.invokevirtual 269, 3) := by decide +kernel
theorem dX7_endsFactor_29 : decode cX7_endsFactor 29 = .ok (.goto 19, 3) := by decide +kernel
theorem dX7_endsFactor_32 : decode cX7_endsFactor 32 = .ok (.aload_n 0, 1) := by decide +kernel
theorem dX7_endsFactor_33 : decode cX7_endsFactor 33 = .ok (.iconst 4, 1) := by decide +kernel
theorem dX7_endsFactor_34 : decode cX7_endsFactor 34 = .ok (.iload_n 1, 1) := by decide +kernel
theorem dX7_endsFactor_35 : decode cX7_endsFactor 35 = .ok (.invokevirtual 230, 3) := by decide +kernel
theorem dX7_endsFactor_38 : decode cX7_endsFactor 38 = .ok (.aload_n 0, 1) := by decide +kernel
theorem dX7_endsFactor_39 : decode cX7_endsFactor 39 = .ok (.getfield 56, 3) := by decide +kernel
theorem dX7_endsFactor_42 : decode cX7_endsFactor 42 = .ok (.aload_n 0, 1) := by decide +kernel
theorem dX7_endsFactor_43 : decode cX7_endsFactor 43 = .ok (.getfield 266, 3) := by decide +kernel
theorem dX7_endsFactor_46 : decode cX7_endsFactor 46 = .ok (.iconst 1, 1) := by decide +kernel
theorem dX7_endsFactor_47 : decode cX7_endsFactor 47 = .ok (.bastore, 1) := by decide +kernel
theorem dX7_endsFactor_48 : decode cX7_endsFactor 48 = .ok (.aload_n 0, 1) := by decide +kernel
theorem dX7_endsFactor_49 : decode cX7_endsFactor 49 = .ok (.iconst 0, 1) := by decide +kernel
theorem dX7_endsFactor_50 : decode cX7_endsFactor 50 = .ok (.putfield 272, 3) := by decide +kernel
theorem dX7_endsFactor_53 : decode cX7_endsFactor 53 = .ok (.return_, 1) := by decide +kernel
theorem dX7_endsProduct_0 : decode cX7_endsProduct 0 = .ok (.aload_n 0, 1) := by decide +kernel
theorem dX7_endsProduct_1 : decode cX7_endsProduct 1 = .ok (.invokevirtual 275, 3) := by decide +kernel
theorem dX7_endsProduct_4 : decode cX7_endsProduct 4 = .ok (.bipush 8, 2) := by decide +kernel
theorem dX7_endsProduct_6 : decode cX7_endsProduct 6 = .ok (.iconst 2, 1) := by decide +kernel
theorem dX7_endsProduct_7 : decode cX7_endsProduct 7 = .ok (.aload_n 0, 1) := by decide +kernel
theorem dX7_endsProduct_8 : decode cX7_endsProduct 8 = .ok (.getfield 266, 3) := by decide +kernel
theorem dX7_endsProduct_11 : decode cX7_endsProduct 11 = .ok (.imul, 1) := by decide +kernel
theorem dX7_endsProduct_12 : decode cX7_endsProduct 12 = .ok (.iadd, 1) := by decide +kernel
theorem dX7_endsProduct_13 : decode cX7_endsProduct 13 = .ok (.istore_n 1, 1) := by decide +kernel
theorem dX7_endsProduct_14 : decode cX7_endsProduct 14 = .ok (.aload_n 0, 1) := by decide +kernel
theorem dX7_endsProduct_15 : decode cX7_endsProduct 15 = .ok (.getfield 52, 3) := by decide +kernel
theorem dX7_endsProduct_18 : decode cX7_endsProduct 18 = .ok (.aload_n 0, 1) := by decide +kernel
theorem dX7_endsProduct_19 : decode cX7_endsProduct 19 = .ok (.getfield 266, 3) := by decide +kernel
theorem dX7_endsProduct_22 : decode cX7_endsProduct 22 = .ok (.baload, 1) := by decide +kernel
theorem dX7_endsProduct_23 : decode cX7_endsProduct 23 = .ok (.ifCond .eq 21, 3) := by decide +kernel
theorem dX7_endsProduct_26 : decode cX7_endsProduct 26 = .ok (.aload_n 0, 1) := by decide +kernel
theorem dX7_endsProduct_27 : decode cX7_endsProduct 27 = .ok (.iload_n 1, 1) := by decide +kernel
theorem dX7_endsProduct_28 : decode cX7_endsProduct 28 = .ok (.bipush 9, 2) := by decide +kernel
theorem dX7_endsProduct_30 : decode cX7_endsProduct 30 = .ok (.iconst 2, 1) := by decide +kernel
theorem dX7_endsProduct_31 : decode cX7_endsProduct 31 = .ok (.aload_n 0, 1) := by decide +kernel
theorem dX7_endsProduct_32 : decode cX7_endsProduct 32 = .ok (.getfield 266, 3) := by decide +kernel
theorem dX7_endsProduct_35 : decode cX7_endsProduct 35 = .ok (.imul, 1) := by decide +kernel
theorem dX7_endsProduct_36 : decode cX7_endsProduct 36 = .ok (.iadd, 1) := by decide +kernel
theorem dX7_endsProduct_37 : decode cX7_endsProduct 37 = .ok (.iconst 0, 1) := by decide +kernel
theorem dX7_endsProduct_38 : decode cX7_endsProduct 38 = .ok (.invokevirtual 269, 3) := by decide +kernel
theorem dX7_endsProduct_41 : decode cX7_endsProduct 41 = .ok (.goto 27, 3) := by decide +kernel
theorem dX7_endsProduct_44 : decode cX7_endsProduct 44 = .ok (.aload_n 0, 1) := by decide +kernel
theorem dX7_endsProduct_45 : decode cX7_endsProduct 45 = .ok (.bipush 9, 2) := by decide +kernel
theorem dX7_endsProduct_47 : decode cX7_endsProduct 47 = .ok (.iconst 2, 1) := by decide +kernel
theorem dX7_endsProduct_48 : decode cX7_endsProduct 48 = .ok (.aload_n 0, 1) := by decide +kernel
theorem dX7_endsProduct_49 : decode cX7_endsProduct 49 = .ok (.getfield 266, 3) := by decide +kernel
theorem dX7_endsProduct_52 : decode cX7_endsProduct 52 = .ok (.imul, 1) := by decide +kernel
theorem dX7_endsProduct_53 : decode cX7_endsProduct 53 = .ok (.iadd, 1) := by decide +kernel
theorem dX7_endsProduct_54 : decode cX7_endsProduct 54 = .ok (.iload_n 1, 1) := by decide +kernel
theorem dX7_endsProduct_55 : decode cX7_endsProduct 55 = .ok (.invokevirtual 230, 3) := by decide +kernel
theorem dX7_endsProduct_58 : decode cX7_endsProduct 58 = .ok (.aload_n 0, 1) := by decide +kernel
theorem dX7_endsProduct_59 : decode cX7_endsProduct 59 = .ok (.getfield 52, 3) := by decide +kernel
theorem dX7_endsProduct_62 : decode cX7_endsProduct 62 = .ok (.aload_n 0, 1) := by decide +kernel
theorem dX7_endsProduct_63 : decode cX7_endsProduct 63 = .ok (.getfield 266, 3) := by decide +kernel
theorem dX7_endsProduct_66 : decode cX7_endsProduct 66 = .ok (.iconst 1, 1) := by decide +kernel
theorem dX7_endsProduct_67 : decode cX7_endsProduct 67 = .ok (.bastore, 1) := by decide +kernel
theorem dX7_endsProduct_68 : decode cX7_endsProduct 68 = .ok (.aload_n 0, 1) := by decide +kernel
theorem dX7_endsProduct_69 : decode cX7_endsProduct 69 = .ok (.getfield 56, 3) := by decide +kernel
theorem dX7_endsProduct_72 : decode cX7_endsProduct 72 = .ok (.aload_n 0, 1) := by decide +kernel
theorem dX7_endsProduct_73 : decode cX7_endsProduct 73 = .ok (.getfield 266, 3) := by decide +kernel
theorem dX7_endsProduct_76 : decode cX7_endsProduct 76 = .ok (.iconst 0, 1) := by decide +kernel
theorem dX7_endsProduct_77 : decode cX7_endsProduct 77 = .ok (.bastore, 1) := by decide +kernel
theorem dX7_endsProduct_78 : decode cX7_endsProduct 78 = .ok (.return_, 1) := by decide +kernel
theorem dX7_begins_0 : decode cX7_begins 0 = .ok (.aload_n 0, 1) := by decide +kernel
theorem dX7_begins_1 : decode cX7_begins 1 = .ok (.getfield 52, 3) := by decide +kernel
theorem dX7_begins_4 : decode cX7_begins 4 = .ok (.aload_n 0, 1) := by decide +kernel
theorem dX7_begins_5 : decode cX7_begins 5 = .ok (.getfield 266, 3) := by decide +kernel
theorem dX7_begins_8 : decode cX7_begins 8 = .ok (.iconst 0, 1) := by decide +kernel
theorem dX7_begins_9 : decode cX7_begins 9 = .ok (.bastore, 1) := by decide +kernel
theorem dX7_begins_10 : decode cX7_begins 10 = .ok (.aload_n 0, 1) := by decide +kernel
theorem dX7_begins_11 : decode cX7_begins 11 = .ok (.getfield 56, 3) := by decide +kernel
theorem dX7_begins_14 : decode cX7_begins 14 = .ok (.aload_n 0, 1) := by decide +kernel
theorem dX7_begins_15 : decode cX7_begins 15 = .ok (.getfield 266, 3) := by decide +kernel
theorem dX7_begins_18 : decode cX7_begins 18 = .ok (.iconst 0, 1) := by decide +kernel
theorem dX7_begins_19 : decode cX7_begins 19 = .ok (.bastore, 1) := by decide +kernel
theorem dX7_begins_20 : decode cX7_begins 20 = .ok (.aload_n 0, 1) := by decide +kernel
theorem dX7_begins_21 : decode cX7_begins 21 = .ok (.iconst 0, 1) := by decide +kernel
theorem dX7_begins_22 : decode cX7_begins 22 = .ok (.putfield 272, 3) := by decide +kernel
theorem dX7_begins_25 : decode cX7_begins 25 = .ok (.return_, 1) := by decide +kernel
theorem dX7_isFigure_0 : decode cX7_isFigure 0 = .ok (.aload_n 0, 1) := by decide +kernel
theorem dX7_isFigure_1 : decode cX7_isFigure 1 = .ok (.getfield 278, 3) := by decide +kernel
theorem dX7_isFigure_4 : decode cX7_isFigure 4 = .ok (.aload_n 0, 1) := by decide +kernel
theorem dX7_isFigure_5 : decode cX7_isFigure 5 = .ok (.getfield 259, 3) := by decide +kernel
theorem dX7_isFigure_8 : decode cX7_isFigure 8 = .ok (.if_icmp .ge 29, 3) := by decide +kernel
theorem dX7_isFigure_11 : decode cX7_isFigure 11 = .ok (.aload_n 0, 1) := by decide +kernel
theorem dX7_isFigure_12 : decode cX7_isFigure 12 = .ok (.getfield 49, 3) := by decide +kernel
theorem dX7_isFigure_15 : decode cX7_isFigure 15 = .ok (.aload_n 0, 1) := by decide +kernel
theorem dX7_isFigure_16 : decode cX7_isFigure 16 = .ok (.getfield 278, 3) := by decide +kernel
theorem dX7_isFigure_19 : decode cX7_isFigure 19 = .ok (.iaload, 1) := by decide +kernel
theorem dX7_isFigure_20 : decode cX7_isFigure 20 = .ok (.i2l, 1) := by decide +kernel
theorem dX7_isFigure_21 : decode cX7_isFigure 21 = .ok (.ldc2_w 281, 3) := by decide +kernel
theorem dX7_isFigure_24 : decode cX7_isFigure 24 = .ok (.ldc2_w 283, 3) := by decide +kernel
theorem dX7_isFigure_27 : decode cX7_isFigure 27 = .ok (.invokestatic 68, 3) := by decide +kernel
theorem dX7_isFigure_30 : decode cX7_isFigure 30 = .ok (.ifCond .eq 7, 3) := by decide +kernel
theorem dX7_isFigure_33 : decode cX7_isFigure 33 = .ok (.iconst 1, 1) := by decide +kernel
theorem dX7_isFigure_34 : decode cX7_isFigure 34 = .ok (.goto 4, 3) := by decide +kernel
theorem dX7_isFigure_37 : decode cX7_isFigure 37 = .ok (.iconst 0, 1) := by decide +kernel
theorem dX7_isFigure_38 : decode cX7_isFigure 38 = .ok (.ireturn, 1) := by decide +kernel
theorem dX7_readsNumber_0 : decode cX7_readsNumber 0 = .ok (.aload_n 0, 1) := by decide +kernel
theorem dX7_readsNumber_1 : decode cX7_readsNumber 1 = .ok (.getfield 278, 3) := by decide +kernel
theorem dX7_readsNumber_4 : decode cX7_readsNumber 4 = .ok (.istore_n 1, 1) := by decide +kernel
theorem dX7_readsNumber_5 : decode cX7_readsNumber 5 = .ok (.iconst 0, 1) := by decide +kernel
theorem dX7_readsNumber_6 : decode cX7_readsNumber 6 = .ok (.istore_n 2, 1) := by decide +kernel
theorem dX7_readsNumber_7 : decode cX7_readsNumber 7 = .ok (.aload_n 0, 1) := by decide +kernel
theorem dX7_readsNumber_8 : decode cX7_readsNumber 8 = .ok (.invokevirtual 285, 3) := by decide +kernel
theorem dX7_readsNumber_11 : decode cX7_readsNumber 11 = .ok (.ifCond .eq 44, 3) := by decide +kernel
theorem dX7_readsNumber_14 : decode cX7_readsNumber 14 = .ok (.aload_n 0, 1) := by decide +kernel
theorem dX7_readsNumber_15 : decode cX7_readsNumber 15 = .ok (.getfield 278, 3) := by decide +kernel
theorem dX7_readsNumber_18 : decode cX7_readsNumber 18 = .ok (.iload_n 1, 1) := by decide +kernel
theorem dX7_readsNumber_19 : decode cX7_readsNumber 19 = .ok (.iconst 4, 1) := by decide +kernel
theorem dX7_readsNumber_20 : decode cX7_readsNumber 20 = .ok (.iadd, 1) := by decide +kernel
theorem dX7_readsNumber_21 : decode cX7_readsNumber 21 = .ok (.if_icmp .ge 34, 3) := by decide +kernel
theorem dX7_readsNumber_24 : decode cX7_readsNumber 24 = .ok (.bipush 10, 2) := by decide +kernel
theorem dX7_readsNumber_26 : decode cX7_readsNumber 26 = .ok (.iload_n 2, 1) := by decide +kernel
theorem dX7_readsNumber_27 : decode cX7_readsNumber 27 = .ok (.imul, 1) := by decide +kernel
theorem dX7_readsNumber_28 : decode cX7_readsNumber 28 = .ok (.aload_n 0, 1) := by decide +kernel
theorem dX7_readsNumber_29 : decode cX7_readsNumber 29 = .ok (.getfield 49, 3) := by decide +kernel
theorem dX7_readsNumber_32 : decode cX7_readsNumber 32 = .ok (.aload_n 0, 1) := by decide +kernel
theorem dX7_readsNumber_33 : decode cX7_readsNumber 33 = .ok (.getfield 278, 3) := by decide +kernel
theorem dX7_readsNumber_36 : decode cX7_readsNumber 36 = .ok (.iaload, 1) := by decide +kernel
theorem dX7_readsNumber_37 : decode cX7_readsNumber 37 = .ok (.iadd, 1) := by decide +kernel
theorem dX7_readsNumber_38 : decode cX7_readsNumber 38 = .ok (.bipush 48, 2) := by decide +kernel
theorem dX7_readsNumber_40 : decode cX7_readsNumber 40 = .ok (.isub, 1) := by decide +kernel
theorem dX7_readsNumber_41 : decode cX7_readsNumber 41 = .ok (.istore_n 2, 1) := by decide +kernel
theorem dX7_readsNumber_42 : decode cX7_readsNumber 42 = .ok (.aload_n 0, 1) := by decide +kernel
theorem dX7_readsNumber_43 : decode cX7_readsNumber 43 = .ok (.dup, 1) := by decide +kernel
theorem dX7_readsNumber_44 : decode cX7_readsNumber 44 = .ok (.getfield 278, 3) := by decide +kernel
theorem dX7_readsNumber_47 : decode cX7_readsNumber 47 = .ok (.iconst 1, 1) := by decide +kernel
theorem dX7_readsNumber_48 : decode cX7_readsNumber 48 = .ok (.iadd, 1) := by decide +kernel
theorem dX7_readsNumber_49 : decode cX7_readsNumber 49 = .ok (.putfield 278, 3) := by decide +kernel
theorem dX7_readsNumber_52 : decode cX7_readsNumber 52 = .ok (.goto (-45), 3) := by decide +kernel
theorem dX7_readsNumber_55 : decode cX7_readsNumber 55 = .ok (.aload_n 0, 1) := by decide +kernel
theorem dX7_readsNumber_56 : decode cX7_readsNumber 56 = .ok (.iconst 4, 1) := by decide +kernel
theorem dX7_readsNumber_57 : decode cX7_readsNumber 57 = .ok (.iconst 1, 1) := by decide +kernel
theorem dX7_readsNumber_58 : decode cX7_readsNumber 58 = .ok (.invokevirtual 101, 3) := by decide +kernel
theorem dX7_readsNumber_61 : decode cX7_readsNumber 61 = .ok (.aload_n 0, 1) := by decide +kernel
theorem dX7_readsNumber_62 : decode cX7_readsNumber 62 = .ok (.getfield 7, 3) := by decide +kernel
theorem dX7_readsNumber_65 : decode cX7_readsNumber 65 = .ok (.iconst 4, 1) := by decide +kernel
theorem dX7_readsNumber_66 : decode cX7_readsNumber 66 = .ok (.iconst 0, 1) := by decide +kernel
theorem dX7_readsNumber_67 : decode cX7_readsNumber 67 = .ok (.invokestatic 82, 3) := by decide +kernel
theorem dX7_readsNumber_70 : decode cX7_readsNumber 70 = .ok (.iconst 1, 1) := by decide +kernel
theorem dX7_readsNumber_71 : decode cX7_readsNumber 71 = .ok (.iastore, 1) := by decide +kernel
theorem dX7_readsNumber_72 : decode cX7_readsNumber 72 = .ok (.aload_n 0, 1) := by decide +kernel
theorem dX7_readsNumber_73 : decode cX7_readsNumber 73 = .ok (.getfield 7, 3) := by decide +kernel
theorem dX7_readsNumber_76 : decode cX7_readsNumber 76 = .ok (.iconst 4, 1) := by decide +kernel
theorem dX7_readsNumber_77 : decode cX7_readsNumber 77 = .ok (.iconst 0, 1) := by decide +kernel
theorem dX7_readsNumber_78 : decode cX7_readsNumber 78 = .ok (.invokestatic 85, 3) := by decide +kernel
theorem dX7_readsNumber_81 : decode cX7_readsNumber 81 = .ok (.iload_n 2, 1) := by decide +kernel
theorem dX7_readsNumber_82 : decode cX7_readsNumber 82 = .ok (.iastore, 1) := by decide +kernel
theorem dX7_readsNumber_83 : decode cX7_readsNumber 83 = .ok (.aload_n 0, 1) := by decide +kernel
theorem dX7_readsNumber_84 : decode cX7_readsNumber 84 = .ok (.invokevirtual 285, 3) := by decide +kernel
theorem dX7_readsNumber_87 : decode cX7_readsNumber 87 = .ok (.ifCond .ne 7, 3) := by decide +kernel
theorem dX7_readsNumber_90 : decode cX7_readsNumber 90 = .ok (.iconst 1, 1) := by decide +kernel
theorem dX7_readsNumber_91 : decode cX7_readsNumber 91 = .ok (.goto 4, 3) := by decide +kernel
theorem dX7_readsNumber_94 : decode cX7_readsNumber 94 = .ok (.iconst 0, 1) := by decide +kernel
theorem dX7_readsNumber_95 : decode cX7_readsNumber 95 = .ok (.ireturn, 1) := by decide +kernel
theorem dX7_readsLetter_0 : decode cX7_readsLetter 0 = .ok (.aload_n 0, 1) := by decide +kernel
theorem dX7_readsLetter_1 : decode cX7_readsLetter 1 = .ok (.iconst 4, 1) := by decide +kernel
theorem dX7_readsLetter_2 : decode cX7_readsLetter 2 = .ok (.iconst 2, 1) := by decide +kernel
theorem dX7_readsLetter_3 : decode cX7_readsLetter 3 = .ok (.invokevirtual 101, 3) := by decide +kernel
theorem dX7_readsLetter_6 : decode cX7_readsLetter 6 = .ok (.aload_n 0, 1) := by decide +kernel
theorem dX7_readsLetter_7 : decode cX7_readsLetter 7 = .ok (.getfield 7, 3) := by decide +kernel
theorem dX7_readsLetter_10 : decode cX7_readsLetter 10 = .ok (.iconst 4, 1) := by decide +kernel
theorem dX7_readsLetter_11 : decode cX7_readsLetter 11 = .ok (.iconst 0, 1) := by decide +kernel
theorem dX7_readsLetter_12 : decode cX7_readsLetter 12 = .ok (.invokestatic 82, 3) := by decide +kernel
theorem dX7_readsLetter_15 : decode cX7_readsLetter 15 = .ok (.iconst 1, 1) := by decide +kernel
theorem dX7_readsLetter_16 : decode cX7_readsLetter 16 = .ok (.iastore, 1) := by decide +kernel
theorem dX7_readsLetter_17 : decode cX7_readsLetter 17 = .ok (.aload_n 0, 1) := by decide +kernel
theorem dX7_readsLetter_18 : decode cX7_readsLetter 18 = .ok (.getfield 7, 3) := by decide +kernel
theorem dX7_readsLetter_21 : decode cX7_readsLetter 21 = .ok (.iconst 4, 1) := by decide +kernel
theorem dX7_readsLetter_22 : decode cX7_readsLetter 22 = .ok (.iconst 1, 1) := by decide +kernel
theorem dX7_readsLetter_23 : decode cX7_readsLetter 23 = .ok (.invokestatic 85, 3) := by decide +kernel
theorem dX7_readsLetter_26 : decode cX7_readsLetter 26 = .ok (.iconst 1, 1) := by decide +kernel
theorem dX7_readsLetter_27 : decode cX7_readsLetter 27 = .ok (.iastore, 1) := by decide +kernel
theorem dX7_readsLetter_28 : decode cX7_readsLetter 28 = .ok (.aload_n 0, 1) := by decide +kernel
theorem dX7_readsLetter_29 : decode cX7_readsLetter 29 = .ok (.getfield 7, 3) := by decide +kernel
theorem dX7_readsLetter_32 : decode cX7_readsLetter 32 = .ok (.iconst 4, 1) := by decide +kernel
theorem dX7_readsLetter_33 : decode cX7_readsLetter 33 = .ok (.iload_n 1, 1) := by decide +kernel
theorem dX7_readsLetter_34 : decode cX7_readsLetter 34 = .ok (.iconst 0, 1) := by decide +kernel
theorem dX7_readsLetter_35 : decode cX7_readsLetter 35 = .ok (.iconst 1, 1) := by decide +kernel
theorem dX7_readsLetter_36 : decode cX7_readsLetter 36 = .ok (.invokestatic 116, 3) := by decide +kernel
theorem dX7_readsLetter_39 : decode cX7_readsLetter 39 = .ok (.iconst 1, 1) := by decide +kernel
theorem dX7_readsLetter_40 : decode cX7_readsLetter 40 = .ok (.iastore, 1) := by decide +kernel
theorem dX7_readsLetter_41 : decode cX7_readsLetter 41 = .ok (.aload_n 0, 1) := by decide +kernel
theorem dX7_readsLetter_42 : decode cX7_readsLetter 42 = .ok (.dup, 1) := by decide +kernel
theorem dX7_readsLetter_43 : decode cX7_readsLetter 43 = .ok (.getfield 278, 3) := by decide +kernel
theorem dX7_readsLetter_46 : decode cX7_readsLetter 46 = .ok (.iconst 1, 1) := by decide +kernel
theorem dX7_readsLetter_47 : decode cX7_readsLetter 47 = .ok (.iadd, 1) := by decide +kernel
theorem dX7_readsLetter_48 : decode cX7_readsLetter 48 = .ok (.putfield 278, 3) := by decide +kernel
theorem dX7_readsLetter_51 : decode cX7_readsLetter 51 = .ok (.return_, 1) := by decide +kernel
theorem dX7_readsFactor_0 : decode cX7_readsFactor 0 = .ok (.iload_n 1, 1) := by decide +kernel
theorem dX7_readsFactor_1 : decode cX7_readsFactor 1 = .ok (.bipush 40, 2) := by decide +kernel
theorem dX7_readsFactor_3 : decode cX7_readsFactor 3 = .ok (.if_icmp .ne 14, 3) := by decide +kernel
theorem dX7_readsFactor_6 : decode cX7_readsFactor 6 = .ok (.aload_n 0, 1) := by decide +kernel
theorem dX7_readsFactor_7 : decode cX7_readsFactor 7 = .ok (.getfield 266, 3) := by decide +kernel
theorem dX7_readsFactor_10 : decode cX7_readsFactor 10 = .ok (.bipush 8, 2) := by decide +kernel
theorem dX7_readsFactor_12 : decode cX7_readsFactor 12 = .ok (.if_icmp .ne 5, 3) := by decide +kernel
theorem dX7_readsFactor_15 : decode cX7_readsFactor 15 = .ok (.iconst 0, 1) := by decide +kernel
theorem dX7_readsFactor_16 : decode cX7_readsFactor 16 = .ok (.ireturn, 1) := by decide +kernel
theorem dX7_readsFactor_17 : decode cX7_readsFactor 17 = .ok (.aload_n 0, 1) := by decide +kernel
theorem dX7_readsFactor_18 : decode cX7_readsFactor 18 = .ok (.getfield 272, 3) := by decide +kernel
theorem dX7_readsFactor_21 : decode cX7_readsFactor 21 = .ok (.ifCond .eq 7, 3) := by decide +kernel
theorem dX7_readsFactor_24 : decode cX7_readsFactor 24 = .ok (.aload_n 0, 1) := by decide +kernel
theorem dX7_readsFactor_25 : decode cX7_readsFactor 25 = .ok (.invokevirtual 275, 3) := by decide +kernel
theorem dX7_readsFactor_28 : decode cX7_readsFactor 28 = .ok (.iload_n 1, 1) := by decide +kernel
theorem dX7_readsFactor_29 : decode cX7_readsFactor 29 = .ok (.bipush 40, 2) := by decide +kernel
theorem dX7_readsFactor_31 : decode cX7_readsFactor 31 = .ok (.if_icmp .ne 29, 3) := by decide +kernel
theorem dX7_readsFactor_34 : decode cX7_readsFactor 34 = .ok (.aload_n 0, 1) := by decide +kernel
theorem dX7_readsFactor_35 : decode cX7_readsFactor 35 = .ok (.dup, 1) := by decide +kernel
theorem dX7_readsFactor_36 : decode cX7_readsFactor 36 = .ok (.getfield 266, 3) := by decide +kernel
theorem dX7_readsFactor_39 : decode cX7_readsFactor 39 = .ok (.iconst 1, 1) := by decide +kernel
theorem dX7_readsFactor_40 : decode cX7_readsFactor 40 = .ok (.iadd, 1) := by decide +kernel
theorem dX7_readsFactor_41 : decode cX7_readsFactor 41 = .ok (.putfield 266, 3) := by decide +kernel
theorem dX7_readsFactor_44 : decode cX7_readsFactor 44 = .ok (.aload_n 0, 1) := by decide +kernel
theorem dX7_readsFactor_45 : decode cX7_readsFactor 45 = .ok (.dup, 1) := by decide +kernel
theorem dX7_readsFactor_46 : decode cX7_readsFactor 46 = .ok (.getfield 278, 3) := by decide +kernel
theorem dX7_readsFactor_49 : decode cX7_readsFactor 49 = .ok (.iconst 1, 1) := by decide +kernel
theorem dX7_readsFactor_50 : decode cX7_readsFactor 50 = .ok (.iadd, 1) := by decide +kernel
theorem dX7_readsFactor_51 : decode cX7_readsFactor 51 = .ok (.putfield 278, 3) := by decide +kernel
theorem dX7_readsFactor_54 : decode cX7_readsFactor 54 = .ok (.aload_n 0, 1) := by decide +kernel
theorem dX7_readsFactor_55 : decode cX7_readsFactor 55 = .ok (.invokevirtual 289, 3) := by decide +kernel
theorem dX7_readsFactor_58 : decode cX7_readsFactor 58 = .ok (.iconst 1, 1) := by decide +kernel
theorem dX7_readsFactor_59 : decode cX7_readsFactor 59 = .ok (.ireturn, 1) := by decide +kernel
theorem dX7_readsFactor_60 : decode cX7_readsFactor 60 = .ok (.iconst 1, 1) := by decide +kernel
theorem dX7_readsFactor_61 : decode cX7_readsFactor 61 = .ok (.istore_n 2, 1) := by decide +kernel
theorem dX7_readsFactor_62 : decode cX7_readsFactor 62 = .ok (.iload_n 1, 1) := by decide +kernel
theorem dX7_readsFactor_63 : decode cX7_readsFactor 63 = .ok (.bipush 97, 2) := by decide +kernel
theorem dX7_readsFactor_65 : decode cX7_readsFactor 65 = .ok (.if_icmp .eq 9, 3) := by decide +kernel
theorem dX7_readsFactor_68 : decode cX7_readsFactor 68 = .ok (.iload_n 1, 1) := by decide +kernel
theorem dX7_readsFactor_69 : decode cX7_readsFactor 69 = .ok (.bipush 98, 2) := by decide +kernel
theorem dX7_readsFactor_71 : decode cX7_readsFactor 71 = .ok (.if_icmp .ne 14, 3) := by decide +kernel
theorem dX7_readsFactor_74 : decode cX7_readsFactor 74 = .ok (.aload_n 0, 1) := by decide +kernel
theorem dX7_readsFactor_75 : decode cX7_readsFactor 75 = .ok (.iload_n 1, 1) := by decide +kernel
theorem dX7_readsFactor_76 : decode cX7_readsFactor 76 = .ok (.bipush 97, 2) := by decide +kernel
theorem dX7_readsFactor_78 : decode cX7_readsFactor 78 = .ok (.isub, 1) := by decide +kernel
theorem dX7_readsFactor_79 : decode cX7_readsFactor 79 = .ok (.invokevirtual 292, 3) := by decide +kernel
theorem dX7_readsFactor_82 : decode cX7_readsFactor 82 = .ok (.goto 8, 3) := by decide +kernel
theorem dX7_readsFactor_85 : decode cX7_readsFactor 85 = .ok (.aload_n 0, 1) := by decide +kernel
theorem dX7_readsFactor_86 : decode cX7_readsFactor 86 = .ok (.invokevirtual 295, 3) := by decide +kernel
theorem dX7_readsFactor_89 : decode cX7_readsFactor 89 = .ok (.istore_n 2, 1) := by decide +kernel
theorem dX7_readsFactor_90 : decode cX7_readsFactor 90 = .ok (.aload_n 0, 1) := by decide +kernel
theorem dX7_readsFactor_91 : decode cX7_readsFactor 91 = .ok (.iconst 1, 1) := by decide +kernel
theorem dX7_readsFactor_92 : decode cX7_readsFactor 92 = .ok (.putfield 272, 3) := by decide +kernel
theorem dX7_readsFactor_95 : decode cX7_readsFactor 95 = .ok (.iload_n 2, 1) := by decide +kernel
theorem dX7_readsFactor_96 : decode cX7_readsFactor 96 = .ok (.ireturn, 1) := by decide +kernel
theorem dX7_starsFactor_0 : decode cX7_starsFactor 0 = .ok (.aload_n 0, 1) := by decide +kernel
theorem dX7_starsFactor_1 : decode cX7_starsFactor 1 = .ok (.aload_n 0, 1) := by decide +kernel
theorem dX7_starsFactor_2 : decode cX7_starsFactor 2 = .ok (.getfield 262, 3) := by decide +kernel
theorem dX7_starsFactor_5 : decode cX7_starsFactor 5 = .ok (.ifCond .ne 11, 3) := by decide +kernel
theorem dX7_starsFactor_8 : decode cX7_starsFactor 8 = .ok (.aload_n 0, 1) := by decide +kernel
theorem dX7_starsFactor_9 : decode cX7_starsFactor 9 = .ok (.iconst 4, 1) := by decide +kernel
theorem dX7_starsFactor_10 : decode cX7_starsFactor 10 = .ok (.invokevirtual 238, 3) := by decide +kernel
theorem dX7_starsFactor_13 : decode cX7_starsFactor 13 = .ok (.ifCond .ne 7, 3) := by decide +kernel
theorem dX7_starsFactor_16 : decode cX7_starsFactor 16 = .ok (.iconst 1, 1) := by decide +kernel
theorem dX7_starsFactor_17 : decode cX7_starsFactor 17 = .ok (.goto 4, 3) := by decide +kernel
theorem dX7_starsFactor_20 : decode cX7_starsFactor 20 = .ok (.iconst 0, 1) := by decide +kernel
theorem dX7_starsFactor_21 : decode cX7_starsFactor 21 = .ok (.putfield 262, 3) := by decide +kernel
theorem dX7_starsFactor_24 : decode cX7_starsFactor 24 = .ok (.aload_n 0, 1) := by decide +kernel
theorem dX7_starsFactor_25 : decode cX7_starsFactor 25 = .ok (.getfield 262, 3) := by decide +kernel
theorem dX7_starsFactor_28 : decode cX7_starsFactor 28 = .ok (.ifCond .ne 15, 3) := by decide +kernel
theorem dX7_starsFactor_31 : decode cX7_starsFactor 31 = .ok (.aload_n 0, 1) := by decide +kernel
theorem dX7_starsFactor_32 : decode cX7_starsFactor 32 = .ok (.iconst 4, 1) := by decide +kernel
theorem dX7_starsFactor_33 : decode cX7_starsFactor 33 = .ok (.iconst 5, 1) := by decide +kernel
theorem dX7_starsFactor_34 : decode cX7_starsFactor 34 = .ok (.invokevirtual 233, 3) := by decide +kernel
theorem dX7_starsFactor_37 : decode cX7_starsFactor 37 = .ok (.aload_n 0, 1) := by decide +kernel
theorem dX7_starsFactor_38 : decode cX7_starsFactor 38 = .ok (.iconst 5, 1) := by decide +kernel
theorem dX7_starsFactor_39 : decode cX7_starsFactor 39 = .ok (.iconst 4, 1) := by decide +kernel
theorem dX7_starsFactor_40 : decode cX7_starsFactor 40 = .ok (.invokevirtual 198, 3) := by decide +kernel
theorem dX7_starsFactor_43 : decode cX7_starsFactor 43 = .ok (.return_, 1) := by decide +kernel
theorem dX7_readsNext_0 : decode cX7_readsNext 0 = .ok (.aload_n 0, 1) := by decide +kernel
theorem dX7_readsNext_1 : decode cX7_readsNext 1 = .ok (.getfield 49, 3) := by decide +kernel
theorem dX7_readsNext_4 : decode cX7_readsNext 4 = .ok (.aload_n 0, 1) := by decide +kernel
theorem dX7_readsNext_5 : decode cX7_readsNext 5 = .ok (.getfield 278, 3) := by decide +kernel
theorem dX7_readsNext_8 : decode cX7_readsNext 8 = .ok (.iaload, 1) := by decide +kernel
theorem dX7_readsNext_9 : decode cX7_readsNext 9 = .ok (.istore_n 1, 1) := by decide +kernel
theorem dX7_readsNext_10 : decode cX7_readsNext 10 = .ok (.iload_n 1, 1) := by decide +kernel
theorem dX7_readsNext_11 : decode cX7_readsNext 11 = .ok (.bipush 97, 2) := by decide +kernel
theorem dX7_readsNext_13 : decode cX7_readsNext 13 = .ok (.if_icmp .eq 29, 3) := by decide +kernel
theorem dX7_readsNext_16 : decode cX7_readsNext 16 = .ok (.iload_n 1, 1) := by decide +kernel
theorem dX7_readsNext_17 : decode cX7_readsNext 17 = .ok (.bipush 98, 2) := by decide +kernel
theorem dX7_readsNext_19 : decode cX7_readsNext 19 = .ok (.if_icmp .eq 23, 3) := by decide +kernel
theorem dX7_readsNext_22 : decode cX7_readsNext 22 = .ok (.iload_n 1, 1) := by decide +kernel
theorem dX7_readsNext_23 : decode cX7_readsNext 23 = .ok (.bipush 40, 2) := by decide +kernel
theorem dX7_readsNext_25 : decode cX7_readsNext 25 = .ok (.if_icmp .eq 17, 3) := by decide +kernel
theorem dX7_readsNext_28 : decode cX7_readsNext 28 = .ok (.iload_n 1, 1) := by decide +kernel
theorem dX7_readsNext_29 : decode cX7_readsNext 29 = .ok (.i2l, 1) := by decide +kernel
theorem dX7_readsNext_30 : decode cX7_readsNext 30 = .ok (.ldc2_w 281, 3) := by decide +kernel
theorem dX7_readsNext_33 : decode cX7_readsNext 33 = .ok (.ldc2_w 283, 3) := by decide +kernel
theorem dX7_readsNext_36 : decode cX7_readsNext 36 = .ok (.invokestatic 68, 3) := by decide +kernel
theorem dX7_readsNext_39 : decode cX7_readsNext 39 = .ok (.ifCond .eq 9, 3) := by decide +kernel
theorem dX7_readsNext_42 : decode cX7_readsNext 42 = .ok (.aload_n 0, 1) := by decide +kernel
theorem dX7_readsNext_43 : decode cX7_readsNext 43 = .ok (.iload_n 1, 1) := by decide +kernel
theorem dX7_readsNext_44 : decode cX7_readsNext 44 = .ok (.invokevirtual 298, 3) := by decide +kernel
theorem dX7_readsNext_47 : decode cX7_readsNext 47 = .ok (.ireturn, 1) := by decide +kernel
theorem dX7_readsNext_48 : decode cX7_readsNext 48 = .ok (.aload_n 0, 1) := by decide +kernel
theorem dX7_readsNext_49 : decode cX7_readsNext 49 = .ok (.getfield 272, 3) := by decide +kernel
theorem dX7_readsNext_52 : decode cX7_readsNext 52 = .ok (.ifCond .eq 34, 3) := by decide +kernel
theorem dX7_readsNext_55 : decode cX7_readsNext 55 = .ok (.iload_n 1, 1) := by decide +kernel
theorem dX7_readsNext_56 : decode cX7_readsNext 56 = .ok (.bipush 42, 2) := by decide +kernel
theorem dX7_readsNext_58 : decode cX7_readsNext 58 = .ok (.if_icmp .eq 15, 3) := by decide +kernel
theorem dX7_readsNext_61 : decode cX7_readsNext 61 = .ok (.iload_n 1, 1) := by decide +kernel
theorem dX7_readsNext_62 : decode cX7_readsNext 62 = .ok (.bipush 43, 2) := by decide +kernel
theorem dX7_readsNext_64 : decode cX7_readsNext 64 = .ok (.if_icmp .eq 9, 3) := by decide +kernel
theorem dX7_readsNext_67 : decode cX7_readsNext 67 = .ok (.iload_n 1, 1) := by decide +kernel
theorem dX7_readsNext_68 : decode cX7_readsNext 68 = .ok (.bipush 41, 2) := by decide +kernel
theorem dX7_readsNext_70 : decode cX7_readsNext 70 = .ok (.if_icmp .ne 16, 3) := by decide +kernel
theorem dX7_readsNext_73 : decode cX7_readsNext 73 = .ok (.iload_n 1, 1) := by decide +kernel
theorem dX7_readsNext_74 : decode cX7_readsNext 74 = .ok (.bipush 41, 2) := by decide +kernel
theorem dX7_readsNext_76 : decode cX7_readsNext 76 = .ok (.if_icmp .ne 12, 3) := by decide +kernel
theorem dX7_readsNext_79 : decode cX7_readsNext 79 = .ok (.aload_n 0, 1) := by decide +kernel
theorem dX7_readsNext_80 : decode cX7_readsNext 80 = .ok (.getfield 266, 3) := by decide +kernel
theorem dX7_readsNext_83 : decode cX7_readsNext 83 = .ok (.ifCond .ne 5, 3) := by decide +kernel
theorem dX7_readsNext_86 : decode cX7_readsNext 86 = .ok (.iconst 0, 1) := by decide +kernel
theorem dX7_readsNext_87 : decode cX7_readsNext 87 = .ok (.ireturn, 1) := by decide +kernel
theorem dX7_readsNext_88 : decode cX7_readsNext 88 = .ok (.iload_n 1, 1) := by decide +kernel
theorem dX7_readsNext_89 : decode cX7_readsNext 89 = .ok (.bipush 42, 2) := by decide +kernel
theorem dX7_readsNext_91 : decode cX7_readsNext 91 = .ok (.if_icmp .ne 10, 3) := by decide +kernel
theorem dX7_readsNext_94 : decode cX7_readsNext 94 = .ok (.aload_n 0, 1) := by decide +kernel
theorem dX7_readsNext_95 : decode cX7_readsNext 95 = .ok (.invokevirtual 301, 3) := by decide +kernel
theorem dX7_readsNext_98 : decode cX7_readsNext 98 = .ok (.goto 42, 3) := by decide +kernel
theorem dX7_readsNext_101 : decode cX7_readsNext 101 = .ok (.aload_n 0, 1) := by decide +kernel
theorem dX7_readsNext_102 : decode cX7_readsNext 102 = .ok (.invokevirtual 304, 3) := by decide +kernel
theorem dX7_readsNext_105 : decode cX7_readsNext 105 = .ok (.iload_n 1, 1) := by decide +kernel
theorem dX7_readsNext_106 : decode cX7_readsNext 106 = .ok (.bipush 41, 2) := by decide +kernel
theorem dX7_readsNext_108 : decode cX7_readsNext 108 = .ok (.if_icmp .ne 32, 3) := by decide +kernel
theorem dX7_readsNext_111 : decode cX7_readsNext 111 = .ok (.aload_n 0, 1) := by decide +kernel
theorem dX7_readsNext_112 : decode cX7_readsNext 112 = .ok (.bipush 8, 2) := by decide +kernel
theorem dX7_readsNext_114 : decode cX7_readsNext 114 = .ok (.iconst 2, 1) := by decide +kernel
theorem dX7_readsNext_115 : decode cX7_readsNext 115 = .ok (.aload_n 0, 1) := by decide +kernel
theorem dX7_readsNext_116 : decode cX7_readsNext 116 = .ok (.getfield 266, 3) := by decide +kernel
theorem dX7_readsNext_119 : decode cX7_readsNext 119 = .ok (.imul, 1) := by decide +kernel
theorem dX7_readsNext_120 : decode cX7_readsNext 120 = .ok (.iadd, 1) := by decide +kernel
theorem dX7_readsNext_121 : decode cX7_readsNext 121 = .ok (.iconst 4, 1) := by decide +kernel
theorem dX7_readsNext_122 : decode cX7_readsNext 122 = .ok (.invokevirtual 230, 3) := by decide +kernel
theorem dX7_readsNext_125 : decode cX7_readsNext 125 = .ok (.aload_n 0, 1) := by decide +kernel
theorem dX7_readsNext_126 : decode cX7_readsNext 126 = .ok (.dup, 1) := by decide +kernel
theorem dX7_readsNext_127 : decode cX7_readsNext 127 = .ok (.getfield 266, 3) := by decide +kernel
theorem dX7_readsNext_130 : decode cX7_readsNext 130 = .ok (.iconst 1, 1) := by decide +kernel
theorem dX7_readsNext_131 : decode cX7_readsNext 131 = .ok (.isub, 1) := by decide +kernel
theorem dX7_readsNext_132 : decode cX7_readsNext 132 = .ok (.putfield 266, 3) := by decide +kernel
theorem dX7_readsNext_135 : decode cX7_readsNext 135 = .ok (.aload_n 0, 1) := by decide +kernel
theorem dX7_readsNext_136 : decode cX7_readsNext 136 = .ok (.iconst 1, 1) := by decide +kernel
theorem dX7_readsNext_137 : decode cX7_readsNext 137 = .ok (.putfield 272, 3) := by decide +kernel
theorem dX7_readsNext_140 : decode cX7_readsNext 140 = .ok (.aload_n 0, 1) := by decide +kernel
theorem dX7_readsNext_141 : decode cX7_readsNext 141 = .ok (.dup, 1) := by decide +kernel
theorem dX7_readsNext_142 : decode cX7_readsNext 142 = .ok (.getfield 278, 3) := by decide +kernel
theorem dX7_readsNext_145 : decode cX7_readsNext 145 = .ok (.iconst 1, 1) := by decide +kernel
theorem dX7_readsNext_146 : decode cX7_readsNext 146 = .ok (.iadd, 1) := by decide +kernel
theorem dX7_readsNext_147 : decode cX7_readsNext 147 = .ok (.putfield 278, 3) := by decide +kernel
theorem dX7_readsNext_150 : decode cX7_readsNext 150 = .ok (.iconst 1, 1) := by decide +kernel
theorem dX7_readsNext_151 : decode cX7_readsNext 151 = .ok (.ireturn, 1) := by decide +kernel
theorem dX7_parse_0 : decode cX7_parse 0 = .ok (.aload_n 0, 1) := by decide +kernel
theorem dX7_parse_1 : decode cX7_parse 1 = .ok (.iload_n 1, 1) := by decide +kernel
theorem dX7_parse_2 : decode cX7_parse 2 = .ok (.invokestatic 88, 3) := by decide +kernel
theorem dX7_parse_5 : decode cX7_parse 5 = .ok (.iconst 1, 1) := by decide +kernel
theorem dX7_parse_6 : decode cX7_parse 6 = .ok (.iconst 1, 1) := by decide +kernel
theorem dX7_parse_7 : decode cX7_parse 7 = .ok (.invokevirtual 94, 3) := by decide +kernel
theorem dX7_parse_10 : decode cX7_parse 10 = .ok (.ifCond .ne 5, 3) := by decide +kernel
theorem dX7_parse_13 : decode cX7_parse 13 = .ok (.iconst 0, 1) := by decide +kernel
theorem dX7_parse_14 : decode cX7_parse 14 = .ok (.ireturn, 1) := by decide +kernel
theorem dX7_parse_15 : decode cX7_parse 15 = .ok (.aload_n 0, 1) := by decide +kernel
theorem dX7_parse_16 : decode cX7_parse 16 = .ok (.iconst 0, 1) := by decide +kernel
theorem dX7_parse_17 : decode cX7_parse 17 = .ok (.putfield 278, 3) := by decide +kernel
theorem dX7_parse_20 : decode cX7_parse 20 = .ok (.aload_n 0, 1) := by decide +kernel
theorem dX7_parse_21 : decode cX7_parse 21 = .ok (.iconst 0, 1) := by decide +kernel
theorem dX7_parse_22 : decode cX7_parse 22 = .ok (.putfield 266, 3) := by decide +kernel
theorem dX7_parse_25 : decode cX7_parse 25 = .ok (.aload_n 0, 1) := by decide +kernel
theorem dX7_parse_26 : decode cX7_parse 26 = .ok (.iconst 0, 1) := by decide +kernel
theorem dX7_parse_27 : decode cX7_parse 27 = .ok (.putfield 262, 3) := by decide +kernel
theorem dX7_parse_30 : decode cX7_parse 30 = .ok (.aload_n 0, 1) := by decide +kernel
theorem dX7_parse_31 : decode cX7_parse 31 = .ok (.invokevirtual 289, 3) := by decide +kernel
theorem dX7_parse_34 : decode cX7_parse 34 = .ok (.aload_n 0, 1) := by decide +kernel
theorem dX7_parse_35 : decode cX7_parse 35 = .ok (.getfield 278, 3) := by decide +kernel
theorem dX7_parse_38 : decode cX7_parse 38 = .ok (.aload_n 0, 1) := by decide +kernel
theorem dX7_parse_39 : decode cX7_parse 39 = .ok (.getfield 259, 3) := by decide +kernel
theorem dX7_parse_42 : decode cX7_parse 42 = .ok (.if_icmp .ge 18, 3) := by decide +kernel
theorem dX7_parse_45 : decode cX7_parse 45 = .ok (.aload_n 0, 1) := by decide +kernel
theorem dX7_parse_46 : decode cX7_parse 46 = .ok (.invokevirtual 307, 3) := by decide +kernel
theorem dX7_parse_49 : decode cX7_parse 49 = .ok (.ifCond .ne (-15), 3) := by decide +kernel
theorem dX7_parse_52 : decode cX7_parse 52 = .ok (.bipush (-10), 2) := by decide +kernel
theorem dX7_parse_54 : decode cX7_parse 54 = .ok (.aload_n 0, 1) := by decide +kernel
theorem dX7_parse_55 : decode cX7_parse 55 = .ok (.getfield 278, 3) := by decide +kernel
theorem dX7_parse_58 : decode cX7_parse 58 = .ok (.isub, 1) := by decide +kernel
theorem dX7_parse_59 : decode cX7_parse 59 = .ok (.ireturn, 1) := by decide +kernel
theorem dX7_parse_60 : decode cX7_parse 60 = .ok (.aload_n 0, 1) := by decide +kernel
theorem dX7_parse_61 : decode cX7_parse 61 = .ok (.getfield 272, 3) := by decide +kernel
theorem dX7_parse_64 : decode cX7_parse 64 = .ok (.ifCond .eq 10, 3) := by decide +kernel
theorem dX7_parse_67 : decode cX7_parse 67 = .ok (.aload_n 0, 1) := by decide +kernel
theorem dX7_parse_68 : decode cX7_parse 68 = .ok (.getfield 266, 3) := by decide +kernel
theorem dX7_parse_71 : decode cX7_parse 71 = .ok (.ifCond .le 11, 3) := by decide +kernel
theorem dX7_parse_74 : decode cX7_parse 74 = .ok (.bipush (-10), 2) := by decide +kernel
theorem dX7_parse_76 : decode cX7_parse 76 = .ok (.aload_n 0, 1) := by decide +kernel
theorem dX7_parse_77 : decode cX7_parse 77 = .ok (.getfield 259, 3) := by decide +kernel
theorem dX7_parse_80 : decode cX7_parse 80 = .ok (.isub, 1) := by decide +kernel
theorem dX7_parse_81 : decode cX7_parse 81 = .ok (.ireturn, 1) := by decide +kernel
theorem dX7_parse_82 : decode cX7_parse 82 = .ok (.aload_n 0, 1) := by decide +kernel
theorem dX7_parse_83 : decode cX7_parse 83 = .ok (.invokevirtual 304, 3) := by decide +kernel
theorem dX7_parse_86 : decode cX7_parse 86 = .ok (.aload_n 0, 1) := by decide +kernel
theorem dX7_parse_87 : decode cX7_parse 87 = .ok (.getfield 262, 3) := by decide +kernel
theorem dX7_parse_90 : decode cX7_parse 90 = .ok (.ifCond .eq 6, 3) := by decide +kernel
theorem dX7_parse_93 : decode cX7_parse 93 = .ok (.bipush (-2), 2) := by decide +kernel
theorem dX7_parse_95 : decode cX7_parse 95 = .ok (.ireturn, 1) := by decide +kernel
theorem dX7_parse_96 : decode cX7_parse 96 = .ok (.aload_n 0, 1) := by decide +kernel
theorem dX7_parse_97 : decode cX7_parse 97 = .ok (.invokevirtual 98, 3) := by decide +kernel
theorem dX7_parse_100 : decode cX7_parse 100 = .ok (.aload_n 0, 1) := by decide +kernel
theorem dX7_parse_101 : decode cX7_parse 101 = .ok (.bipush 8, 2) := by decide +kernel
theorem dX7_parse_103 : decode cX7_parse 103 = .ok (.iload_n 1, 1) := by decide +kernel
theorem dX7_parse_104 : decode cX7_parse 104 = .ok (.invokevirtual 230, 3) := by decide +kernel
theorem dX7_parse_107 : decode cX7_parse 107 = .ok (.aload_n 0, 1) := by decide +kernel
theorem dX7_parse_108 : decode cX7_parse 108 = .ok (.iload_n 1, 1) := by decide +kernel
theorem dX7_parse_109 : decode cX7_parse 109 = .ok (.invokevirtual 78, 3) := by decide +kernel
theorem dX7_parse_112 : decode cX7_parse 112 = .ok (.ireturn, 1) := by decide +kernel
theorem dX7_undo_0 : decode cX7_undo 0 = .ok (.aload_n 0, 1) := by decide +kernel
theorem dX7_undo_1 : decode cX7_undo 1 = .ok (.aload_n 0, 1) := by decide +kernel
theorem dX7_undo_2 : decode cX7_undo 2 = .ok (.getfield 63, 3) := by decide +kernel
theorem dX7_undo_5 : decode cX7_undo 5 = .ok (.ifCond .le 7, 3) := by decide +kernel
theorem dX7_undo_8 : decode cX7_undo 8 = .ok (.iconst 1, 1) := by decide +kernel
theorem dX7_undo_9 : decode cX7_undo 9 = .ok (.goto 4, 3) := by decide +kernel
theorem dX7_undo_12 : decode cX7_undo 12 = .ok (.iconst 0, 1) := by decide +kernel
theorem dX7_undo_13 : decode cX7_undo 13 = .ok (.iconst 1, 1) := by decide +kernel
theorem dX7_undo_14 : decode cX7_undo 14 = .ok (.iconst 1, 1) := by decide +kernel
theorem dX7_undo_15 : decode cX7_undo 15 = .ok (.invokevirtual 94, 3) := by decide +kernel
theorem dX7_undo_18 : decode cX7_undo 18 = .ok (.ifCond .ne 5, 3) := by decide +kernel
theorem dX7_undo_21 : decode cX7_undo 21 = .ok (.iconst 0, 1) := by decide +kernel
theorem dX7_undo_22 : decode cX7_undo 22 = .ok (.ireturn, 1) := by decide +kernel
theorem dX7_undo_23 : decode cX7_undo 23 = .ok (.aload_n 0, 1) := by decide +kernel
theorem dX7_undo_24 : decode cX7_undo 24 = .ok (.dup, 1) := by decide +kernel
theorem dX7_undo_25 : decode cX7_undo 25 = .ok (.getfield 63, 3) := by decide +kernel
theorem dX7_undo_28 : decode cX7_undo 28 = .ok (.iconst 1, 1) := by decide +kernel
theorem dX7_undo_29 : decode cX7_undo 29 = .ok (.isub, 1) := by decide +kernel
theorem dX7_undo_30 : decode cX7_undo 30 = .ok (.putfield 63, 3) := by decide +kernel
theorem dX7_undo_33 : decode cX7_undo 33 = .ok (.iconst 0, 1) := by decide +kernel
theorem dX7_undo_34 : decode cX7_undo 34 = .ok (.istore_n 1, 1) := by decide +kernel
theorem dX7_undo_35 : decode cX7_undo 35 = .ok (.iload_n 1, 1) := by decide +kernel
theorem dX7_undo_36 : decode cX7_undo 36 = .ok (.sipush 1252, 3) := by decide +kernel
theorem dX7_undo_39 : decode cX7_undo 39 = .ok (.if_icmp .ge 30, 3) := by decide +kernel
theorem dX7_undo_42 : decode cX7_undo 42 = .ok (.aload_n 0, 1) := by decide +kernel
theorem dX7_undo_43 : decode cX7_undo 43 = .ok (.getfield 7, 3) := by decide +kernel
theorem dX7_undo_46 : decode cX7_undo 46 = .ok (.iload_n 1, 1) := by decide +kernel
theorem dX7_undo_47 : decode cX7_undo 47 = .ok (.aload_n 0, 1) := by decide +kernel
theorem dX7_undo_48 : decode cX7_undo 48 = .ok (.getfield 13, 3) := by decide +kernel
theorem dX7_undo_51 : decode cX7_undo 51 = .ok (.sipush 1252, 3) := by decide +kernel
theorem dX7_undo_54 : decode cX7_undo 54 = .ok (.aload_n 0, 1) := by decide +kernel
theorem dX7_undo_55 : decode cX7_undo 55 = .ok (.getfield 63, 3) := by decide +kernel
theorem dX7_undo_58 : decode cX7_undo 58 = .ok (.imul, 1) := by decide +kernel
theorem dX7_undo_59 : decode cX7_undo 59 = .ok (.iload_n 1, 1) := by decide +kernel
theorem dX7_undo_60 : decode cX7_undo 60 = .ok (.iadd, 1) := by decide +kernel
theorem dX7_undo_61 : decode cX7_undo 61 = .ok (.iaload, 1) := by decide +kernel
theorem dX7_undo_62 : decode cX7_undo 62 = .ok (.iastore, 1) := by decide +kernel
theorem dX7_undo_63 : decode cX7_undo 63 = .ok (.iinc 1 1, 3) := by decide +kernel
theorem dX7_undo_66 : decode cX7_undo 66 = .ok (.goto (-31), 3) := by decide +kernel
theorem dX7_undo_69 : decode cX7_undo 69 = .ok (.aload_n 0, 1) := by decide +kernel
theorem dX7_undo_70 : decode cX7_undo 70 = .ok (.getfield 63, 3) := by decide +kernel
theorem dX7_undo_73 : decode cX7_undo 73 = .ok (.ireturn, 1) := by decide +kernel
theorem dX7_sumsSlot_0 : decode cX7_sumsSlot 0 = .ok (.aload_n 0, 1) := by decide +kernel
theorem dX7_sumsSlot_1 : decode cX7_sumsSlot 1 = .ok (.iload_n 3, 1) := by decide +kernel
theorem dX7_sumsSlot_2 : decode cX7_sumsSlot 2 = .ok (.invokevirtual 78, 3) := by decide +kernel
theorem dX7_sumsSlot_5 : decode cX7_sumsSlot 5 = .ok (.istore 4, 2) := by decide +kernel
theorem dX7_sumsSlot_7 : decode cX7_sumsSlot 7 = .ok (.ldc2_w 248, 3) := by decide +kernel
theorem dX7_sumsSlot_10 : decode cX7_sumsSlot 10 = .ok (.lload_n 1, 1) := by decide +kernel
theorem dX7_sumsSlot_11 : decode cX7_sumsSlot 11 = .ok (.lmul, 1) := by decide +kernel
theorem dX7_sumsSlot_12 : decode cX7_sumsSlot 12 = .ok (.iload 4, 2) := by decide +kernel
theorem dX7_sumsSlot_14 : decode cX7_sumsSlot 14 = .ok (.i2l, 1) := by decide +kernel
theorem dX7_sumsSlot_15 : decode cX7_sumsSlot 15 = .ok (.ladd, 1) := by decide +kernel
theorem dX7_sumsSlot_16 : decode cX7_sumsSlot 16 = .ok (.lstore 5, 2) := by decide +kernel
theorem dX7_sumsSlot_18 : decode cX7_sumsSlot 18 = .ok (.iconst 0, 1) := by decide +kernel
theorem dX7_sumsSlot_19 : decode cX7_sumsSlot 19 = .ok (.istore 7, 2) := by decide +kernel
theorem dX7_sumsSlot_21 : decode cX7_sumsSlot 21 = .ok (.iload 7, 2) := by decide +kernel
theorem dX7_sumsSlot_23 : decode cX7_sumsSlot 23 = .ok (.iload 4, 2) := by decide +kernel
theorem dX7_sumsSlot_25 : decode cX7_sumsSlot 25 = .ok (.if_icmp .ge 47, 3) := by decide +kernel
theorem dX7_sumsSlot_28 : decode cX7_sumsSlot 28 = .ok (.ldc2_w 248, 3) := by decide +kernel
theorem dX7_sumsSlot_31 : decode cX7_sumsSlot 31 = .ok (.ldc2_w 248, 3) := by decide +kernel
theorem dX7_sumsSlot_34 : decode cX7_sumsSlot 34 = .ok (.lload 5, 2) := by decide +kernel
theorem dX7_sumsSlot_36 : decode cX7_sumsSlot 36 = .ok (.lmul, 1) := by decide +kernel
theorem dX7_sumsSlot_37 : decode cX7_sumsSlot 37 = .ok (.aload_n 0, 1) := by decide +kernel
theorem dX7_sumsSlot_38 : decode cX7_sumsSlot 38 = .ok (.getfield 7, 3) := by decide +kernel
theorem dX7_sumsSlot_41 : decode cX7_sumsSlot 41 = .ok (.iload_n 3, 1) := by decide +kernel
theorem dX7_sumsSlot_42 : decode cX7_sumsSlot 42 = .ok (.iload 7, 2) := by decide +kernel
theorem dX7_sumsSlot_44 : decode cX7_sumsSlot 44 = .ok (.invokestatic 82, 3) := by decide +kernel
theorem dX7_sumsSlot_47 : decode cX7_sumsSlot 47 = .ok (.iaload, 1) := by decide +kernel
theorem dX7_sumsSlot_48 : decode cX7_sumsSlot 48 = .ok (.i2l, 1) := by decide +kernel
theorem dX7_sumsSlot_49 : decode cX7_sumsSlot 49 = .ok (.ladd, 1) := by decide +kernel
theorem dX7_sumsSlot_50 : decode cX7_sumsSlot 50 = .ok (.lmul, 1) := by decide +kernel
theorem dX7_sumsSlot_51 : decode cX7_sumsSlot 51 = .ok (.aload_n 0, 1) := by decide +kernel
theorem dX7_sumsSlot_52 : decode cX7_sumsSlot 52 = .ok (.getfield 7, 3) := by decide +kernel
theorem dX7_sumsSlot_55 : decode cX7_sumsSlot 55 = .ok (.iload_n 3, 1) := by decide +kernel
theorem dX7_sumsSlot_56 : decode cX7_sumsSlot 56 = .ok (.iload 7, 2) := by decide +kernel
theorem dX7_sumsSlot_58 : decode cX7_sumsSlot 58 = .ok (.invokestatic 85, 3) := by decide +kernel
theorem dX7_sumsSlot_61 : decode cX7_sumsSlot 61 = .ok (.iaload, 1) := by decide +kernel
theorem dX7_sumsSlot_62 : decode cX7_sumsSlot 62 = .ok (.i2l, 1) := by decide +kernel
theorem dX7_sumsSlot_63 : decode cX7_sumsSlot 63 = .ok (.ladd, 1) := by decide +kernel
theorem dX7_sumsSlot_64 : decode cX7_sumsSlot 64 = .ok (.lstore 5, 2) := by decide +kernel
theorem dX7_sumsSlot_66 : decode cX7_sumsSlot 66 = .ok (.iinc 7 1, 3) := by decide +kernel
theorem dX7_sumsSlot_69 : decode cX7_sumsSlot 69 = .ok (.goto (-48), 3) := by decide +kernel
theorem dX7_sumsSlot_72 : decode cX7_sumsSlot 72 = .ok (.iconst 0, 1) := by decide +kernel
theorem dX7_sumsSlot_73 : decode cX7_sumsSlot 73 = .ok (.istore 7, 2) := by decide +kernel
theorem dX7_sumsSlot_75 : decode cX7_sumsSlot 75 = .ok (.iload 7, 2) := by decide +kernel
theorem dX7_sumsSlot_77 : decode cX7_sumsSlot 77 = .ok (.iconst 2, 1) := by decide +kernel
theorem dX7_sumsSlot_78 : decode cX7_sumsSlot 78 = .ok (.iload 4, 2) := by decide +kernel
theorem dX7_sumsSlot_80 : decode cX7_sumsSlot 80 = .ok (.imul, 1) := by decide +kernel
theorem dX7_sumsSlot_81 : decode cX7_sumsSlot 81 = .ok (.iload 4, 2) := by decide +kernel
theorem dX7_sumsSlot_83 : decode cX7_sumsSlot 83 = .ok (.imul, 1) := by decide +kernel
theorem dX7_sumsSlot_84 : decode cX7_sumsSlot 84 = .ok (.if_icmp .ge 52, 3) := by decide +kernel
theorem dX7_sumsSlot_87 : decode cX7_sumsSlot 87 = .ok (.ldc2_w 248, 3) := by decide +kernel
theorem dX7_sumsSlot_90 : decode cX7_sumsSlot 90 = .ok (.lload 5, 2) := by decide +kernel
theorem dX7_sumsSlot_92 : decode cX7_sumsSlot 92 = .ok (.lmul, 1) := by decide +kernel
theorem dX7_sumsSlot_93 : decode cX7_sumsSlot 93 = .ok (.aload_n 0, 1) := by decide +kernel
theorem dX7_sumsSlot_94 : decode cX7_sumsSlot 94 = .ok (.getfield 7, 3) := by decide +kernel
theorem dX7_sumsSlot_97 : decode cX7_sumsSlot 97 = .ok (.iload_n 3, 1) := by decide +kernel
theorem dX7_sumsSlot_98 : decode cX7_sumsSlot 98 = .ok (.iload 7, 2) := by decide +kernel
theorem dX7_sumsSlot_100 : decode cX7_sumsSlot 100 = .ok (.iload 4, 2) := by decide +kernel
theorem dX7_sumsSlot_102 : decode cX7_sumsSlot 102 = .ok (.iload 4, 2) := by decide +kernel
theorem dX7_sumsSlot_104 : decode cX7_sumsSlot 104 = .ok (.imul, 1) := by decide +kernel
theorem dX7_sumsSlot_105 : decode cX7_sumsSlot 105 = .ok (.idiv, 1) := by decide +kernel
theorem dX7_sumsSlot_106 : decode cX7_sumsSlot 106 = .ok (.iload 7, 2) := by decide +kernel
theorem dX7_sumsSlot_108 : decode cX7_sumsSlot 108 = .ok (.iload 4, 2) := by decide +kernel
theorem dX7_sumsSlot_110 : decode cX7_sumsSlot 110 = .ok (.iload 4, 2) := by decide +kernel
theorem dX7_sumsSlot_112 : decode cX7_sumsSlot 112 = .ok (.imul, 1) := by decide +kernel
theorem dX7_sumsSlot_113 : decode cX7_sumsSlot 113 = .ok (.irem, 1) := by decide +kernel
theorem dX7_sumsSlot_114 : decode cX7_sumsSlot 114 = .ok (.iload 4, 2) := by decide +kernel
theorem dX7_sumsSlot_116 : decode cX7_sumsSlot 116 = .ok (.idiv, 1) := by decide +kernel
theorem dX7_sumsSlot_117 : decode cX7_sumsSlot 117 = .ok (.iload 7, 2) := by decide +kernel
theorem dX7_sumsSlot_119 : decode cX7_sumsSlot 119 = .ok (.iload 4, 2) := by decide +kernel
theorem dX7_sumsSlot_121 : decode cX7_sumsSlot 121 = .ok (.irem, 1) := by decide +kernel
theorem dX7_sumsSlot_122 : decode cX7_sumsSlot 122 = .ok (.invokestatic 116, 3) := by decide +kernel
theorem dX7_sumsSlot_125 : decode cX7_sumsSlot 125 = .ok (.iaload, 1) := by decide +kernel
theorem dX7_sumsSlot_126 : decode cX7_sumsSlot 126 = .ok (.i2l, 1) := by decide +kernel
theorem dX7_sumsSlot_127 : decode cX7_sumsSlot 127 = .ok (.ladd, 1) := by decide +kernel
theorem dX7_sumsSlot_128 : decode cX7_sumsSlot 128 = .ok (.lstore 5, 2) := by decide +kernel
theorem dX7_sumsSlot_130 : decode cX7_sumsSlot 130 = .ok (.iinc 7 1, 3) := by decide +kernel
theorem dX7_sumsSlot_133 : decode cX7_sumsSlot 133 = .ok (.goto (-58), 3) := by decide +kernel
theorem dX7_sumsSlot_136 : decode cX7_sumsSlot 136 = .ok (.iconst 0, 1) := by decide +kernel
theorem dX7_sumsSlot_137 : decode cX7_sumsSlot 137 = .ok (.istore 7, 2) := by decide +kernel
theorem dX7_sumsSlot_139 : decode cX7_sumsSlot 139 = .ok (.iload 7, 2) := by decide +kernel
theorem dX7_sumsSlot_141 : decode cX7_sumsSlot 141 = .ok (.iconst 3, 1) := by decide +kernel
theorem dX7_sumsSlot_142 : decode cX7_sumsSlot 142 = .ok (.if_icmp .ge 26, 3) := by decide +kernel
theorem dX7_sumsSlot_145 : decode cX7_sumsSlot 145 = .ok (.ldc2_w 248, 3) := by decide +kernel
theorem dX7_sumsSlot_148 : decode cX7_sumsSlot 148 = .ok (.lload 5, 2) := by decide +kernel
theorem dX7_sumsSlot_150 : decode cX7_sumsSlot 150 = .ok (.lmul, 1) := by decide +kernel
theorem dX7_sumsSlot_151 : decode cX7_sumsSlot 151 = .ok (.aload_n 0, 1) := by decide +kernel
theorem dX7_sumsSlot_152 : decode cX7_sumsSlot 152 = .ok (.iload_n 3, 1) := by decide +kernel
theorem dX7_sumsSlot_153 : decode cX7_sumsSlot 153 = .ok (.iload 7, 2) := by decide +kernel
theorem dX7_sumsSlot_155 : decode cX7_sumsSlot 155 = .ok (.invokevirtual 203, 3) := by decide +kernel
theorem dX7_sumsSlot_158 : decode cX7_sumsSlot 158 = .ok (.i2l, 1) := by decide +kernel
theorem dX7_sumsSlot_159 : decode cX7_sumsSlot 159 = .ok (.ladd, 1) := by decide +kernel
theorem dX7_sumsSlot_160 : decode cX7_sumsSlot 160 = .ok (.lstore 5, 2) := by decide +kernel
theorem dX7_sumsSlot_162 : decode cX7_sumsSlot 162 = .ok (.iinc 7 1, 3) := by decide +kernel
theorem dX7_sumsSlot_165 : decode cX7_sumsSlot 165 = .ok (.goto (-26), 3) := by decide +kernel
theorem dX7_sumsSlot_168 : decode cX7_sumsSlot 168 = .ok (.lload 5, 2) := by decide +kernel
theorem dX7_sumsSlot_170 : decode cX7_sumsSlot 170 = .ok (.lreturn, 1) := by decide +kernel
theorem dX7_digest_0 : decode cX7_digest 0 = .ok (.aload_n 0, 1) := by decide +kernel
theorem dX7_digest_1 : decode cX7_digest 1 = .ok (.iconst 0, 1) := by decide +kernel
theorem dX7_digest_2 : decode cX7_digest 2 = .ok (.putfield 59, 3) := by decide +kernel
theorem dX7_digest_5 : decode cX7_digest 5 = .ok (.ldc2_w 310, 3) := by decide +kernel
theorem dX7_digest_8 : decode cX7_digest 8 = .ok (.aload_n 0, 1) := by decide +kernel
theorem dX7_digest_9 : decode cX7_digest 9 = .ok (.getfield 259, 3) := by decide +kernel
theorem dX7_digest_12 : decode cX7_digest 12 = .ok (.i2l, 1) := by decide +kernel
theorem dX7_digest_13 : decode cX7_digest 13 = .ok (.ladd, 1) := by decide +kernel
theorem dX7_digest_14 : decode cX7_digest 14 = .ok (.lstore_n 1, 1) := by decide +kernel
theorem dX7_digest_15 : decode cX7_digest 15 = .ok (.iconst 0, 1) := by decide +kernel
theorem dX7_digest_16 : decode cX7_digest 16 = .ok (.istore_n 3, 1) := by decide +kernel
theorem dX7_digest_17 : decode cX7_digest 17 = .ok (.iload_n 3, 1) := by decide +kernel
theorem dX7_digest_18 : decode cX7_digest 18 = .ok (.iconst 4, 1) := by decide +kernel
theorem dX7_digest_19 : decode cX7_digest 19 = .ok (.if_icmp .ge 16, 3) := by decide +kernel
theorem dX7_digest_22 : decode cX7_digest 22 = .ok (.aload_n 0, 1) := by decide +kernel
theorem dX7_digest_23 : decode cX7_digest 23 = .ok (.lload_n 1, 1) := by decide +kernel
theorem dX7_digest_24 : decode cX7_digest 24 = .ok (.iload_n 3, 1) := by decide +kernel
theorem dX7_digest_25 : decode cX7_digest 25 = .ok (.invokevirtual 312, 3) := by decide +kernel
theorem dX7_digest_28 : decode cX7_digest 28 = .ok (.lstore_n 1, 1) := by decide +kernel
theorem dX7_digest_29 : decode cX7_digest 29 = .ok (.iinc 3 1, 3) := by decide +kernel
theorem dX7_digest_32 : decode cX7_digest 32 = .ok (.goto (-15), 3) := by decide +kernel
theorem dX7_digest_35 : decode cX7_digest 35 = .ok (.ldc2_w 248, 3) := by decide +kernel
theorem dX7_digest_38 : decode cX7_digest 38 = .ok (.lload_n 1, 1) := by decide +kernel
theorem dX7_digest_39 : decode cX7_digest 39 = .ok (.lmul, 1) := by decide +kernel
theorem dX7_digest_40 : decode cX7_digest 40 = .ok (.aload_n 0, 1) := by decide +kernel
theorem dX7_digest_41 : decode cX7_digest 41 = .ok (.getfield 63, 3) := by decide +kernel
theorem dX7_digest_44 : decode cX7_digest 44 = .ok (.i2l, 1) := by decide +kernel
theorem dX7_digest_45 : decode cX7_digest 45 = .ok (.ladd, 1) := by decide +kernel
theorem dX7_digest_46 : decode cX7_digest 46 = .ok (.lreturn, 1) := by decide +kernel
theorem dJ7_rangeCheck_23922_0 : decode cJ7_rangeCheck_23922 0 = .ok (.iload_n 1, 1) := by decide +kernel
theorem dJ7_rangeCheck_23922_1 : decode cJ7_rangeCheck_23922 1 = .ok (.iload_n 2, 1) := by decide +kernel
theorem dJ7_rangeCheck_23922_2 : decode cJ7_rangeCheck_23922 2 = .ok (.if_icmp .le 44, 3) := by decide +kernel
theorem dJ7_rangeCheck_23922_5 : decode cJ7_rangeCheck_23922 5 = .ok (.new 43, 3) := by decide +kernel
theorem dJ7_rangeCheck_23922_8 : decode cJ7_rangeCheck_23922 8 = .ok (.dup, 1) := by decide +kernel
theorem dJ7_rangeCheck_23922_9 : decode cJ7_rangeCheck_23922 9 = .ok (.new 45, 3) := by decide +kernel
theorem dJ7_rangeCheck_23922_12 : decode cJ7_rangeCheck_23922 12 = .ok (.dup, 1) := by decide +kernel
theorem dJ7_rangeCheck_23922_13 : decode cJ7_rangeCheck_23922 13 = .ok (.invokespecial 47, 3) := by decide +kernel
theorem dJ7_rangeCheck_23922_16 : decode cJ7_rangeCheck_23922 16 = .ok (.ldc 48, 2) := by decide +kernel
theorem dJ7_rangeCheck_23922_18 : decode cJ7_rangeCheck_23922 18 = .ok (.invokevirtual 50, 3) := by decide +kernel
theorem dJ7_rangeCheck_23922_21 : decode cJ7_rangeCheck_23922 21 = .ok (.iload_n 1, 1) := by decide +kernel
theorem dJ7_rangeCheck_23922_22 : decode cJ7_rangeCheck_23922 22 = .ok (.invokevirtual 54, 3) := by decide +kernel
theorem dJ7_rangeCheck_23922_25 : decode cJ7_rangeCheck_23922 25 = .ok (.ldc 57, 2) := by decide +kernel
theorem dJ7_rangeCheck_23922_27 : decode cJ7_rangeCheck_23922 27 = .ok (.invokevirtual 50, 3) := by decide +kernel
theorem dJ7_rangeCheck_23922_30 : decode cJ7_rangeCheck_23922 30 = .ok (.iload_n 2, 1) := by decide +kernel
theorem dJ7_rangeCheck_23922_31 : decode cJ7_rangeCheck_23922 31 = .ok (.invokevirtual 54, 3) := by decide +kernel
theorem dJ7_rangeCheck_23922_34 : decode cJ7_rangeCheck_23922 34 = .ok (.ldc 59, 2) := by decide +kernel
theorem dJ7_rangeCheck_23922_36 : decode cJ7_rangeCheck_23922 36 = .ok (.invokevirtual 50, 3) := by decide +kernel
theorem dJ7_rangeCheck_23922_39 : decode cJ7_rangeCheck_23922 39 = .ok (.invokevirtual 61, 3) := by decide +kernel
theorem dJ7_rangeCheck_23922_42 : decode cJ7_rangeCheck_23922 42 = .ok (.invokespecial 65, 3) := by decide +kernel
theorem dJ7_rangeCheck_23922_45 : decode cJ7_rangeCheck_23922 45 = .ok (.athrow, 1) := by decide +kernel
theorem dJ7_rangeCheck_23922_46 : decode cJ7_rangeCheck_23922 46 = .ok (.iload_n 1, 1) := by decide +kernel
theorem dJ7_rangeCheck_23922_47 : decode cJ7_rangeCheck_23922 47 = .ok (.ifCond .ge 12, 3) := by decide +kernel
theorem dJ7_rangeCheck_23922_50 : decode cJ7_rangeCheck_23922 50 = .ok (.new 68, 3) := by decide +kernel
theorem dJ7_rangeCheck_23922_53 : decode cJ7_rangeCheck_23922 53 = .ok (.dup, 1) := by decide +kernel
theorem dJ7_rangeCheck_23922_54 : decode cJ7_rangeCheck_23922 54 = .ok (.iload_n 1, 1) := by decide +kernel
theorem dJ7_rangeCheck_23922_55 : decode cJ7_rangeCheck_23922 55 = .ok (.invokespecial 70, 3) := by decide +kernel
theorem dJ7_rangeCheck_23922_58 : decode cJ7_rangeCheck_23922 58 = .ok (.athrow, 1) := by decide +kernel
theorem dJ7_rangeCheck_23922_59 : decode cJ7_rangeCheck_23922 59 = .ok (.iload_n 2, 1) := by decide +kernel
theorem dJ7_rangeCheck_23922_60 : decode cJ7_rangeCheck_23922 60 = .ok (.iload_n 0, 1) := by decide +kernel
theorem dJ7_rangeCheck_23922_61 : decode cJ7_rangeCheck_23922 61 = .ok (.if_icmp .le 12, 3) := by decide +kernel
theorem dJ7_rangeCheck_23922_64 : decode cJ7_rangeCheck_23922 64 = .ok (.new 68, 3) := by decide +kernel
theorem dJ7_rangeCheck_23922_67 : decode cJ7_rangeCheck_23922 67 = .ok (.dup, 1) := by decide +kernel
theorem dJ7_rangeCheck_23922_68 : decode cJ7_rangeCheck_23922 68 = .ok (.iload_n 2, 1) := by decide +kernel
theorem dJ7_rangeCheck_23922_69 : decode cJ7_rangeCheck_23922 69 = .ok (.invokespecial 70, 3) := by decide +kernel
theorem dJ7_rangeCheck_23922_72 : decode cJ7_rangeCheck_23922 72 = .ok (.athrow, 1) := by decide +kernel
theorem dJ7_rangeCheck_23922_73 : decode cJ7_rangeCheck_23922 73 = .ok (.return_, 1) := by decide +kernel
theorem dJ7_fill_53178_0 : decode cJ7_fill_53178 0 = .ok (.iconst 0, 1) := by decide +kernel
theorem dJ7_fill_53178_1 : decode cJ7_fill_53178 1 = .ok (.istore_n 2, 1) := by decide +kernel
theorem dJ7_fill_53178_2 : decode cJ7_fill_53178 2 = .ok (.aload_n 0, 1) := by decide +kernel
theorem dJ7_fill_53178_3 : decode cJ7_fill_53178 3 = .ok (.arraylength, 1) := by decide +kernel
theorem dJ7_fill_53178_4 : decode cJ7_fill_53178 4 = .ok (.istore_n 3, 1) := by decide +kernel
theorem dJ7_fill_53178_5 : decode cJ7_fill_53178 5 = .ok (.iload_n 2, 1) := by decide +kernel
theorem dJ7_fill_53178_6 : decode cJ7_fill_53178 6 = .ok (.iload_n 3, 1) := by decide +kernel
theorem dJ7_fill_53178_7 : decode cJ7_fill_53178 7 = .ok (.if_icmp .ge 13, 3) := by decide +kernel
theorem dJ7_fill_53178_10 : decode cJ7_fill_53178 10 = .ok (.aload_n 0, 1) := by decide +kernel
theorem dJ7_fill_53178_11 : decode cJ7_fill_53178 11 = .ok (.iload_n 2, 1) := by decide +kernel
theorem dJ7_fill_53178_12 : decode cJ7_fill_53178 12 = .ok (.iload_n 1, 1) := by decide +kernel
theorem dJ7_fill_53178_13 : decode cJ7_fill_53178 13 = .ok (.iastore, 1) := by decide +kernel
theorem dJ7_fill_53178_14 : decode cJ7_fill_53178 14 = .ok (.iinc 2 1, 3) := by decide +kernel
theorem dJ7_fill_53178_17 : decode cJ7_fill_53178 17 = .ok (.goto (-12), 3) := by decide +kernel
theorem dJ7_fill_53178_20 : decode cJ7_fill_53178 20 = .ok (.return_, 1) := by decide +kernel
theorem dJ7_fill_fda19_0 : decode cJ7_fill_fda19 0 = .ok (.aload_n 0, 1) := by decide +kernel
theorem dJ7_fill_fda19_1 : decode cJ7_fill_fda19 1 = .ok (.arraylength, 1) := by decide +kernel
theorem dJ7_fill_fda19_2 : decode cJ7_fill_fda19 2 = .ok (.iload_n 1, 1) := by decide +kernel
theorem dJ7_fill_fda19_3 : decode cJ7_fill_fda19 3 = .ok (.iload_n 2, 1) := by decide +kernel
theorem dJ7_fill_fda19_4 : decode cJ7_fill_fda19 4 = .ok (.invokestatic 13, 3) := by decide +kernel
theorem dJ7_fill_fda19_7 : decode cJ7_fill_fda19 7 = .ok (.iload_n 1, 1) := by decide +kernel
theorem dJ7_fill_fda19_8 : decode cJ7_fill_fda19 8 = .ok (.istore 4, 2) := by decide +kernel
theorem dJ7_fill_fda19_10 : decode cJ7_fill_fda19 10 = .ok (.iload 4, 2) := by decide +kernel
theorem dJ7_fill_fda19_12 : decode cJ7_fill_fda19 12 = .ok (.iload_n 2, 1) := by decide +kernel
theorem dJ7_fill_fda19_13 : decode cJ7_fill_fda19 13 = .ok (.if_icmp .ge 14, 3) := by decide +kernel
theorem dJ7_fill_fda19_16 : decode cJ7_fill_fda19 16 = .ok (.aload_n 0, 1) := by decide +kernel
theorem dJ7_fill_fda19_17 : decode cJ7_fill_fda19 17 = .ok (.iload 4, 2) := by decide +kernel
theorem dJ7_fill_fda19_19 : decode cJ7_fill_fda19 19 = .ok (.iload_n 3, 1) := by decide +kernel
theorem dJ7_fill_fda19_20 : decode cJ7_fill_fda19 20 = .ok (.iastore, 1) := by decide +kernel
theorem dJ7_fill_fda19_21 : decode cJ7_fill_fda19 21 = .ok (.iinc 4 1, 3) := by decide +kernel
theorem dJ7_fill_fda19_24 : decode cJ7_fill_fda19 24 = .ok (.goto (-14), 3) := by decide +kernel
theorem dJ7_fill_fda19_27 : decode cJ7_fill_fda19 27 = .ok (.return_, 1) := by decide +kernel
theorem dL_begin_0 : decode cL_begin 0 = .ok (.aload_n 3, 1) := by decide +kernel
theorem dL_begin_1 : decode cL_begin 1 = .ok (.iconst 0, 1) := by decide +kernel
theorem dL_begin_2 : decode cL_begin 2 = .ok (.aload_n 0, 1) := by decide +kernel
theorem dL_begin_3 : decode cL_begin 3 = .ok (.iload_n 1, 1) := by decide +kernel
theorem dL_begin_4 : decode cL_begin 4 = .ok (.iload_n 2, 1) := by decide +kernel
theorem dL_begin_5 : decode cL_begin 5 = .ok (.invokevirtual 7, 3) := by decide +kernel
theorem dL_begin_8 : decode cL_begin 8 = .ok (.i2l, 1) := by decide +kernel
theorem dL_begin_9 : decode cL_begin 9 = .ok (.lastore, 1) := by decide +kernel
theorem dL_begin_10 : decode cL_begin 10 = .ok (.goto 11, 3) := by decide +kernel
theorem dL_begin_13 : decode cL_begin 13 = .ok (.astore 4, 2) := by decide +kernel
theorem dL_begin_15 : decode cL_begin 15 = .ok (.iconst 1, 1) := by decide +kernel
theorem dL_begin_16 : decode cL_begin 16 = .ok (.ireturn, 1) := by decide +kernel
theorem dL_begin_17 : decode cL_begin 17 = .ok (.astore 4, 2) := by decide +kernel
theorem dL_begin_19 : decode cL_begin 19 = .ok (.iconst 2, 1) := by decide +kernel
theorem dL_begin_20 : decode cL_begin 20 = .ok (.ireturn, 1) := by decide +kernel
theorem dL_begin_21 : decode cL_begin 21 = .ok (.iconst 0, 1) := by decide +kernel
theorem dL_begin_22 : decode cL_begin 22 = .ok (.ireturn, 1) := by decide +kernel
theorem dL_setEnd_0 : decode cL_setEnd 0 = .ok (.aload 5, 2) := by decide +kernel
theorem dL_setEnd_2 : decode cL_setEnd 2 = .ok (.iconst 0, 1) := by decide +kernel
theorem dL_setEnd_3 : decode cL_setEnd 3 = .ok (.aload_n 0, 1) := by decide +kernel
theorem dL_setEnd_4 : decode cL_setEnd 4 = .ok (.iload_n 1, 1) := by decide +kernel
theorem dL_setEnd_5 : decode cL_setEnd 5 = .ok (.iload_n 2, 1) := by decide +kernel
theorem dL_setEnd_6 : decode cL_setEnd 6 = .ok (.iload_n 3, 1) := by decide +kernel
theorem dL_setEnd_7 : decode cL_setEnd 7 = .ok (.iload 4, 2) := by decide +kernel
theorem dL_setEnd_9 : decode cL_setEnd 9 = .ok (.invokevirtual 17, 3) := by decide +kernel
theorem dL_setEnd_12 : decode cL_setEnd 12 = .ok (.i2l, 1) := by decide +kernel
theorem dL_setEnd_13 : decode cL_setEnd 13 = .ok (.lastore, 1) := by decide +kernel
theorem dL_setEnd_14 : decode cL_setEnd 14 = .ok (.goto 11, 3) := by decide +kernel
theorem dL_setEnd_17 : decode cL_setEnd 17 = .ok (.astore 6, 2) := by decide +kernel
theorem dL_setEnd_19 : decode cL_setEnd 19 = .ok (.iconst 1, 1) := by decide +kernel
theorem dL_setEnd_20 : decode cL_setEnd 20 = .ok (.ireturn, 1) := by decide +kernel
theorem dL_setEnd_21 : decode cL_setEnd 21 = .ok (.astore 6, 2) := by decide +kernel
theorem dL_setEnd_23 : decode cL_setEnd 23 = .ok (.iconst 2, 1) := by decide +kernel
theorem dL_setEnd_24 : decode cL_setEnd 24 = .ok (.ireturn, 1) := by decide +kernel
theorem dL_setEnd_25 : decode cL_setEnd 25 = .ok (.iconst 0, 1) := by decide +kernel
theorem dL_setEnd_26 : decode cL_setEnd 26 = .ok (.ireturn, 1) := by decide +kernel
theorem dL_setStep_0 : decode cL_setStep 0 = .ok (.aload 6, 2) := by decide +kernel
theorem dL_setStep_2 : decode cL_setStep 2 = .ok (.iconst 0, 1) := by decide +kernel
theorem dL_setStep_3 : decode cL_setStep 3 = .ok (.aload_n 0, 1) := by decide +kernel
theorem dL_setStep_4 : decode cL_setStep 4 = .ok (.iload_n 1, 1) := by decide +kernel
theorem dL_setStep_5 : decode cL_setStep 5 = .ok (.iload_n 2, 1) := by decide +kernel
theorem dL_setStep_6 : decode cL_setStep 6 = .ok (.iload_n 3, 1) := by decide +kernel
theorem dL_setStep_7 : decode cL_setStep 7 = .ok (.iload 4, 2) := by decide +kernel
theorem dL_setStep_9 : decode cL_setStep 9 = .ok (.iload 5, 2) := by decide +kernel
theorem dL_setStep_11 : decode cL_setStep 11 = .ok (.invokevirtual 21, 3) := by decide +kernel
theorem dL_setStep_14 : decode cL_setStep 14 = .ok (.i2l, 1) := by decide +kernel
theorem dL_setStep_15 : decode cL_setStep 15 = .ok (.lastore, 1) := by decide +kernel
theorem dL_setStep_16 : decode cL_setStep 16 = .ok (.goto 11, 3) := by decide +kernel
theorem dL_setStep_19 : decode cL_setStep 19 = .ok (.astore 7, 2) := by decide +kernel
theorem dL_setStep_21 : decode cL_setStep 21 = .ok (.iconst 1, 1) := by decide +kernel
theorem dL_setStep_22 : decode cL_setStep 22 = .ok (.ireturn, 1) := by decide +kernel
theorem dL_setStep_23 : decode cL_setStep 23 = .ok (.astore 7, 2) := by decide +kernel
theorem dL_setStep_25 : decode cL_setStep 25 = .ok (.iconst 2, 1) := by decide +kernel
theorem dL_setStep_26 : decode cL_setStep 26 = .ok (.ireturn, 1) := by decide +kernel
theorem dL_setStep_27 : decode cL_setStep 27 = .ok (.iconst 0, 1) := by decide +kernel
theorem dL_setStep_28 : decode cL_setStep 28 = .ok (.ireturn, 1) := by decide +kernel
theorem dL_random_0 : decode cL_random 0 = .ok (.aload 4, 2) := by decide +kernel
theorem dL_random_2 : decode cL_random 2 = .ok (.iconst 0, 1) := by decide +kernel
theorem dL_random_3 : decode cL_random 3 = .ok (.aload_n 0, 1) := by decide +kernel
theorem dL_random_4 : decode cL_random 4 = .ok (.iload_n 1, 1) := by decide +kernel
theorem dL_random_5 : decode cL_random 5 = .ok (.iload_n 2, 1) := by decide +kernel
theorem dL_random_6 : decode cL_random 6 = .ok (.iload_n 3, 1) := by decide +kernel
theorem dL_random_7 : decode cL_random 7 = .ok (.invokevirtual 25, 3) := by decide +kernel
theorem dL_random_10 : decode cL_random 10 = .ok (.i2l, 1) := by decide +kernel
theorem dL_random_11 : decode cL_random 11 = .ok (.lastore, 1) := by decide +kernel
theorem dL_random_12 : decode cL_random 12 = .ok (.goto 11, 3) := by decide +kernel
theorem dL_random_15 : decode cL_random 15 = .ok (.astore 5, 2) := by decide +kernel
theorem dL_random_17 : decode cL_random 17 = .ok (.iconst 1, 1) := by decide +kernel
theorem dL_random_18 : decode cL_random 18 = .ok (.ireturn, 1) := by decide +kernel
theorem dL_random_19 : decode cL_random 19 = .ok (.astore 5, 2) := by decide +kernel
theorem dL_random_21 : decode cL_random 21 = .ok (.iconst 2, 1) := by decide +kernel
theorem dL_random_22 : decode cL_random 22 = .ok (.ireturn, 1) := by decide +kernel
theorem dL_random_23 : decode cL_random 23 = .ok (.iconst 0, 1) := by decide +kernel
theorem dL_random_24 : decode cL_random 24 = .ok (.ireturn, 1) := by decide +kernel
theorem dL_states_0 : decode cL_states 0 = .ok (.aload_n 2, 1) := by decide +kernel
theorem dL_states_1 : decode cL_states 1 = .ok (.iconst 0, 1) := by decide +kernel
theorem dL_states_2 : decode cL_states 2 = .ok (.aload_n 0, 1) := by decide +kernel
theorem dL_states_3 : decode cL_states 3 = .ok (.iload_n 1, 1) := by decide +kernel
theorem dL_states_4 : decode cL_states 4 = .ok (.invokevirtual 29, 3) := by decide +kernel
theorem dL_states_7 : decode cL_states 7 = .ok (.i2l, 1) := by decide +kernel
theorem dL_states_8 : decode cL_states 8 = .ok (.lastore, 1) := by decide +kernel
theorem dL_states_9 : decode cL_states 9 = .ok (.goto 6, 3) := by decide +kernel
theorem dL_states_12 : decode cL_states 12 = .ok (.astore_n 3, 1) := by decide +kernel
theorem dL_states_13 : decode cL_states 13 = .ok (.iconst 1, 1) := by decide +kernel
theorem dL_states_14 : decode cL_states 14 = .ok (.ireturn, 1) := by decide +kernel
theorem dL_states_15 : decode cL_states 15 = .ok (.iconst 0, 1) := by decide +kernel
theorem dL_states_16 : decode cL_states 16 = .ok (.ireturn, 1) := by decide +kernel
theorem dL_end_0 : decode cL_end 0 = .ok (.aload 4, 2) := by decide +kernel
theorem dL_end_2 : decode cL_end 2 = .ok (.iconst 0, 1) := by decide +kernel
theorem dL_end_3 : decode cL_end 3 = .ok (.aload_n 0, 1) := by decide +kernel
theorem dL_end_4 : decode cL_end 4 = .ok (.iload_n 1, 1) := by decide +kernel
theorem dL_end_5 : decode cL_end 5 = .ok (.iload_n 2, 1) := by decide +kernel
theorem dL_end_6 : decode cL_end 6 = .ok (.iload_n 3, 1) := by decide +kernel
theorem dL_end_7 : decode cL_end 7 = .ok (.invokevirtual 33, 3) := by decide +kernel
theorem dL_end_10 : decode cL_end 10 = .ok (.i2l, 1) := by decide +kernel
theorem dL_end_11 : decode cL_end 11 = .ok (.lastore, 1) := by decide +kernel
theorem dL_end_12 : decode cL_end 12 = .ok (.goto 7, 3) := by decide +kernel
theorem dL_end_15 : decode cL_end 15 = .ok (.astore 5, 2) := by decide +kernel
theorem dL_end_17 : decode cL_end 17 = .ok (.iconst 1, 1) := by decide +kernel
theorem dL_end_18 : decode cL_end 18 = .ok (.ireturn, 1) := by decide +kernel
theorem dL_end_19 : decode cL_end 19 = .ok (.iconst 0, 1) := by decide +kernel
theorem dL_end_20 : decode cL_end 20 = .ok (.ireturn, 1) := by decide +kernel
theorem dL_step_0 : decode cL_step 0 = .ok (.aload 5, 2) := by decide +kernel
theorem dL_step_2 : decode cL_step 2 = .ok (.iconst 0, 1) := by decide +kernel
theorem dL_step_3 : decode cL_step 3 = .ok (.aload_n 0, 1) := by decide +kernel
theorem dL_step_4 : decode cL_step 4 = .ok (.iload_n 1, 1) := by decide +kernel
theorem dL_step_5 : decode cL_step 5 = .ok (.iload_n 2, 1) := by decide +kernel
theorem dL_step_6 : decode cL_step 6 = .ok (.iload_n 3, 1) := by decide +kernel
theorem dL_step_7 : decode cL_step 7 = .ok (.iload 4, 2) := by decide +kernel
theorem dL_step_9 : decode cL_step 9 = .ok (.invokevirtual 37, 3) := by decide +kernel
theorem dL_step_12 : decode cL_step 12 = .ok (.i2l, 1) := by decide +kernel
theorem dL_step_13 : decode cL_step 13 = .ok (.lastore, 1) := by decide +kernel
theorem dL_step_14 : decode cL_step 14 = .ok (.goto 7, 3) := by decide +kernel
theorem dL_step_17 : decode cL_step 17 = .ok (.astore 6, 2) := by decide +kernel
theorem dL_step_19 : decode cL_step 19 = .ok (.iconst 1, 1) := by decide +kernel
theorem dL_step_20 : decode cL_step 20 = .ok (.ireturn, 1) := by decide +kernel
theorem dL_step_21 : decode cL_step 21 = .ok (.iconst 0, 1) := by decide +kernel
theorem dL_step_22 : decode cL_step 22 = .ok (.ireturn, 1) := by decide +kernel
theorem dL_weight_0 : decode cL_weight 0 = .ok (.aload_n 3, 1) := by decide +kernel
theorem dL_weight_1 : decode cL_weight 1 = .ok (.iconst 0, 1) := by decide +kernel
theorem dL_weight_2 : decode cL_weight 2 = .ok (.aload_n 0, 1) := by decide +kernel
theorem dL_weight_3 : decode cL_weight 3 = .ok (.iload_n 1, 1) := by decide +kernel
theorem dL_weight_4 : decode cL_weight 4 = .ok (.iload_n 2, 1) := by decide +kernel
theorem dL_weight_5 : decode cL_weight 5 = .ok (.invokevirtual 41, 3) := by decide +kernel
theorem dL_weight_8 : decode cL_weight 8 = .ok (.i2l, 1) := by decide +kernel
theorem dL_weight_9 : decode cL_weight 9 = .ok (.lastore, 1) := by decide +kernel
theorem dL_weight_10 : decode cL_weight 10 = .ok (.goto 11, 3) := by decide +kernel
theorem dL_weight_13 : decode cL_weight 13 = .ok (.astore 4, 2) := by decide +kernel
theorem dL_weight_15 : decode cL_weight 15 = .ok (.iconst 1, 1) := by decide +kernel
theorem dL_weight_16 : decode cL_weight 16 = .ok (.ireturn, 1) := by decide +kernel
theorem dL_weight_17 : decode cL_weight 17 = .ok (.astore 4, 2) := by decide +kernel
theorem dL_weight_19 : decode cL_weight 19 = .ok (.iconst 2, 1) := by decide +kernel
theorem dL_weight_20 : decode cL_weight 20 = .ok (.ireturn, 1) := by decide +kernel
theorem dL_weight_21 : decode cL_weight 21 = .ok (.iconst 0, 1) := by decide +kernel
theorem dL_weight_22 : decode cL_weight 22 = .ok (.ireturn, 1) := by decide +kernel
theorem dL_powerWeight_0 : decode cL_powerWeight 0 = .ok (.aload 4, 2) := by decide +kernel
theorem dL_powerWeight_2 : decode cL_powerWeight 2 = .ok (.iconst 0, 1) := by decide +kernel
theorem dL_powerWeight_3 : decode cL_powerWeight 3 = .ok (.aload_n 0, 1) := by decide +kernel
theorem dL_powerWeight_4 : decode cL_powerWeight 4 = .ok (.iload_n 1, 1) := by decide +kernel
theorem dL_powerWeight_5 : decode cL_powerWeight 5 = .ok (.iload_n 2, 1) := by decide +kernel
theorem dL_powerWeight_6 : decode cL_powerWeight 6 = .ok (.iload_n 3, 1) := by decide +kernel
theorem dL_powerWeight_7 : decode cL_powerWeight 7 = .ok (.invokevirtual 44, 3) := by decide +kernel
theorem dL_powerWeight_10 : decode cL_powerWeight 10 = .ok (.i2l, 1) := by decide +kernel
theorem dL_powerWeight_11 : decode cL_powerWeight 11 = .ok (.lastore, 1) := by decide +kernel
theorem dL_powerWeight_12 : decode cL_powerWeight 12 = .ok (.goto 11, 3) := by decide +kernel
theorem dL_powerWeight_15 : decode cL_powerWeight 15 = .ok (.astore 5, 2) := by decide +kernel
theorem dL_powerWeight_17 : decode cL_powerWeight 17 = .ok (.iconst 1, 1) := by decide +kernel
theorem dL_powerWeight_18 : decode cL_powerWeight 18 = .ok (.ireturn, 1) := by decide +kernel
theorem dL_powerWeight_19 : decode cL_powerWeight 19 = .ok (.astore 5, 2) := by decide +kernel
theorem dL_powerWeight_21 : decode cL_powerWeight 21 = .ok (.iconst 2, 1) := by decide +kernel
theorem dL_powerWeight_22 : decode cL_powerWeight 22 = .ok (.ireturn, 1) := by decide +kernel
theorem dL_powerWeight_23 : decode cL_powerWeight 23 = .ok (.iconst 0, 1) := by decide +kernel
theorem dL_powerWeight_24 : decode cL_powerWeight 24 = .ok (.ireturn, 1) := by decide +kernel
theorem dL_total_0 : decode cL_total 0 = .ok (.aload_n 3, 1) := by decide +kernel
theorem dL_total_1 : decode cL_total 1 = .ok (.iconst 0, 1) := by decide +kernel
theorem dL_total_2 : decode cL_total 2 = .ok (.aload_n 0, 1) := by decide +kernel
theorem dL_total_3 : decode cL_total 3 = .ok (.iload_n 1, 1) := by decide +kernel
theorem dL_total_4 : decode cL_total 4 = .ok (.iload_n 2, 1) := by decide +kernel
theorem dL_total_5 : decode cL_total 5 = .ok (.invokevirtual 47, 3) := by decide +kernel
theorem dL_total_8 : decode cL_total 8 = .ok (.i2l, 1) := by decide +kernel
theorem dL_total_9 : decode cL_total 9 = .ok (.lastore, 1) := by decide +kernel
theorem dL_total_10 : decode cL_total 10 = .ok (.goto 11, 3) := by decide +kernel
theorem dL_total_13 : decode cL_total 13 = .ok (.astore 4, 2) := by decide +kernel
theorem dL_total_15 : decode cL_total 15 = .ok (.iconst 1, 1) := by decide +kernel
theorem dL_total_16 : decode cL_total 16 = .ok (.ireturn, 1) := by decide +kernel
theorem dL_total_17 : decode cL_total 17 = .ok (.astore 4, 2) := by decide +kernel
theorem dL_total_19 : decode cL_total 19 = .ok (.iconst 2, 1) := by decide +kernel
theorem dL_total_20 : decode cL_total 20 = .ok (.ireturn, 1) := by decide +kernel
theorem dL_total_21 : decode cL_total 21 = .ok (.iconst 0, 1) := by decide +kernel
theorem dL_total_22 : decode cL_total 22 = .ok (.ireturn, 1) := by decide +kernel
theorem dL_support_0 : decode cL_support 0 = .ok (.aload_n 3, 1) := by decide +kernel
theorem dL_support_1 : decode cL_support 1 = .ok (.iconst 0, 1) := by decide +kernel
theorem dL_support_2 : decode cL_support 2 = .ok (.aload_n 0, 1) := by decide +kernel
theorem dL_support_3 : decode cL_support 3 = .ok (.iload_n 1, 1) := by decide +kernel
theorem dL_support_4 : decode cL_support 4 = .ok (.iload_n 2, 1) := by decide +kernel
theorem dL_support_5 : decode cL_support 5 = .ok (.invokevirtual 50, 3) := by decide +kernel
theorem dL_support_8 : decode cL_support 8 = .ok (.i2l, 1) := by decide +kernel
theorem dL_support_9 : decode cL_support 9 = .ok (.lastore, 1) := by decide +kernel
theorem dL_support_10 : decode cL_support 10 = .ok (.goto 11, 3) := by decide +kernel
theorem dL_support_13 : decode cL_support 13 = .ok (.astore 4, 2) := by decide +kernel
theorem dL_support_15 : decode cL_support 15 = .ok (.iconst 1, 1) := by decide +kernel
theorem dL_support_16 : decode cL_support 16 = .ok (.ireturn, 1) := by decide +kernel
theorem dL_support_17 : decode cL_support 17 = .ok (.astore 4, 2) := by decide +kernel
theorem dL_support_19 : decode cL_support 19 = .ok (.iconst 2, 1) := by decide +kernel
theorem dL_support_20 : decode cL_support 20 = .ok (.ireturn, 1) := by decide +kernel
theorem dL_support_21 : decode cL_support 21 = .ok (.iconst 0, 1) := by decide +kernel
theorem dL_support_22 : decode cL_support 22 = .ok (.ireturn, 1) := by decide +kernel
theorem dL_first_0 : decode cL_first 0 = .ok (.aload_n 2, 1) := by decide +kernel
theorem dL_first_1 : decode cL_first 1 = .ok (.iconst 0, 1) := by decide +kernel
theorem dL_first_2 : decode cL_first 2 = .ok (.aload_n 0, 1) := by decide +kernel
theorem dL_first_3 : decode cL_first 3 = .ok (.iload_n 1, 1) := by decide +kernel
theorem dL_first_4 : decode cL_first 4 = .ok (.invokevirtual 53, 3) := by decide +kernel
theorem dL_first_7 : decode cL_first 7 = .ok (.i2l, 1) := by decide +kernel
theorem dL_first_8 : decode cL_first 8 = .ok (.lastore, 1) := by decide +kernel
theorem dL_first_9 : decode cL_first 9 = .ok (.goto 6, 3) := by decide +kernel
theorem dL_first_12 : decode cL_first 12 = .ok (.astore_n 3, 1) := by decide +kernel
theorem dL_first_13 : decode cL_first 13 = .ok (.iconst 1, 1) := by decide +kernel
theorem dL_first_14 : decode cL_first 14 = .ok (.ireturn, 1) := by decide +kernel
theorem dL_first_15 : decode cL_first 15 = .ok (.iconst 0, 1) := by decide +kernel
theorem dL_first_16 : decode cL_first 16 = .ok (.ireturn, 1) := by decide +kernel
theorem dL_combine_0 : decode cL_combine 0 = .ok (.aload 5, 2) := by decide +kernel
theorem dL_combine_2 : decode cL_combine 2 = .ok (.iconst 0, 1) := by decide +kernel
theorem dL_combine_3 : decode cL_combine 3 = .ok (.aload_n 0, 1) := by decide +kernel
theorem dL_combine_4 : decode cL_combine 4 = .ok (.iload_n 1, 1) := by decide +kernel
theorem dL_combine_5 : decode cL_combine 5 = .ok (.iload_n 2, 1) := by decide +kernel
theorem dL_combine_6 : decode cL_combine 6 = .ok (.iload_n 3, 1) := by decide +kernel
theorem dL_combine_7 : decode cL_combine 7 = .ok (.iload 4, 2) := by decide +kernel
theorem dL_combine_9 : decode cL_combine 9 = .ok (.invokevirtual 56, 3) := by decide +kernel
theorem dL_combine_12 : decode cL_combine 12 = .ok (.i2l, 1) := by decide +kernel
theorem dL_combine_13 : decode cL_combine 13 = .ok (.lastore, 1) := by decide +kernel
theorem dL_combine_14 : decode cL_combine 14 = .ok (.goto 15, 3) := by decide +kernel
theorem dL_combine_17 : decode cL_combine 17 = .ok (.astore 6, 2) := by decide +kernel
theorem dL_combine_19 : decode cL_combine 19 = .ok (.iconst 1, 1) := by decide +kernel
theorem dL_combine_20 : decode cL_combine 20 = .ok (.ireturn, 1) := by decide +kernel
theorem dL_combine_21 : decode cL_combine 21 = .ok (.astore 6, 2) := by decide +kernel
theorem dL_combine_23 : decode cL_combine 23 = .ok (.iconst 2, 1) := by decide +kernel
theorem dL_combine_24 : decode cL_combine 24 = .ok (.ireturn, 1) := by decide +kernel
theorem dL_combine_25 : decode cL_combine 25 = .ok (.astore 6, 2) := by decide +kernel
theorem dL_combine_27 : decode cL_combine 27 = .ok (.iconst 3, 1) := by decide +kernel
theorem dL_combine_28 : decode cL_combine 28 = .ok (.ireturn, 1) := by decide +kernel
theorem dL_combine_29 : decode cL_combine 29 = .ok (.iconst 0, 1) := by decide +kernel
theorem dL_combine_30 : decode cL_combine 30 = .ok (.ireturn, 1) := by decide +kernel
theorem dL_derive_0 : decode cL_derive 0 = .ok (.aload 4, 2) := by decide +kernel
theorem dL_derive_2 : decode cL_derive 2 = .ok (.iconst 0, 1) := by decide +kernel
theorem dL_derive_3 : decode cL_derive 3 = .ok (.aload_n 0, 1) := by decide +kernel
theorem dL_derive_4 : decode cL_derive 4 = .ok (.iload_n 1, 1) := by decide +kernel
theorem dL_derive_5 : decode cL_derive 5 = .ok (.iload_n 2, 1) := by decide +kernel
theorem dL_derive_6 : decode cL_derive 6 = .ok (.iload_n 3, 1) := by decide +kernel
theorem dL_derive_7 : decode cL_derive 7 = .ok (.invokevirtual 61, 3) := by decide +kernel
theorem dL_derive_10 : decode cL_derive 10 = .ok (.i2l, 1) := by decide +kernel
theorem dL_derive_11 : decode cL_derive 11 = .ok (.lastore, 1) := by decide +kernel
theorem dL_derive_12 : decode cL_derive 12 = .ok (.goto 15, 3) := by decide +kernel
theorem dL_derive_15 : decode cL_derive 15 = .ok (.astore 5, 2) := by decide +kernel
theorem dL_derive_17 : decode cL_derive 17 = .ok (.iconst 1, 1) := by decide +kernel
theorem dL_derive_18 : decode cL_derive 18 = .ok (.ireturn, 1) := by decide +kernel
theorem dL_derive_19 : decode cL_derive 19 = .ok (.astore 5, 2) := by decide +kernel
theorem dL_derive_21 : decode cL_derive 21 = .ok (.iconst 2, 1) := by decide +kernel
theorem dL_derive_22 : decode cL_derive 22 = .ok (.ireturn, 1) := by decide +kernel
theorem dL_derive_23 : decode cL_derive 23 = .ok (.astore 5, 2) := by decide +kernel
theorem dL_derive_25 : decode cL_derive 25 = .ok (.iconst 3, 1) := by decide +kernel
theorem dL_derive_26 : decode cL_derive 26 = .ok (.ireturn, 1) := by decide +kernel
theorem dL_derive_27 : decode cL_derive 27 = .ok (.iconst 0, 1) := by decide +kernel
theorem dL_derive_28 : decode cL_derive 28 = .ok (.ireturn, 1) := by decide +kernel
theorem dL_scale_0 : decode cL_scale 0 = .ok (.aload_n 3, 1) := by decide +kernel
theorem dL_scale_1 : decode cL_scale 1 = .ok (.iconst 0, 1) := by decide +kernel
theorem dL_scale_2 : decode cL_scale 2 = .ok (.aload_n 0, 1) := by decide +kernel
theorem dL_scale_3 : decode cL_scale 3 = .ok (.iload_n 1, 1) := by decide +kernel
theorem dL_scale_4 : decode cL_scale 4 = .ok (.iload_n 2, 1) := by decide +kernel
theorem dL_scale_5 : decode cL_scale 5 = .ok (.invokevirtual 64, 3) := by decide +kernel
theorem dL_scale_8 : decode cL_scale 8 = .ok (.i2l, 1) := by decide +kernel
theorem dL_scale_9 : decode cL_scale 9 = .ok (.lastore, 1) := by decide +kernel
theorem dL_scale_10 : decode cL_scale 10 = .ok (.goto 11, 3) := by decide +kernel
theorem dL_scale_13 : decode cL_scale 13 = .ok (.astore 4, 2) := by decide +kernel
theorem dL_scale_15 : decode cL_scale 15 = .ok (.iconst 1, 1) := by decide +kernel
theorem dL_scale_16 : decode cL_scale 16 = .ok (.ireturn, 1) := by decide +kernel
theorem dL_scale_17 : decode cL_scale 17 = .ok (.astore 4, 2) := by decide +kernel
theorem dL_scale_19 : decode cL_scale 19 = .ok (.iconst 2, 1) := by decide +kernel
theorem dL_scale_20 : decode cL_scale 20 = .ok (.ireturn, 1) := by decide +kernel
theorem dL_scale_21 : decode cL_scale 21 = .ok (.iconst 0, 1) := by decide +kernel
theorem dL_scale_22 : decode cL_scale 22 = .ok (.ireturn, 1) := by decide +kernel
theorem dL_dimension_0 : decode cL_dimension 0 = .ok (.aload_n 3, 1) := by decide +kernel
theorem dL_dimension_1 : decode cL_dimension 1 = .ok (.iconst 0, 1) := by decide +kernel
theorem dL_dimension_2 : decode cL_dimension 2 = .ok (.aload_n 0, 1) := by decide +kernel
theorem dL_dimension_3 : decode cL_dimension 3 = .ok (.iload_n 1, 1) := by decide +kernel
theorem dL_dimension_4 : decode cL_dimension 4 = .ok (.iload_n 2, 1) := by decide +kernel
theorem dL_dimension_5 : decode cL_dimension 5 = .ok (.invokevirtual 67, 3) := by decide +kernel
theorem dL_dimension_8 : decode cL_dimension 8 = .ok (.i2l, 1) := by decide +kernel
theorem dL_dimension_9 : decode cL_dimension 9 = .ok (.lastore, 1) := by decide +kernel
theorem dL_dimension_10 : decode cL_dimension 10 = .ok (.goto 11, 3) := by decide +kernel
theorem dL_dimension_13 : decode cL_dimension 13 = .ok (.astore 4, 2) := by decide +kernel
theorem dL_dimension_15 : decode cL_dimension 15 = .ok (.iconst 1, 1) := by decide +kernel
theorem dL_dimension_16 : decode cL_dimension 16 = .ok (.ireturn, 1) := by decide +kernel
theorem dL_dimension_17 : decode cL_dimension 17 = .ok (.astore 4, 2) := by decide +kernel
theorem dL_dimension_19 : decode cL_dimension 19 = .ok (.iconst 2, 1) := by decide +kernel
theorem dL_dimension_20 : decode cL_dimension 20 = .ok (.ireturn, 1) := by decide +kernel
theorem dL_dimension_21 : decode cL_dimension 21 = .ok (.iconst 0, 1) := by decide +kernel
theorem dL_dimension_22 : decode cL_dimension 22 = .ok (.ireturn, 1) := by decide +kernel
theorem dL_basisWord_0 : decode cL_basisWord 0 = .ok (.aload_n 3, 1) := by decide +kernel
theorem dL_basisWord_1 : decode cL_basisWord 1 = .ok (.iconst 0, 1) := by decide +kernel
theorem dL_basisWord_2 : decode cL_basisWord 2 = .ok (.aload_n 0, 1) := by decide +kernel
theorem dL_basisWord_3 : decode cL_basisWord 3 = .ok (.iload_n 1, 1) := by decide +kernel
theorem dL_basisWord_4 : decode cL_basisWord 4 = .ok (.iload_n 2, 1) := by decide +kernel
theorem dL_basisWord_5 : decode cL_basisWord 5 = .ok (.invokevirtual 70, 3) := by decide +kernel
theorem dL_basisWord_8 : decode cL_basisWord 8 = .ok (.i2l, 1) := by decide +kernel
theorem dL_basisWord_9 : decode cL_basisWord 9 = .ok (.lastore, 1) := by decide +kernel
theorem dL_basisWord_10 : decode cL_basisWord 10 = .ok (.goto 7, 3) := by decide +kernel
theorem dL_basisWord_13 : decode cL_basisWord 13 = .ok (.astore 4, 2) := by decide +kernel
theorem dL_basisWord_15 : decode cL_basisWord 15 = .ok (.iconst 1, 1) := by decide +kernel
theorem dL_basisWord_16 : decode cL_basisWord 16 = .ok (.ireturn, 1) := by decide +kernel
theorem dL_basisWord_17 : decode cL_basisWord 17 = .ok (.iconst 0, 1) := by decide +kernel
theorem dL_basisWord_18 : decode cL_basisWord 18 = .ok (.ireturn, 1) := by decide +kernel
theorem dL_differing_0 : decode cL_differing 0 = .ok (.aload_n 3, 1) := by decide +kernel
theorem dL_differing_1 : decode cL_differing 1 = .ok (.iconst 0, 1) := by decide +kernel
theorem dL_differing_2 : decode cL_differing 2 = .ok (.aload_n 0, 1) := by decide +kernel
theorem dL_differing_3 : decode cL_differing 3 = .ok (.iload_n 1, 1) := by decide +kernel
theorem dL_differing_4 : decode cL_differing 4 = .ok (.iload_n 2, 1) := by decide +kernel
theorem dL_differing_5 : decode cL_differing 5 = .ok (.invokevirtual 73, 3) := by decide +kernel
theorem dL_differing_8 : decode cL_differing 8 = .ok (.i2l, 1) := by decide +kernel
theorem dL_differing_9 : decode cL_differing 9 = .ok (.lastore, 1) := by decide +kernel
theorem dL_differing_10 : decode cL_differing 10 = .ok (.goto 7, 3) := by decide +kernel
theorem dL_differing_13 : decode cL_differing 13 = .ok (.astore 4, 2) := by decide +kernel
theorem dL_differing_15 : decode cL_differing 15 = .ok (.iconst 1, 1) := by decide +kernel
theorem dL_differing_16 : decode cL_differing 16 = .ok (.ireturn, 1) := by decide +kernel
theorem dL_differing_17 : decode cL_differing 17 = .ok (.iconst 0, 1) := by decide +kernel
theorem dL_differing_18 : decode cL_differing 18 = .ok (.ireturn, 1) := by decide +kernel
theorem dL_hankelRank_0 : decode cL_hankelRank 0 = .ok (.aload_n 3, 1) := by decide +kernel
theorem dL_hankelRank_1 : decode cL_hankelRank 1 = .ok (.iconst 0, 1) := by decide +kernel
theorem dL_hankelRank_2 : decode cL_hankelRank 2 = .ok (.aload_n 0, 1) := by decide +kernel
theorem dL_hankelRank_3 : decode cL_hankelRank 3 = .ok (.iload_n 1, 1) := by decide +kernel
theorem dL_hankelRank_4 : decode cL_hankelRank 4 = .ok (.iload_n 2, 1) := by decide +kernel
theorem dL_hankelRank_5 : decode cL_hankelRank 5 = .ok (.invokevirtual 76, 3) := by decide +kernel
theorem dL_hankelRank_8 : decode cL_hankelRank 8 = .ok (.i2l, 1) := by decide +kernel
theorem dL_hankelRank_9 : decode cL_hankelRank 9 = .ok (.lastore, 1) := by decide +kernel
theorem dL_hankelRank_10 : decode cL_hankelRank 10 = .ok (.goto 11, 3) := by decide +kernel
theorem dL_hankelRank_13 : decode cL_hankelRank 13 = .ok (.astore 4, 2) := by decide +kernel
theorem dL_hankelRank_15 : decode cL_hankelRank 15 = .ok (.iconst 1, 1) := by decide +kernel
theorem dL_hankelRank_16 : decode cL_hankelRank 16 = .ok (.ireturn, 1) := by decide +kernel
theorem dL_hankelRank_17 : decode cL_hankelRank 17 = .ok (.astore 4, 2) := by decide +kernel
theorem dL_hankelRank_19 : decode cL_hankelRank 19 = .ok (.iconst 2, 1) := by decide +kernel
theorem dL_hankelRank_20 : decode cL_hankelRank 20 = .ok (.ireturn, 1) := by decide +kernel
theorem dL_hankelRank_21 : decode cL_hankelRank 21 = .ok (.iconst 0, 1) := by decide +kernel
theorem dL_hankelRank_22 : decode cL_hankelRank 22 = .ok (.ireturn, 1) := by decide +kernel
theorem dL_recurs_0 : decode cL_recurs 0 = .ok (.aload_n 3, 1) := by decide +kernel
theorem dL_recurs_1 : decode cL_recurs 1 = .ok (.iconst 0, 1) := by decide +kernel
theorem dL_recurs_2 : decode cL_recurs 2 = .ok (.aload_n 0, 1) := by decide +kernel
theorem dL_recurs_3 : decode cL_recurs 3 = .ok (.iload_n 1, 1) := by decide +kernel
theorem dL_recurs_4 : decode cL_recurs 4 = .ok (.iload_n 2, 1) := by decide +kernel
theorem dL_recurs_5 : decode cL_recurs 5 = .ok (.invokevirtual 79, 3) := by decide +kernel
theorem dL_recurs_8 : decode cL_recurs 8 = .ok (.ifCond .eq 7, 3) := by decide +kernel
theorem dL_recurs_11 : decode cL_recurs 11 = .ok (.lconst 1, 1) := by decide +kernel
theorem dL_recurs_12 : decode cL_recurs 12 = .ok (.goto 4, 3) := by decide +kernel
theorem dL_recurs_15 : decode cL_recurs 15 = .ok (.lconst 0, 1) := by decide +kernel
theorem dL_recurs_16 : decode cL_recurs 16 = .ok (.lastore, 1) := by decide +kernel
theorem dL_recurs_17 : decode cL_recurs 17 = .ok (.goto 11, 3) := by decide +kernel
theorem dL_recurs_20 : decode cL_recurs 20 = .ok (.astore 4, 2) := by decide +kernel
theorem dL_recurs_22 : decode cL_recurs 22 = .ok (.iconst 1, 1) := by decide +kernel
theorem dL_recurs_23 : decode cL_recurs 23 = .ok (.ireturn, 1) := by decide +kernel
theorem dL_recurs_24 : decode cL_recurs 24 = .ok (.astore 4, 2) := by decide +kernel
theorem dL_recurs_26 : decode cL_recurs 26 = .ok (.iconst 2, 1) := by decide +kernel
theorem dL_recurs_27 : decode cL_recurs 27 = .ok (.ireturn, 1) := by decide +kernel
theorem dL_recurs_28 : decode cL_recurs 28 = .ok (.iconst 0, 1) := by decide +kernel
theorem dL_recurs_29 : decode cL_recurs 29 = .ok (.ireturn, 1) := by decide +kernel
theorem dL_inverse_0 : decode cL_inverse 0 = .ok (.aload_n 2, 1) := by decide +kernel
theorem dL_inverse_1 : decode cL_inverse 1 = .ok (.iconst 0, 1) := by decide +kernel
theorem dL_inverse_2 : decode cL_inverse 2 = .ok (.aload_n 0, 1) := by decide +kernel
theorem dL_inverse_3 : decode cL_inverse 3 = .ok (.iload_n 1, 1) := by decide +kernel
theorem dL_inverse_4 : decode cL_inverse 4 = .ok (.invokevirtual 83, 3) := by decide +kernel
theorem dL_inverse_7 : decode cL_inverse 7 = .ok (.i2l, 1) := by decide +kernel
theorem dL_inverse_8 : decode cL_inverse 8 = .ok (.lastore, 1) := by decide +kernel
theorem dL_inverse_9 : decode cL_inverse 9 = .ok (.goto 6, 3) := by decide +kernel
theorem dL_inverse_12 : decode cL_inverse 12 = .ok (.astore_n 3, 1) := by decide +kernel
theorem dL_inverse_13 : decode cL_inverse 13 = .ok (.iconst 1, 1) := by decide +kernel
theorem dL_inverse_14 : decode cL_inverse 14 = .ok (.ireturn, 1) := by decide +kernel
theorem dL_inverse_15 : decode cL_inverse 15 = .ok (.iconst 0, 1) := by decide +kernel
theorem dL_inverse_16 : decode cL_inverse 16 = .ok (.ireturn, 1) := by decide +kernel
theorem dL_append_0 : decode cL_append 0 = .ok (.aload_n 2, 1) := by decide +kernel
theorem dL_append_1 : decode cL_append 1 = .ok (.iconst 0, 1) := by decide +kernel
theorem dL_append_2 : decode cL_append 2 = .ok (.aload_n 0, 1) := by decide +kernel
theorem dL_append_3 : decode cL_append 3 = .ok (.iload_n 1, 1) := by decide +kernel
theorem dL_append_4 : decode cL_append 4 = .ok (.invokevirtual 86, 3) := by decide +kernel
theorem dL_append_7 : decode cL_append 7 = .ok (.i2l, 1) := by decide +kernel
theorem dL_append_8 : decode cL_append 8 = .ok (.lastore, 1) := by decide +kernel
theorem dL_append_9 : decode cL_append 9 = .ok (.goto 9, 3) := by decide +kernel
theorem dL_append_12 : decode cL_append 12 = .ok (.astore_n 3, 1) := by decide +kernel
theorem dL_append_13 : decode cL_append 13 = .ok (.iconst 1, 1) := by decide +kernel
theorem dL_append_14 : decode cL_append 14 = .ok (.ireturn, 1) := by decide +kernel
theorem dL_append_15 : decode cL_append 15 = .ok (.astore_n 3, 1) := by decide +kernel
theorem dL_append_16 : decode cL_append 16 = .ok (.iconst 2, 1) := by decide +kernel
theorem dL_append_17 : decode cL_append 17 = .ok (.ireturn, 1) := by decide +kernel
theorem dL_append_18 : decode cL_append 18 = .ok (.iconst 0, 1) := by decide +kernel
theorem dL_append_19 : decode cL_append 19 = .ok (.ireturn, 1) := by decide +kernel
theorem dL_parse_0 : decode cL_parse 0 = .ok (.aload_n 2, 1) := by decide +kernel
theorem dL_parse_1 : decode cL_parse 1 = .ok (.iconst 0, 1) := by decide +kernel
theorem dL_parse_2 : decode cL_parse 2 = .ok (.aload_n 0, 1) := by decide +kernel
theorem dL_parse_3 : decode cL_parse 3 = .ok (.iload_n 1, 1) := by decide +kernel
theorem dL_parse_4 : decode cL_parse 4 = .ok (.invokevirtual 89, 3) := by decide +kernel
theorem dL_parse_7 : decode cL_parse 7 = .ok (.i2l, 1) := by decide +kernel
theorem dL_parse_8 : decode cL_parse 8 = .ok (.lastore, 1) := by decide +kernel
theorem dL_parse_9 : decode cL_parse 9 = .ok (.goto 6, 3) := by decide +kernel
theorem dL_parse_12 : decode cL_parse 12 = .ok (.astore_n 3, 1) := by decide +kernel
theorem dL_parse_13 : decode cL_parse 13 = .ok (.iconst 1, 1) := by decide +kernel
theorem dL_parse_14 : decode cL_parse 14 = .ok (.ireturn, 1) := by decide +kernel
theorem dL_parse_15 : decode cL_parse 15 = .ok (.iconst 0, 1) := by decide +kernel
theorem dL_parse_16 : decode cL_parse 16 = .ok (.ireturn, 1) := by decide +kernel
theorem dL_undo_0 : decode cL_undo 0 = .ok (.aload_n 1, 1) := by decide +kernel
theorem dL_undo_1 : decode cL_undo 1 = .ok (.iconst 0, 1) := by decide +kernel
theorem dL_undo_2 : decode cL_undo 2 = .ok (.aload_n 0, 1) := by decide +kernel
theorem dL_undo_3 : decode cL_undo 3 = .ok (.invokevirtual 92, 3) := by decide +kernel
theorem dL_undo_6 : decode cL_undo 6 = .ok (.i2l, 1) := by decide +kernel
theorem dL_undo_7 : decode cL_undo 7 = .ok (.lastore, 1) := by decide +kernel
theorem dL_undo_8 : decode cL_undo 8 = .ok (.goto 6, 3) := by decide +kernel
theorem dL_undo_11 : decode cL_undo 11 = .ok (.astore_n 2, 1) := by decide +kernel
theorem dL_undo_12 : decode cL_undo 12 = .ok (.iconst 1, 1) := by decide +kernel
theorem dL_undo_13 : decode cL_undo 13 = .ok (.ireturn, 1) := by decide +kernel
theorem dL_undo_14 : decode cL_undo 14 = .ok (.iconst 0, 1) := by decide +kernel
theorem dL_undo_15 : decode cL_undo 15 = .ok (.ireturn, 1) := by decide +kernel
theorem dL_law_0 : decode cL_law 0 = .ok (.new 8, 3) := by decide +kernel
theorem dL_law_3 : decode cL_law 3 = .ok (.dup, 1) := by decide +kernel
theorem dL_law_4 : decode cL_law 4 = .ok (.invokespecial 96, 3) := by decide +kernel
theorem dL_law_7 : decode cL_law 7 = .ok (.astore_n 1, 1) := by decide +kernel
theorem dL_law_8 : decode cL_law 8 = .ok (.new 97, 3) := by decide +kernel
theorem dL_law_11 : decode cL_law 11 = .ok (.dup, 1) := by decide +kernel
theorem dL_law_12 : decode cL_law 12 = .ok (.invokespecial 99, 3) := by decide +kernel
theorem dL_law_15 : decode cL_law 15 = .ok (.astore_n 2, 1) := by decide +kernel
theorem dL_law_16 : decode cL_law 16 = .ok (.iconst 1, 1) := by decide +kernel
theorem dL_law_17 : decode cL_law 17 = .ok (.newarray .long, 2) := by decide +kernel
theorem dL_law_19 : decode cL_law 19 = .ok (.astore_n 3, 1) := by decide +kernel
theorem dL_law_20 : decode cL_law 20 = .ok (.iconst 0, 1) := by decide +kernel
theorem dL_law_21 : decode cL_law 21 = .ok (.istore 4, 2) := by decide +kernel
theorem dL_law_23 : decode cL_law 23 = .ok (.iload 4, 2) := by decide +kernel
theorem dL_law_25 : decode cL_law 25 = .ok (.aload_n 0, 1) := by decide +kernel
theorem dL_law_26 : decode cL_law 26 = .ok (.arraylength, 1) := by decide +kernel
theorem dL_law_27 : decode cL_law 27 = .ok (.bipush 6, 2) := by decide +kernel
theorem dL_law_29 : decode cL_law 29 = .ok (.isub, 1) := by decide +kernel
theorem dL_law_30 : decode cL_law 30 = .ok (.if_icmp .gt 1906, 3) := by decide +kernel
theorem dL_law_33 : decode cL_law 33 = .ok (.aload_n 0, 1) := by decide +kernel
theorem dL_law_34 : decode cL_law 34 = .ok (.iload 4, 2) := by decide +kernel
theorem dL_law_36 : decode cL_law 36 = .ok (.iaload, 1) := by decide +kernel
theorem dL_law_37 : decode cL_law 37 = .ok (.bipush 31, 2) := by decide +kernel
theorem dL_law_39 : decode cL_law 39 = .ok (.iand, 1) := by decide +kernel
theorem dL_law_40 : decode cL_law 40 = .ok (.tableswitch 1890 0 25 #[120, 188, 296, 400, 480, 536, 632, 724, 792, 872, 940, 1008, 1064, 1156, 1236, 1304, 1372, 1440, 1508, 1576, 1651, 1707, 1763, 1776, 1832, 1876], 120) := by decide +kernel
theorem dL_law_160 : decode cL_law 160 = .ok (.aload_n 1, 1) := by decide +kernel
theorem dL_law_161 : decode cL_law 161 = .ok (.aload_n 0, 1) := by decide +kernel
theorem dL_law_162 : decode cL_law 162 = .ok (.iload 4, 2) := by decide +kernel
theorem dL_law_164 : decode cL_law 164 = .ok (.iconst 1, 1) := by decide +kernel
theorem dL_law_165 : decode cL_law 165 = .ok (.iadd, 1) := by decide +kernel
theorem dL_law_166 : decode cL_law 166 = .ok (.iaload, 1) := by decide +kernel
theorem dL_law_167 : decode cL_law 167 = .ok (.aload_n 0, 1) := by decide +kernel
theorem dL_law_168 : decode cL_law 168 = .ok (.iload 4, 2) := by decide +kernel
theorem dL_law_170 : decode cL_law 170 = .ok (.iconst 2, 1) := by decide +kernel
theorem dL_law_171 : decode cL_law 171 = .ok (.iadd, 1) := by decide +kernel
theorem dL_law_172 : decode cL_law 172 = .ok (.iaload, 1) := by decide +kernel
theorem dL_law_173 : decode cL_law 173 = .ok (.aload_n 3, 1) := by decide +kernel
theorem dL_law_174 : decode cL_law 174 = .ok (.invokestatic 100, 3) := by decide +kernel
theorem dL_law_177 : decode cL_law 177 = .ok (.istore 5, 2) := by decide +kernel
theorem dL_law_179 : decode cL_law 179 = .ok (.aload_n 2, 1) := by decide +kernel
theorem dL_law_180 : decode cL_law 180 = .ok (.aload_n 0, 1) := by decide +kernel
theorem dL_law_181 : decode cL_law 181 = .ok (.iload 4, 2) := by decide +kernel
theorem dL_law_183 : decode cL_law 183 = .ok (.iconst 1, 1) := by decide +kernel
theorem dL_law_184 : decode cL_law 184 = .ok (.iadd, 1) := by decide +kernel
theorem dL_law_185 : decode cL_law 185 = .ok (.iaload, 1) := by decide +kernel
theorem dL_law_186 : decode cL_law 186 = .ok (.aload_n 0, 1) := by decide +kernel
theorem dL_law_187 : decode cL_law 187 = .ok (.iload 4, 2) := by decide +kernel
theorem dL_law_189 : decode cL_law 189 = .ok (.iconst 2, 1) := by decide +kernel
theorem dL_law_190 : decode cL_law 190 = .ok (.iadd, 1) := by decide +kernel
theorem dL_law_191 : decode cL_law 191 = .ok (.iaload, 1) := by decide +kernel
theorem dL_law_192 : decode cL_law 192 = .ok (.invokevirtual 105, 3) := by decide +kernel
theorem dL_law_195 : decode cL_law 195 = .ok (.istore 6, 2) := by decide +kernel
theorem dL_law_197 : decode cL_law 197 = .ok (.aload_n 2, 1) := by decide +kernel
theorem dL_law_198 : decode cL_law 198 = .ok (.invokevirtual 106, 3) := by decide +kernel
theorem dL_law_201 : decode cL_law 201 = .ok (.iload 5, 2) := by decide +kernel
theorem dL_law_203 : decode cL_law 203 = .ok (.if_icmp .eq 5, 3) := by decide +kernel
theorem dL_law_206 : decode cL_law 206 = .ok (.iconst 0, 1) := by decide +kernel
theorem dL_law_207 : decode cL_law 207 = .ok (.ireturn, 1) := by decide +kernel
theorem dL_law_208 : decode cL_law 208 = .ok (.iload 5, 2) := by decide +kernel
theorem dL_law_210 : decode cL_law 210 = .ok (.ifCond .ne 15, 3) := by decide +kernel
theorem dL_law_213 : decode cL_law 213 = .ok (.aload_n 3, 1) := by decide +kernel
theorem dL_law_214 : decode cL_law 214 = .ok (.iconst 0, 1) := by decide +kernel
theorem dL_law_215 : decode cL_law 215 = .ok (.laload, 1) := by decide +kernel
theorem dL_law_216 : decode cL_law 216 = .ok (.iload 6, 2) := by decide +kernel
theorem dL_law_218 : decode cL_law 218 = .ok (.i2l, 1) := by decide +kernel
theorem dL_law_219 : decode cL_law 219 = .ok (.lcmp, 1) := by decide +kernel
theorem dL_law_220 : decode cL_law 220 = .ok (.ifCond .eq 5, 3) := by decide +kernel
theorem dL_law_223 : decode cL_law 223 = .ok (.iconst 0, 1) := by decide +kernel
theorem dL_law_224 : decode cL_law 224 = .ok (.ireturn, 1) := by decide +kernel
theorem dL_law_225 : decode cL_law 225 = .ok (.goto 1705, 3) := by decide +kernel
theorem dL_law_228 : decode cL_law 228 = .ok (.aload_n 1, 1) := by decide +kernel
theorem dL_law_229 : decode cL_law 229 = .ok (.aload_n 0, 1) := by decide +kernel
theorem dL_law_230 : decode cL_law 230 = .ok (.iload 4, 2) := by decide +kernel
theorem dL_law_232 : decode cL_law 232 = .ok (.iconst 1, 1) := by decide +kernel
theorem dL_law_233 : decode cL_law 233 = .ok (.iadd, 1) := by decide +kernel
theorem dL_law_234 : decode cL_law 234 = .ok (.iaload, 1) := by decide +kernel
theorem dL_law_235 : decode cL_law 235 = .ok (.aload_n 0, 1) := by decide +kernel
theorem dL_law_236 : decode cL_law 236 = .ok (.iload 4, 2) := by decide +kernel
theorem dL_law_238 : decode cL_law 238 = .ok (.iconst 2, 1) := by decide +kernel
theorem dL_law_239 : decode cL_law 239 = .ok (.iadd, 1) := by decide +kernel
theorem dL_law_240 : decode cL_law 240 = .ok (.iaload, 1) := by decide +kernel
theorem dL_law_241 : decode cL_law 241 = .ok (.aload_n 0, 1) := by decide +kernel
theorem dL_law_242 : decode cL_law 242 = .ok (.iload 4, 2) := by decide +kernel
theorem dL_law_244 : decode cL_law 244 = .ok (.iconst 3, 1) := by decide +kernel
theorem dL_law_245 : decode cL_law 245 = .ok (.iadd, 1) := by decide +kernel
theorem dL_law_246 : decode cL_law 246 = .ok (.iaload, 1) := by decide +kernel
theorem dL_law_247 : decode cL_law 247 = .ok (.ifCond .eq 7, 3) := by decide +kernel
theorem dL_law_250 : decode cL_law 250 = .ok (.iconst 1, 1) := by decide +kernel
theorem dL_law_251 : decode cL_law 251 = .ok (.goto 4, 3) := by decide +kernel
theorem dL_law_254 : decode cL_law 254 = .ok (.iconst 0, 1) := by decide +kernel
theorem dL_law_255 : decode cL_law 255 = .ok (.aload_n 0, 1) := by decide +kernel
theorem dL_law_256 : decode cL_law 256 = .ok (.iload 4, 2) := by decide +kernel
theorem dL_law_258 : decode cL_law 258 = .ok (.iconst 4, 1) := by decide +kernel
theorem dL_law_259 : decode cL_law 259 = .ok (.iadd, 1) := by decide +kernel
theorem dL_law_260 : decode cL_law 260 = .ok (.iaload, 1) := by decide +kernel
theorem dL_law_261 : decode cL_law 261 = .ok (.aload_n 3, 1) := by decide +kernel
theorem dL_law_262 : decode cL_law 262 = .ok (.invokestatic 109, 3) := by decide +kernel
theorem dL_law_265 : decode cL_law 265 = .ok (.istore 5, 2) := by decide +kernel
theorem dL_law_267 : decode cL_law 267 = .ok (.aload_n 2, 1) := by decide +kernel
theorem dL_law_268 : decode cL_law 268 = .ok (.aload_n 0, 1) := by decide +kernel
theorem dL_law_269 : decode cL_law 269 = .ok (.iload 4, 2) := by decide +kernel
theorem dL_law_271 : decode cL_law 271 = .ok (.iconst 1, 1) := by decide +kernel
theorem dL_law_272 : decode cL_law 272 = .ok (.iadd, 1) := by decide +kernel
theorem dL_law_273 : decode cL_law 273 = .ok (.iaload, 1) := by decide +kernel
theorem dL_law_274 : decode cL_law 274 = .ok (.aload_n 0, 1) := by decide +kernel
theorem dL_law_275 : decode cL_law 275 = .ok (.iload 4, 2) := by decide +kernel
theorem dL_law_277 : decode cL_law 277 = .ok (.iconst 2, 1) := by decide +kernel
theorem dL_law_278 : decode cL_law 278 = .ok (.iadd, 1) := by decide +kernel
theorem dL_law_279 : decode cL_law 279 = .ok (.iaload, 1) := by decide +kernel
theorem dL_law_280 : decode cL_law 280 = .ok (.aload_n 0, 1) := by decide +kernel
theorem dL_law_281 : decode cL_law 281 = .ok (.iload 4, 2) := by decide +kernel
theorem dL_law_283 : decode cL_law 283 = .ok (.iconst 3, 1) := by decide +kernel
theorem dL_law_284 : decode cL_law 284 = .ok (.iadd, 1) := by decide +kernel
theorem dL_law_285 : decode cL_law 285 = .ok (.iaload, 1) := by decide +kernel
theorem dL_law_286 : decode cL_law 286 = .ok (.ifCond .eq 7, 3) := by decide +kernel
theorem dL_law_289 : decode cL_law 289 = .ok (.iconst 1, 1) := by decide +kernel
theorem dL_law_290 : decode cL_law 290 = .ok (.goto 4, 3) := by decide +kernel
theorem dL_law_293 : decode cL_law 293 = .ok (.iconst 0, 1) := by decide +kernel
theorem dL_law_294 : decode cL_law 294 = .ok (.aload_n 0, 1) := by decide +kernel
theorem dL_law_295 : decode cL_law 295 = .ok (.iload 4, 2) := by decide +kernel
theorem dL_law_297 : decode cL_law 297 = .ok (.iconst 4, 1) := by decide +kernel
theorem dL_law_298 : decode cL_law 298 = .ok (.iadd, 1) := by decide +kernel
theorem dL_law_299 : decode cL_law 299 = .ok (.iaload, 1) := by decide +kernel
theorem dL_law_300 : decode cL_law 300 = .ok (.invokevirtual 112, 3) := by decide +kernel
theorem dL_law_303 : decode cL_law 303 = .ok (.istore 6, 2) := by decide +kernel
theorem dL_law_305 : decode cL_law 305 = .ok (.aload_n 2, 1) := by decide +kernel
theorem dL_law_306 : decode cL_law 306 = .ok (.invokevirtual 106, 3) := by decide +kernel
theorem dL_law_309 : decode cL_law 309 = .ok (.iload 5, 2) := by decide +kernel
theorem dL_law_311 : decode cL_law 311 = .ok (.if_icmp .eq 5, 3) := by decide +kernel
theorem dL_law_314 : decode cL_law 314 = .ok (.iconst 0, 1) := by decide +kernel
theorem dL_law_315 : decode cL_law 315 = .ok (.ireturn, 1) := by decide +kernel
theorem dL_law_316 : decode cL_law 316 = .ok (.iload 5, 2) := by decide +kernel
theorem dL_law_318 : decode cL_law 318 = .ok (.ifCond .ne 15, 3) := by decide +kernel
theorem dL_law_321 : decode cL_law 321 = .ok (.aload_n 3, 1) := by decide +kernel
theorem dL_law_322 : decode cL_law 322 = .ok (.iconst 0, 1) := by decide +kernel
theorem dL_law_323 : decode cL_law 323 = .ok (.laload, 1) := by decide +kernel
theorem dL_law_324 : decode cL_law 324 = .ok (.iload 6, 2) := by decide +kernel
theorem dL_law_326 : decode cL_law 326 = .ok (.i2l, 1) := by decide +kernel
theorem dL_law_327 : decode cL_law 327 = .ok (.lcmp, 1) := by decide +kernel
theorem dL_law_328 : decode cL_law 328 = .ok (.ifCond .eq 5, 3) := by decide +kernel
theorem dL_law_331 : decode cL_law 331 = .ok (.iconst 0, 1) := by decide +kernel
theorem dL_law_332 : decode cL_law 332 = .ok (.ireturn, 1) := by decide +kernel
theorem dL_law_333 : decode cL_law 333 = .ok (.goto 1597, 3) := by decide +kernel
theorem dL_law_336 : decode cL_law 336 = .ok (.aload_n 1, 1) := by decide +kernel
theorem dL_law_337 : decode cL_law 337 = .ok (.aload_n 0, 1) := by decide +kernel
theorem dL_law_338 : decode cL_law 338 = .ok (.iload 4, 2) := by decide +kernel
theorem dL_law_340 : decode cL_law 340 = .ok (.iconst 1, 1) := by decide +kernel
theorem dL_law_341 : decode cL_law 341 = .ok (.iadd, 1) := by decide +kernel
theorem dL_law_342 : decode cL_law 342 = .ok (.iaload, 1) := by decide +kernel
theorem dL_law_343 : decode cL_law 343 = .ok (.aload_n 0, 1) := by decide +kernel
theorem dL_law_344 : decode cL_law 344 = .ok (.iload 4, 2) := by decide +kernel
theorem dL_law_346 : decode cL_law 346 = .ok (.iconst 2, 1) := by decide +kernel
theorem dL_law_347 : decode cL_law 347 = .ok (.iadd, 1) := by decide +kernel
theorem dL_law_348 : decode cL_law 348 = .ok (.iaload, 1) := by decide +kernel
theorem dL_law_349 : decode cL_law 349 = .ok (.aload_n 0, 1) := by decide +kernel
theorem dL_law_350 : decode cL_law 350 = .ok (.iload 4, 2) := by decide +kernel
theorem dL_law_352 : decode cL_law 352 = .ok (.iconst 3, 1) := by decide +kernel
theorem dL_law_353 : decode cL_law 353 = .ok (.iadd, 1) := by decide +kernel
theorem dL_law_354 : decode cL_law 354 = .ok (.iaload, 1) := by decide +kernel
theorem dL_law_355 : decode cL_law 355 = .ok (.aload_n 0, 1) := by decide +kernel
theorem dL_law_356 : decode cL_law 356 = .ok (.iload 4, 2) := by decide +kernel
theorem dL_law_358 : decode cL_law 358 = .ok (.iconst 4, 1) := by decide +kernel
theorem dL_law_359 : decode cL_law 359 = .ok (.iadd, 1) := by decide +kernel
theorem dL_law_360 : decode cL_law 360 = .ok (.iaload, 1) := by decide +kernel
theorem dL_law_361 : decode cL_law 361 = .ok (.aload_n 0, 1) := by decide +kernel
theorem dL_law_362 : decode cL_law 362 = .ok (.iload 4, 2) := by decide +kernel
theorem dL_law_364 : decode cL_law 364 = .ok (.iconst 5, 1) := by decide +kernel
theorem dL_law_365 : decode cL_law 365 = .ok (.iadd, 1) := by decide +kernel
theorem dL_law_366 : decode cL_law 366 = .ok (.iaload, 1) := by decide +kernel
theorem dL_law_367 : decode cL_law 367 = .ok (.aload_n 3, 1) := by decide +kernel
theorem dL_law_368 : decode cL_law 368 = .ok (.invokestatic 113, 3) := by decide +kernel
theorem dL_law_371 : decode cL_law 371 = .ok (.istore 5, 2) := by decide +kernel
theorem dL_law_373 : decode cL_law 373 = .ok (.aload_n 2, 1) := by decide +kernel
theorem dL_law_374 : decode cL_law 374 = .ok (.aload_n 0, 1) := by decide +kernel
theorem dL_law_375 : decode cL_law 375 = .ok (.iload 4, 2) := by decide +kernel
theorem dL_law_377 : decode cL_law 377 = .ok (.iconst 1, 1) := by decide +kernel
theorem dL_law_378 : decode cL_law 378 = .ok (.iadd, 1) := by decide +kernel
theorem dL_law_379 : decode cL_law 379 = .ok (.iaload, 1) := by decide +kernel
theorem dL_law_380 : decode cL_law 380 = .ok (.aload_n 0, 1) := by decide +kernel
theorem dL_law_381 : decode cL_law 381 = .ok (.iload 4, 2) := by decide +kernel
theorem dL_law_383 : decode cL_law 383 = .ok (.iconst 2, 1) := by decide +kernel
theorem dL_law_384 : decode cL_law 384 = .ok (.iadd, 1) := by decide +kernel
theorem dL_law_385 : decode cL_law 385 = .ok (.iaload, 1) := by decide +kernel
theorem dL_law_386 : decode cL_law 386 = .ok (.aload_n 0, 1) := by decide +kernel
theorem dL_law_387 : decode cL_law 387 = .ok (.iload 4, 2) := by decide +kernel
theorem dL_law_389 : decode cL_law 389 = .ok (.iconst 3, 1) := by decide +kernel
theorem dL_law_390 : decode cL_law 390 = .ok (.iadd, 1) := by decide +kernel
theorem dL_law_391 : decode cL_law 391 = .ok (.iaload, 1) := by decide +kernel
theorem dL_law_392 : decode cL_law 392 = .ok (.aload_n 0, 1) := by decide +kernel
theorem dL_law_393 : decode cL_law 393 = .ok (.iload 4, 2) := by decide +kernel
theorem dL_law_395 : decode cL_law 395 = .ok (.iconst 4, 1) := by decide +kernel
theorem dL_law_396 : decode cL_law 396 = .ok (.iadd, 1) := by decide +kernel
theorem dL_law_397 : decode cL_law 397 = .ok (.iaload, 1) := by decide +kernel
theorem dL_law_398 : decode cL_law 398 = .ok (.aload_n 0, 1) := by decide +kernel
theorem dL_law_399 : decode cL_law 399 = .ok (.iload 4, 2) := by decide +kernel
theorem dL_law_401 : decode cL_law 401 = .ok (.iconst 5, 1) := by decide +kernel
theorem dL_law_402 : decode cL_law 402 = .ok (.iadd, 1) := by decide +kernel
theorem dL_law_403 : decode cL_law 403 = .ok (.iaload, 1) := by decide +kernel
theorem dL_law_404 : decode cL_law 404 = .ok (.invokevirtual 116, 3) := by decide +kernel
theorem dL_law_407 : decode cL_law 407 = .ok (.istore 6, 2) := by decide +kernel
theorem dL_law_409 : decode cL_law 409 = .ok (.aload_n 2, 1) := by decide +kernel
theorem dL_law_410 : decode cL_law 410 = .ok (.invokevirtual 106, 3) := by decide +kernel
theorem dL_law_413 : decode cL_law 413 = .ok (.iload 5, 2) := by decide +kernel
theorem dL_law_415 : decode cL_law 415 = .ok (.if_icmp .eq 5, 3) := by decide +kernel
theorem dL_law_418 : decode cL_law 418 = .ok (.iconst 0, 1) := by decide +kernel
theorem dL_law_419 : decode cL_law 419 = .ok (.ireturn, 1) := by decide +kernel
theorem dL_law_420 : decode cL_law 420 = .ok (.iload 5, 2) := by decide +kernel
theorem dL_law_422 : decode cL_law 422 = .ok (.ifCond .ne 15, 3) := by decide +kernel
theorem dL_law_425 : decode cL_law 425 = .ok (.aload_n 3, 1) := by decide +kernel
theorem dL_law_426 : decode cL_law 426 = .ok (.iconst 0, 1) := by decide +kernel
theorem dL_law_427 : decode cL_law 427 = .ok (.laload, 1) := by decide +kernel
theorem dL_law_428 : decode cL_law 428 = .ok (.iload 6, 2) := by decide +kernel
theorem dL_law_430 : decode cL_law 430 = .ok (.i2l, 1) := by decide +kernel
theorem dL_law_431 : decode cL_law 431 = .ok (.lcmp, 1) := by decide +kernel
theorem dL_law_432 : decode cL_law 432 = .ok (.ifCond .eq 5, 3) := by decide +kernel
theorem dL_law_435 : decode cL_law 435 = .ok (.iconst 0, 1) := by decide +kernel
theorem dL_law_436 : decode cL_law 436 = .ok (.ireturn, 1) := by decide +kernel
theorem dL_law_437 : decode cL_law 437 = .ok (.goto 1493, 3) := by decide +kernel
theorem dL_law_440 : decode cL_law 440 = .ok (.aload_n 1, 1) := by decide +kernel
theorem dL_law_441 : decode cL_law 441 = .ok (.aload_n 0, 1) := by decide +kernel
theorem dL_law_442 : decode cL_law 442 = .ok (.iload 4, 2) := by decide +kernel
theorem dL_law_444 : decode cL_law 444 = .ok (.iconst 1, 1) := by decide +kernel
theorem dL_law_445 : decode cL_law 445 = .ok (.iadd, 1) := by decide +kernel
theorem dL_law_446 : decode cL_law 446 = .ok (.iaload, 1) := by decide +kernel
theorem dL_law_447 : decode cL_law 447 = .ok (.aload_n 0, 1) := by decide +kernel
theorem dL_law_448 : decode cL_law 448 = .ok (.iload 4, 2) := by decide +kernel
theorem dL_law_450 : decode cL_law 450 = .ok (.iconst 2, 1) := by decide +kernel
theorem dL_law_451 : decode cL_law 451 = .ok (.iadd, 1) := by decide +kernel
theorem dL_law_452 : decode cL_law 452 = .ok (.iaload, 1) := by decide +kernel
theorem dL_law_453 : decode cL_law 453 = .ok (.aload_n 0, 1) := by decide +kernel
theorem dL_law_454 : decode cL_law 454 = .ok (.iload 4, 2) := by decide +kernel
theorem dL_law_456 : decode cL_law 456 = .ok (.iconst 3, 1) := by decide +kernel
theorem dL_law_457 : decode cL_law 457 = .ok (.iadd, 1) := by decide +kernel
theorem dL_law_458 : decode cL_law 458 = .ok (.iaload, 1) := by decide +kernel
theorem dL_law_459 : decode cL_law 459 = .ok (.aload_n 3, 1) := by decide +kernel
theorem dL_law_460 : decode cL_law 460 = .ok (.invokestatic 117, 3) := by decide +kernel
theorem dL_law_463 : decode cL_law 463 = .ok (.istore 5, 2) := by decide +kernel
theorem dL_law_465 : decode cL_law 465 = .ok (.aload_n 2, 1) := by decide +kernel
theorem dL_law_466 : decode cL_law 466 = .ok (.aload_n 0, 1) := by decide +kernel
theorem dL_law_467 : decode cL_law 467 = .ok (.iload 4, 2) := by decide +kernel
theorem dL_law_469 : decode cL_law 469 = .ok (.iconst 1, 1) := by decide +kernel
theorem dL_law_470 : decode cL_law 470 = .ok (.iadd, 1) := by decide +kernel
theorem dL_law_471 : decode cL_law 471 = .ok (.iaload, 1) := by decide +kernel
theorem dL_law_472 : decode cL_law 472 = .ok (.aload_n 0, 1) := by decide +kernel
theorem dL_law_473 : decode cL_law 473 = .ok (.iload 4, 2) := by decide +kernel
theorem dL_law_475 : decode cL_law 475 = .ok (.iconst 2, 1) := by decide +kernel
theorem dL_law_476 : decode cL_law 476 = .ok (.iadd, 1) := by decide +kernel
theorem dL_law_477 : decode cL_law 477 = .ok (.iaload, 1) := by decide +kernel
theorem dL_law_478 : decode cL_law 478 = .ok (.aload_n 0, 1) := by decide +kernel
theorem dL_law_479 : decode cL_law 479 = .ok (.iload 4, 2) := by decide +kernel
theorem dL_law_481 : decode cL_law 481 = .ok (.iconst 3, 1) := by decide +kernel
theorem dL_law_482 : decode cL_law 482 = .ok (.iadd, 1) := by decide +kernel
theorem dL_law_483 : decode cL_law 483 = .ok (.iaload, 1) := by decide +kernel
theorem dL_law_484 : decode cL_law 484 = .ok (.invokevirtual 120, 3) := by decide +kernel
theorem dL_law_487 : decode cL_law 487 = .ok (.istore 6, 2) := by decide +kernel
theorem dL_law_489 : decode cL_law 489 = .ok (.aload_n 2, 1) := by decide +kernel
theorem dL_law_490 : decode cL_law 490 = .ok (.invokevirtual 106, 3) := by decide +kernel
theorem dL_law_493 : decode cL_law 493 = .ok (.iload 5, 2) := by decide +kernel
theorem dL_law_495 : decode cL_law 495 = .ok (.if_icmp .eq 5, 3) := by decide +kernel
theorem dL_law_498 : decode cL_law 498 = .ok (.iconst 0, 1) := by decide +kernel
theorem dL_law_499 : decode cL_law 499 = .ok (.ireturn, 1) := by decide +kernel
theorem dL_law_500 : decode cL_law 500 = .ok (.iload 5, 2) := by decide +kernel
theorem dL_law_502 : decode cL_law 502 = .ok (.ifCond .ne 15, 3) := by decide +kernel
theorem dL_law_505 : decode cL_law 505 = .ok (.aload_n 3, 1) := by decide +kernel
theorem dL_law_506 : decode cL_law 506 = .ok (.iconst 0, 1) := by decide +kernel
theorem dL_law_507 : decode cL_law 507 = .ok (.laload, 1) := by decide +kernel
theorem dL_law_508 : decode cL_law 508 = .ok (.iload 6, 2) := by decide +kernel
theorem dL_law_510 : decode cL_law 510 = .ok (.i2l, 1) := by decide +kernel
theorem dL_law_511 : decode cL_law 511 = .ok (.lcmp, 1) := by decide +kernel
theorem dL_law_512 : decode cL_law 512 = .ok (.ifCond .eq 5, 3) := by decide +kernel
theorem dL_law_515 : decode cL_law 515 = .ok (.iconst 0, 1) := by decide +kernel
theorem dL_law_516 : decode cL_law 516 = .ok (.ireturn, 1) := by decide +kernel
theorem dL_law_517 : decode cL_law 517 = .ok (.goto 1413, 3) := by decide +kernel
theorem dL_law_520 : decode cL_law 520 = .ok (.aload_n 1, 1) := by decide +kernel
theorem dL_law_521 : decode cL_law 521 = .ok (.aload_n 0, 1) := by decide +kernel
theorem dL_law_522 : decode cL_law 522 = .ok (.iload 4, 2) := by decide +kernel
theorem dL_law_524 : decode cL_law 524 = .ok (.iconst 1, 1) := by decide +kernel
theorem dL_law_525 : decode cL_law 525 = .ok (.iadd, 1) := by decide +kernel
theorem dL_law_526 : decode cL_law 526 = .ok (.iaload, 1) := by decide +kernel
theorem dL_law_527 : decode cL_law 527 = .ok (.aload_n 3, 1) := by decide +kernel
theorem dL_law_528 : decode cL_law 528 = .ok (.invokestatic 121, 3) := by decide +kernel
theorem dL_law_531 : decode cL_law 531 = .ok (.istore 5, 2) := by decide +kernel
theorem dL_law_533 : decode cL_law 533 = .ok (.aload_n 2, 1) := by decide +kernel
theorem dL_law_534 : decode cL_law 534 = .ok (.aload_n 0, 1) := by decide +kernel
theorem dL_law_535 : decode cL_law 535 = .ok (.iload 4, 2) := by decide +kernel
theorem dL_law_537 : decode cL_law 537 = .ok (.iconst 1, 1) := by decide +kernel
theorem dL_law_538 : decode cL_law 538 = .ok (.iadd, 1) := by decide +kernel
theorem dL_law_539 : decode cL_law 539 = .ok (.iaload, 1) := by decide +kernel
theorem dL_law_540 : decode cL_law 540 = .ok (.invokevirtual 124, 3) := by decide +kernel
theorem dL_law_543 : decode cL_law 543 = .ok (.istore 6, 2) := by decide +kernel
theorem dL_law_545 : decode cL_law 545 = .ok (.aload_n 2, 1) := by decide +kernel
theorem dL_law_546 : decode cL_law 546 = .ok (.invokevirtual 106, 3) := by decide +kernel
theorem dL_law_549 : decode cL_law 549 = .ok (.iload 5, 2) := by decide +kernel
theorem dL_law_551 : decode cL_law 551 = .ok (.if_icmp .eq 5, 3) := by decide +kernel
theorem dL_law_554 : decode cL_law 554 = .ok (.iconst 0, 1) := by decide +kernel
theorem dL_law_555 : decode cL_law 555 = .ok (.ireturn, 1) := by decide +kernel
theorem dL_law_556 : decode cL_law 556 = .ok (.iload 5, 2) := by decide +kernel
theorem dL_law_558 : decode cL_law 558 = .ok (.ifCond .ne 15, 3) := by decide +kernel
theorem dL_law_561 : decode cL_law 561 = .ok (.aload_n 3, 1) := by decide +kernel
theorem dL_law_562 : decode cL_law 562 = .ok (.iconst 0, 1) := by decide +kernel
theorem dL_law_563 : decode cL_law 563 = .ok (.laload, 1) := by decide +kernel
theorem dL_law_564 : decode cL_law 564 = .ok (.iload 6, 2) := by decide +kernel
theorem dL_law_566 : decode cL_law 566 = .ok (.i2l, 1) := by decide +kernel
theorem dL_law_567 : decode cL_law 567 = .ok (.lcmp, 1) := by decide +kernel
theorem dL_law_568 : decode cL_law 568 = .ok (.ifCond .eq 5, 3) := by decide +kernel
theorem dL_law_571 : decode cL_law 571 = .ok (.iconst 0, 1) := by decide +kernel
theorem dL_law_572 : decode cL_law 572 = .ok (.ireturn, 1) := by decide +kernel
theorem dL_law_573 : decode cL_law 573 = .ok (.goto 1357, 3) := by decide +kernel
theorem dL_law_576 : decode cL_law 576 = .ok (.aload_n 1, 1) := by decide +kernel
theorem dL_law_577 : decode cL_law 577 = .ok (.aload_n 0, 1) := by decide +kernel
theorem dL_law_578 : decode cL_law 578 = .ok (.iload 4, 2) := by decide +kernel
theorem dL_law_580 : decode cL_law 580 = .ok (.iconst 1, 1) := by decide +kernel
theorem dL_law_581 : decode cL_law 581 = .ok (.iadd, 1) := by decide +kernel
theorem dL_law_582 : decode cL_law 582 = .ok (.iaload, 1) := by decide +kernel
theorem dL_law_583 : decode cL_law 583 = .ok (.aload_n 0, 1) := by decide +kernel
theorem dL_law_584 : decode cL_law 584 = .ok (.iload 4, 2) := by decide +kernel
theorem dL_law_586 : decode cL_law 586 = .ok (.iconst 2, 1) := by decide +kernel
theorem dL_law_587 : decode cL_law 587 = .ok (.iadd, 1) := by decide +kernel
theorem dL_law_588 : decode cL_law 588 = .ok (.iaload, 1) := by decide +kernel
theorem dL_law_589 : decode cL_law 589 = .ok (.aload_n 0, 1) := by decide +kernel
theorem dL_law_590 : decode cL_law 590 = .ok (.iload 4, 2) := by decide +kernel
theorem dL_law_592 : decode cL_law 592 = .ok (.iconst 3, 1) := by decide +kernel
theorem dL_law_593 : decode cL_law 593 = .ok (.iadd, 1) := by decide +kernel
theorem dL_law_594 : decode cL_law 594 = .ok (.iaload, 1) := by decide +kernel
theorem dL_law_595 : decode cL_law 595 = .ok (.ifCond .eq 7, 3) := by decide +kernel
theorem dL_law_598 : decode cL_law 598 = .ok (.iconst 1, 1) := by decide +kernel
theorem dL_law_599 : decode cL_law 599 = .ok (.goto 4, 3) := by decide +kernel
theorem dL_law_602 : decode cL_law 602 = .ok (.iconst 0, 1) := by decide +kernel
theorem dL_law_603 : decode cL_law 603 = .ok (.aload_n 3, 1) := by decide +kernel
theorem dL_law_604 : decode cL_law 604 = .ok (.invokestatic 125, 3) := by decide +kernel
theorem dL_law_607 : decode cL_law 607 = .ok (.istore 5, 2) := by decide +kernel
theorem dL_law_609 : decode cL_law 609 = .ok (.aload_n 2, 1) := by decide +kernel
theorem dL_law_610 : decode cL_law 610 = .ok (.aload_n 0, 1) := by decide +kernel
theorem dL_law_611 : decode cL_law 611 = .ok (.iload 4, 2) := by decide +kernel
theorem dL_law_613 : decode cL_law 613 = .ok (.iconst 1, 1) := by decide +kernel
theorem dL_law_614 : decode cL_law 614 = .ok (.iadd, 1) := by decide +kernel
theorem dL_law_615 : decode cL_law 615 = .ok (.iaload, 1) := by decide +kernel
theorem dL_law_616 : decode cL_law 616 = .ok (.aload_n 0, 1) := by decide +kernel
theorem dL_law_617 : decode cL_law 617 = .ok (.iload 4, 2) := by decide +kernel
theorem dL_law_619 : decode cL_law 619 = .ok (.iconst 2, 1) := by decide +kernel
theorem dL_law_620 : decode cL_law 620 = .ok (.iadd, 1) := by decide +kernel
theorem dL_law_621 : decode cL_law 621 = .ok (.iaload, 1) := by decide +kernel
theorem dL_law_622 : decode cL_law 622 = .ok (.aload_n 0, 1) := by decide +kernel
theorem dL_law_623 : decode cL_law 623 = .ok (.iload 4, 2) := by decide +kernel
theorem dL_law_625 : decode cL_law 625 = .ok (.iconst 3, 1) := by decide +kernel
theorem dL_law_626 : decode cL_law 626 = .ok (.iadd, 1) := by decide +kernel
theorem dL_law_627 : decode cL_law 627 = .ok (.iaload, 1) := by decide +kernel
theorem dL_law_628 : decode cL_law 628 = .ok (.ifCond .eq 7, 3) := by decide +kernel
theorem dL_law_631 : decode cL_law 631 = .ok (.iconst 1, 1) := by decide +kernel
theorem dL_law_632 : decode cL_law 632 = .ok (.goto 4, 3) := by decide +kernel
theorem dL_law_635 : decode cL_law 635 = .ok (.iconst 0, 1) := by decide +kernel
theorem dL_law_636 : decode cL_law 636 = .ok (.invokevirtual 128, 3) := by decide +kernel
theorem dL_law_639 : decode cL_law 639 = .ok (.istore 6, 2) := by decide +kernel
theorem dL_law_641 : decode cL_law 641 = .ok (.aload_n 2, 1) := by decide +kernel
theorem dL_law_642 : decode cL_law 642 = .ok (.invokevirtual 106, 3) := by decide +kernel
theorem dL_law_645 : decode cL_law 645 = .ok (.iload 5, 2) := by decide +kernel
theorem dL_law_647 : decode cL_law 647 = .ok (.if_icmp .eq 5, 3) := by decide +kernel
theorem dL_law_650 : decode cL_law 650 = .ok (.iconst 0, 1) := by decide +kernel
theorem dL_law_651 : decode cL_law 651 = .ok (.ireturn, 1) := by decide +kernel
theorem dL_law_652 : decode cL_law 652 = .ok (.iload 5, 2) := by decide +kernel
theorem dL_law_654 : decode cL_law 654 = .ok (.ifCond .ne 15, 3) := by decide +kernel
theorem dL_law_657 : decode cL_law 657 = .ok (.aload_n 3, 1) := by decide +kernel
theorem dL_law_658 : decode cL_law 658 = .ok (.iconst 0, 1) := by decide +kernel
theorem dL_law_659 : decode cL_law 659 = .ok (.laload, 1) := by decide +kernel
theorem dL_law_660 : decode cL_law 660 = .ok (.iload 6, 2) := by decide +kernel
theorem dL_law_662 : decode cL_law 662 = .ok (.i2l, 1) := by decide +kernel
theorem dL_law_663 : decode cL_law 663 = .ok (.lcmp, 1) := by decide +kernel
theorem dL_law_664 : decode cL_law 664 = .ok (.ifCond .eq 5, 3) := by decide +kernel
theorem dL_law_667 : decode cL_law 667 = .ok (.iconst 0, 1) := by decide +kernel
theorem dL_law_668 : decode cL_law 668 = .ok (.ireturn, 1) := by decide +kernel
theorem dL_law_669 : decode cL_law 669 = .ok (.goto 1261, 3) := by decide +kernel
theorem dL_law_672 : decode cL_law 672 = .ok (.aload_n 1, 1) := by decide +kernel
theorem dL_law_673 : decode cL_law 673 = .ok (.aload_n 0, 1) := by decide +kernel
theorem dL_law_674 : decode cL_law 674 = .ok (.iload 4, 2) := by decide +kernel
theorem dL_law_676 : decode cL_law 676 = .ok (.iconst 1, 1) := by decide +kernel
theorem dL_law_677 : decode cL_law 677 = .ok (.iadd, 1) := by decide +kernel
theorem dL_law_678 : decode cL_law 678 = .ok (.iaload, 1) := by decide +kernel
theorem dL_law_679 : decode cL_law 679 = .ok (.aload_n 0, 1) := by decide +kernel
theorem dL_law_680 : decode cL_law 680 = .ok (.iload 4, 2) := by decide +kernel
theorem dL_law_682 : decode cL_law 682 = .ok (.iconst 2, 1) := by decide +kernel
theorem dL_law_683 : decode cL_law 683 = .ok (.iadd, 1) := by decide +kernel
theorem dL_law_684 : decode cL_law 684 = .ok (.iaload, 1) := by decide +kernel
theorem dL_law_685 : decode cL_law 685 = .ok (.aload_n 0, 1) := by decide +kernel
theorem dL_law_686 : decode cL_law 686 = .ok (.iload 4, 2) := by decide +kernel
theorem dL_law_688 : decode cL_law 688 = .ok (.iconst 3, 1) := by decide +kernel
theorem dL_law_689 : decode cL_law 689 = .ok (.iadd, 1) := by decide +kernel
theorem dL_law_690 : decode cL_law 690 = .ok (.iaload, 1) := by decide +kernel
theorem dL_law_691 : decode cL_law 691 = .ok (.aload_n 0, 1) := by decide +kernel
theorem dL_law_692 : decode cL_law 692 = .ok (.iload 4, 2) := by decide +kernel
theorem dL_law_694 : decode cL_law 694 = .ok (.iconst 4, 1) := by decide +kernel
theorem dL_law_695 : decode cL_law 695 = .ok (.iadd, 1) := by decide +kernel
theorem dL_law_696 : decode cL_law 696 = .ok (.iaload, 1) := by decide +kernel
theorem dL_law_697 : decode cL_law 697 = .ok (.aload_n 3, 1) := by decide +kernel
theorem dL_law_698 : decode cL_law 698 = .ok (.invokestatic 129, 3) := by decide +kernel
theorem dL_law_701 : decode cL_law 701 = .ok (.istore 5, 2) := by decide +kernel
theorem dL_law_703 : decode cL_law 703 = .ok (.aload_n 2, 1) := by decide +kernel
theorem dL_law_704 : decode cL_law 704 = .ok (.aload_n 0, 1) := by decide +kernel
theorem dL_law_705 : decode cL_law 705 = .ok (.iload 4, 2) := by decide +kernel
theorem dL_law_707 : decode cL_law 707 = .ok (.iconst 1, 1) := by decide +kernel
theorem dL_law_708 : decode cL_law 708 = .ok (.iadd, 1) := by decide +kernel
theorem dL_law_709 : decode cL_law 709 = .ok (.iaload, 1) := by decide +kernel
theorem dL_law_710 : decode cL_law 710 = .ok (.aload_n 0, 1) := by decide +kernel
theorem dL_law_711 : decode cL_law 711 = .ok (.iload 4, 2) := by decide +kernel
theorem dL_law_713 : decode cL_law 713 = .ok (.iconst 2, 1) := by decide +kernel
theorem dL_law_714 : decode cL_law 714 = .ok (.iadd, 1) := by decide +kernel
theorem dL_law_715 : decode cL_law 715 = .ok (.iaload, 1) := by decide +kernel
theorem dL_law_716 : decode cL_law 716 = .ok (.aload_n 0, 1) := by decide +kernel
theorem dL_law_717 : decode cL_law 717 = .ok (.iload 4, 2) := by decide +kernel
theorem dL_law_719 : decode cL_law 719 = .ok (.iconst 3, 1) := by decide +kernel
theorem dL_law_720 : decode cL_law 720 = .ok (.iadd, 1) := by decide +kernel
theorem dL_law_721 : decode cL_law 721 = .ok (.iaload, 1) := by decide +kernel
theorem dL_law_722 : decode cL_law 722 = .ok (.aload_n 0, 1) := by decide +kernel
theorem dL_law_723 : decode cL_law 723 = .ok (.iload 4, 2) := by decide +kernel
theorem dL_law_725 : decode cL_law 725 = .ok (.iconst 4, 1) := by decide +kernel
theorem dL_law_726 : decode cL_law 726 = .ok (.iadd, 1) := by decide +kernel
theorem dL_law_727 : decode cL_law 727 = .ok (.iaload, 1) := by decide +kernel
theorem dL_law_728 : decode cL_law 728 = .ok (.invokevirtual 132, 3) := by decide +kernel
theorem dL_law_731 : decode cL_law 731 = .ok (.istore 6, 2) := by decide +kernel
theorem dL_law_733 : decode cL_law 733 = .ok (.aload_n 2, 1) := by decide +kernel
theorem dL_law_734 : decode cL_law 734 = .ok (.invokevirtual 106, 3) := by decide +kernel
theorem dL_law_737 : decode cL_law 737 = .ok (.iload 5, 2) := by decide +kernel
theorem dL_law_739 : decode cL_law 739 = .ok (.if_icmp .eq 5, 3) := by decide +kernel
theorem dL_law_742 : decode cL_law 742 = .ok (.iconst 0, 1) := by decide +kernel
theorem dL_law_743 : decode cL_law 743 = .ok (.ireturn, 1) := by decide +kernel
theorem dL_law_744 : decode cL_law 744 = .ok (.iload 5, 2) := by decide +kernel
theorem dL_law_746 : decode cL_law 746 = .ok (.ifCond .ne 15, 3) := by decide +kernel
theorem dL_law_749 : decode cL_law 749 = .ok (.aload_n 3, 1) := by decide +kernel
theorem dL_law_750 : decode cL_law 750 = .ok (.iconst 0, 1) := by decide +kernel
theorem dL_law_751 : decode cL_law 751 = .ok (.laload, 1) := by decide +kernel
theorem dL_law_752 : decode cL_law 752 = .ok (.iload 6, 2) := by decide +kernel
theorem dL_law_754 : decode cL_law 754 = .ok (.i2l, 1) := by decide +kernel
theorem dL_law_755 : decode cL_law 755 = .ok (.lcmp, 1) := by decide +kernel
theorem dL_law_756 : decode cL_law 756 = .ok (.ifCond .eq 5, 3) := by decide +kernel
theorem dL_law_759 : decode cL_law 759 = .ok (.iconst 0, 1) := by decide +kernel
theorem dL_law_760 : decode cL_law 760 = .ok (.ireturn, 1) := by decide +kernel
theorem dL_law_761 : decode cL_law 761 = .ok (.goto 1169, 3) := by decide +kernel
theorem dL_law_764 : decode cL_law 764 = .ok (.aload_n 1, 1) := by decide +kernel
theorem dL_law_765 : decode cL_law 765 = .ok (.aload_n 0, 1) := by decide +kernel
theorem dL_law_766 : decode cL_law 766 = .ok (.iload 4, 2) := by decide +kernel
theorem dL_law_768 : decode cL_law 768 = .ok (.iconst 1, 1) := by decide +kernel
theorem dL_law_769 : decode cL_law 769 = .ok (.iadd, 1) := by decide +kernel
theorem dL_law_770 : decode cL_law 770 = .ok (.iaload, 1) := by decide +kernel
theorem dL_law_771 : decode cL_law 771 = .ok (.aload_n 0, 1) := by decide +kernel
theorem dL_law_772 : decode cL_law 772 = .ok (.iload 4, 2) := by decide +kernel
theorem dL_law_774 : decode cL_law 774 = .ok (.iconst 2, 1) := by decide +kernel
theorem dL_law_775 : decode cL_law 775 = .ok (.iadd, 1) := by decide +kernel
theorem dL_law_776 : decode cL_law 776 = .ok (.iaload, 1) := by decide +kernel
theorem dL_law_777 : decode cL_law 777 = .ok (.aload_n 3, 1) := by decide +kernel
theorem dL_law_778 : decode cL_law 778 = .ok (.invokestatic 133, 3) := by decide +kernel
theorem dL_law_781 : decode cL_law 781 = .ok (.istore 5, 2) := by decide +kernel
theorem dL_law_783 : decode cL_law 783 = .ok (.aload_n 2, 1) := by decide +kernel
theorem dL_law_784 : decode cL_law 784 = .ok (.aload_n 0, 1) := by decide +kernel
theorem dL_law_785 : decode cL_law 785 = .ok (.iload 4, 2) := by decide +kernel
theorem dL_law_787 : decode cL_law 787 = .ok (.iconst 1, 1) := by decide +kernel
theorem dL_law_788 : decode cL_law 788 = .ok (.iadd, 1) := by decide +kernel
theorem dL_law_789 : decode cL_law 789 = .ok (.iaload, 1) := by decide +kernel
theorem dL_law_790 : decode cL_law 790 = .ok (.aload_n 0, 1) := by decide +kernel
theorem dL_law_791 : decode cL_law 791 = .ok (.iload 4, 2) := by decide +kernel
theorem dL_law_793 : decode cL_law 793 = .ok (.iconst 2, 1) := by decide +kernel
theorem dL_law_794 : decode cL_law 794 = .ok (.iadd, 1) := by decide +kernel
theorem dL_law_795 : decode cL_law 795 = .ok (.iaload, 1) := by decide +kernel
theorem dL_law_796 : decode cL_law 796 = .ok (.invokevirtual 135, 3) := by decide +kernel
theorem dL_law_799 : decode cL_law 799 = .ok (.istore 6, 2) := by decide +kernel
theorem dL_law_801 : decode cL_law 801 = .ok (.aload_n 2, 1) := by decide +kernel
theorem dL_law_802 : decode cL_law 802 = .ok (.invokevirtual 106, 3) := by decide +kernel
theorem dL_law_805 : decode cL_law 805 = .ok (.iload 5, 2) := by decide +kernel
theorem dL_law_807 : decode cL_law 807 = .ok (.if_icmp .eq 5, 3) := by decide +kernel
theorem dL_law_810 : decode cL_law 810 = .ok (.iconst 0, 1) := by decide +kernel
theorem dL_law_811 : decode cL_law 811 = .ok (.ireturn, 1) := by decide +kernel
theorem dL_law_812 : decode cL_law 812 = .ok (.iload 5, 2) := by decide +kernel
theorem dL_law_814 : decode cL_law 814 = .ok (.ifCond .ne 15, 3) := by decide +kernel
theorem dL_law_817 : decode cL_law 817 = .ok (.aload_n 3, 1) := by decide +kernel
theorem dL_law_818 : decode cL_law 818 = .ok (.iconst 0, 1) := by decide +kernel
theorem dL_law_819 : decode cL_law 819 = .ok (.laload, 1) := by decide +kernel
theorem dL_law_820 : decode cL_law 820 = .ok (.iload 6, 2) := by decide +kernel
theorem dL_law_822 : decode cL_law 822 = .ok (.i2l, 1) := by decide +kernel
theorem dL_law_823 : decode cL_law 823 = .ok (.lcmp, 1) := by decide +kernel
theorem dL_law_824 : decode cL_law 824 = .ok (.ifCond .eq 5, 3) := by decide +kernel
theorem dL_law_827 : decode cL_law 827 = .ok (.iconst 0, 1) := by decide +kernel
theorem dL_law_828 : decode cL_law 828 = .ok (.ireturn, 1) := by decide +kernel
theorem dL_law_829 : decode cL_law 829 = .ok (.goto 1101, 3) := by decide +kernel
theorem dL_law_832 : decode cL_law 832 = .ok (.aload_n 1, 1) := by decide +kernel
theorem dL_law_833 : decode cL_law 833 = .ok (.aload_n 0, 1) := by decide +kernel
theorem dL_law_834 : decode cL_law 834 = .ok (.iload 4, 2) := by decide +kernel
theorem dL_law_836 : decode cL_law 836 = .ok (.iconst 1, 1) := by decide +kernel
theorem dL_law_837 : decode cL_law 837 = .ok (.iadd, 1) := by decide +kernel
theorem dL_law_838 : decode cL_law 838 = .ok (.iaload, 1) := by decide +kernel
theorem dL_law_839 : decode cL_law 839 = .ok (.aload_n 0, 1) := by decide +kernel
theorem dL_law_840 : decode cL_law 840 = .ok (.iload 4, 2) := by decide +kernel
theorem dL_law_842 : decode cL_law 842 = .ok (.iconst 2, 1) := by decide +kernel
theorem dL_law_843 : decode cL_law 843 = .ok (.iadd, 1) := by decide +kernel
theorem dL_law_844 : decode cL_law 844 = .ok (.iaload, 1) := by decide +kernel
theorem dL_law_845 : decode cL_law 845 = .ok (.aload_n 0, 1) := by decide +kernel
theorem dL_law_846 : decode cL_law 846 = .ok (.iload 4, 2) := by decide +kernel
theorem dL_law_848 : decode cL_law 848 = .ok (.iconst 3, 1) := by decide +kernel
theorem dL_law_849 : decode cL_law 849 = .ok (.iadd, 1) := by decide +kernel
theorem dL_law_850 : decode cL_law 850 = .ok (.iaload, 1) := by decide +kernel
theorem dL_law_851 : decode cL_law 851 = .ok (.aload_n 3, 1) := by decide +kernel
theorem dL_law_852 : decode cL_law 852 = .ok (.invokestatic 136, 3) := by decide +kernel
theorem dL_law_855 : decode cL_law 855 = .ok (.istore 5, 2) := by decide +kernel
theorem dL_law_857 : decode cL_law 857 = .ok (.aload_n 2, 1) := by decide +kernel
theorem dL_law_858 : decode cL_law 858 = .ok (.aload_n 0, 1) := by decide +kernel
theorem dL_law_859 : decode cL_law 859 = .ok (.iload 4, 2) := by decide +kernel
theorem dL_law_861 : decode cL_law 861 = .ok (.iconst 1, 1) := by decide +kernel
theorem dL_law_862 : decode cL_law 862 = .ok (.iadd, 1) := by decide +kernel
theorem dL_law_863 : decode cL_law 863 = .ok (.iaload, 1) := by decide +kernel
theorem dL_law_864 : decode cL_law 864 = .ok (.aload_n 0, 1) := by decide +kernel
theorem dL_law_865 : decode cL_law 865 = .ok (.iload 4, 2) := by decide +kernel
theorem dL_law_867 : decode cL_law 867 = .ok (.iconst 2, 1) := by decide +kernel
theorem dL_law_868 : decode cL_law 868 = .ok (.iadd, 1) := by decide +kernel
theorem dL_law_869 : decode cL_law 869 = .ok (.iaload, 1) := by decide +kernel
theorem dL_law_870 : decode cL_law 870 = .ok (.aload_n 0, 1) := by decide +kernel
theorem dL_law_871 : decode cL_law 871 = .ok (.iload 4, 2) := by decide +kernel
theorem dL_law_873 : decode cL_law 873 = .ok (.iconst 3, 1) := by decide +kernel
theorem dL_law_874 : decode cL_law 874 = .ok (.iadd, 1) := by decide +kernel
theorem dL_law_875 : decode cL_law 875 = .ok (.iaload, 1) := by decide +kernel
theorem dL_law_876 : decode cL_law 876 = .ok (.invokevirtual 138, 3) := by decide +kernel
theorem dL_law_879 : decode cL_law 879 = .ok (.istore 6, 2) := by decide +kernel
theorem dL_law_881 : decode cL_law 881 = .ok (.aload_n 2, 1) := by decide +kernel
theorem dL_law_882 : decode cL_law 882 = .ok (.invokevirtual 106, 3) := by decide +kernel
theorem dL_law_885 : decode cL_law 885 = .ok (.iload 5, 2) := by decide +kernel
theorem dL_law_887 : decode cL_law 887 = .ok (.if_icmp .eq 5, 3) := by decide +kernel
theorem dL_law_890 : decode cL_law 890 = .ok (.iconst 0, 1) := by decide +kernel
theorem dL_law_891 : decode cL_law 891 = .ok (.ireturn, 1) := by decide +kernel
theorem dL_law_892 : decode cL_law 892 = .ok (.iload 5, 2) := by decide +kernel
theorem dL_law_894 : decode cL_law 894 = .ok (.ifCond .ne 15, 3) := by decide +kernel
theorem dL_law_897 : decode cL_law 897 = .ok (.aload_n 3, 1) := by decide +kernel
theorem dL_law_898 : decode cL_law 898 = .ok (.iconst 0, 1) := by decide +kernel
theorem dL_law_899 : decode cL_law 899 = .ok (.laload, 1) := by decide +kernel
theorem dL_law_900 : decode cL_law 900 = .ok (.iload 6, 2) := by decide +kernel
theorem dL_law_902 : decode cL_law 902 = .ok (.i2l, 1) := by decide +kernel
theorem dL_law_903 : decode cL_law 903 = .ok (.lcmp, 1) := by decide +kernel
theorem dL_law_904 : decode cL_law 904 = .ok (.ifCond .eq 5, 3) := by decide +kernel
theorem dL_law_907 : decode cL_law 907 = .ok (.iconst 0, 1) := by decide +kernel
theorem dL_law_908 : decode cL_law 908 = .ok (.ireturn, 1) := by decide +kernel
theorem dL_law_909 : decode cL_law 909 = .ok (.goto 1021, 3) := by decide +kernel
theorem dL_law_912 : decode cL_law 912 = .ok (.aload_n 1, 1) := by decide +kernel
theorem dL_law_913 : decode cL_law 913 = .ok (.aload_n 0, 1) := by decide +kernel
theorem dL_law_914 : decode cL_law 914 = .ok (.iload 4, 2) := by decide +kernel
theorem dL_law_916 : decode cL_law 916 = .ok (.iconst 1, 1) := by decide +kernel
theorem dL_law_917 : decode cL_law 917 = .ok (.iadd, 1) := by decide +kernel
theorem dL_law_918 : decode cL_law 918 = .ok (.iaload, 1) := by decide +kernel
theorem dL_law_919 : decode cL_law 919 = .ok (.aload_n 0, 1) := by decide +kernel
theorem dL_law_920 : decode cL_law 920 = .ok (.iload 4, 2) := by decide +kernel
theorem dL_law_922 : decode cL_law 922 = .ok (.iconst 2, 1) := by decide +kernel
theorem dL_law_923 : decode cL_law 923 = .ok (.iadd, 1) := by decide +kernel
theorem dL_law_924 : decode cL_law 924 = .ok (.iaload, 1) := by decide +kernel
theorem dL_law_925 : decode cL_law 925 = .ok (.aload_n 3, 1) := by decide +kernel
theorem dL_law_926 : decode cL_law 926 = .ok (.invokestatic 139, 3) := by decide +kernel
theorem dL_law_929 : decode cL_law 929 = .ok (.istore 5, 2) := by decide +kernel
theorem dL_law_931 : decode cL_law 931 = .ok (.aload_n 2, 1) := by decide +kernel
theorem dL_law_932 : decode cL_law 932 = .ok (.aload_n 0, 1) := by decide +kernel
theorem dL_law_933 : decode cL_law 933 = .ok (.iload 4, 2) := by decide +kernel
theorem dL_law_935 : decode cL_law 935 = .ok (.iconst 1, 1) := by decide +kernel
theorem dL_law_936 : decode cL_law 936 = .ok (.iadd, 1) := by decide +kernel
theorem dL_law_937 : decode cL_law 937 = .ok (.iaload, 1) := by decide +kernel
theorem dL_law_938 : decode cL_law 938 = .ok (.aload_n 0, 1) := by decide +kernel
theorem dL_law_939 : decode cL_law 939 = .ok (.iload 4, 2) := by decide +kernel
theorem dL_law_941 : decode cL_law 941 = .ok (.iconst 2, 1) := by decide +kernel
theorem dL_law_942 : decode cL_law 942 = .ok (.iadd, 1) := by decide +kernel
theorem dL_law_943 : decode cL_law 943 = .ok (.iaload, 1) := by decide +kernel
theorem dL_law_944 : decode cL_law 944 = .ok (.invokevirtual 141, 3) := by decide +kernel
theorem dL_law_947 : decode cL_law 947 = .ok (.istore 6, 2) := by decide +kernel
theorem dL_law_949 : decode cL_law 949 = .ok (.aload_n 2, 1) := by decide +kernel
theorem dL_law_950 : decode cL_law 950 = .ok (.invokevirtual 106, 3) := by decide +kernel
theorem dL_law_953 : decode cL_law 953 = .ok (.iload 5, 2) := by decide +kernel
theorem dL_law_955 : decode cL_law 955 = .ok (.if_icmp .eq 5, 3) := by decide +kernel
theorem dL_law_958 : decode cL_law 958 = .ok (.iconst 0, 1) := by decide +kernel
theorem dL_law_959 : decode cL_law 959 = .ok (.ireturn, 1) := by decide +kernel
theorem dL_law_960 : decode cL_law 960 = .ok (.iload 5, 2) := by decide +kernel
theorem dL_law_962 : decode cL_law 962 = .ok (.ifCond .ne 15, 3) := by decide +kernel
theorem dL_law_965 : decode cL_law 965 = .ok (.aload_n 3, 1) := by decide +kernel
theorem dL_law_966 : decode cL_law 966 = .ok (.iconst 0, 1) := by decide +kernel
theorem dL_law_967 : decode cL_law 967 = .ok (.laload, 1) := by decide +kernel
theorem dL_law_968 : decode cL_law 968 = .ok (.iload 6, 2) := by decide +kernel
theorem dL_law_970 : decode cL_law 970 = .ok (.i2l, 1) := by decide +kernel
theorem dL_law_971 : decode cL_law 971 = .ok (.lcmp, 1) := by decide +kernel
theorem dL_law_972 : decode cL_law 972 = .ok (.ifCond .eq 5, 3) := by decide +kernel
theorem dL_law_975 : decode cL_law 975 = .ok (.iconst 0, 1) := by decide +kernel
theorem dL_law_976 : decode cL_law 976 = .ok (.ireturn, 1) := by decide +kernel
theorem dL_law_977 : decode cL_law 977 = .ok (.goto 953, 3) := by decide +kernel
theorem dL_law_980 : decode cL_law 980 = .ok (.aload_n 1, 1) := by decide +kernel
theorem dL_law_981 : decode cL_law 981 = .ok (.aload_n 0, 1) := by decide +kernel
theorem dL_law_982 : decode cL_law 982 = .ok (.iload 4, 2) := by decide +kernel
theorem dL_law_984 : decode cL_law 984 = .ok (.iconst 1, 1) := by decide +kernel
theorem dL_law_985 : decode cL_law 985 = .ok (.iadd, 1) := by decide +kernel
theorem dL_law_986 : decode cL_law 986 = .ok (.iaload, 1) := by decide +kernel
theorem dL_law_987 : decode cL_law 987 = .ok (.aload_n 0, 1) := by decide +kernel
theorem dL_law_988 : decode cL_law 988 = .ok (.iload 4, 2) := by decide +kernel
theorem dL_law_990 : decode cL_law 990 = .ok (.iconst 2, 1) := by decide +kernel
theorem dL_law_991 : decode cL_law 991 = .ok (.iadd, 1) := by decide +kernel
theorem dL_law_992 : decode cL_law 992 = .ok (.iaload, 1) := by decide +kernel
theorem dL_law_993 : decode cL_law 993 = .ok (.aload_n 3, 1) := by decide +kernel
theorem dL_law_994 : decode cL_law 994 = .ok (.invokestatic 142, 3) := by decide +kernel
theorem dL_law_997 : decode cL_law 997 = .ok (.istore 5, 2) := by decide +kernel
theorem dL_law_999 : decode cL_law 999 = .ok (.aload_n 2, 1) := by decide +kernel
theorem dL_law_1000 : decode cL_law 1000 = .ok (.aload_n 0, 1) := by decide +kernel
theorem dL_law_1001 : decode cL_law 1001 = .ok (.iload 4, 2) := by decide +kernel
theorem dL_law_1003 : decode cL_law 1003 = .ok (.iconst 1, 1) := by decide +kernel
theorem dL_law_1004 : decode cL_law 1004 = .ok (.iadd, 1) := by decide +kernel
theorem dL_law_1005 : decode cL_law 1005 = .ok (.iaload, 1) := by decide +kernel
theorem dL_law_1006 : decode cL_law 1006 = .ok (.aload_n 0, 1) := by decide +kernel
theorem dL_law_1007 : decode cL_law 1007 = .ok (.iload 4, 2) := by decide +kernel
theorem dL_law_1009 : decode cL_law 1009 = .ok (.iconst 2, 1) := by decide +kernel
theorem dL_law_1010 : decode cL_law 1010 = .ok (.iadd, 1) := by decide +kernel
theorem dL_law_1011 : decode cL_law 1011 = .ok (.iaload, 1) := by decide +kernel
theorem dL_law_1012 : decode cL_law 1012 = .ok (.invokevirtual 144, 3) := by decide +kernel
theorem dL_law_1015 : decode cL_law 1015 = .ok (.istore 6, 2) := by decide +kernel
theorem dL_law_1017 : decode cL_law 1017 = .ok (.aload_n 2, 1) := by decide +kernel
theorem dL_law_1018 : decode cL_law 1018 = .ok (.invokevirtual 106, 3) := by decide +kernel
theorem dL_law_1021 : decode cL_law 1021 = .ok (.iload 5, 2) := by decide +kernel
theorem dL_law_1023 : decode cL_law 1023 = .ok (.if_icmp .eq 5, 3) := by decide +kernel
theorem dL_law_1026 : decode cL_law 1026 = .ok (.iconst 0, 1) := by decide +kernel
theorem dL_law_1027 : decode cL_law 1027 = .ok (.ireturn, 1) := by decide +kernel
theorem dL_law_1028 : decode cL_law 1028 = .ok (.iload 5, 2) := by decide +kernel
theorem dL_law_1030 : decode cL_law 1030 = .ok (.ifCond .ne 15, 3) := by decide +kernel
theorem dL_law_1033 : decode cL_law 1033 = .ok (.aload_n 3, 1) := by decide +kernel
theorem dL_law_1034 : decode cL_law 1034 = .ok (.iconst 0, 1) := by decide +kernel
theorem dL_law_1035 : decode cL_law 1035 = .ok (.laload, 1) := by decide +kernel
theorem dL_law_1036 : decode cL_law 1036 = .ok (.iload 6, 2) := by decide +kernel
theorem dL_law_1038 : decode cL_law 1038 = .ok (.i2l, 1) := by decide +kernel
theorem dL_law_1039 : decode cL_law 1039 = .ok (.lcmp, 1) := by decide +kernel
theorem dL_law_1040 : decode cL_law 1040 = .ok (.ifCond .eq 5, 3) := by decide +kernel
theorem dL_law_1043 : decode cL_law 1043 = .ok (.iconst 0, 1) := by decide +kernel
theorem dL_law_1044 : decode cL_law 1044 = .ok (.ireturn, 1) := by decide +kernel
theorem dL_law_1045 : decode cL_law 1045 = .ok (.goto 885, 3) := by decide +kernel
theorem dL_law_1048 : decode cL_law 1048 = .ok (.aload_n 1, 1) := by decide +kernel
theorem dL_law_1049 : decode cL_law 1049 = .ok (.aload_n 0, 1) := by decide +kernel
theorem dL_law_1050 : decode cL_law 1050 = .ok (.iload 4, 2) := by decide +kernel
theorem dL_law_1052 : decode cL_law 1052 = .ok (.iconst 1, 1) := by decide +kernel
theorem dL_law_1053 : decode cL_law 1053 = .ok (.iadd, 1) := by decide +kernel
theorem dL_law_1054 : decode cL_law 1054 = .ok (.iaload, 1) := by decide +kernel
theorem dL_law_1055 : decode cL_law 1055 = .ok (.aload_n 3, 1) := by decide +kernel
theorem dL_law_1056 : decode cL_law 1056 = .ok (.invokestatic 145, 3) := by decide +kernel
theorem dL_law_1059 : decode cL_law 1059 = .ok (.istore 5, 2) := by decide +kernel
theorem dL_law_1061 : decode cL_law 1061 = .ok (.aload_n 2, 1) := by decide +kernel
theorem dL_law_1062 : decode cL_law 1062 = .ok (.aload_n 0, 1) := by decide +kernel
theorem dL_law_1063 : decode cL_law 1063 = .ok (.iload 4, 2) := by decide +kernel
theorem dL_law_1065 : decode cL_law 1065 = .ok (.iconst 1, 1) := by decide +kernel
theorem dL_law_1066 : decode cL_law 1066 = .ok (.iadd, 1) := by decide +kernel
theorem dL_law_1067 : decode cL_law 1067 = .ok (.iaload, 1) := by decide +kernel
theorem dL_law_1068 : decode cL_law 1068 = .ok (.invokevirtual 147, 3) := by decide +kernel
theorem dL_law_1071 : decode cL_law 1071 = .ok (.istore 6, 2) := by decide +kernel
theorem dL_law_1073 : decode cL_law 1073 = .ok (.aload_n 2, 1) := by decide +kernel
theorem dL_law_1074 : decode cL_law 1074 = .ok (.invokevirtual 106, 3) := by decide +kernel
theorem dL_law_1077 : decode cL_law 1077 = .ok (.iload 5, 2) := by decide +kernel
theorem dL_law_1079 : decode cL_law 1079 = .ok (.if_icmp .eq 5, 3) := by decide +kernel
theorem dL_law_1082 : decode cL_law 1082 = .ok (.iconst 0, 1) := by decide +kernel
theorem dL_law_1083 : decode cL_law 1083 = .ok (.ireturn, 1) := by decide +kernel
theorem dL_law_1084 : decode cL_law 1084 = .ok (.iload 5, 2) := by decide +kernel
theorem dL_law_1086 : decode cL_law 1086 = .ok (.ifCond .ne 15, 3) := by decide +kernel
theorem dL_law_1089 : decode cL_law 1089 = .ok (.aload_n 3, 1) := by decide +kernel
theorem dL_law_1090 : decode cL_law 1090 = .ok (.iconst 0, 1) := by decide +kernel
theorem dL_law_1091 : decode cL_law 1091 = .ok (.laload, 1) := by decide +kernel
theorem dL_law_1092 : decode cL_law 1092 = .ok (.iload 6, 2) := by decide +kernel
theorem dL_law_1094 : decode cL_law 1094 = .ok (.i2l, 1) := by decide +kernel
theorem dL_law_1095 : decode cL_law 1095 = .ok (.lcmp, 1) := by decide +kernel
theorem dL_law_1096 : decode cL_law 1096 = .ok (.ifCond .eq 5, 3) := by decide +kernel
theorem dL_law_1099 : decode cL_law 1099 = .ok (.iconst 0, 1) := by decide +kernel
theorem dL_law_1100 : decode cL_law 1100 = .ok (.ireturn, 1) := by decide +kernel
theorem dL_law_1101 : decode cL_law 1101 = .ok (.goto 829, 3) := by decide +kernel
theorem dL_law_1104 : decode cL_law 1104 = .ok (.aload_n 1, 1) := by decide +kernel
theorem dL_law_1105 : decode cL_law 1105 = .ok (.aload_n 0, 1) := by decide +kernel
theorem dL_law_1106 : decode cL_law 1106 = .ok (.iload 4, 2) := by decide +kernel
theorem dL_law_1108 : decode cL_law 1108 = .ok (.iconst 1, 1) := by decide +kernel
theorem dL_law_1109 : decode cL_law 1109 = .ok (.iadd, 1) := by decide +kernel
theorem dL_law_1110 : decode cL_law 1110 = .ok (.iaload, 1) := by decide +kernel
theorem dL_law_1111 : decode cL_law 1111 = .ok (.aload_n 0, 1) := by decide +kernel
theorem dL_law_1112 : decode cL_law 1112 = .ok (.iload 4, 2) := by decide +kernel
theorem dL_law_1114 : decode cL_law 1114 = .ok (.iconst 2, 1) := by decide +kernel
theorem dL_law_1115 : decode cL_law 1115 = .ok (.iadd, 1) := by decide +kernel
theorem dL_law_1116 : decode cL_law 1116 = .ok (.iaload, 1) := by decide +kernel
theorem dL_law_1117 : decode cL_law 1117 = .ok (.aload_n 0, 1) := by decide +kernel
theorem dL_law_1118 : decode cL_law 1118 = .ok (.iload 4, 2) := by decide +kernel
theorem dL_law_1120 : decode cL_law 1120 = .ok (.iconst 3, 1) := by decide +kernel
theorem dL_law_1121 : decode cL_law 1121 = .ok (.iadd, 1) := by decide +kernel
theorem dL_law_1122 : decode cL_law 1122 = .ok (.iaload, 1) := by decide +kernel
theorem dL_law_1123 : decode cL_law 1123 = .ok (.aload_n 0, 1) := by decide +kernel
theorem dL_law_1124 : decode cL_law 1124 = .ok (.iload 4, 2) := by decide +kernel
theorem dL_law_1126 : decode cL_law 1126 = .ok (.iconst 4, 1) := by decide +kernel
theorem dL_law_1127 : decode cL_law 1127 = .ok (.iadd, 1) := by decide +kernel
theorem dL_law_1128 : decode cL_law 1128 = .ok (.iaload, 1) := by decide +kernel
theorem dL_law_1129 : decode cL_law 1129 = .ok (.aload_n 3, 1) := by decide +kernel
theorem dL_law_1130 : decode cL_law 1130 = .ok (.invokestatic 148, 3) := by decide +kernel
theorem dL_law_1133 : decode cL_law 1133 = .ok (.istore 5, 2) := by decide +kernel
theorem dL_law_1135 : decode cL_law 1135 = .ok (.aload_n 2, 1) := by decide +kernel
theorem dL_law_1136 : decode cL_law 1136 = .ok (.aload_n 0, 1) := by decide +kernel
theorem dL_law_1137 : decode cL_law 1137 = .ok (.iload 4, 2) := by decide +kernel
theorem dL_law_1139 : decode cL_law 1139 = .ok (.iconst 1, 1) := by decide +kernel
theorem dL_law_1140 : decode cL_law 1140 = .ok (.iadd, 1) := by decide +kernel
theorem dL_law_1141 : decode cL_law 1141 = .ok (.iaload, 1) := by decide +kernel
theorem dL_law_1142 : decode cL_law 1142 = .ok (.aload_n 0, 1) := by decide +kernel
theorem dL_law_1143 : decode cL_law 1143 = .ok (.iload 4, 2) := by decide +kernel
theorem dL_law_1145 : decode cL_law 1145 = .ok (.iconst 2, 1) := by decide +kernel
theorem dL_law_1146 : decode cL_law 1146 = .ok (.iadd, 1) := by decide +kernel
theorem dL_law_1147 : decode cL_law 1147 = .ok (.iaload, 1) := by decide +kernel
theorem dL_law_1148 : decode cL_law 1148 = .ok (.aload_n 0, 1) := by decide +kernel
theorem dL_law_1149 : decode cL_law 1149 = .ok (.iload 4, 2) := by decide +kernel
theorem dL_law_1151 : decode cL_law 1151 = .ok (.iconst 3, 1) := by decide +kernel
theorem dL_law_1152 : decode cL_law 1152 = .ok (.iadd, 1) := by decide +kernel
theorem dL_law_1153 : decode cL_law 1153 = .ok (.iaload, 1) := by decide +kernel
theorem dL_law_1154 : decode cL_law 1154 = .ok (.aload_n 0, 1) := by decide +kernel
theorem dL_law_1155 : decode cL_law 1155 = .ok (.iload 4, 2) := by decide +kernel
theorem dL_law_1157 : decode cL_law 1157 = .ok (.iconst 4, 1) := by decide +kernel
theorem dL_law_1158 : decode cL_law 1158 = .ok (.iadd, 1) := by decide +kernel
theorem dL_law_1159 : decode cL_law 1159 = .ok (.iaload, 1) := by decide +kernel
theorem dL_law_1160 : decode cL_law 1160 = .ok (.invokevirtual 150, 3) := by decide +kernel
theorem dL_law_1163 : decode cL_law 1163 = .ok (.istore 6, 2) := by decide +kernel
theorem dL_law_1165 : decode cL_law 1165 = .ok (.aload_n 2, 1) := by decide +kernel
theorem dL_law_1166 : decode cL_law 1166 = .ok (.invokevirtual 106, 3) := by decide +kernel
theorem dL_law_1169 : decode cL_law 1169 = .ok (.iload 5, 2) := by decide +kernel
theorem dL_law_1171 : decode cL_law 1171 = .ok (.if_icmp .eq 5, 3) := by decide +kernel
theorem dL_law_1174 : decode cL_law 1174 = .ok (.iconst 0, 1) := by decide +kernel
theorem dL_law_1175 : decode cL_law 1175 = .ok (.ireturn, 1) := by decide +kernel
theorem dL_law_1176 : decode cL_law 1176 = .ok (.iload 5, 2) := by decide +kernel
theorem dL_law_1178 : decode cL_law 1178 = .ok (.ifCond .ne 15, 3) := by decide +kernel
theorem dL_law_1181 : decode cL_law 1181 = .ok (.aload_n 3, 1) := by decide +kernel
theorem dL_law_1182 : decode cL_law 1182 = .ok (.iconst 0, 1) := by decide +kernel
theorem dL_law_1183 : decode cL_law 1183 = .ok (.laload, 1) := by decide +kernel
theorem dL_law_1184 : decode cL_law 1184 = .ok (.iload 6, 2) := by decide +kernel
theorem dL_law_1186 : decode cL_law 1186 = .ok (.i2l, 1) := by decide +kernel
theorem dL_law_1187 : decode cL_law 1187 = .ok (.lcmp, 1) := by decide +kernel
theorem dL_law_1188 : decode cL_law 1188 = .ok (.ifCond .eq 5, 3) := by decide +kernel
theorem dL_law_1191 : decode cL_law 1191 = .ok (.iconst 0, 1) := by decide +kernel
theorem dL_law_1192 : decode cL_law 1192 = .ok (.ireturn, 1) := by decide +kernel
theorem dL_law_1193 : decode cL_law 1193 = .ok (.goto 737, 3) := by decide +kernel
theorem dL_law_1196 : decode cL_law 1196 = .ok (.aload_n 1, 1) := by decide +kernel
theorem dL_law_1197 : decode cL_law 1197 = .ok (.aload_n 0, 1) := by decide +kernel
theorem dL_law_1198 : decode cL_law 1198 = .ok (.iload 4, 2) := by decide +kernel
theorem dL_law_1200 : decode cL_law 1200 = .ok (.iconst 1, 1) := by decide +kernel
theorem dL_law_1201 : decode cL_law 1201 = .ok (.iadd, 1) := by decide +kernel
theorem dL_law_1202 : decode cL_law 1202 = .ok (.iaload, 1) := by decide +kernel
theorem dL_law_1203 : decode cL_law 1203 = .ok (.aload_n 0, 1) := by decide +kernel
theorem dL_law_1204 : decode cL_law 1204 = .ok (.iload 4, 2) := by decide +kernel
theorem dL_law_1206 : decode cL_law 1206 = .ok (.iconst 2, 1) := by decide +kernel
theorem dL_law_1207 : decode cL_law 1207 = .ok (.iadd, 1) := by decide +kernel
theorem dL_law_1208 : decode cL_law 1208 = .ok (.iaload, 1) := by decide +kernel
theorem dL_law_1209 : decode cL_law 1209 = .ok (.aload_n 0, 1) := by decide +kernel
theorem dL_law_1210 : decode cL_law 1210 = .ok (.iload 4, 2) := by decide +kernel
theorem dL_law_1212 : decode cL_law 1212 = .ok (.iconst 3, 1) := by decide +kernel
theorem dL_law_1213 : decode cL_law 1213 = .ok (.iadd, 1) := by decide +kernel
theorem dL_law_1214 : decode cL_law 1214 = .ok (.iaload, 1) := by decide +kernel
theorem dL_law_1215 : decode cL_law 1215 = .ok (.aload_n 3, 1) := by decide +kernel
theorem dL_law_1216 : decode cL_law 1216 = .ok (.invokestatic 151, 3) := by decide +kernel
theorem dL_law_1219 : decode cL_law 1219 = .ok (.istore 5, 2) := by decide +kernel
theorem dL_law_1221 : decode cL_law 1221 = .ok (.aload_n 2, 1) := by decide +kernel
theorem dL_law_1222 : decode cL_law 1222 = .ok (.aload_n 0, 1) := by decide +kernel
theorem dL_law_1223 : decode cL_law 1223 = .ok (.iload 4, 2) := by decide +kernel
theorem dL_law_1225 : decode cL_law 1225 = .ok (.iconst 1, 1) := by decide +kernel
theorem dL_law_1226 : decode cL_law 1226 = .ok (.iadd, 1) := by decide +kernel
theorem dL_law_1227 : decode cL_law 1227 = .ok (.iaload, 1) := by decide +kernel
theorem dL_law_1228 : decode cL_law 1228 = .ok (.aload_n 0, 1) := by decide +kernel
theorem dL_law_1229 : decode cL_law 1229 = .ok (.iload 4, 2) := by decide +kernel
theorem dL_law_1231 : decode cL_law 1231 = .ok (.iconst 2, 1) := by decide +kernel
theorem dL_law_1232 : decode cL_law 1232 = .ok (.iadd, 1) := by decide +kernel
theorem dL_law_1233 : decode cL_law 1233 = .ok (.iaload, 1) := by decide +kernel
theorem dL_law_1234 : decode cL_law 1234 = .ok (.aload_n 0, 1) := by decide +kernel
theorem dL_law_1235 : decode cL_law 1235 = .ok (.iload 4, 2) := by decide +kernel
theorem dL_law_1237 : decode cL_law 1237 = .ok (.iconst 3, 1) := by decide +kernel
theorem dL_law_1238 : decode cL_law 1238 = .ok (.iadd, 1) := by decide +kernel
theorem dL_law_1239 : decode cL_law 1239 = .ok (.iaload, 1) := by decide +kernel
theorem dL_law_1240 : decode cL_law 1240 = .ok (.invokevirtual 153, 3) := by decide +kernel
theorem dL_law_1243 : decode cL_law 1243 = .ok (.istore 6, 2) := by decide +kernel
theorem dL_law_1245 : decode cL_law 1245 = .ok (.aload_n 2, 1) := by decide +kernel
theorem dL_law_1246 : decode cL_law 1246 = .ok (.invokevirtual 106, 3) := by decide +kernel
theorem dL_law_1249 : decode cL_law 1249 = .ok (.iload 5, 2) := by decide +kernel
theorem dL_law_1251 : decode cL_law 1251 = .ok (.if_icmp .eq 5, 3) := by decide +kernel
theorem dL_law_1254 : decode cL_law 1254 = .ok (.iconst 0, 1) := by decide +kernel
theorem dL_law_1255 : decode cL_law 1255 = .ok (.ireturn, 1) := by decide +kernel
theorem dL_law_1256 : decode cL_law 1256 = .ok (.iload 5, 2) := by decide +kernel
theorem dL_law_1258 : decode cL_law 1258 = .ok (.ifCond .ne 15, 3) := by decide +kernel
theorem dL_law_1261 : decode cL_law 1261 = .ok (.aload_n 3, 1) := by decide +kernel
theorem dL_law_1262 : decode cL_law 1262 = .ok (.iconst 0, 1) := by decide +kernel
theorem dL_law_1263 : decode cL_law 1263 = .ok (.laload, 1) := by decide +kernel
theorem dL_law_1264 : decode cL_law 1264 = .ok (.iload 6, 2) := by decide +kernel
theorem dL_law_1266 : decode cL_law 1266 = .ok (.i2l, 1) := by decide +kernel
theorem dL_law_1267 : decode cL_law 1267 = .ok (.lcmp, 1) := by decide +kernel
theorem dL_law_1268 : decode cL_law 1268 = .ok (.ifCond .eq 5, 3) := by decide +kernel
theorem dL_law_1271 : decode cL_law 1271 = .ok (.iconst 0, 1) := by decide +kernel
theorem dL_law_1272 : decode cL_law 1272 = .ok (.ireturn, 1) := by decide +kernel
theorem dL_law_1273 : decode cL_law 1273 = .ok (.goto 657, 3) := by decide +kernel
theorem dL_law_1276 : decode cL_law 1276 = .ok (.aload_n 1, 1) := by decide +kernel
theorem dL_law_1277 : decode cL_law 1277 = .ok (.aload_n 0, 1) := by decide +kernel
theorem dL_law_1278 : decode cL_law 1278 = .ok (.iload 4, 2) := by decide +kernel
theorem dL_law_1280 : decode cL_law 1280 = .ok (.iconst 1, 1) := by decide +kernel
theorem dL_law_1281 : decode cL_law 1281 = .ok (.iadd, 1) := by decide +kernel
theorem dL_law_1282 : decode cL_law 1282 = .ok (.iaload, 1) := by decide +kernel
theorem dL_law_1283 : decode cL_law 1283 = .ok (.aload_n 0, 1) := by decide +kernel
theorem dL_law_1284 : decode cL_law 1284 = .ok (.iload 4, 2) := by decide +kernel
theorem dL_law_1286 : decode cL_law 1286 = .ok (.iconst 2, 1) := by decide +kernel
theorem dL_law_1287 : decode cL_law 1287 = .ok (.iadd, 1) := by decide +kernel
theorem dL_law_1288 : decode cL_law 1288 = .ok (.iaload, 1) := by decide +kernel
theorem dL_law_1289 : decode cL_law 1289 = .ok (.aload_n 3, 1) := by decide +kernel
theorem dL_law_1290 : decode cL_law 1290 = .ok (.invokestatic 154, 3) := by decide +kernel
theorem dL_law_1293 : decode cL_law 1293 = .ok (.istore 5, 2) := by decide +kernel
theorem dL_law_1295 : decode cL_law 1295 = .ok (.aload_n 2, 1) := by decide +kernel
theorem dL_law_1296 : decode cL_law 1296 = .ok (.aload_n 0, 1) := by decide +kernel
theorem dL_law_1297 : decode cL_law 1297 = .ok (.iload 4, 2) := by decide +kernel
theorem dL_law_1299 : decode cL_law 1299 = .ok (.iconst 1, 1) := by decide +kernel
theorem dL_law_1300 : decode cL_law 1300 = .ok (.iadd, 1) := by decide +kernel
theorem dL_law_1301 : decode cL_law 1301 = .ok (.iaload, 1) := by decide +kernel
theorem dL_law_1302 : decode cL_law 1302 = .ok (.aload_n 0, 1) := by decide +kernel
theorem dL_law_1303 : decode cL_law 1303 = .ok (.iload 4, 2) := by decide +kernel
theorem dL_law_1305 : decode cL_law 1305 = .ok (.iconst 2, 1) := by decide +kernel
theorem dL_law_1306 : decode cL_law 1306 = .ok (.iadd, 1) := by decide +kernel
theorem dL_law_1307 : decode cL_law 1307 = .ok (.iaload, 1) := by decide +kernel
theorem dL_law_1308 : decode cL_law 1308 = .ok (.invokevirtual 156, 3) := by decide +kernel
theorem dL_law_1311 : decode cL_law 1311 = .ok (.istore 6, 2) := by decide +kernel
theorem dL_law_1313 : decode cL_law 1313 = .ok (.aload_n 2, 1) := by decide +kernel
theorem dL_law_1314 : decode cL_law 1314 = .ok (.invokevirtual 106, 3) := by decide +kernel
theorem dL_law_1317 : decode cL_law 1317 = .ok (.iload 5, 2) := by decide +kernel
theorem dL_law_1319 : decode cL_law 1319 = .ok (.if_icmp .eq 5, 3) := by decide +kernel
theorem dL_law_1322 : decode cL_law 1322 = .ok (.iconst 0, 1) := by decide +kernel
theorem dL_law_1323 : decode cL_law 1323 = .ok (.ireturn, 1) := by decide +kernel
theorem dL_law_1324 : decode cL_law 1324 = .ok (.iload 5, 2) := by decide +kernel
theorem dL_law_1326 : decode cL_law 1326 = .ok (.ifCond .ne 15, 3) := by decide +kernel
theorem dL_law_1329 : decode cL_law 1329 = .ok (.aload_n 3, 1) := by decide +kernel
theorem dL_law_1330 : decode cL_law 1330 = .ok (.iconst 0, 1) := by decide +kernel
theorem dL_law_1331 : decode cL_law 1331 = .ok (.laload, 1) := by decide +kernel
theorem dL_law_1332 : decode cL_law 1332 = .ok (.iload 6, 2) := by decide +kernel
theorem dL_law_1334 : decode cL_law 1334 = .ok (.i2l, 1) := by decide +kernel
theorem dL_law_1335 : decode cL_law 1335 = .ok (.lcmp, 1) := by decide +kernel
theorem dL_law_1336 : decode cL_law 1336 = .ok (.ifCond .eq 5, 3) := by decide +kernel
theorem dL_law_1339 : decode cL_law 1339 = .ok (.iconst 0, 1) := by decide +kernel
theorem dL_law_1340 : decode cL_law 1340 = .ok (.ireturn, 1) := by decide +kernel
theorem dL_law_1341 : decode cL_law 1341 = .ok (.goto 589, 3) := by decide +kernel
theorem dL_law_1344 : decode cL_law 1344 = .ok (.aload_n 1, 1) := by decide +kernel
theorem dL_law_1345 : decode cL_law 1345 = .ok (.aload_n 0, 1) := by decide +kernel
theorem dL_law_1346 : decode cL_law 1346 = .ok (.iload 4, 2) := by decide +kernel
theorem dL_law_1348 : decode cL_law 1348 = .ok (.iconst 1, 1) := by decide +kernel
theorem dL_law_1349 : decode cL_law 1349 = .ok (.iadd, 1) := by decide +kernel
theorem dL_law_1350 : decode cL_law 1350 = .ok (.iaload, 1) := by decide +kernel
theorem dL_law_1351 : decode cL_law 1351 = .ok (.aload_n 0, 1) := by decide +kernel
theorem dL_law_1352 : decode cL_law 1352 = .ok (.iload 4, 2) := by decide +kernel
theorem dL_law_1354 : decode cL_law 1354 = .ok (.iconst 2, 1) := by decide +kernel
theorem dL_law_1355 : decode cL_law 1355 = .ok (.iadd, 1) := by decide +kernel
theorem dL_law_1356 : decode cL_law 1356 = .ok (.iaload, 1) := by decide +kernel
theorem dL_law_1357 : decode cL_law 1357 = .ok (.aload_n 3, 1) := by decide +kernel
theorem dL_law_1358 : decode cL_law 1358 = .ok (.invokestatic 157, 3) := by decide +kernel
theorem dL_law_1361 : decode cL_law 1361 = .ok (.istore 5, 2) := by decide +kernel
theorem dL_law_1363 : decode cL_law 1363 = .ok (.aload_n 2, 1) := by decide +kernel
theorem dL_law_1364 : decode cL_law 1364 = .ok (.aload_n 0, 1) := by decide +kernel
theorem dL_law_1365 : decode cL_law 1365 = .ok (.iload 4, 2) := by decide +kernel
theorem dL_law_1367 : decode cL_law 1367 = .ok (.iconst 1, 1) := by decide +kernel
theorem dL_law_1368 : decode cL_law 1368 = .ok (.iadd, 1) := by decide +kernel
theorem dL_law_1369 : decode cL_law 1369 = .ok (.iaload, 1) := by decide +kernel
theorem dL_law_1370 : decode cL_law 1370 = .ok (.aload_n 0, 1) := by decide +kernel
theorem dL_law_1371 : decode cL_law 1371 = .ok (.iload 4, 2) := by decide +kernel
theorem dL_law_1373 : decode cL_law 1373 = .ok (.iconst 2, 1) := by decide +kernel
theorem dL_law_1374 : decode cL_law 1374 = .ok (.iadd, 1) := by decide +kernel
theorem dL_law_1375 : decode cL_law 1375 = .ok (.iaload, 1) := by decide +kernel
theorem dL_law_1376 : decode cL_law 1376 = .ok (.invokevirtual 159, 3) := by decide +kernel
theorem dL_law_1379 : decode cL_law 1379 = .ok (.istore 6, 2) := by decide +kernel
theorem dL_law_1381 : decode cL_law 1381 = .ok (.aload_n 2, 1) := by decide +kernel
theorem dL_law_1382 : decode cL_law 1382 = .ok (.invokevirtual 106, 3) := by decide +kernel
theorem dL_law_1385 : decode cL_law 1385 = .ok (.iload 5, 2) := by decide +kernel
theorem dL_law_1387 : decode cL_law 1387 = .ok (.if_icmp .eq 5, 3) := by decide +kernel
theorem dL_law_1390 : decode cL_law 1390 = .ok (.iconst 0, 1) := by decide +kernel
theorem dL_law_1391 : decode cL_law 1391 = .ok (.ireturn, 1) := by decide +kernel
theorem dL_law_1392 : decode cL_law 1392 = .ok (.iload 5, 2) := by decide +kernel
theorem dL_law_1394 : decode cL_law 1394 = .ok (.ifCond .ne 15, 3) := by decide +kernel
theorem dL_law_1397 : decode cL_law 1397 = .ok (.aload_n 3, 1) := by decide +kernel
theorem dL_law_1398 : decode cL_law 1398 = .ok (.iconst 0, 1) := by decide +kernel
theorem dL_law_1399 : decode cL_law 1399 = .ok (.laload, 1) := by decide +kernel
theorem dL_law_1400 : decode cL_law 1400 = .ok (.iload 6, 2) := by decide +kernel
theorem dL_law_1402 : decode cL_law 1402 = .ok (.i2l, 1) := by decide +kernel
theorem dL_law_1403 : decode cL_law 1403 = .ok (.lcmp, 1) := by decide +kernel
theorem dL_law_1404 : decode cL_law 1404 = .ok (.ifCond .eq 5, 3) := by decide +kernel
theorem dL_law_1407 : decode cL_law 1407 = .ok (.iconst 0, 1) := by decide +kernel
theorem dL_law_1408 : decode cL_law 1408 = .ok (.ireturn, 1) := by decide +kernel
theorem dL_law_1409 : decode cL_law 1409 = .ok (.goto 521, 3) := by decide +kernel
theorem dL_law_1412 : decode cL_law 1412 = .ok (.aload_n 1, 1) := by decide +kernel
theorem dL_law_1413 : decode cL_law 1413 = .ok (.aload_n 0, 1) := by decide +kernel
theorem dL_law_1414 : decode cL_law 1414 = .ok (.iload 4, 2) := by decide +kernel
theorem dL_law_1416 : decode cL_law 1416 = .ok (.iconst 1, 1) := by decide +kernel
theorem dL_law_1417 : decode cL_law 1417 = .ok (.iadd, 1) := by decide +kernel
theorem dL_law_1418 : decode cL_law 1418 = .ok (.iaload, 1) := by decide +kernel
theorem dL_law_1419 : decode cL_law 1419 = .ok (.aload_n 0, 1) := by decide +kernel
theorem dL_law_1420 : decode cL_law 1420 = .ok (.iload 4, 2) := by decide +kernel
theorem dL_law_1422 : decode cL_law 1422 = .ok (.iconst 2, 1) := by decide +kernel
theorem dL_law_1423 : decode cL_law 1423 = .ok (.iadd, 1) := by decide +kernel
theorem dL_law_1424 : decode cL_law 1424 = .ok (.iaload, 1) := by decide +kernel
theorem dL_law_1425 : decode cL_law 1425 = .ok (.aload_n 3, 1) := by decide +kernel
theorem dL_law_1426 : decode cL_law 1426 = .ok (.invokestatic 160, 3) := by decide +kernel
theorem dL_law_1429 : decode cL_law 1429 = .ok (.istore 5, 2) := by decide +kernel
theorem dL_law_1431 : decode cL_law 1431 = .ok (.aload_n 2, 1) := by decide +kernel
theorem dL_law_1432 : decode cL_law 1432 = .ok (.aload_n 0, 1) := by decide +kernel
theorem dL_law_1433 : decode cL_law 1433 = .ok (.iload 4, 2) := by decide +kernel
theorem dL_law_1435 : decode cL_law 1435 = .ok (.iconst 1, 1) := by decide +kernel
theorem dL_law_1436 : decode cL_law 1436 = .ok (.iadd, 1) := by decide +kernel
theorem dL_law_1437 : decode cL_law 1437 = .ok (.iaload, 1) := by decide +kernel
theorem dL_law_1438 : decode cL_law 1438 = .ok (.aload_n 0, 1) := by decide +kernel
theorem dL_law_1439 : decode cL_law 1439 = .ok (.iload 4, 2) := by decide +kernel
theorem dL_law_1441 : decode cL_law 1441 = .ok (.iconst 2, 1) := by decide +kernel
theorem dL_law_1442 : decode cL_law 1442 = .ok (.iadd, 1) := by decide +kernel
theorem dL_law_1443 : decode cL_law 1443 = .ok (.iaload, 1) := by decide +kernel
theorem dL_law_1444 : decode cL_law 1444 = .ok (.invokevirtual 162, 3) := by decide +kernel
theorem dL_law_1447 : decode cL_law 1447 = .ok (.istore 6, 2) := by decide +kernel
theorem dL_law_1449 : decode cL_law 1449 = .ok (.aload_n 2, 1) := by decide +kernel
theorem dL_law_1450 : decode cL_law 1450 = .ok (.invokevirtual 106, 3) := by decide +kernel
theorem dL_law_1453 : decode cL_law 1453 = .ok (.iload 5, 2) := by decide +kernel
theorem dL_law_1455 : decode cL_law 1455 = .ok (.if_icmp .eq 5, 3) := by decide +kernel
theorem dL_law_1458 : decode cL_law 1458 = .ok (.iconst 0, 1) := by decide +kernel
theorem dL_law_1459 : decode cL_law 1459 = .ok (.ireturn, 1) := by decide +kernel
theorem dL_law_1460 : decode cL_law 1460 = .ok (.iload 5, 2) := by decide +kernel
theorem dL_law_1462 : decode cL_law 1462 = .ok (.ifCond .ne 15, 3) := by decide +kernel
theorem dL_law_1465 : decode cL_law 1465 = .ok (.aload_n 3, 1) := by decide +kernel
theorem dL_law_1466 : decode cL_law 1466 = .ok (.iconst 0, 1) := by decide +kernel
theorem dL_law_1467 : decode cL_law 1467 = .ok (.laload, 1) := by decide +kernel
theorem dL_law_1468 : decode cL_law 1468 = .ok (.iload 6, 2) := by decide +kernel
theorem dL_law_1470 : decode cL_law 1470 = .ok (.i2l, 1) := by decide +kernel
theorem dL_law_1471 : decode cL_law 1471 = .ok (.lcmp, 1) := by decide +kernel
theorem dL_law_1472 : decode cL_law 1472 = .ok (.ifCond .eq 5, 3) := by decide +kernel
theorem dL_law_1475 : decode cL_law 1475 = .ok (.iconst 0, 1) := by decide +kernel
theorem dL_law_1476 : decode cL_law 1476 = .ok (.ireturn, 1) := by decide +kernel
theorem dL_law_1477 : decode cL_law 1477 = .ok (.goto 453, 3) := by decide +kernel
theorem dL_law_1480 : decode cL_law 1480 = .ok (.aload_n 1, 1) := by decide +kernel
theorem dL_law_1481 : decode cL_law 1481 = .ok (.aload_n 0, 1) := by decide +kernel
theorem dL_law_1482 : decode cL_law 1482 = .ok (.iload 4, 2) := by decide +kernel
theorem dL_law_1484 : decode cL_law 1484 = .ok (.iconst 1, 1) := by decide +kernel
theorem dL_law_1485 : decode cL_law 1485 = .ok (.iadd, 1) := by decide +kernel
theorem dL_law_1486 : decode cL_law 1486 = .ok (.iaload, 1) := by decide +kernel
theorem dL_law_1487 : decode cL_law 1487 = .ok (.aload_n 0, 1) := by decide +kernel
theorem dL_law_1488 : decode cL_law 1488 = .ok (.iload 4, 2) := by decide +kernel
theorem dL_law_1490 : decode cL_law 1490 = .ok (.iconst 2, 1) := by decide +kernel
theorem dL_law_1491 : decode cL_law 1491 = .ok (.iadd, 1) := by decide +kernel
theorem dL_law_1492 : decode cL_law 1492 = .ok (.iaload, 1) := by decide +kernel
theorem dL_law_1493 : decode cL_law 1493 = .ok (.aload_n 3, 1) := by decide +kernel
theorem dL_law_1494 : decode cL_law 1494 = .ok (.invokestatic 163, 3) := by decide +kernel
theorem dL_law_1497 : decode cL_law 1497 = .ok (.istore 5, 2) := by decide +kernel
theorem dL_law_1499 : decode cL_law 1499 = .ok (.aload_n 2, 1) := by decide +kernel
theorem dL_law_1500 : decode cL_law 1500 = .ok (.aload_n 0, 1) := by decide +kernel
theorem dL_law_1501 : decode cL_law 1501 = .ok (.iload 4, 2) := by decide +kernel
theorem dL_law_1503 : decode cL_law 1503 = .ok (.iconst 1, 1) := by decide +kernel
theorem dL_law_1504 : decode cL_law 1504 = .ok (.iadd, 1) := by decide +kernel
theorem dL_law_1505 : decode cL_law 1505 = .ok (.iaload, 1) := by decide +kernel
theorem dL_law_1506 : decode cL_law 1506 = .ok (.aload_n 0, 1) := by decide +kernel
theorem dL_law_1507 : decode cL_law 1507 = .ok (.iload 4, 2) := by decide +kernel
theorem dL_law_1509 : decode cL_law 1509 = .ok (.iconst 2, 1) := by decide +kernel
theorem dL_law_1510 : decode cL_law 1510 = .ok (.iadd, 1) := by decide +kernel
theorem dL_law_1511 : decode cL_law 1511 = .ok (.iaload, 1) := by decide +kernel
theorem dL_law_1512 : decode cL_law 1512 = .ok (.invokevirtual 165, 3) := by decide +kernel
theorem dL_law_1515 : decode cL_law 1515 = .ok (.istore 6, 2) := by decide +kernel
theorem dL_law_1517 : decode cL_law 1517 = .ok (.aload_n 2, 1) := by decide +kernel
theorem dL_law_1518 : decode cL_law 1518 = .ok (.invokevirtual 106, 3) := by decide +kernel
theorem dL_law_1521 : decode cL_law 1521 = .ok (.iload 5, 2) := by decide +kernel
theorem dL_law_1523 : decode cL_law 1523 = .ok (.if_icmp .eq 5, 3) := by decide +kernel
theorem dL_law_1526 : decode cL_law 1526 = .ok (.iconst 0, 1) := by decide +kernel
theorem dL_law_1527 : decode cL_law 1527 = .ok (.ireturn, 1) := by decide +kernel
theorem dL_law_1528 : decode cL_law 1528 = .ok (.iload 5, 2) := by decide +kernel
theorem dL_law_1530 : decode cL_law 1530 = .ok (.ifCond .ne 15, 3) := by decide +kernel
theorem dL_law_1533 : decode cL_law 1533 = .ok (.aload_n 3, 1) := by decide +kernel
theorem dL_law_1534 : decode cL_law 1534 = .ok (.iconst 0, 1) := by decide +kernel
theorem dL_law_1535 : decode cL_law 1535 = .ok (.laload, 1) := by decide +kernel
theorem dL_law_1536 : decode cL_law 1536 = .ok (.iload 6, 2) := by decide +kernel
theorem dL_law_1538 : decode cL_law 1538 = .ok (.i2l, 1) := by decide +kernel
theorem dL_law_1539 : decode cL_law 1539 = .ok (.lcmp, 1) := by decide +kernel
theorem dL_law_1540 : decode cL_law 1540 = .ok (.ifCond .eq 5, 3) := by decide +kernel
theorem dL_law_1543 : decode cL_law 1543 = .ok (.iconst 0, 1) := by decide +kernel
theorem dL_law_1544 : decode cL_law 1544 = .ok (.ireturn, 1) := by decide +kernel
theorem dL_law_1545 : decode cL_law 1545 = .ok (.goto 385, 3) := by decide +kernel
theorem dL_law_1548 : decode cL_law 1548 = .ok (.aload_n 1, 1) := by decide +kernel
theorem dL_law_1549 : decode cL_law 1549 = .ok (.aload_n 0, 1) := by decide +kernel
theorem dL_law_1550 : decode cL_law 1550 = .ok (.iload 4, 2) := by decide +kernel
theorem dL_law_1552 : decode cL_law 1552 = .ok (.iconst 1, 1) := by decide +kernel
theorem dL_law_1553 : decode cL_law 1553 = .ok (.iadd, 1) := by decide +kernel
theorem dL_law_1554 : decode cL_law 1554 = .ok (.iaload, 1) := by decide +kernel
theorem dL_law_1555 : decode cL_law 1555 = .ok (.aload_n 0, 1) := by decide +kernel
theorem dL_law_1556 : decode cL_law 1556 = .ok (.iload 4, 2) := by decide +kernel
theorem dL_law_1558 : decode cL_law 1558 = .ok (.iconst 2, 1) := by decide +kernel
theorem dL_law_1559 : decode cL_law 1559 = .ok (.iadd, 1) := by decide +kernel
theorem dL_law_1560 : decode cL_law 1560 = .ok (.iaload, 1) := by decide +kernel
theorem dL_law_1561 : decode cL_law 1561 = .ok (.aload_n 3, 1) := by decide +kernel
theorem dL_law_1562 : decode cL_law 1562 = .ok (.invokestatic 166, 3) := by decide +kernel
theorem dL_law_1565 : decode cL_law 1565 = .ok (.istore 5, 2) := by decide +kernel
theorem dL_law_1567 : decode cL_law 1567 = .ok (.aload_n 2, 1) := by decide +kernel
theorem dL_law_1568 : decode cL_law 1568 = .ok (.aload_n 0, 1) := by decide +kernel
theorem dL_law_1569 : decode cL_law 1569 = .ok (.iload 4, 2) := by decide +kernel
theorem dL_law_1571 : decode cL_law 1571 = .ok (.iconst 1, 1) := by decide +kernel
theorem dL_law_1572 : decode cL_law 1572 = .ok (.iadd, 1) := by decide +kernel
theorem dL_law_1573 : decode cL_law 1573 = .ok (.iaload, 1) := by decide +kernel
theorem dL_law_1574 : decode cL_law 1574 = .ok (.aload_n 0, 1) := by decide +kernel
theorem dL_law_1575 : decode cL_law 1575 = .ok (.iload 4, 2) := by decide +kernel
theorem dL_law_1577 : decode cL_law 1577 = .ok (.iconst 2, 1) := by decide +kernel
theorem dL_law_1578 : decode cL_law 1578 = .ok (.iadd, 1) := by decide +kernel
theorem dL_law_1579 : decode cL_law 1579 = .ok (.iaload, 1) := by decide +kernel
theorem dL_law_1580 : decode cL_law 1580 = .ok (.invokevirtual 168, 3) := by decide +kernel
theorem dL_law_1583 : decode cL_law 1583 = .ok (.istore 6, 2) := by decide +kernel
theorem dL_law_1585 : decode cL_law 1585 = .ok (.aload_n 2, 1) := by decide +kernel
theorem dL_law_1586 : decode cL_law 1586 = .ok (.invokevirtual 106, 3) := by decide +kernel
theorem dL_law_1589 : decode cL_law 1589 = .ok (.iload 5, 2) := by decide +kernel
theorem dL_law_1591 : decode cL_law 1591 = .ok (.if_icmp .eq 5, 3) := by decide +kernel
theorem dL_law_1594 : decode cL_law 1594 = .ok (.iconst 0, 1) := by decide +kernel
theorem dL_law_1595 : decode cL_law 1595 = .ok (.ireturn, 1) := by decide +kernel
theorem dL_law_1596 : decode cL_law 1596 = .ok (.iload 5, 2) := by decide +kernel
theorem dL_law_1598 : decode cL_law 1598 = .ok (.ifCond .ne 15, 3) := by decide +kernel
theorem dL_law_1601 : decode cL_law 1601 = .ok (.aload_n 3, 1) := by decide +kernel
theorem dL_law_1602 : decode cL_law 1602 = .ok (.iconst 0, 1) := by decide +kernel
theorem dL_law_1603 : decode cL_law 1603 = .ok (.laload, 1) := by decide +kernel
theorem dL_law_1604 : decode cL_law 1604 = .ok (.iload 6, 2) := by decide +kernel
theorem dL_law_1606 : decode cL_law 1606 = .ok (.i2l, 1) := by decide +kernel
theorem dL_law_1607 : decode cL_law 1607 = .ok (.lcmp, 1) := by decide +kernel
theorem dL_law_1608 : decode cL_law 1608 = .ok (.ifCond .eq 5, 3) := by decide +kernel
theorem dL_law_1611 : decode cL_law 1611 = .ok (.iconst 0, 1) := by decide +kernel
theorem dL_law_1612 : decode cL_law 1612 = .ok (.ireturn, 1) := by decide +kernel
theorem dL_law_1613 : decode cL_law 1613 = .ok (.goto 317, 3) := by decide +kernel
theorem dL_law_1616 : decode cL_law 1616 = .ok (.aload_n 1, 1) := by decide +kernel
theorem dL_law_1617 : decode cL_law 1617 = .ok (.aload_n 0, 1) := by decide +kernel
theorem dL_law_1618 : decode cL_law 1618 = .ok (.iload 4, 2) := by decide +kernel
theorem dL_law_1620 : decode cL_law 1620 = .ok (.iconst 1, 1) := by decide +kernel
theorem dL_law_1621 : decode cL_law 1621 = .ok (.iadd, 1) := by decide +kernel
theorem dL_law_1622 : decode cL_law 1622 = .ok (.iaload, 1) := by decide +kernel
theorem dL_law_1623 : decode cL_law 1623 = .ok (.aload_n 0, 1) := by decide +kernel
theorem dL_law_1624 : decode cL_law 1624 = .ok (.iload 4, 2) := by decide +kernel
theorem dL_law_1626 : decode cL_law 1626 = .ok (.iconst 2, 1) := by decide +kernel
theorem dL_law_1627 : decode cL_law 1627 = .ok (.iadd, 1) := by decide +kernel
theorem dL_law_1628 : decode cL_law 1628 = .ok (.iaload, 1) := by decide +kernel
theorem dL_law_1629 : decode cL_law 1629 = .ok (.aload_n 3, 1) := by decide +kernel
theorem dL_law_1630 : decode cL_law 1630 = .ok (.invokestatic 169, 3) := by decide +kernel
theorem dL_law_1633 : decode cL_law 1633 = .ok (.istore 5, 2) := by decide +kernel
theorem dL_law_1635 : decode cL_law 1635 = .ok (.aload_n 2, 1) := by decide +kernel
theorem dL_law_1636 : decode cL_law 1636 = .ok (.aload_n 0, 1) := by decide +kernel
theorem dL_law_1637 : decode cL_law 1637 = .ok (.iload 4, 2) := by decide +kernel
theorem dL_law_1639 : decode cL_law 1639 = .ok (.iconst 1, 1) := by decide +kernel
theorem dL_law_1640 : decode cL_law 1640 = .ok (.iadd, 1) := by decide +kernel
theorem dL_law_1641 : decode cL_law 1641 = .ok (.iaload, 1) := by decide +kernel
theorem dL_law_1642 : decode cL_law 1642 = .ok (.aload_n 0, 1) := by decide +kernel
theorem dL_law_1643 : decode cL_law 1643 = .ok (.iload 4, 2) := by decide +kernel
theorem dL_law_1645 : decode cL_law 1645 = .ok (.iconst 2, 1) := by decide +kernel
theorem dL_law_1646 : decode cL_law 1646 = .ok (.iadd, 1) := by decide +kernel
theorem dL_law_1647 : decode cL_law 1647 = .ok (.iaload, 1) := by decide +kernel
theorem dL_law_1648 : decode cL_law 1648 = .ok (.invokevirtual 171, 3) := by decide +kernel
theorem dL_law_1651 : decode cL_law 1651 = .ok (.istore 6, 2) := by decide +kernel
theorem dL_law_1653 : decode cL_law 1653 = .ok (.aload_n 2, 1) := by decide +kernel
theorem dL_law_1654 : decode cL_law 1654 = .ok (.invokevirtual 106, 3) := by decide +kernel
theorem dL_law_1657 : decode cL_law 1657 = .ok (.iload 5, 2) := by decide +kernel
theorem dL_law_1659 : decode cL_law 1659 = .ok (.if_icmp .eq 5, 3) := by decide +kernel
theorem dL_law_1662 : decode cL_law 1662 = .ok (.iconst 0, 1) := by decide +kernel
theorem dL_law_1663 : decode cL_law 1663 = .ok (.ireturn, 1) := by decide +kernel
theorem dL_law_1664 : decode cL_law 1664 = .ok (.iload 5, 2) := by decide +kernel
theorem dL_law_1666 : decode cL_law 1666 = .ok (.ifCond .ne 22, 3) := by decide +kernel
theorem dL_law_1669 : decode cL_law 1669 = .ok (.aload_n 3, 1) := by decide +kernel
theorem dL_law_1670 : decode cL_law 1670 = .ok (.iconst 0, 1) := by decide +kernel
theorem dL_law_1671 : decode cL_law 1671 = .ok (.laload, 1) := by decide +kernel
theorem dL_law_1672 : decode cL_law 1672 = .ok (.iload 6, 2) := by decide +kernel
theorem dL_law_1674 : decode cL_law 1674 = .ok (.ifCond .eq 7, 3) := by decide +kernel
theorem dL_law_1677 : decode cL_law 1677 = .ok (.lconst 1, 1) := by decide +kernel
theorem dL_law_1678 : decode cL_law 1678 = .ok (.goto 4, 3) := by decide +kernel
theorem dL_law_1681 : decode cL_law 1681 = .ok (.lconst 0, 1) := by decide +kernel
theorem dL_law_1682 : decode cL_law 1682 = .ok (.lcmp, 1) := by decide +kernel
theorem dL_law_1683 : decode cL_law 1683 = .ok (.ifCond .eq 5, 3) := by decide +kernel
theorem dL_law_1686 : decode cL_law 1686 = .ok (.iconst 0, 1) := by decide +kernel
theorem dL_law_1687 : decode cL_law 1687 = .ok (.ireturn, 1) := by decide +kernel
theorem dL_law_1688 : decode cL_law 1688 = .ok (.goto 242, 3) := by decide +kernel
theorem dL_law_1691 : decode cL_law 1691 = .ok (.aload_n 1, 1) := by decide +kernel
theorem dL_law_1692 : decode cL_law 1692 = .ok (.aload_n 0, 1) := by decide +kernel
theorem dL_law_1693 : decode cL_law 1693 = .ok (.iload 4, 2) := by decide +kernel
theorem dL_law_1695 : decode cL_law 1695 = .ok (.iconst 1, 1) := by decide +kernel
theorem dL_law_1696 : decode cL_law 1696 = .ok (.iadd, 1) := by decide +kernel
theorem dL_law_1697 : decode cL_law 1697 = .ok (.iaload, 1) := by decide +kernel
theorem dL_law_1698 : decode cL_law 1698 = .ok (.aload_n 3, 1) := by decide +kernel
theorem dL_law_1699 : decode cL_law 1699 = .ok (.invokestatic 172, 3) := by decide +kernel
theorem dL_law_1702 : decode cL_law 1702 = .ok (.istore 5, 2) := by decide +kernel
theorem dL_law_1704 : decode cL_law 1704 = .ok (.aload_n 2, 1) := by decide +kernel
theorem dL_law_1705 : decode cL_law 1705 = .ok (.aload_n 0, 1) := by decide +kernel
theorem dL_law_1706 : decode cL_law 1706 = .ok (.iload 4, 2) := by decide +kernel
theorem dL_law_1708 : decode cL_law 1708 = .ok (.iconst 1, 1) := by decide +kernel
theorem dL_law_1709 : decode cL_law 1709 = .ok (.iadd, 1) := by decide +kernel
theorem dL_law_1710 : decode cL_law 1710 = .ok (.iaload, 1) := by decide +kernel
theorem dL_law_1711 : decode cL_law 1711 = .ok (.invokevirtual 174, 3) := by decide +kernel
theorem dL_law_1714 : decode cL_law 1714 = .ok (.istore 6, 2) := by decide +kernel
theorem dL_law_1716 : decode cL_law 1716 = .ok (.aload_n 2, 1) := by decide +kernel
theorem dL_law_1717 : decode cL_law 1717 = .ok (.invokevirtual 106, 3) := by decide +kernel
theorem dL_law_1720 : decode cL_law 1720 = .ok (.iload 5, 2) := by decide +kernel
theorem dL_law_1722 : decode cL_law 1722 = .ok (.if_icmp .eq 5, 3) := by decide +kernel
theorem dL_law_1725 : decode cL_law 1725 = .ok (.iconst 0, 1) := by decide +kernel
theorem dL_law_1726 : decode cL_law 1726 = .ok (.ireturn, 1) := by decide +kernel
theorem dL_law_1727 : decode cL_law 1727 = .ok (.iload 5, 2) := by decide +kernel
theorem dL_law_1729 : decode cL_law 1729 = .ok (.ifCond .ne 15, 3) := by decide +kernel
theorem dL_law_1732 : decode cL_law 1732 = .ok (.aload_n 3, 1) := by decide +kernel
theorem dL_law_1733 : decode cL_law 1733 = .ok (.iconst 0, 1) := by decide +kernel
theorem dL_law_1734 : decode cL_law 1734 = .ok (.laload, 1) := by decide +kernel
theorem dL_law_1735 : decode cL_law 1735 = .ok (.iload 6, 2) := by decide +kernel
theorem dL_law_1737 : decode cL_law 1737 = .ok (.i2l, 1) := by decide +kernel
theorem dL_law_1738 : decode cL_law 1738 = .ok (.lcmp, 1) := by decide +kernel
theorem dL_law_1739 : decode cL_law 1739 = .ok (.ifCond .eq 5, 3) := by decide +kernel
theorem dL_law_1742 : decode cL_law 1742 = .ok (.iconst 0, 1) := by decide +kernel
theorem dL_law_1743 : decode cL_law 1743 = .ok (.ireturn, 1) := by decide +kernel
theorem dL_law_1744 : decode cL_law 1744 = .ok (.goto 186, 3) := by decide +kernel
theorem dL_law_1747 : decode cL_law 1747 = .ok (.aload_n 1, 1) := by decide +kernel
theorem dL_law_1748 : decode cL_law 1748 = .ok (.aload_n 0, 1) := by decide +kernel
theorem dL_law_1749 : decode cL_law 1749 = .ok (.iload 4, 2) := by decide +kernel
theorem dL_law_1751 : decode cL_law 1751 = .ok (.iconst 1, 1) := by decide +kernel
theorem dL_law_1752 : decode cL_law 1752 = .ok (.iadd, 1) := by decide +kernel
theorem dL_law_1753 : decode cL_law 1753 = .ok (.iaload, 1) := by decide +kernel
theorem dL_law_1754 : decode cL_law 1754 = .ok (.aload_n 3, 1) := by decide +kernel
theorem dL_law_1755 : decode cL_law 1755 = .ok (.invokestatic 175, 3) := by decide +kernel
theorem dL_law_1758 : decode cL_law 1758 = .ok (.istore 5, 2) := by decide +kernel
theorem dL_law_1760 : decode cL_law 1760 = .ok (.aload_n 2, 1) := by decide +kernel
theorem dL_law_1761 : decode cL_law 1761 = .ok (.aload_n 0, 1) := by decide +kernel
theorem dL_law_1762 : decode cL_law 1762 = .ok (.iload 4, 2) := by decide +kernel
theorem dL_law_1764 : decode cL_law 1764 = .ok (.iconst 1, 1) := by decide +kernel
theorem dL_law_1765 : decode cL_law 1765 = .ok (.iadd, 1) := by decide +kernel
theorem dL_law_1766 : decode cL_law 1766 = .ok (.iaload, 1) := by decide +kernel
theorem dL_law_1767 : decode cL_law 1767 = .ok (.invokevirtual 177, 3) := by decide +kernel
theorem dL_law_1770 : decode cL_law 1770 = .ok (.istore 6, 2) := by decide +kernel
theorem dL_law_1772 : decode cL_law 1772 = .ok (.aload_n 2, 1) := by decide +kernel
theorem dL_law_1773 : decode cL_law 1773 = .ok (.invokevirtual 106, 3) := by decide +kernel
theorem dL_law_1776 : decode cL_law 1776 = .ok (.iload 5, 2) := by decide +kernel
theorem dL_law_1778 : decode cL_law 1778 = .ok (.if_icmp .eq 5, 3) := by decide +kernel
theorem dL_law_1781 : decode cL_law 1781 = .ok (.iconst 0, 1) := by decide +kernel
theorem dL_law_1782 : decode cL_law 1782 = .ok (.ireturn, 1) := by decide +kernel
theorem dL_law_1783 : decode cL_law 1783 = .ok (.iload 5, 2) := by decide +kernel
theorem dL_law_1785 : decode cL_law 1785 = .ok (.ifCond .ne 15, 3) := by decide +kernel
theorem dL_law_1788 : decode cL_law 1788 = .ok (.aload_n 3, 1) := by decide +kernel
theorem dL_law_1789 : decode cL_law 1789 = .ok (.iconst 0, 1) := by decide +kernel
theorem dL_law_1790 : decode cL_law 1790 = .ok (.laload, 1) := by decide +kernel
theorem dL_law_1791 : decode cL_law 1791 = .ok (.iload 6, 2) := by decide +kernel
theorem dL_law_1793 : decode cL_law 1793 = .ok (.i2l, 1) := by decide +kernel
theorem dL_law_1794 : decode cL_law 1794 = .ok (.lcmp, 1) := by decide +kernel
theorem dL_law_1795 : decode cL_law 1795 = .ok (.ifCond .eq 5, 3) := by decide +kernel
theorem dL_law_1798 : decode cL_law 1798 = .ok (.iconst 0, 1) := by decide +kernel
theorem dL_law_1799 : decode cL_law 1799 = .ok (.ireturn, 1) := by decide +kernel
theorem dL_law_1800 : decode cL_law 1800 = .ok (.goto 130, 3) := by decide +kernel
theorem dL_law_1803 : decode cL_law 1803 = .ok (.aload_n 1, 1) := by decide +kernel
theorem dL_law_1804 : decode cL_law 1804 = .ok (.invokevirtual 178, 3) := by decide +kernel
theorem dL_law_1807 : decode cL_law 1807 = .ok (.aload_n 2, 1) := by decide +kernel
theorem dL_law_1808 : decode cL_law 1808 = .ok (.invokevirtual 181, 3) := by decide +kernel
theorem dL_law_1811 : decode cL_law 1811 = .ok (.if_icmp .eq 119, 3) := by decide +kernel
theorem dL_law_1814 : decode cL_law 1814 = .ok (.iconst 0, 1) := by decide +kernel
theorem dL_law_1815 : decode cL_law 1815 = .ok (.ireturn, 1) := by decide +kernel
theorem dL_law_1816 : decode cL_law 1816 = .ok (.aload_n 1, 1) := by decide +kernel
theorem dL_law_1817 : decode cL_law 1817 = .ok (.aload_n 0, 1) := by decide +kernel
theorem dL_law_1818 : decode cL_law 1818 = .ok (.iload 4, 2) := by decide +kernel
theorem dL_law_1820 : decode cL_law 1820 = .ok (.iconst 1, 1) := by decide +kernel
theorem dL_law_1821 : decode cL_law 1821 = .ok (.iadd, 1) := by decide +kernel
theorem dL_law_1822 : decode cL_law 1822 = .ok (.iaload, 1) := by decide +kernel
theorem dL_law_1823 : decode cL_law 1823 = .ok (.aload_n 3, 1) := by decide +kernel
theorem dL_law_1824 : decode cL_law 1824 = .ok (.invokestatic 182, 3) := by decide +kernel
theorem dL_law_1827 : decode cL_law 1827 = .ok (.istore 5, 2) := by decide +kernel
theorem dL_law_1829 : decode cL_law 1829 = .ok (.aload_n 2, 1) := by decide +kernel
theorem dL_law_1830 : decode cL_law 1830 = .ok (.aload_n 0, 1) := by decide +kernel
theorem dL_law_1831 : decode cL_law 1831 = .ok (.iload 4, 2) := by decide +kernel
theorem dL_law_1833 : decode cL_law 1833 = .ok (.iconst 1, 1) := by decide +kernel
theorem dL_law_1834 : decode cL_law 1834 = .ok (.iadd, 1) := by decide +kernel
theorem dL_law_1835 : decode cL_law 1835 = .ok (.iaload, 1) := by decide +kernel
theorem dL_law_1836 : decode cL_law 1836 = .ok (.invokevirtual 184, 3) := by decide +kernel
theorem dL_law_1839 : decode cL_law 1839 = .ok (.istore 6, 2) := by decide +kernel
theorem dL_law_1841 : decode cL_law 1841 = .ok (.aload_n 2, 1) := by decide +kernel
theorem dL_law_1842 : decode cL_law 1842 = .ok (.invokevirtual 106, 3) := by decide +kernel
theorem dL_law_1845 : decode cL_law 1845 = .ok (.iload 5, 2) := by decide +kernel
theorem dL_law_1847 : decode cL_law 1847 = .ok (.if_icmp .eq 5, 3) := by decide +kernel
theorem dL_law_1850 : decode cL_law 1850 = .ok (.iconst 0, 1) := by decide +kernel
theorem dL_law_1851 : decode cL_law 1851 = .ok (.ireturn, 1) := by decide +kernel
theorem dL_law_1852 : decode cL_law 1852 = .ok (.iload 5, 2) := by decide +kernel
theorem dL_law_1854 : decode cL_law 1854 = .ok (.ifCond .ne 15, 3) := by decide +kernel
theorem dL_law_1857 : decode cL_law 1857 = .ok (.aload_n 3, 1) := by decide +kernel
theorem dL_law_1858 : decode cL_law 1858 = .ok (.iconst 0, 1) := by decide +kernel
theorem dL_law_1859 : decode cL_law 1859 = .ok (.laload, 1) := by decide +kernel
theorem dL_law_1860 : decode cL_law 1860 = .ok (.iload 6, 2) := by decide +kernel
theorem dL_law_1862 : decode cL_law 1862 = .ok (.i2l, 1) := by decide +kernel
theorem dL_law_1863 : decode cL_law 1863 = .ok (.lcmp, 1) := by decide +kernel
theorem dL_law_1864 : decode cL_law 1864 = .ok (.ifCond .eq 5, 3) := by decide +kernel
theorem dL_law_1867 : decode cL_law 1867 = .ok (.iconst 0, 1) := by decide +kernel
theorem dL_law_1868 : decode cL_law 1868 = .ok (.ireturn, 1) := by decide +kernel
theorem dL_law_1869 : decode cL_law 1869 = .ok (.goto 61, 3) := by decide +kernel
theorem dL_law_1872 : decode cL_law 1872 = .ok (.aload_n 1, 1) := by decide +kernel
theorem dL_law_1873 : decode cL_law 1873 = .ok (.aload_n 3, 1) := by decide +kernel
theorem dL_law_1874 : decode cL_law 1874 = .ok (.invokestatic 185, 3) := by decide +kernel
theorem dL_law_1877 : decode cL_law 1877 = .ok (.istore 5, 2) := by decide +kernel
theorem dL_law_1879 : decode cL_law 1879 = .ok (.aload_n 2, 1) := by decide +kernel
theorem dL_law_1880 : decode cL_law 1880 = .ok (.invokevirtual 188, 3) := by decide +kernel
theorem dL_law_1883 : decode cL_law 1883 = .ok (.istore 6, 2) := by decide +kernel
theorem dL_law_1885 : decode cL_law 1885 = .ok (.aload_n 2, 1) := by decide +kernel
theorem dL_law_1886 : decode cL_law 1886 = .ok (.invokevirtual 106, 3) := by decide +kernel
theorem dL_law_1889 : decode cL_law 1889 = .ok (.iload 5, 2) := by decide +kernel
theorem dL_law_1891 : decode cL_law 1891 = .ok (.if_icmp .eq 5, 3) := by decide +kernel
theorem dL_law_1894 : decode cL_law 1894 = .ok (.iconst 0, 1) := by decide +kernel
theorem dL_law_1895 : decode cL_law 1895 = .ok (.ireturn, 1) := by decide +kernel
theorem dL_law_1896 : decode cL_law 1896 = .ok (.iload 5, 2) := by decide +kernel
theorem dL_law_1898 : decode cL_law 1898 = .ok (.ifCond .ne 15, 3) := by decide +kernel
theorem dL_law_1901 : decode cL_law 1901 = .ok (.aload_n 3, 1) := by decide +kernel
theorem dL_law_1902 : decode cL_law 1902 = .ok (.iconst 0, 1) := by decide +kernel
theorem dL_law_1903 : decode cL_law 1903 = .ok (.laload, 1) := by decide +kernel
theorem dL_law_1904 : decode cL_law 1904 = .ok (.iload 6, 2) := by decide +kernel
theorem dL_law_1906 : decode cL_law 1906 = .ok (.i2l, 1) := by decide +kernel
theorem dL_law_1907 : decode cL_law 1907 = .ok (.lcmp, 1) := by decide +kernel
theorem dL_law_1908 : decode cL_law 1908 = .ok (.ifCond .eq 5, 3) := by decide +kernel
theorem dL_law_1911 : decode cL_law 1911 = .ok (.iconst 0, 1) := by decide +kernel
theorem dL_law_1912 : decode cL_law 1912 = .ok (.ireturn, 1) := by decide +kernel
theorem dL_law_1913 : decode cL_law 1913 = .ok (.goto 17, 3) := by decide +kernel
theorem dL_law_1916 : decode cL_law 1916 = .ok (.aload_n 1, 1) := by decide +kernel
theorem dL_law_1917 : decode cL_law 1917 = .ok (.invokevirtual 189, 3) := by decide +kernel
theorem dL_law_1920 : decode cL_law 1920 = .ok (.aload_n 2, 1) := by decide +kernel
theorem dL_law_1921 : decode cL_law 1921 = .ok (.invokevirtual 193, 3) := by decide +kernel
theorem dL_law_1924 : decode cL_law 1924 = .ok (.lcmp, 1) := by decide +kernel
theorem dL_law_1925 : decode cL_law 1925 = .ok (.ifCond .eq 5, 3) := by decide +kernel
theorem dL_law_1928 : decode cL_law 1928 = .ok (.iconst 0, 1) := by decide +kernel
theorem dL_law_1929 : decode cL_law 1929 = .ok (.ireturn, 1) := by decide +kernel
theorem dL_law_1930 : decode cL_law 1930 = .ok (.iinc 4 6, 3) := by decide +kernel
theorem dL_law_1933 : decode cL_law 1933 = .ok (.goto (-1910), 3) := by decide +kernel
theorem dL_law_1936 : decode cL_law 1936 = .ok (.iconst 1, 1) := by decide +kernel
theorem dL_law_1937 : decode cL_law 1937 = .ok (.ireturn, 1) := by decide +kernel

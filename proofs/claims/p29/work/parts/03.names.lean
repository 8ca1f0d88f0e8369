def RX0 : String := "SeriesBench$Automaton"
def TX0 : u_T := fun k => match k with
  | 0 => ("SeriesBench$Automaton", "size", "I", false)
  | 1 => ("SeriesBench$Automaton", "initial", "[I", true)
  | 2 => ("SeriesBench$Automaton", "last", "[I", true)
  | _ => ("SeriesBench$Automaton", "matrix", "[[I", true)
def tyX0 : Nat → FieldType := fun k => match k with
  | 0 => .int
  | 1 => .array .int
  | 2 => .array .int
  | _ => .array (.array .int)
theorem nmX0 : ∀ a, a < 4 → ∀ b, b < 4 → a ≠ b → (TX0 a).2.1 ≠ (TX0 b).2.1 := by decide +kernel
theorem tyX0_ok : ∀ k, k < 4 → parseFieldDescriptor (TX0 k).2.2.1 = some (tyX0 k) := by decide +kernel
abbrev cX0_init : ByteArray := prog_2_method_1_code
def yX0_init : MethodName := ⟨RX0, "<init>", "(I)V"⟩
abbrev cX0_clear : ByteArray := prog_2_method_3_code
def yX0_clear : MethodName := ⟨RX0, "clear", "(I)V"⟩
abbrev cX0_copyFrom : ByteArray := prog_2_method_4_code
def yX0_copyFrom : MethodName := ⟨RX0, "copyFrom", "(LSeriesBench$Automaton;)V"⟩
abbrev cX0_draw : ByteArray := prog_2_method_5_code
def yX0_draw : MethodName := ⟨RX0, "draw", "(II)V"⟩
abbrev cX0_nextDraw : ByteArray := prog_2_method_6_code
def yX0_nextDraw : MethodName := ⟨RX0, "nextDraw", "(J)J"⟩
abbrev cX0_drawn : ByteArray := prog_2_method_7_code
def yX0_drawn : MethodName := ⟨RX0, "drawn", "(J)I"⟩
abbrev cX0_becomeSum : ByteArray := prog_2_method_10_code
def yX0_becomeSum : MethodName := ⟨RX0, "becomeSum", "(LSeriesBench$Automaton;LSeriesBench$Automaton;)V"⟩
abbrev cX0_becomeDifference : ByteArray := prog_2_method_11_code
def yX0_becomeDifference : MethodName := ⟨RX0, "becomeDifference", "(LSeriesBench$Automaton;LSeriesBench$Automaton;)V"⟩
abbrev cX0_placeBlock : ByteArray := prog_2_method_12_code
def yX0_placeBlock : MethodName := ⟨RX0, "placeBlock", "(LSeriesBench$Automaton;I)V"⟩
abbrev cX0_becomeHadamard : ByteArray := prog_2_method_13_code
def yX0_becomeHadamard : MethodName := ⟨RX0, "becomeHadamard", "(LSeriesBench$Automaton;LSeriesBench$Automaton;)V"⟩
abbrev cX0_placeProducts : ByteArray := prog_2_method_14_code
def yX0_placeProducts : MethodName := ⟨RX0, "placeProducts", "(LSeriesBench$Automaton;ILSeriesBench$Automaton;II)V"⟩
abbrev cX0_becomeCauchy : ByteArray := prog_2_method_15_code
def yX0_becomeCauchy : MethodName := ⟨RX0, "becomeCauchy", "(LSeriesBench$Automaton;LSeriesBench$Automaton;)V"⟩
abbrev cX0_hasStar : ByteArray := prog_2_method_16_code
def yX0_hasStar : MethodName := ⟨RX0, "hasStar", "()Z"⟩
abbrev cX0_becomeStar : ByteArray := prog_2_method_17_code
def yX0_becomeStar : MethodName := ⟨RX0, "becomeStar", "(LSeriesBench$Automaton;)V"⟩
abbrev cX0_startAfter : ByteArray := prog_2_method_18_code
def yX0_startAfter : MethodName := ⟨RX0, "startAfter", "(LSeriesBench$Automaton;I)V"⟩
abbrev cX0_reverse : ByteArray := prog_2_method_19_code
def yX0_reverse : MethodName := ⟨RX0, "reverse", "()V"⟩
abbrev cX0_transpose : ByteArray := prog_2_method_20_code
def yX0_transpose : MethodName := ⟨RX0, "transpose", "([I)V"⟩
abbrev cX0_weightFrom : ByteArray := prog_2_method_21_code
def yX0_weightFrom : MethodName := ⟨RX0, "weightFrom", "([I)I"⟩
abbrev cX0_addStep : ByteArray := prog_2_method_22_code
def yX0_addStep : MethodName := ⟨RX0, "addStep", "([II[I)V"⟩
abbrev cX0_takeStep : ByteArray := prog_2_method_23_code
def yX0_takeStep : MethodName := ⟨RX0, "takeStep", "([II[I)V"⟩
abbrev cX0_emptyWeight : ByteArray := prog_2_method_24_code
def yX0_emptyWeight : MethodName := ⟨RX0, "emptyWeight", "()I"⟩
abbrev cX0_initialThenStep : ByteArray := prog_2_method_25_code
def yX0_initialThenStep : MethodName := ⟨RX0, "initialThenStep", "(II)I"⟩
abbrev cX0_stepThenLast : ByteArray := prog_2_method_26_code
def yX0_stepThenLast : MethodName := ⟨RX0, "stepThenLast", "(II)I"⟩
abbrev cX0_hash : ByteArray := prog_2_method_27_code
def yX0_hash : MethodName := ⟨RX0, "hash", "(J)J"⟩
def RX1 : String := "SeriesBench$Basis"
def TX1 : u_T := fun k => match k with
  | 0 => ("SeriesBench$Basis", "count", "I", false)
  | 1 => ("SeriesBench$Basis", "words", "[I", true)
  | 2 => ("SeriesBench$Basis", "weights", "[I", true)
  | 3 => ("SeriesBench$Basis", "vectors", "[[I", true)
  | 4 => ("SeriesBench$Basis", "echelon", "[[I", true)
  | 5 => ("SeriesBench$Basis", "parts", "[[I", true)
  | 6 => ("SeriesBench$Basis", "pivots", "[I", true)
  | 7 => ("SeriesBench$Basis", "images", "[[I", true)
  | 8 => ("SeriesBench$Basis", "trial", "[I", true)
  | 9 => ("SeriesBench$Basis", "rest", "[I", true)
  | _ => ("SeriesBench$Basis", "coordinates", "[I", true)
def tyX1 : Nat → FieldType := fun k => match k with
  | 0 => .int
  | 1 => .array .int
  | 2 => .array .int
  | 3 => .array (.array .int)
  | 4 => .array (.array .int)
  | 5 => .array (.array .int)
  | 6 => .array .int
  | 7 => .array (.array .int)
  | 8 => .array .int
  | 9 => .array .int
  | _ => .array .int
theorem nmX1 : ∀ a, a < 11 → ∀ b, b < 11 → a ≠ b → (TX1 a).2.1 ≠ (TX1 b).2.1 := by decide +kernel
theorem tyX1_ok : ∀ k, k < 11 → parseFieldDescriptor (TX1 k).2.2.1 = some (tyX1 k) := by decide +kernel
abbrev cX1_init : ByteArray := prog_3_method_1_code
def yX1_init : MethodName := ⟨RX1, "<init>", "()V"⟩
abbrev cX1_explore : ByteArray := prog_3_method_2_code
def yX1_explore : MethodName := ⟨RX1, "explore", "(LSeriesBench$Automaton;)V"⟩
abbrev cX1_place : ByteArray := prog_3_method_3_code
def yX1_place : MethodName := ⟨RX1, "place", "(LSeriesBench$Automaton;I)V"⟩
abbrev cX1_extend : ByteArray := prog_3_method_4_code
def yX1_extend : MethodName := ⟨RX1, "extend", "(II)V"⟩
abbrev cX1_firstWeighted : ByteArray := prog_3_method_5_code
def yX1_firstWeighted : MethodName := ⟨RX1, "firstWeighted", "()I"⟩
abbrev cX1_build : ByteArray := prog_3_method_6_code
def yX1_build : MethodName := ⟨RX1, "build", "(LSeriesBench$Automaton;)V"⟩
abbrev cX1_reduce : ByteArray := prog_3_method_7_code
def yX1_reduce : MethodName := ⟨RX1, "reduce", "(LSeriesBench$Automaton;)V"⟩
abbrev cX1_minimize : ByteArray := prog_3_method_8_code
def yX1_minimize : MethodName := ⟨RX1, "minimize", "(LSeriesBench$Automaton;)V"⟩
def RX2 : String := "SeriesBench$Expression"
def TX2 : u_T := fun k => match k with
  | 0 => ("SeriesBench$Expression", "text", "[I", true)
  | 1 => ("SeriesBench$Expression", "length", "I", false)
  | 2 => ("SeriesBench$Expression", "sums", "[LSeriesBench$Automaton;", true)
  | 3 => ("SeriesBench$Expression", "hasSum", "[Z", true)
  | 4 => ("SeriesBench$Expression", "products", "[LSeriesBench$Automaton;", true)
  | 5 => ("SeriesBench$Expression", "hasProduct", "[Z", true)
  | 6 => ("SeriesBench$Expression", "factor", "LSeriesBench$Automaton;", true)
  | 7 => ("SeriesBench$Expression", "hasFactor", "Z", false)
  | _ => ("SeriesBench$Expression", "joined", "LSeriesBench$Automaton;", true)
def tyX2 : Nat → FieldType := fun k => match k with
  | 0 => .array .int
  | 1 => .int
  | 2 => .array (.object "SeriesBench$Automaton")
  | 3 => .array .boolean
  | 4 => .array (.object "SeriesBench$Automaton")
  | 5 => .array .boolean
  | 6 => .object "SeriesBench$Automaton"
  | 7 => .boolean
  | _ => .object "SeriesBench$Automaton"
theorem nmX2 : ∀ a, a < 9 → ∀ b, b < 9 → a ≠ b → (TX2 a).2.1 ≠ (TX2 b).2.1 := by decide +kernel
theorem tyX2_ok : ∀ k, k < 9 → parseFieldDescriptor (TX2 k).2.2.1 = some (tyX2 k) := by decide +kernel
abbrev cX2_init : ByteArray := prog_4_method_1_code
def yX2_init : MethodName := ⟨RX2, "<init>", "()V"⟩
def RX3 : String := "SeriesBench$Grid"
def TX3 : u_T := fun k => match k with
  | _ => ("SeriesBench$Grid", "rows", "[[I", true)
def tyX3 : Nat → FieldType := fun k => match k with
  | _ => .array (.array .int)
theorem nmX3 : ∀ a, a < 1 → ∀ b, b < 1 → a ≠ b → (TX3 a).2.1 ≠ (TX3 b).2.1 := by decide +kernel
theorem tyX3_ok : ∀ k, k < 1 → parseFieldDescriptor (TX3 k).2.2.1 = some (tyX3 k) := by decide +kernel
abbrev cX3_init : ByteArray := prog_5_method_1_code
def yX3_init : MethodName := ⟨RX3, "<init>", "()V"⟩
abbrev cX3_rank : ByteArray := prog_5_method_2_code
def yX3_rank : MethodName := ⟨RX3, "rank", "(II)I"⟩
abbrev cX3_raisePivot : ByteArray := prog_5_method_3_code
def yX3_raisePivot : MethodName := ⟨RX3, "raisePivot", "(III)Z"⟩
abbrev cX3_clearBelow : ByteArray := prog_5_method_4_code
def yX3_clearBelow : MethodName := ⟨RX3, "clearBelow", "(IIII)V"⟩
def RX4 : String := "SeriesBench$Path"
def TX4 : u_T := fun k => match k with
  | 0 => ("SeriesBench$Path", "prefixes", "[I", true)
  | _ => ("SeriesBench$Path", "rows", "[[I", true)
def tyX4 : Nat → FieldType := fun k => match k with
  | 0 => .array .int
  | _ => .array (.array .int)
theorem nmX4 : ∀ a, a < 2 → ∀ b, b < 2 → a ≠ b → (TX4 a).2.1 ≠ (TX4 b).2.1 := by decide +kernel
theorem tyX4_ok : ∀ k, k < 2 → parseFieldDescriptor (TX4 k).2.2.1 = some (tyX4 k) := by decide +kernel
abbrev cX4_init : ByteArray := prog_6_method_1_code
def yX4_init : MethodName := ⟨RX4, "<init>", "()V"⟩
abbrev cX4_start : ByteArray := prog_6_method_2_code
def yX4_start : MethodName := ⟨RX4, "start", "(LSeriesBench$Automaton;)V"⟩
abbrev cX4_weigh : ByteArray := prog_6_method_3_code
def yX4_weigh : MethodName := ⟨RX4, "weigh", "(LSeriesBench$Automaton;I)I"⟩
def RX5 : String := "SeriesBench$Walk"
def TX5 : u_T := fun k => match k with
  | 0 => ("SeriesBench$Walk", "row", "[I", false)
  | _ => ("SeriesBench$Walk", "next", "[I", false)
def tyX5 : Nat → FieldType := fun k => match k with
  | 0 => .array .int
  | _ => .array .int
theorem nmX5 : ∀ a, a < 2 → ∀ b, b < 2 → a ≠ b → (TX5 a).2.1 ≠ (TX5 b).2.1 := by decide +kernel
theorem tyX5_ok : ∀ k, k < 2 → parseFieldDescriptor (TX5 k).2.2.1 = some (tyX5 k) := by decide +kernel
abbrev cX5_init : ByteArray := prog_7_method_1_code
def yX5_init : MethodName := ⟨RX5, "<init>", "()V"⟩
abbrev cX5_start : ByteArray := prog_7_method_2_code
def yX5_start : MethodName := ⟨RX5, "start", "(LSeriesBench$Automaton;)V"⟩
abbrev cX5_takeWord : ByteArray := prog_7_method_3_code
def yX5_takeWord : MethodName := ⟨RX5, "takeWord", "(LSeriesBench$Automaton;I)V"⟩
abbrev cX5_takeBoth : ByteArray := prog_7_method_4_code
def yX5_takeBoth : MethodName := ⟨RX5, "takeBoth", "(LSeriesBench$Automaton;)V"⟩
abbrev cX5_value : ByteArray := prog_7_method_5_code
def yX5_value : MethodName := ⟨RX5, "value", "(LSeriesBench$Automaton;)I"⟩
abbrev cX5_swap : ByteArray := prog_7_method_6_code
def yX5_swap : MethodName := ⟨RX5, "swap", "()V"⟩
def RX6 : String := "SeriesBench"
def TX6 : u_T := fun k => match k with
  | 0 => ("SeriesBench", "slots", "[LSeriesBench$Automaton;", true)
  | 1 => ("SeriesBench", "saved", "[LSeriesBench$Automaton;", true)
  | 2 => ("SeriesBench", "savedSlots", "[I", true)
  | 3 => ("SeriesBench", "savedCount", "I", false)
  | 4 => ("SeriesBench", "scratch", "LSeriesBench$Automaton;", true)
  | 5 => ("SeriesBench", "difference", "LSeriesBench$Automaton;", true)
  | 6 => ("SeriesBench", "walk", "LSeriesBench$Walk;", true)
  | 7 => ("SeriesBench", "path", "LSeriesBench$Path;", true)
  | 8 => ("SeriesBench", "basis", "LSeriesBench$Basis;", true)
  | 9 => ("SeriesBench", "grid", "LSeriesBench$Grid;", true)
  | 10 => ("SeriesBench", "totals", "[I", true)
  | _ => ("SeriesBench", "expression", "LSeriesBench$Expression;", true)
def tyX6 : Nat → FieldType := fun k => match k with
  | 0 => .array (.object "SeriesBench$Automaton")
  | 1 => .array (.object "SeriesBench$Automaton")
  | 2 => .array .int
  | 3 => .int
  | 4 => .object "SeriesBench$Automaton"
  | 5 => .object "SeriesBench$Automaton"
  | 6 => .object "SeriesBench$Walk"
  | 7 => .object "SeriesBench$Path"
  | 8 => .object "SeriesBench$Basis"
  | 9 => .object "SeriesBench$Grid"
  | 10 => .array .int
  | _ => .object "SeriesBench$Expression"
theorem nmX6 : ∀ a, a < 12 → ∀ b, b < 12 → a ≠ b → (TX6 a).2.1 ≠ (TX6 b).2.1 := by decide +kernel
theorem tyX6_ok : ∀ k, k < 12 → parseFieldDescriptor (TX6 k).2.2.1 = some (tyX6 k) := by decide +kernel
abbrev cX6_init : ByteArray := prog_1_method_1_code
def yX6_init : MethodName := ⟨RX6, "<init>", "()V"⟩
abbrev cX6_begin : ByteArray := prog_1_method_2_code
def yX6_begin : MethodName := ⟨RX6, "begin", "(II)I"⟩
abbrev cX6_random : ByteArray := prog_1_method_5_code
def yX6_random : MethodName := ⟨RX6, "random", "(III)I"⟩
abbrev cX6_states : ByteArray := prog_1_method_6_code
def yX6_states : MethodName := ⟨RX6, "states", "(I)I"⟩
abbrev cX6_weight : ByteArray := prog_1_method_9_code
def yX6_weight : MethodName := ⟨RX6, "weight", "(II)I"⟩
abbrev cX6_powerWeight : ByteArray := prog_1_method_10_code
def yX6_powerWeight : MethodName := ⟨RX6, "powerWeight", "(III)I"⟩
abbrev cX6_total : ByteArray := prog_1_method_11_code
def yX6_total : MethodName := ⟨RX6, "total", "(II)I"⟩
abbrev cX6_first : ByteArray := prog_1_method_13_code
def yX6_first : MethodName := ⟨RX6, "first", "(I)I"⟩
abbrev cX6_combine : ByteArray := prog_1_method_14_code
def yX6_combine : MethodName := ⟨RX6, "combine", "(IIII)I"⟩
abbrev cX6_derive : ByteArray := prog_1_method_15_code
def yX6_derive : MethodName := ⟨RX6, "derive", "(III)I"⟩
abbrev cX6_scale : ByteArray := prog_1_method_16_code
def yX6_scale : MethodName := ⟨RX6, "scale", "(II)I"⟩
abbrev cX6_dimension : ByteArray := prog_1_method_17_code
def yX6_dimension : MethodName := ⟨RX6, "dimension", "(II)I"⟩
abbrev cX6_basisWord : ByteArray := prog_1_method_18_code
def yX6_basisWord : MethodName := ⟨RX6, "basisWord", "(II)I"⟩
abbrev cX6_differing : ByteArray := prog_1_method_19_code
def yX6_differing : MethodName := ⟨RX6, "differing", "(II)I"⟩
abbrev cX6_hankelRank : ByteArray := prog_1_method_20_code
def yX6_hankelRank : MethodName := ⟨RX6, "hankelRank", "(II)I"⟩
abbrev cX6_recurs : ByteArray := prog_1_method_21_code
def yX6_recurs : MethodName := ⟨RX6, "recurs", "(II)Z"⟩
abbrev cX6_inverse : ByteArray := prog_1_method_22_code
def yX6_inverse : MethodName := ⟨RX6, "inverse", "(I)I"⟩
abbrev cX6_undo : ByteArray := prog_1_method_26_code
def yX6_undo : MethodName := ⟨RX6, "undo", "()I"⟩
abbrev cX6_digest : ByteArray := prog_1_method_27_code
def yX6_digest : MethodName := ⟨RX6, "digest", "()J"⟩
abbrev cX6_automata : ByteArray := prog_1_method_28_code
def yX6_automata : MethodName := ⟨RX6, "automata", "(I)[LSeriesBench$Automaton;"⟩
abbrev cX6_checkSlot : ByteArray := prog_1_method_29_code
def yX6_checkSlot : MethodName := ⟨RX6, "checkSlot", "(I)V"⟩
abbrev cX6_checkRange : ByteArray := prog_1_method_32_code
def yX6_checkRange : MethodName := ⟨RX6, "checkRange", "(III)V"⟩
abbrev cX6_save : ByteArray := prog_1_method_33_code
def yX6_save : MethodName := ⟨RX6, "save", "(I)V"⟩
abbrev cX6_dropOldest : ByteArray := prog_1_method_34_code
def yX6_dropOldest : MethodName := ⟨RX6, "dropOldest", "()V"⟩
abbrev cX6_store : ByteArray := prog_1_method_35_code
def yX6_store : MethodName := ⟨RX6, "store", "(I)I"⟩
abbrev cX6_spaceSize : ByteArray := prog_1_method_36_code
def yX6_spaceSize : MethodName := ⟨RX6, "spaceSize", "(II)I"⟩
abbrev cX6_collectTotals : ByteArray := prog_1_method_37_code
def yX6_collectTotals : MethodName := ⟨RX6, "collectTotals", "(II)V"⟩
abbrev cX6_fillRecurrences : ByteArray := prog_1_method_38_code
def yX6_fillRecurrences : MethodName := ⟨RX6, "fillRecurrences", "(I)V"⟩
abbrev cX6_lengthOf : ByteArray := prog_1_method_39_code
def yX6_lengthOf : MethodName := ⟨RX6, "lengthOf", "(I)I"⟩
abbrev cX6_joinedWord : ByteArray := prog_1_method_40_code
def yX6_joinedWord : MethodName := ⟨RX6, "joinedWord", "(II)I"⟩
abbrev cX6_reciprocal : ByteArray := prog_1_method_41_code
def yX6_reciprocal : MethodName := ⟨RX6, "reciprocal", "(I)I"⟩
abbrev cX6_addMultiple : ByteArray := prog_1_method_42_code
def yX6_addMultiple : MethodName := ⟨RX6, "addMultiple", "([II[II)V"⟩
abbrev cX6_multiply : ByteArray := prog_1_method_43_code
def yX6_multiply : MethodName := ⟨RX6, "multiply", "([III)V"⟩
abbrev cX6_firstNonZero : ByteArray := prog_1_method_44_code
def yX6_firstNonZero : MethodName := ⟨RX6, "firstNonZero", "([II)I"⟩
def RJ7 : String := "java/util/Arrays"
abbrev cJ7_rangeCheck_23922 : ByteArray := prog_19_method_30_code
def yJ7_rangeCheck_23922 : MethodName := ⟨RJ7, "rangeCheck", "(III)V"⟩
abbrev cJ7_fill_53178 : ByteArray := prog_19_method_103_code
def yJ7_fill_53178 : MethodName := ⟨RJ7, "fill", "([II)V"⟩
abbrev cJ7_fill_fda19 : ByteArray := prog_19_method_104_code
def yJ7_fill_fda19 : MethodName := ⟨RJ7, "fill", "([IIII)V"⟩
def RL : String := "SeriesBenchLaw"
abbrev cL_cell : ByteArray := method_2_code
def yL_cell : MethodName := ⟨RL, "cell", "([II)I"⟩
abbrev cL_up : ByteArray := method_3_code
def yL_up : MethodName := ⟨RL, "up", "(II)I"⟩
abbrev cL_draws : ByteArray := method_4_code
def yL_draws : MethodName := ⟨RL, "draws", "(LSeriesBench;[I)Z"⟩
abbrev cL_isSpread : ByteArray := method_5_code
def yL_isSpread : MethodName := ⟨RL, "isSpread", "(LSeriesBench;LSeriesBench;I)Z"⟩
abbrev cL_isTurned : ByteArray := method_6_code
def yL_isTurned : MethodName := ⟨RL, "isTurned", "(LSeriesBench;)Z"⟩
abbrev cL_isReduced : ByteArray := method_7_code
def yL_isReduced : MethodName := ⟨RL, "isReduced", "(LSeriesBench;I)Z"⟩
abbrev cL_goUp : ByteArray := method_8_code
def yL_goUp : MethodName := ⟨RL, "goUp", "(LSeriesBench;I)Z"⟩
abbrev cL_isScaled : ByteArray := method_9_code
def yL_isScaled : MethodName := ⟨RL, "isScaled", "(LSeriesBench;II)Z"⟩
abbrev cL_law : ByteArray := code
def yL_law : MethodName := ⟨RL, "law", "([I)Z"⟩
theorem dX0_init_0 : decode cX0_init 0 = .ok (.aload_n 0, 1) := by decide +kernel
theorem dX0_init_1 : decode cX0_init 1 = .ok (.invokespecial 3, 3) := by decide +kernel
theorem dX0_init_4 : decode cX0_init 4 = .ok (.aload_n 0, 1) := by decide +kernel
theorem dX0_init_5 : decode cX0_init 5 = .ok (.iconst 0, 1) := by decide +kernel
theorem dX0_init_6 : decode cX0_init 6 = .ok (.putfield 9, 3) := by decide +kernel
theorem dX0_init_9 : decode cX0_init 9 = .ok (.aload_n 0, 1) := by decide +kernel
theorem dX0_init_10 : decode cX0_init 10 = .ok (.iload_n 1, 1) := by decide +kernel
theorem dX0_init_11 : decode cX0_init 11 = .ok (.newarray .int, 2) := by decide +kernel
theorem dX0_init_13 : decode cX0_init 13 = .ok (.putfield 15, 3) := by decide +kernel
theorem dX0_init_16 : decode cX0_init 16 = .ok (.aload_n 0, 1) := by decide +kernel
theorem dX0_init_17 : decode cX0_init 17 = .ok (.iload_n 1, 1) := by decide +kernel
theorem dX0_init_18 : decode cX0_init 18 = .ok (.newarray .int, 2) := by decide +kernel
theorem dX0_init_20 : decode cX0_init 20 = .ok (.putfield 19, 3) := by decide +kernel
theorem dX0_init_23 : decode cX0_init 23 = .ok (.aload_n 0, 1) := by decide +kernel
theorem dX0_init_24 : decode cX0_init 24 = .ok (.iconst 2, 1) := by decide +kernel
theorem dX0_init_25 : decode cX0_init 25 = .ok (.iload_n 1, 1) := by decide +kernel
theorem dX0_init_26 : decode cX0_init 26 = .ok (.iload_n 1, 1) := by decide +kernel
theorem dX0_init_27 : decode cX0_init 27 = .ok (.imul, 1) := by decide +kernel
theorem dX0_init_28 : decode cX0_init 28 = .ok (.multianewarray 22 2, 4) := by decide +kernel
theorem dX0_init_32 : decode cX0_init 32 = .ok (.putfield 24, 3) := by decide +kernel
theorem dX0_init_35 : decode cX0_init 35 = .ok (.return_, 1) := by decide +kernel
theorem dX0_clear_0 : decode cX0_clear 0 = .ok (.aload_n 0, 1) := by decide +kernel
theorem dX0_clear_1 : decode cX0_clear 1 = .ok (.iload_n 1, 1) := by decide +kernel
theorem dX0_clear_2 : decode cX0_clear 2 = .ok (.putfield 9, 3) := by decide +kernel
theorem dX0_clear_5 : decode cX0_clear 5 = .ok (.aload_n 0, 1) := by decide +kernel
theorem dX0_clear_6 : decode cX0_clear 6 = .ok (.getfield 15, 3) := by decide +kernel
theorem dX0_clear_9 : decode cX0_clear 9 = .ok (.iconst 0, 1) := by decide +kernel
theorem dX0_clear_10 : decode cX0_clear 10 = .ok (.iload_n 1, 1) := by decide +kernel
theorem dX0_clear_11 : decode cX0_clear 11 = .ok (.iconst 0, 1) := by decide +kernel
theorem dX0_clear_12 : decode cX0_clear 12 = .ok (.invokestatic 27, 3) := by decide +kernel
theorem dX0_clear_15 : decode cX0_clear 15 = .ok (.aload_n 0, 1) := by decide +kernel
theorem dX0_clear_16 : decode cX0_clear 16 = .ok (.getfield 19, 3) := by decide +kernel
theorem dX0_clear_19 : decode cX0_clear 19 = .ok (.iconst 0, 1) := by decide +kernel
theorem dX0_clear_20 : decode cX0_clear 20 = .ok (.iload_n 1, 1) := by decide +kernel
theorem dX0_clear_21 : decode cX0_clear 21 = .ok (.iconst 0, 1) := by decide +kernel
theorem dX0_clear_22 : decode cX0_clear 22 = .ok (.invokestatic 27, 3) := by decide +kernel
theorem dX0_clear_25 : decode cX0_clear 25 = .ok (.iconst 0, 1) := by decide +kernel
theorem dX0_clear_26 : decode cX0_clear 26 = .ok (.istore_n 2, 1) := by decide +kernel
theorem dX0_clear_27 : decode cX0_clear 27 = .ok (.iload_n 2, 1) := by decide +kernel
theorem dX0_clear_28 : decode cX0_clear 28 = .ok (.iconst 2, 1) := by decide +kernel
theorem dX0_clear_29 : decode cX0_clear 29 = .ok (.if_icmp .ge 23, 3) := by decide +kernel
theorem dX0_clear_32 : decode cX0_clear 32 = .ok (.aload_n 0, 1) := by decide +kernel
theorem dX0_clear_33 : decode cX0_clear 33 = .ok (.getfield 24, 3) := by decide +kernel
theorem dX0_clear_36 : decode cX0_clear 36 = .ok (.iload_n 2, 1) := by decide +kernel
theorem dX0_clear_37 : decode cX0_clear 37 = .ok (.aaload, 1) := by decide +kernel
theorem dX0_clear_38 : decode cX0_clear 38 = .ok (.iconst 0, 1) := by decide +kernel
theorem dX0_clear_39 : decode cX0_clear 39 = .ok (.iload_n 1, 1) := by decide +kernel
theorem dX0_clear_40 : decode cX0_clear 40 = .ok (.iload_n 1, 1) := by decide +kernel
theorem dX0_clear_41 : decode cX0_clear 41 = .ok (.imul, 1) := by decide +kernel
theorem dX0_clear_42 : decode cX0_clear 42 = .ok (.iconst 0, 1) := by decide +kernel
theorem dX0_clear_43 : decode cX0_clear 43 = .ok (.invokestatic 27, 3) := by decide +kernel
theorem dX0_clear_46 : decode cX0_clear 46 = .ok (.iinc 2 1, 3) := by decide +kernel
theorem dX0_clear_49 : decode cX0_clear 49 = .ok (.goto (-22), 3) := by decide +kernel
theorem dX0_clear_52 : decode cX0_clear 52 = .ok (.return_, 1) := by decide +kernel
theorem dX0_copyFrom_0 : decode cX0_copyFrom 0 = .ok (.aload_n 0, 1) := by decide +kernel
theorem dX0_copyFrom_1 : decode cX0_copyFrom 1 = .ok (.aload_n 1, 1) := by decide +kernel
theorem dX0_copyFrom_2 : decode cX0_copyFrom 2 = .ok (.getfield 9, 3) := by decide +kernel
theorem dX0_copyFrom_5 : decode cX0_copyFrom 5 = .ok (.putfield 9, 3) := by decide +kernel
theorem dX0_copyFrom_8 : decode cX0_copyFrom 8 = .ok (.aload_n 1, 1) := by decide +kernel
theorem dX0_copyFrom_9 : decode cX0_copyFrom 9 = .ok (.getfield 15, 3) := by decide +kernel
theorem dX0_copyFrom_12 : decode cX0_copyFrom 12 = .ok (.iconst 0, 1) := by decide +kernel
theorem dX0_copyFrom_13 : decode cX0_copyFrom 13 = .ok (.aload_n 0, 1) := by decide +kernel
theorem dX0_copyFrom_14 : decode cX0_copyFrom 14 = .ok (.getfield 15, 3) := by decide +kernel
theorem dX0_copyFrom_17 : decode cX0_copyFrom 17 = .ok (.iconst 0, 1) := by decide +kernel
theorem dX0_copyFrom_18 : decode cX0_copyFrom 18 = .ok (.aload_n 0, 1) := by decide +kernel
theorem dX0_copyFrom_19 : decode cX0_copyFrom 19 = .ok (.getfield 9, 3) := by decide +kernel
theorem dX0_copyFrom_22 : decode cX0_copyFrom 22 = .ok (.invokestatic 33, 3) := by decide +kernel
theorem dX0_copyFrom_25 : decode cX0_copyFrom 25 = .ok (.aload_n 1, 1) := by decide +kernel
theorem dX0_copyFrom_26 : decode cX0_copyFrom 26 = .ok (.getfield 19, 3) := by decide +kernel
theorem dX0_copyFrom_29 : decode cX0_copyFrom 29 = .ok (.iconst 0, 1) := by decide +kernel
theorem dX0_copyFrom_30 : decode cX0_copyFrom 30 = .ok (.aload_n 0, 1) := by decide +kernel
theorem dX0_copyFrom_31 : decode cX0_copyFrom 31 = .ok (.getfield 19, 3) := by decide +kernel
theorem dX0_copyFrom_34 : decode cX0_copyFrom 34 = .ok (.iconst 0, 1) := by decide +kernel
theorem dX0_copyFrom_35 : decode cX0_copyFrom 35 = .ok (.aload_n 0, 1) := by decide +kernel
theorem dX0_copyFrom_36 : decode cX0_copyFrom 36 = .ok (.getfield 9, 3) := by decide +kernel
theorem dX0_copyFrom_39 : decode cX0_copyFrom 39 = .ok (.invokestatic 33, 3) := by decide +kernel
theorem dX0_copyFrom_42 : decode cX0_copyFrom 42 = .ok (.iconst 0, 1) := by decide +kernel
theorem dX0_copyFrom_43 : decode cX0_copyFrom 43 = .ok (.istore_n 2, 1) := by decide +kernel
theorem dX0_copyFrom_44 : decode cX0_copyFrom 44 = .ok (.iload_n 2, 1) := by decide +kernel
theorem dX0_copyFrom_45 : decode cX0_copyFrom 45 = .ok (.iconst 2, 1) := by decide +kernel
theorem dX0_copyFrom_46 : decode cX0_copyFrom 46 = .ok (.if_icmp .ge 35, 3) := by decide +kernel
theorem dX0_copyFrom_49 : decode cX0_copyFrom 49 = .ok (.aload_n 1, 1) := by decide +kernel
theorem dX0_copyFrom_50 : decode cX0_copyFrom 50 = .ok (.getfield 24, 3) := by decide +kernel
theorem dX0_copyFrom_53 : decode cX0_copyFrom 53 = .ok (.iload_n 2, 1) := by decide +kernel
theorem dX0_copyFrom_54 : decode cX0_copyFrom 54 = .ok (.aaload, 1) := by decide +kernel
theorem dX0_copyFrom_55 : decode cX0_copyFrom 55 = .ok (.iconst 0, 1) := by decide +kernel
theorem dX0_copyFrom_56 : decode cX0_copyFrom 56 = .ok (.aload_n 0, 1) := by decide +kernel
theorem dX0_copyFrom_57 : decode cX0_copyFrom 57 = .ok (.getfield 24, 3) := by decide +kernel
theorem dX0_copyFrom_60 : decode cX0_copyFrom 60 = .ok (.iload_n 2, 1) := by decide +kernel
theorem dX0_copyFrom_61 : decode cX0_copyFrom 61 = .ok (.aaload, 1) := by decide +kernel
theorem dX0_copyFrom_62 : decode cX0_copyFrom 62 = .ok (.iconst 0, 1) := by decide +kernel
theorem dX0_copyFrom_63 : decode cX0_copyFrom 63 = .ok (.aload_n 0, 1) := by decide +kernel
theorem dX0_copyFrom_64 : decode cX0_copyFrom 64 = .ok (.getfield 9, 3) := by decide +kernel
theorem dX0_copyFrom_67 : decode cX0_copyFrom 67 = .ok (.aload_n 0, 1) := by decide +kernel
theorem dX0_copyFrom_68 : decode cX0_copyFrom 68 = .ok (.getfield 9, 3) := by decide +kernel
theorem dX0_copyFrom_71 : decode cX0_copyFrom 71 = .ok (.imul, 1) := by decide +kernel
theorem dX0_copyFrom_72 : decode cX0_copyFrom 72 = .ok (.invokestatic 33, 3) := by decide +kernel
theorem dX0_copyFrom_75 : decode cX0_copyFrom 75 = .ok (.iinc 2 1, 3) := by decide +kernel
theorem dX0_copyFrom_78 : decode cX0_copyFrom 78 = .ok (.goto (-34), 3) := by decide +kernel
theorem dX0_copyFrom_81 : decode cX0_copyFrom 81 = .ok (.return_, 1) := by decide +kernel
theorem dX0_draw_0 : decode cX0_draw 0 = .ok (.aload_n 0, 1) := by decide +kernel
theorem dX0_draw_1 : decode cX0_draw 1 = .ok (.iload_n 1, 1) := by decide +kernel
theorem dX0_draw_2 : decode cX0_draw 2 = .ok (.putfield 9, 3) := by decide +kernel
theorem dX0_draw_5 : decode cX0_draw 5 = .ok (.iload_n 2, 1) := by decide +kernel
theorem dX0_draw_6 : decode cX0_draw 6 = .ok (.i2l, 1) := by decide +kernel
theorem dX0_draw_7 : decode cX0_draw 7 = .ok (.lstore_n 3, 1) := by decide +kernel
theorem dX0_draw_8 : decode cX0_draw 8 = .ok (.iconst 0, 1) := by decide +kernel
theorem dX0_draw_9 : decode cX0_draw 9 = .ok (.istore 5, 2) := by decide +kernel
theorem dX0_draw_11 : decode cX0_draw 11 = .ok (.iload 5, 2) := by decide +kernel
theorem dX0_draw_13 : decode cX0_draw 13 = .ok (.iload_n 1, 1) := by decide +kernel
theorem dX0_draw_14 : decode cX0_draw 14 = .ok (.if_icmp .ge 41, 3) := by decide +kernel
theorem dX0_draw_17 : decode cX0_draw 17 = .ok (.lload_n 3, 1) := by decide +kernel
theorem dX0_draw_18 : decode cX0_draw 18 = .ok (.invokestatic 39, 3) := by decide +kernel
theorem dX0_draw_21 : decode cX0_draw 21 = .ok (.lstore_n 3, 1) := by decide +kernel
theorem dX0_draw_22 : decode cX0_draw 22 = .ok (.aload_n 0, 1) := by decide +kernel
theorem dX0_draw_23 : decode cX0_draw 23 = .ok (.getfield 15, 3) := by decide +kernel
theorem dX0_draw_26 : decode cX0_draw 26 = .ok (.iload 5, 2) := by decide +kernel
theorem dX0_draw_28 : decode cX0_draw 28 = .ok (.lload_n 3, 1) := by decide +kernel
theorem dX0_draw_29 : decode cX0_draw 29 = .ok (.invokestatic 43, 3) := by decide +kernel
theorem dX0_draw_32 : decode cX0_draw 32 = .ok (.iastore, 1) := by decide +kernel
theorem dX0_draw_33 : decode cX0_draw 33 = .ok (.lload_n 3, 1) := by decide +kernel
theorem dX0_draw_34 : decode cX0_draw 34 = .ok (.invokestatic 39, 3) := by decide +kernel
theorem dX0_draw_37 : decode cX0_draw 37 = .ok (.lstore_n 3, 1) := by decide +kernel
theorem dX0_draw_38 : decode cX0_draw 38 = .ok (.aload_n 0, 1) := by decide +kernel
theorem dX0_draw_39 : decode cX0_draw 39 = .ok (.getfield 19, 3) := by decide +kernel
theorem dX0_draw_42 : decode cX0_draw 42 = .ok (.iload 5, 2) := by decide +kernel
theorem dX0_draw_44 : decode cX0_draw 44 = .ok (.lload_n 3, 1) := by decide +kernel
theorem dX0_draw_45 : decode cX0_draw 45 = .ok (.invokestatic 43, 3) := by decide +kernel
theorem dX0_draw_48 : decode cX0_draw 48 = .ok (.iastore, 1) := by decide +kernel
theorem dX0_draw_49 : decode cX0_draw 49 = .ok (.iinc 5 1, 3) := by decide +kernel
theorem dX0_draw_52 : decode cX0_draw 52 = .ok (.goto (-41), 3) := by decide +kernel
theorem dX0_draw_55 : decode cX0_draw 55 = .ok (.iconst 0, 1) := by decide +kernel
theorem dX0_draw_56 : decode cX0_draw 56 = .ok (.istore 5, 2) := by decide +kernel
theorem dX0_draw_58 : decode cX0_draw 58 = .ok (.iload 5, 2) := by decide +kernel
theorem dX0_draw_60 : decode cX0_draw 60 = .ok (.iconst 2, 1) := by decide +kernel
theorem dX0_draw_61 : decode cX0_draw 61 = .ok (.if_icmp .ge 45, 3) := by decide +kernel
theorem dX0_draw_64 : decode cX0_draw 64 = .ok (.iconst 0, 1) := by decide +kernel
theorem dX0_draw_65 : decode cX0_draw 65 = .ok (.istore 6, 2) := by decide +kernel
theorem dX0_draw_67 : decode cX0_draw 67 = .ok (.iload 6, 2) := by decide +kernel
theorem dX0_draw_69 : decode cX0_draw 69 = .ok (.iload_n 1, 1) := by decide +kernel
theorem dX0_draw_70 : decode cX0_draw 70 = .ok (.iload_n 1, 1) := by decide +kernel
theorem dX0_draw_71 : decode cX0_draw 71 = .ok (.imul, 1) := by decide +kernel
theorem dX0_draw_72 : decode cX0_draw 72 = .ok (.if_icmp .ge 28, 3) := by decide +kernel
theorem dX0_draw_75 : decode cX0_draw 75 = .ok (.lload_n 3, 1) := by decide +kernel
theorem dX0_draw_76 : decode cX0_draw 76 = .ok (.invokestatic 39, 3) := by decide +kernel
theorem dX0_draw_79 : decode cX0_draw 79 = .ok (.lstore_n 3, 1) := by decide +kernel
theorem dX0_draw_80 : decode cX0_draw 80 = .ok (.aload_n 0, 1) := by decide +kernel
theorem dX0_draw_81 : decode cX0_draw 81 = .ok (.getfield 24, 3) := by decide +kernel
theorem dX0_draw_84 : decode cX0_draw 84 = .ok (.iload 5, 2) := by decide +kernel
theorem dX0_draw_86 : decode cX0_draw 86 = .ok (.aaload, 1) := by decide +kernel
theorem dX0_draw_87 : decode cX0_draw 87 = .ok (.iload 6, 2) := by decide +kernel
theorem dX0_draw_89 : decode cX0_draw 89 = .ok (.lload_n 3, 1) := by decide +kernel
theorem dX0_draw_90 : decode cX0_draw 90 = .ok (.invokestatic 43, 3) := by decide +kernel
theorem dX0_draw_93 : decode cX0_draw 93 = .ok (.iastore, 1) := by decide +kernel
theorem dX0_draw_94 : decode cX0_draw 94 = .ok (.iinc 6 1, 3) := by decide +kernel
theorem dX0_draw_97 : decode cX0_draw 97 = .ok (.goto (-30), 3) := by decide +kernel
theorem dX0_draw_100 : decode cX0_draw 100 = .ok (.iinc 5 1, 3) := by decide +kernel
theorem dX0_draw_103 : decode cX0_draw 103 = .ok (.goto (-45), 3) := by decide +kernel
theorem dX0_draw_106 : decode cX0_draw 106 = .ok (.return_, 1) := by decide +kernel
theorem dX0_nextDraw_0 : decode cX0_nextDraw 0 = .ok (.ldc2_w 47, 3) := by decide +kernel
theorem dX0_nextDraw_3 : decode cX0_nextDraw 3 = .ok (.lload_n 0, 1) := by decide +kernel
theorem dX0_nextDraw_4 : decode cX0_nextDraw 4 = .ok (.lmul, 1) := by decide +kernel
theorem dX0_nextDraw_5 : decode cX0_nextDraw 5 = .ok (.ldc2_w 49, 3) := by decide +kernel
theorem dX0_nextDraw_8 : decode cX0_nextDraw 8 = .ok (.ladd, 1) := by decide +kernel
theorem dX0_nextDraw_9 : decode cX0_nextDraw 9 = .ok (.ldc2_w 51, 3) := by decide +kernel
theorem dX0_nextDraw_12 : decode cX0_nextDraw 12 = .ok (.lrem, 1) := by decide +kernel
theorem dX0_nextDraw_13 : decode cX0_nextDraw 13 = .ok (.lreturn, 1) := by decide +kernel
theorem dX0_drawn_0 : decode cX0_drawn 0 = .ok (.lload_n 0, 1) := by decide +kernel
theorem dX0_drawn_1 : decode cX0_drawn 1 = .ok (.ldc2_w 53, 3) := by decide +kernel
theorem dX0_drawn_4 : decode cX0_drawn 4 = .ok (.ldiv, 1) := by decide +kernel
theorem dX0_drawn_5 : decode cX0_drawn 5 = .ok (.ldc2_w 55, 3) := by decide +kernel
theorem dX0_drawn_8 : decode cX0_drawn 8 = .ok (.lrem, 1) := by decide +kernel
theorem dX0_drawn_9 : decode cX0_drawn 9 = .ok (.l2i, 1) := by decide +kernel
theorem dX0_drawn_10 : decode cX0_drawn 10 = .ok (.ireturn, 1) := by decide +kernel
theorem dX0_becomeSum_0 : decode cX0_becomeSum 0 = .ok (.aload_n 0, 1) := by decide +kernel
theorem dX0_becomeSum_1 : decode cX0_becomeSum 1 = .ok (.aload_n 1, 1) := by decide +kernel
theorem dX0_becomeSum_2 : decode cX0_becomeSum 2 = .ok (.getfield 9, 3) := by decide +kernel
theorem dX0_becomeSum_5 : decode cX0_becomeSum 5 = .ok (.aload_n 2, 1) := by decide +kernel
theorem dX0_becomeSum_6 : decode cX0_becomeSum 6 = .ok (.getfield 9, 3) := by decide +kernel
theorem dX0_becomeSum_9 : decode cX0_becomeSum 9 = .ok (.iadd, 1) := by decide +kernel
theorem dX0_becomeSum_10 : decode cX0_becomeSum 10 = .ok (.invokevirtual 57, 3) := by decide +kernel
theorem dX0_becomeSum_13 : decode cX0_becomeSum 13 = .ok (.aload_n 0, 1) := by decide +kernel
theorem dX0_becomeSum_14 : decode cX0_becomeSum 14 = .ok (.aload_n 1, 1) := by decide +kernel
theorem dX0_becomeSum_15 : decode cX0_becomeSum 15 = .ok (.iconst 0, 1) := by decide +kernel
theorem dX0_becomeSum_16 : decode cX0_becomeSum 16 = .ok (.invokevirtual 61, 3) := by decide +kernel
theorem dX0_becomeSum_19 : decode cX0_becomeSum 19 = .ok (.aload_n 0, 1) := by decide +kernel
theorem dX0_becomeSum_20 : decode cX0_becomeSum 20 = .ok (.aload_n 2, 1) := by decide +kernel
theorem dX0_becomeSum_21 : decode cX0_becomeSum 21 = .ok (.aload_n 1, 1) := by decide +kernel
theorem dX0_becomeSum_22 : decode cX0_becomeSum 22 = .ok (.getfield 9, 3) := by decide +kernel
theorem dX0_becomeSum_25 : decode cX0_becomeSum 25 = .ok (.invokevirtual 61, 3) := by decide +kernel
theorem dX0_becomeSum_28 : decode cX0_becomeSum 28 = .ok (.return_, 1) := by decide +kernel
theorem dX0_becomeDifference_0 : decode cX0_becomeDifference 0 = .ok (.aload_n 0, 1) := by decide +kernel
theorem dX0_becomeDifference_1 : decode cX0_becomeDifference 1 = .ok (.aload_n 1, 1) := by decide +kernel
theorem dX0_becomeDifference_2 : decode cX0_becomeDifference 2 = .ok (.aload_n 2, 1) := by decide +kernel
theorem dX0_becomeDifference_3 : decode cX0_becomeDifference 3 = .ok (.invokevirtual 65, 3) := by decide +kernel
theorem dX0_becomeDifference_6 : decode cX0_becomeDifference 6 = .ok (.aload_n 1, 1) := by decide +kernel
theorem dX0_becomeDifference_7 : decode cX0_becomeDifference 7 = .ok (.getfield 9, 3) := by decide +kernel
theorem dX0_becomeDifference_10 : decode cX0_becomeDifference 10 = .ok (.istore_n 3, 1) := by decide +kernel
theorem dX0_becomeDifference_11 : decode cX0_becomeDifference 11 = .ok (.iload_n 3, 1) := by decide +kernel
theorem dX0_becomeDifference_12 : decode cX0_becomeDifference 12 = .ok (.aload_n 0, 1) := by decide +kernel
theorem dX0_becomeDifference_13 : decode cX0_becomeDifference 13 = .ok (.getfield 9, 3) := by decide +kernel
theorem dX0_becomeDifference_16 : decode cX0_becomeDifference 16 = .ok (.if_icmp .ge 29, 3) := by decide +kernel
theorem dX0_becomeDifference_19 : decode cX0_becomeDifference 19 = .ok (.aload_n 0, 1) := by decide +kernel
theorem dX0_becomeDifference_20 : decode cX0_becomeDifference 20 = .ok (.getfield 15, 3) := by decide +kernel
theorem dX0_becomeDifference_23 : decode cX0_becomeDifference 23 = .ok (.iload_n 3, 1) := by decide +kernel
theorem dX0_becomeDifference_24 : decode cX0_becomeDifference 24 = .ok (.sipush 10007, 3) := by decide +kernel
theorem dX0_becomeDifference_27 : decode cX0_becomeDifference 27 = .ok (.aload_n 0, 1) := by decide +kernel
theorem dX0_becomeDifference_28 : decode cX0_becomeDifference 28 = .ok (.getfield 15, 3) := by decide +kernel
theorem dX0_becomeDifference_31 : decode cX0_becomeDifference 31 = .ok (.iload_n 3, 1) := by decide +kernel
theorem dX0_becomeDifference_32 : decode cX0_becomeDifference 32 = .ok (.iaload, 1) := by decide +kernel
theorem dX0_becomeDifference_33 : decode cX0_becomeDifference 33 = .ok (.isub, 1) := by decide +kernel
theorem dX0_becomeDifference_34 : decode cX0_becomeDifference 34 = .ok (.sipush 10007, 3) := by decide +kernel
theorem dX0_becomeDifference_37 : decode cX0_becomeDifference 37 = .ok (.irem, 1) := by decide +kernel
theorem dX0_becomeDifference_38 : decode cX0_becomeDifference 38 = .ok (.iastore, 1) := by decide +kernel
theorem dX0_becomeDifference_39 : decode cX0_becomeDifference 39 = .ok (.iinc 3 1, 3) := by decide +kernel
theorem dX0_becomeDifference_42 : decode cX0_becomeDifference 42 = .ok (.goto (-31), 3) := by decide +kernel
theorem dX0_becomeDifference_45 : decode cX0_becomeDifference 45 = .ok (.return_, 1) := by decide +kernel
theorem dX0_placeBlock_0 : decode cX0_placeBlock 0 = .ok (.aload_n 1, 1) := by decide +kernel
theorem dX0_placeBlock_1 : decode cX0_placeBlock 1 = .ok (.getfield 9, 3) := by decide +kernel
theorem dX0_placeBlock_4 : decode cX0_placeBlock 4 = .ok (.istore_n 3, 1) := by decide +kernel
theorem dX0_placeBlock_5 : decode cX0_placeBlock 5 = .ok (.aload_n 1, 1) := by decide +kernel
theorem dX0_placeBlock_6 : decode cX0_placeBlock 6 = .ok (.getfield 15, 3) := by decide +kernel
theorem dX0_placeBlock_9 : decode cX0_placeBlock 9 = .ok (.iconst 0, 1) := by decide +kernel
theorem dX0_placeBlock_10 : decode cX0_placeBlock 10 = .ok (.aload_n 0, 1) := by decide +kernel
theorem dX0_placeBlock_11 : decode cX0_placeBlock 11 = .ok (.getfield 15, 3) := by decide +kernel
theorem dX0_placeBlock_14 : decode cX0_placeBlock 14 = .ok (.iload_n 2, 1) := by decide +kernel
theorem dX0_placeBlock_15 : decode cX0_placeBlock 15 = .ok (.iload_n 3, 1) := by decide +kernel
theorem dX0_placeBlock_16 : decode cX0_placeBlock 16 = .ok (.invokestatic 33, 3) := by decide +kernel
theorem dX0_placeBlock_19 : decode cX0_placeBlock 19 = .ok (.aload_n 1, 1) := by decide +kernel
theorem dX0_placeBlock_20 : decode cX0_placeBlock 20 = .ok (.getfield 19, 3) := by decide +kernel
theorem dX0_placeBlock_23 : decode cX0_placeBlock 23 = .ok (.iconst 0, 1) := by decide +kernel
theorem dX0_placeBlock_24 : decode cX0_placeBlock 24 = .ok (.aload_n 0, 1) := by decide +kernel
theorem dX0_placeBlock_25 : decode cX0_placeBlock 25 = .ok (.getfield 19, 3) := by decide +kernel
theorem dX0_placeBlock_28 : decode cX0_placeBlock 28 = .ok (.iload_n 2, 1) := by decide +kernel
theorem dX0_placeBlock_29 : decode cX0_placeBlock 29 = .ok (.iload_n 3, 1) := by decide +kernel
theorem dX0_placeBlock_30 : decode cX0_placeBlock 30 = .ok (.invokestatic 33, 3) := by decide +kernel
theorem dX0_placeBlock_33 : decode cX0_placeBlock 33 = .ok (.iconst 0, 1) := by decide +kernel
theorem dX0_placeBlock_34 : decode cX0_placeBlock 34 = .ok (.istore 4, 2) := by decide +kernel
theorem dX0_placeBlock_36 : decode cX0_placeBlock 36 = .ok (.iload 4, 2) := by decide +kernel
theorem dX0_placeBlock_38 : decode cX0_placeBlock 38 = .ok (.iconst 2, 1) := by decide +kernel
theorem dX0_placeBlock_39 : decode cX0_placeBlock 39 = .ok (.if_icmp .ge 57, 3) := by decide +kernel
theorem dX0_placeBlock_42 : decode cX0_placeBlock 42 = .ok (.iconst 0, 1) := by decide +kernel
theorem dX0_placeBlock_43 : decode cX0_placeBlock 43 = .ok (.istore 5, 2) := by decide +kernel
theorem dX0_placeBlock_45 : decode cX0_placeBlock 45 = .ok (.iload 5, 2) := by decide +kernel
theorem dX0_placeBlock_47 : decode cX0_placeBlock 47 = .ok (.iload_n 3, 1) := by decide +kernel
theorem dX0_placeBlock_48 : decode cX0_placeBlock 48 = .ok (.if_icmp .ge 42, 3) := by decide +kernel
theorem dX0_placeBlock_51 : decode cX0_placeBlock 51 = .ok (.aload_n 1, 1) := by decide +kernel
theorem dX0_placeBlock_52 : decode cX0_placeBlock 52 = .ok (.getfield 24, 3) := by decide +kernel
theorem dX0_placeBlock_55 : decode cX0_placeBlock 55 = .ok (.iload 4, 2) := by decide +kernel
theorem dX0_placeBlock_57 : decode cX0_placeBlock 57 = .ok (.aaload, 1) := by decide +kernel
theorem dX0_placeBlock_58 : decode cX0_placeBlock 58 = .ok (.iload 5, 2) := by decide +kernel
theorem dX0_placeBlock_60 : decode cX0_placeBlock 60 = .ok (.iload_n 3, 1) := by decide +kernel
theorem dX0_placeBlock_61 : decode cX0_placeBlock 61 = .ok (.imul, 1) := by decide +kernel
theorem dX0_placeBlock_62 : decode cX0_placeBlock 62 = .ok (.aload_n 0, 1) := by decide +kernel
theorem dX0_placeBlock_63 : decode cX0_placeBlock 63 = .ok (.getfield 24, 3) := by decide +kernel
theorem dX0_placeBlock_66 : decode cX0_placeBlock 66 = .ok (.iload 4, 2) := by decide +kernel
theorem dX0_placeBlock_68 : decode cX0_placeBlock 68 = .ok (.aaload, 1) := by decide +kernel
theorem dX0_placeBlock_69 : decode cX0_placeBlock 69 = .ok (.iload_n 2, 1) := by decide +kernel
theorem dX0_placeBlock_70 : decode cX0_placeBlock 70 = .ok (.iload 5, 2) := by decide +kernel
theorem dX0_placeBlock_72 : decode cX0_placeBlock 72 = .ok (.iadd, 1) := by decide +kernel
theorem dX0_placeBlock_73 : decode cX0_placeBlock 73 = .ok (.aload_n 0, 1) := by decide +kernel
theorem dX0_placeBlock_74 : decode cX0_placeBlock 74 = .ok (.getfield 9, 3) := by decide +kernel
theorem dX0_placeBlock_77 : decode cX0_placeBlock 77 = .ok (.imul, 1) := by decide +kernel
theorem dX0_placeBlock_78 : decode cX0_placeBlock 78 = .ok (.iload_n 2, 1) := by decide +kernel
theorem dX0_placeBlock_79 : decode cX0_placeBlock 79 = .ok (.iadd, 1) := by decide +kernel
theorem dX0_placeBlock_80 : decode cX0_placeBlock 80 = .ok (.iload_n 3, 1) := by decide +kernel
theorem dX0_placeBlock_81 : decode cX0_placeBlock 81 = .ok (.invokestatic 33, 3) := by decide +kernel
theorem dX0_placeBlock_84 : decode cX0_placeBlock 84 = .ok (.iinc 5 1, 3) := by decide +kernel
theorem dX0_placeBlock_87 : decode cX0_placeBlock 87 = .ok (.goto (-42), 3) := by decide +kernel
theorem dX0_placeBlock_90 : decode cX0_placeBlock 90 = .ok (.iinc 4 1, 3) := by decide +kernel
theorem dX0_placeBlock_93 : decode cX0_placeBlock 93 = .ok (.goto (-57), 3) := by decide +kernel
theorem dX0_placeBlock_96 : decode cX0_placeBlock 96 = .ok (.return_, 1) := by decide +kernel
theorem dX0_becomeHadamard_0 : decode cX0_becomeHadamard 0 = .ok (.aload_n 0, 1) := by decide +kernel
theorem dX0_becomeHadamard_1 : decode cX0_becomeHadamard 1 = .ok (.aload_n 1, 1) := by decide +kernel
theorem dX0_becomeHadamard_2 : decode cX0_becomeHadamard 2 = .ok (.getfield 9, 3) := by decide +kernel
theorem dX0_becomeHadamard_5 : decode cX0_becomeHadamard 5 = .ok (.aload_n 2, 1) := by decide +kernel
theorem dX0_becomeHadamard_6 : decode cX0_becomeHadamard 6 = .ok (.getfield 9, 3) := by decide +kernel
theorem dX0_becomeHadamard_9 : decode cX0_becomeHadamard 9 = .ok (.imul, 1) := by decide +kernel
theorem dX0_becomeHadamard_10 : decode cX0_becomeHadamard 10 = .ok (.putfield 9, 3) := by decide +kernel
theorem dX0_becomeHadamard_13 : decode cX0_becomeHadamard 13 = .ok (.iconst 0, 1) := by decide +kernel
theorem dX0_becomeHadamard_14 : decode cX0_becomeHadamard 14 = .ok (.istore_n 3, 1) := by decide +kernel
theorem dX0_becomeHadamard_15 : decode cX0_becomeHadamard 15 = .ok (.iload_n 3, 1) := by decide +kernel
theorem dX0_becomeHadamard_16 : decode cX0_becomeHadamard 16 = .ok (.aload_n 1, 1) := by decide +kernel
theorem dX0_becomeHadamard_17 : decode cX0_becomeHadamard 17 = .ok (.getfield 9, 3) := by decide +kernel
theorem dX0_becomeHadamard_20 : decode cX0_becomeHadamard 20 = .ok (.if_icmp .ge 114, 3) := by decide +kernel
theorem dX0_becomeHadamard_23 : decode cX0_becomeHadamard 23 = .ok (.iconst 0, 1) := by decide +kernel
theorem dX0_becomeHadamard_24 : decode cX0_becomeHadamard 24 = .ok (.istore 4, 2) := by decide +kernel
theorem dX0_becomeHadamard_26 : decode cX0_becomeHadamard 26 = .ok (.iload 4, 2) := by decide +kernel
theorem dX0_becomeHadamard_28 : decode cX0_becomeHadamard 28 = .ok (.aload_n 2, 1) := by decide +kernel
theorem dX0_becomeHadamard_29 : decode cX0_becomeHadamard 29 = .ok (.getfield 9, 3) := by decide +kernel
theorem dX0_becomeHadamard_32 : decode cX0_becomeHadamard 32 = .ok (.if_icmp .ge 96, 3) := by decide +kernel
theorem dX0_becomeHadamard_35 : decode cX0_becomeHadamard 35 = .ok (.aload_n 2, 1) := by decide +kernel
theorem dX0_becomeHadamard_36 : decode cX0_becomeHadamard 36 = .ok (.getfield 9, 3) := by decide +kernel
theorem dX0_becomeHadamard_39 : decode cX0_becomeHadamard 39 = .ok (.iload_n 3, 1) := by decide +kernel
theorem dX0_becomeHadamard_40 : decode cX0_becomeHadamard 40 = .ok (.imul, 1) := by decide +kernel
theorem dX0_becomeHadamard_41 : decode cX0_becomeHadamard 41 = .ok (.iload 4, 2) := by decide +kernel
theorem dX0_becomeHadamard_43 : decode cX0_becomeHadamard 43 = .ok (.iadd, 1) := by decide +kernel
theorem dX0_becomeHadamard_44 : decode cX0_becomeHadamard 44 = .ok (.istore 5, 2) := by decide +kernel
theorem dX0_becomeHadamard_46 : decode cX0_becomeHadamard 46 = .ok (.aload_n 0, 1) := by decide +kernel
theorem dX0_becomeHadamard_47 : decode cX0_becomeHadamard 47 = .ok (.getfield 15, 3) := by decide +kernel
theorem dX0_becomeHadamard_50 : decode cX0_becomeHadamard 50 = .ok (.iload 5, 2) := by decide +kernel
theorem dX0_becomeHadamard_52 : decode cX0_becomeHadamard 52 = .ok (.aload_n 1, 1) := by decide +kernel
theorem dX0_becomeHadamard_53 : decode cX0_becomeHadamard 53 = .ok (.getfield 15, 3) := by decide +kernel
theorem dX0_becomeHadamard_56 : decode cX0_becomeHadamard 56 = .ok (.iload_n 3, 1) := by decide +kernel
theorem dX0_becomeHadamard_57 : decode cX0_becomeHadamard 57 = .ok (.iaload, 1) := by decide +kernel
theorem dX0_becomeHadamard_58 : decode cX0_becomeHadamard 58 = .ok (.aload_n 2, 1) := by decide +kernel
theorem dX0_becomeHadamard_59 : decode cX0_becomeHadamard 59 = .ok (.getfield 15, 3) := by decide +kernel
theorem dX0_becomeHadamard_62 : decode cX0_becomeHadamard 62 = .ok (.iload 4, 2) := by decide +kernel
theorem dX0_becomeHadamard_64 : decode cX0_becomeHadamard 64 = .ok (.iaload, 1) := by decide +kernel
theorem dX0_becomeHadamard_65 : decode cX0_becomeHadamard 65 = .ok (.imul, 1) := by decide +kernel
theorem dX0_becomeHadamard_66 : decode cX0_becomeHadamard 66 = .ok (.sipush 10007, 3) := by decide +kernel
theorem dX0_becomeHadamard_69 : decode cX0_becomeHadamard 69 = .ok (.irem, 1) := by decide +kernel
theorem dX0_becomeHadamard_70 : decode cX0_becomeHadamard 70 = .ok (.iastore, 1) := by decide +kernel
theorem dX0_becomeHadamard_71 : decode cX0_becomeHadamard 71 = .ok (.aload_n 0, 1) := by decide +kernel
theorem dX0_becomeHadamard_72 : decode cX0_becomeHadamard 72 = .ok (.getfield 19, 3) := by decide +kernel
theorem dX0_becomeHadamard_75 : decode cX0_becomeHadamard 75 = .ok (.iload 5, 2) := by decide +kernel
theorem dX0_becomeHadamard_77 : decode cX0_becomeHadamard 77 = .ok (.aload_n 1, 1) := by decide +kernel
theorem dX0_becomeHadamard_78 : decode cX0_becomeHadamard 78 = .ok (.getfield 19, 3) := by decide +kernel
theorem dX0_becomeHadamard_81 : decode cX0_becomeHadamard 81 = .ok (.iload_n 3, 1) := by decide +kernel
theorem dX0_becomeHadamard_82 : decode cX0_becomeHadamard 82 = .ok (.iaload, 1) := by decide +kernel
theorem dX0_becomeHadamard_83 : decode cX0_becomeHadamard 83 = .ok (.aload_n 2, 1) := by decide +kernel
theorem dX0_becomeHadamard_84 : decode cX0_becomeHadamard 84 = .ok (.getfield 19, 3) := by decide +kernel
theorem dX0_becomeHadamard_87 : decode cX0_becomeHadamard 87 = .ok (.iload 4, 2) := by decide +kernel
theorem dX0_becomeHadamard_89 : decode cX0_becomeHadamard 89 = .ok (.iaload, 1) := by decide +kernel
theorem dX0_becomeHadamard_90 : decode cX0_becomeHadamard 90 = .ok (.imul, 1) := by decide +kernel
theorem dX0_becomeHadamard_91 : decode cX0_becomeHadamard 91 = .ok (.sipush 10007, 3) := by decide +kernel
theorem dX0_becomeHadamard_94 : decode cX0_becomeHadamard 94 = .ok (.irem, 1) := by decide +kernel
theorem dX0_becomeHadamard_95 : decode cX0_becomeHadamard 95 = .ok (.iastore, 1) := by decide +kernel
theorem dX0_becomeHadamard_96 : decode cX0_becomeHadamard 96 = .ok (.iconst 0, 1) := by decide +kernel
theorem dX0_becomeHadamard_97 : decode cX0_becomeHadamard 97 = .ok (.istore 6, 2) := by decide +kernel
theorem dX0_becomeHadamard_99 : decode cX0_becomeHadamard 99 = .ok (.iload 6, 2) := by decide +kernel
theorem dX0_becomeHadamard_101 : decode cX0_becomeHadamard 101 = .ok (.iconst 2, 1) := by decide +kernel
theorem dX0_becomeHadamard_102 : decode cX0_becomeHadamard 102 = .ok (.if_icmp .ge 20, 3) := by decide +kernel
theorem dX0_becomeHadamard_105 : decode cX0_becomeHadamard 105 = .ok (.aload_n 0, 1) := by decide +kernel
theorem dX0_becomeHadamard_106 : decode cX0_becomeHadamard 106 = .ok (.aload_n 1, 1) := by decide +kernel
theorem dX0_becomeHadamard_107 : decode cX0_becomeHadamard 107 = .ok (.iload_n 3, 1) := by decide +kernel
theorem dX0_becomeHadamard_108 : decode cX0_becomeHadamard 108 = .ok (.aload_n 2, 1) := by decide +kernel
theorem dX0_becomeHadamard_109 : decode cX0_becomeHadamard 109 = .ok (.iload 4, 2) := by decide +kernel
theorem dX0_becomeHadamard_111 : decode cX0_becomeHadamard 111 = .ok (.iload 6, 2) := by decide +kernel
theorem dX0_becomeHadamard_113 : decode cX0_becomeHadamard 113 = .ok (.invokevirtual 69, 3) := by decide +kernel
theorem dX0_becomeHadamard_116 : decode cX0_becomeHadamard 116 = .ok (.iinc 6 1, 3) := by decide +kernel
theorem dX0_becomeHadamard_119 : decode cX0_becomeHadamard 119 = .ok (.goto (-20), 3) := by decide +kernel
theorem dX0_becomeHadamard_122 : decode cX0_becomeHadamard 122 = .ok (.iinc 4 1, 3) := by decide +kernel
theorem dX0_becomeHadamard_125 : decode cX0_becomeHadamard 125 = .ok (.goto (-99), 3) := by decide +kernel
theorem dX0_becomeHadamard_128 : decode cX0_becomeHadamard 128 = .ok (.iinc 3 1, 3) := by decide +kernel
theorem dX0_becomeHadamard_131 : decode cX0_becomeHadamard 131 = .ok (.goto (-116), 3) := by decide +kernel
theorem dX0_becomeHadamard_134 : decode cX0_becomeHadamard 134 = .ok (.return_, 1) := by decide +kernel
theorem dX0_placeProducts_0 : decode cX0_placeProducts 0 = .ok (.aload_n 3, 1) := by decide +kernel
theorem dX0_placeProducts_1 : decode cX0_placeProducts 1 = .ok (.getfield 9, 3) := by decide +kernel
theorem dX0_placeProducts_4 : decode cX0_placeProducts 4 = .ok (.iload_n 2, 1) := by decide +kernel
theorem dX0_placeProducts_5 : decode cX0_placeProducts 5 = .ok (.imul, 1) := by decide +kernel
theorem dX0_placeProducts_6 : decode cX0_placeProducts 6 = .ok (.iload 4, 2) := by decide +kernel
theorem dX0_placeProducts_8 : decode cX0_placeProducts 8 = .ok (.iadd, 1) := by decide +kernel
theorem dX0_placeProducts_9 : decode cX0_placeProducts 9 = .ok (.aload_n 0, 1) := by decide +kernel
theorem dX0_placeProducts_10 : decode cX0_placeProducts 10 = .ok (.getfield 9, 3) := by decide +kernel
theorem dX0_placeProducts_13 : decode cX0_placeProducts 13 = .ok (.imul, 1) := by decide +kernel
theorem dX0_placeProducts_14 : decode cX0_placeProducts 14 = .ok (.istore 6, 2) := by decide +kernel
theorem dX0_placeProducts_16 : decode cX0_placeProducts 16 = .ok (.iconst 0, 1) := by decide +kernel
theorem dX0_placeProducts_17 : decode cX0_placeProducts 17 = .ok (.istore 7, 2) := by decide +kernel
theorem dX0_placeProducts_19 : decode cX0_placeProducts 19 = .ok (.iload 7, 2) := by decide +kernel
theorem dX0_placeProducts_21 : decode cX0_placeProducts 21 = .ok (.aload_n 1, 1) := by decide +kernel
theorem dX0_placeProducts_22 : decode cX0_placeProducts 22 = .ok (.getfield 9, 3) := by decide +kernel
theorem dX0_placeProducts_25 : decode cX0_placeProducts 25 = .ok (.if_icmp .ge 96, 3) := by decide +kernel
theorem dX0_placeProducts_28 : decode cX0_placeProducts 28 = .ok (.aload_n 1, 1) := by decide +kernel
theorem dX0_placeProducts_29 : decode cX0_placeProducts 29 = .ok (.getfield 24, 3) := by decide +kernel
theorem dX0_placeProducts_32 : decode cX0_placeProducts 32 = .ok (.iload 5, 2) := by decide +kernel
theorem dX0_placeProducts_34 : decode cX0_placeProducts 34 = .ok (.aaload, 1) := by decide +kernel
theorem dX0_placeProducts_35 : decode cX0_placeProducts 35 = .ok (.iload_n 2, 1) := by decide +kernel
theorem dX0_placeProducts_36 : decode cX0_placeProducts 36 = .ok (.aload_n 1, 1) := by decide +kernel
theorem dX0_placeProducts_37 : decode cX0_placeProducts 37 = .ok (.getfield 9, 3) := by decide +kernel
theorem dX0_placeProducts_40 : decode cX0_placeProducts 40 = .ok (.imul, 1) := by decide +kernel
theorem dX0_placeProducts_41 : decode cX0_placeProducts 41 = .ok (.iload 7, 2) := by decide +kernel
theorem dX0_placeProducts_43 : decode cX0_placeProducts 43 = .ok (.iadd, 1) := by decide +kernel
theorem dX0_placeProducts_44 : decode cX0_placeProducts 44 = .ok (.iaload, 1) := by decide +kernel
theorem dX0_placeProducts_45 : decode cX0_placeProducts 45 = .ok (.istore 8, 2) := by decide +kernel
theorem dX0_placeProducts_47 : decode cX0_placeProducts 47 = .ok (.iconst 0, 1) := by decide +kernel
theorem dX0_placeProducts_48 : decode cX0_placeProducts 48 = .ok (.istore 9, 2) := by decide +kernel
theorem dX0_placeProducts_50 : decode cX0_placeProducts 50 = .ok (.iload 9, 2) := by decide +kernel
theorem dX0_placeProducts_52 : decode cX0_placeProducts 52 = .ok (.aload_n 3, 1) := by decide +kernel
theorem dX0_placeProducts_53 : decode cX0_placeProducts 53 = .ok (.getfield 9, 3) := by decide +kernel
theorem dX0_placeProducts_56 : decode cX0_placeProducts 56 = .ok (.if_icmp .ge 59, 3) := by decide +kernel
theorem dX0_placeProducts_59 : decode cX0_placeProducts 59 = .ok (.aload_n 3, 1) := by decide +kernel
theorem dX0_placeProducts_60 : decode cX0_placeProducts 60 = .ok (.getfield 24, 3) := by decide +kernel
theorem dX0_placeProducts_63 : decode cX0_placeProducts 63 = .ok (.iload 5, 2) := by decide +kernel
theorem dX0_placeProducts_65 : decode cX0_placeProducts 65 = .ok (.aaload, 1) := by decide +kernel
theorem dX0_placeProducts_66 : decode cX0_placeProducts 66 = .ok (.iload 4, 2) := by decide +kernel
theorem dX0_placeProducts_68 : decode cX0_placeProducts 68 = .ok (.aload_n 3, 1) := by decide +kernel
theorem dX0_placeProducts_69 : decode cX0_placeProducts 69 = .ok (.getfield 9, 3) := by decide +kernel
theorem dX0_placeProducts_72 : decode cX0_placeProducts 72 = .ok (.imul, 1) := by decide +kernel
theorem dX0_placeProducts_73 : decode cX0_placeProducts 73 = .ok (.iload 9, 2) := by decide +kernel
theorem dX0_placeProducts_75 : decode cX0_placeProducts 75 = .ok (.iadd, 1) := by decide +kernel
theorem dX0_placeProducts_76 : decode cX0_placeProducts 76 = .ok (.iaload, 1) := by decide +kernel
theorem dX0_placeProducts_77 : decode cX0_placeProducts 77 = .ok (.istore 10, 2) := by decide +kernel
theorem dX0_placeProducts_79 : decode cX0_placeProducts 79 = .ok (.aload_n 0, 1) := by decide +kernel
theorem dX0_placeProducts_80 : decode cX0_placeProducts 80 = .ok (.getfield 24, 3) := by decide +kernel
theorem dX0_placeProducts_83 : decode cX0_placeProducts 83 = .ok (.iload 5, 2) := by decide +kernel
theorem dX0_placeProducts_85 : decode cX0_placeProducts 85 = .ok (.aaload, 1) := by decide +kernel
theorem dX0_placeProducts_86 : decode cX0_placeProducts 86 = .ok (.iload 6, 2) := by decide +kernel
theorem dX0_placeProducts_88 : decode cX0_placeProducts 88 = .ok (.aload_n 3, 1) := by decide +kernel
theorem dX0_placeProducts_89 : decode cX0_placeProducts 89 = .ok (.getfield 9, 3) := by decide +kernel
theorem dX0_placeProducts_92 : decode cX0_placeProducts 92 = .ok (.iload 7, 2) := by decide +kernel
theorem dX0_placeProducts_94 : decode cX0_placeProducts 94 = .ok (.imul, 1) := by decide +kernel
theorem dX0_placeProducts_95 : decode cX0_placeProducts 95 = .ok (.iadd, 1) := by decide +kernel
theorem dX0_placeProducts_96 : decode cX0_placeProducts 96 = .ok (.iload 9, 2) := by decide +kernel
theorem dX0_placeProducts_98 : decode cX0_placeProducts 98 = .ok (.iadd, 1) := by decide +kernel
theorem dX0_placeProducts_99 : decode cX0_placeProducts 99 = .ok (.iload 8, 2) := by decide +kernel
theorem dX0_placeProducts_101 : decode cX0_placeProducts 101 = .ok (.iload 10, 2) := by decide +kernel
theorem dX0_placeProducts_103 : decode cX0_placeProducts 103 = .ok (.imul, 1) := by decide +kernel
theorem dX0_placeProducts_104 : decode cX0_placeProducts 104 = .ok (.sipush 10007, 3) := by decide +kernel
theorem dX0_placeProducts_107 : decode cX0_placeProducts 107 = .ok (.irem, 1) := by decide +kernel
theorem dX0_placeProducts_108 : decode cX0_placeProducts 108 = .ok (.iastore, 1) := by decide +kernel
theorem dX0_placeProducts_109 : decode cX0_placeProducts 109 = .ok (.iinc 9 1, 3) := by decide +kernel
theorem dX0_placeProducts_112 : decode cX0_placeProducts 112 = .ok (.goto (-62), 3) := by decide +kernel
theorem dX0_placeProducts_115 : decode cX0_placeProducts 115 = .ok (.iinc 7 1, 3) := by decide +kernel
theorem dX0_placeProducts_118 : decode cX0_placeProducts 118 = .ok (.goto (-99), 3) := by decide +kernel
theorem dX0_placeProducts_121 : decode cX0_placeProducts 121 = .ok (.return_, 1) := by decide +kernel
theorem dX0_becomeCauchy_0 : decode cX0_becomeCauchy 0 = .ok (.aload_n 0, 1) := by decide +kernel
theorem dX0_becomeCauchy_1 : decode cX0_becomeCauchy 1 = .ok (.aload_n 1, 1) := by decide +kernel
theorem dX0_becomeCauchy_2 : decode cX0_becomeCauchy 2 = .ok (.aload_n 2, 1) := by decide +kernel
theorem dX0_becomeCauchy_3 : decode cX0_becomeCauchy 3 = .ok (.invokevirtual 65, 3) := by decide +kernel
theorem dX0_becomeCauchy_6 : decode cX0_becomeCauchy 6 = .ok (.aload_n 1, 1) := by decide +kernel
theorem dX0_becomeCauchy_7 : decode cX0_becomeCauchy 7 = .ok (.getfield 9, 3) := by decide +kernel
theorem dX0_becomeCauchy_10 : decode cX0_becomeCauchy 10 = .ok (.istore_n 3, 1) := by decide +kernel
theorem dX0_becomeCauchy_11 : decode cX0_becomeCauchy 11 = .ok (.aload_n 0, 1) := by decide +kernel
theorem dX0_becomeCauchy_12 : decode cX0_becomeCauchy 12 = .ok (.getfield 19, 3) := by decide +kernel
theorem dX0_becomeCauchy_15 : decode cX0_becomeCauchy 15 = .ok (.aload_n 2, 1) := by decide +kernel
theorem dX0_becomeCauchy_16 : decode cX0_becomeCauchy 16 = .ok (.invokevirtual 73, 3) := by decide +kernel
theorem dX0_becomeCauchy_19 : decode cX0_becomeCauchy 19 = .ok (.iload_n 3, 1) := by decide +kernel
theorem dX0_becomeCauchy_20 : decode cX0_becomeCauchy 20 = .ok (.invokestatic 77, 3) := by decide +kernel
theorem dX0_becomeCauchy_23 : decode cX0_becomeCauchy 23 = .ok (.aload_n 1, 1) := by decide +kernel
theorem dX0_becomeCauchy_24 : decode cX0_becomeCauchy 24 = .ok (.invokevirtual 73, 3) := by decide +kernel
theorem dX0_becomeCauchy_27 : decode cX0_becomeCauchy 27 = .ok (.istore 4, 2) := by decide +kernel
theorem dX0_becomeCauchy_29 : decode cX0_becomeCauchy 29 = .ok (.iload_n 3, 1) := by decide +kernel
theorem dX0_becomeCauchy_30 : decode cX0_becomeCauchy 30 = .ok (.istore 5, 2) := by decide +kernel
theorem dX0_becomeCauchy_32 : decode cX0_becomeCauchy 32 = .ok (.iload 5, 2) := by decide +kernel
theorem dX0_becomeCauchy_34 : decode cX0_becomeCauchy 34 = .ok (.aload_n 0, 1) := by decide +kernel
theorem dX0_becomeCauchy_35 : decode cX0_becomeCauchy 35 = .ok (.getfield 9, 3) := by decide +kernel
theorem dX0_becomeCauchy_38 : decode cX0_becomeCauchy 38 = .ok (.if_icmp .ge 30, 3) := by decide +kernel
theorem dX0_becomeCauchy_41 : decode cX0_becomeCauchy 41 = .ok (.aload_n 0, 1) := by decide +kernel
theorem dX0_becomeCauchy_42 : decode cX0_becomeCauchy 42 = .ok (.getfield 15, 3) := by decide +kernel
theorem dX0_becomeCauchy_45 : decode cX0_becomeCauchy 45 = .ok (.iload 5, 2) := by decide +kernel
theorem dX0_becomeCauchy_47 : decode cX0_becomeCauchy 47 = .ok (.aload_n 0, 1) := by decide +kernel
theorem dX0_becomeCauchy_48 : decode cX0_becomeCauchy 48 = .ok (.getfield 15, 3) := by decide +kernel
theorem dX0_becomeCauchy_51 : decode cX0_becomeCauchy 51 = .ok (.iload 5, 2) := by decide +kernel
theorem dX0_becomeCauchy_53 : decode cX0_becomeCauchy 53 = .ok (.iaload, 1) := by decide +kernel
theorem dX0_becomeCauchy_54 : decode cX0_becomeCauchy 54 = .ok (.iload 4, 2) := by decide +kernel
theorem dX0_becomeCauchy_56 : decode cX0_becomeCauchy 56 = .ok (.imul, 1) := by decide +kernel
theorem dX0_becomeCauchy_57 : decode cX0_becomeCauchy 57 = .ok (.sipush 10007, 3) := by decide +kernel
theorem dX0_becomeCauchy_60 : decode cX0_becomeCauchy 60 = .ok (.irem, 1) := by decide +kernel
theorem dX0_becomeCauchy_61 : decode cX0_becomeCauchy 61 = .ok (.iastore, 1) := by decide +kernel
theorem dX0_becomeCauchy_62 : decode cX0_becomeCauchy 62 = .ok (.iinc 5 1, 3) := by decide +kernel
theorem dX0_becomeCauchy_65 : decode cX0_becomeCauchy 65 = .ok (.goto (-33), 3) := by decide +kernel
theorem dX0_becomeCauchy_68 : decode cX0_becomeCauchy 68 = .ok (.iconst 0, 1) := by decide +kernel
theorem dX0_becomeCauchy_69 : decode cX0_becomeCauchy 69 = .ok (.istore 5, 2) := by decide +kernel
theorem dX0_becomeCauchy_71 : decode cX0_becomeCauchy 71 = .ok (.iload 5, 2) := by decide +kernel
theorem dX0_becomeCauchy_73 : decode cX0_becomeCauchy 73 = .ok (.iconst 2, 1) := by decide +kernel
theorem dX0_becomeCauchy_74 : decode cX0_becomeCauchy 74 = .ok (.if_icmp .ge 86, 3) := by decide +kernel
theorem dX0_becomeCauchy_77 : decode cX0_becomeCauchy 77 = .ok (.iconst 0, 1) := by decide +kernel
theorem dX0_becomeCauchy_78 : decode cX0_becomeCauchy 78 = .ok (.istore 6, 2) := by decide +kernel
theorem dX0_becomeCauchy_80 : decode cX0_becomeCauchy 80 = .ok (.iload 6, 2) := by decide +kernel
theorem dX0_becomeCauchy_82 : decode cX0_becomeCauchy 82 = .ok (.iload_n 3, 1) := by decide +kernel
theorem dX0_becomeCauchy_83 : decode cX0_becomeCauchy 83 = .ok (.if_icmp .ge 71, 3) := by decide +kernel
theorem dX0_becomeCauchy_86 : decode cX0_becomeCauchy 86 = .ok (.aload_n 1, 1) := by decide +kernel
theorem dX0_becomeCauchy_87 : decode cX0_becomeCauchy 87 = .ok (.iload 5, 2) := by decide +kernel
theorem dX0_becomeCauchy_89 : decode cX0_becomeCauchy 89 = .ok (.iload 6, 2) := by decide +kernel
theorem dX0_becomeCauchy_91 : decode cX0_becomeCauchy 91 = .ok (.invokevirtual 81, 3) := by decide +kernel
theorem dX0_becomeCauchy_94 : decode cX0_becomeCauchy 94 = .ok (.istore 7, 2) := by decide +kernel
theorem dX0_becomeCauchy_96 : decode cX0_becomeCauchy 96 = .ok (.iconst 0, 1) := by decide +kernel
theorem dX0_becomeCauchy_97 : decode cX0_becomeCauchy 97 = .ok (.istore 8, 2) := by decide +kernel
theorem dX0_becomeCauchy_99 : decode cX0_becomeCauchy 99 = .ok (.iload 8, 2) := by decide +kernel
theorem dX0_becomeCauchy_101 : decode cX0_becomeCauchy 101 = .ok (.aload_n 2, 1) := by decide +kernel
theorem dX0_becomeCauchy_102 : decode cX0_becomeCauchy 102 = .ok (.getfield 9, 3) := by decide +kernel
theorem dX0_becomeCauchy_105 : decode cX0_becomeCauchy 105 = .ok (.if_icmp .ge 43, 3) := by decide +kernel
theorem dX0_becomeCauchy_108 : decode cX0_becomeCauchy 108 = .ok (.aload_n 0, 1) := by decide +kernel
theorem dX0_becomeCauchy_109 : decode cX0_becomeCauchy 109 = .ok (.getfield 24, 3) := by decide +kernel
theorem dX0_becomeCauchy_112 : decode cX0_becomeCauchy 112 = .ok (.iload 5, 2) := by decide +kernel
theorem dX0_becomeCauchy_114 : decode cX0_becomeCauchy 114 = .ok (.aaload, 1) := by decide +kernel
theorem dX0_becomeCauchy_115 : decode cX0_becomeCauchy 115 = .ok (.iload 6, 2) := by decide +kernel
theorem dX0_becomeCauchy_117 : decode cX0_becomeCauchy 117 = .ok (.aload_n 0, 1) := by decide +kernel
theorem dX0_becomeCauchy_118 : decode cX0_becomeCauchy 118 = .ok (.getfield 9, 3) := by decide +kernel
theorem dX0_becomeCauchy_121 : decode cX0_becomeCauchy 121 = .ok (.imul, 1) := by decide +kernel
theorem dX0_becomeCauchy_122 : decode cX0_becomeCauchy 122 = .ok (.iload_n 3, 1) := by decide +kernel
theorem dX0_becomeCauchy_123 : decode cX0_becomeCauchy 123 = .ok (.iadd, 1) := by decide +kernel
theorem dX0_becomeCauchy_124 : decode cX0_becomeCauchy 124 = .ok (.iload 8, 2) := by decide +kernel
theorem dX0_becomeCauchy_126 : decode cX0_becomeCauchy 126 = .ok (.iadd, 1) := by decide +kernel
theorem dX0_becomeCauchy_127 : decode cX0_becomeCauchy 127 = .ok (.iload 7, 2) := by decide +kernel
theorem dX0_becomeCauchy_129 : decode cX0_becomeCauchy 129 = .ok (.aload_n 2, 1) := by decide +kernel
theorem dX0_becomeCauchy_130 : decode cX0_becomeCauchy 130 = .ok (.getfield 15, 3) := by decide +kernel
theorem dX0_becomeCauchy_133 : decode cX0_becomeCauchy 133 = .ok (.iload 8, 2) := by decide +kernel
theorem dX0_becomeCauchy_135 : decode cX0_becomeCauchy 135 = .ok (.iaload, 1) := by decide +kernel
theorem dX0_becomeCauchy_136 : decode cX0_becomeCauchy 136 = .ok (.imul, 1) := by decide +kernel
theorem dX0_becomeCauchy_137 : decode cX0_becomeCauchy 137 = .ok (.sipush 10007, 3) := by decide +kernel
theorem dX0_becomeCauchy_140 : decode cX0_becomeCauchy 140 = .ok (.irem, 1) := by decide +kernel
theorem dX0_becomeCauchy_141 : decode cX0_becomeCauchy 141 = .ok (.iastore, 1) := by decide +kernel
theorem dX0_becomeCauchy_142 : decode cX0_becomeCauchy 142 = .ok (.iinc 8 1, 3) := by decide +kernel
theorem dX0_becomeCauchy_145 : decode cX0_becomeCauchy 145 = .ok (.goto (-46), 3) := by decide +kernel
theorem dX0_becomeCauchy_148 : decode cX0_becomeCauchy 148 = .ok (.iinc 6 1, 3) := by decide +kernel
theorem dX0_becomeCauchy_151 : decode cX0_becomeCauchy 151 = .ok (.goto (-71), 3) := by decide +kernel
theorem dX0_becomeCauchy_154 : decode cX0_becomeCauchy 154 = .ok (.iinc 5 1, 3) := by decide +kernel
theorem dX0_becomeCauchy_157 : decode cX0_becomeCauchy 157 = .ok (.goto (-86), 3) := by decide +kernel
theorem dX0_becomeCauchy_160 : decode cX0_becomeCauchy 160 = .ok (.return_, 1) := by decide +kernel
theorem dX0_hasStar_0 : decode cX0_hasStar 0 = .ok (.aload_n 0, 1) := by decide +kernel
theorem dX0_hasStar_1 : decode cX0_hasStar 1 = .ok (.getfield 9, 3) := by decide +kernel
theorem dX0_hasStar_4 : decode cX0_hasStar 4 = .ok (.bipush 12, 2) := by decide +kernel
theorem dX0_hasStar_6 : decode cX0_hasStar 6 = .ok (.if_icmp .ge 14, 3) := by decide +kernel
theorem dX0_hasStar_9 : decode cX0_hasStar 9 = .ok (.aload_n 0, 1) := by decide +kernel
theorem dX0_hasStar_10 : decode cX0_hasStar 10 = .ok (.invokevirtual 73, 3) := by decide +kernel
theorem dX0_hasStar_13 : decode cX0_hasStar 13 = .ok (.ifCond .ne 7, 3) := by decide +kernel
theorem dX0_hasStar_16 : decode cX0_hasStar 16 = .ok (.iconst 1, 1) := by decide +kernel
theorem dX0_hasStar_17 : decode cX0_hasStar 17 = .ok (.goto 4, 3) := by decide +kernel
theorem dX0_hasStar_20 : decode cX0_hasStar 20 = .ok (.iconst 0, 1) := by decide +kernel
theorem dX0_hasStar_21 : decode cX0_hasStar 21 = .ok (.ireturn, 1) := by decide +kernel
theorem dX0_becomeStar_0 : decode cX0_becomeStar 0 = .ok (.aload_n 0, 1) := by decide +kernel
theorem dX0_becomeStar_1 : decode cX0_becomeStar 1 = .ok (.aload_n 1, 1) := by decide +kernel
theorem dX0_becomeStar_2 : decode cX0_becomeStar 2 = .ok (.getfield 9, 3) := by decide +kernel
theorem dX0_becomeStar_5 : decode cX0_becomeStar 5 = .ok (.iconst 1, 1) := by decide +kernel
theorem dX0_becomeStar_6 : decode cX0_becomeStar 6 = .ok (.iadd, 1) := by decide +kernel
theorem dX0_becomeStar_7 : decode cX0_becomeStar 7 = .ok (.invokevirtual 57, 3) := by decide +kernel
theorem dX0_becomeStar_10 : decode cX0_becomeStar 10 = .ok (.aload_n 0, 1) := by decide +kernel
theorem dX0_becomeStar_11 : decode cX0_becomeStar 11 = .ok (.aload_n 1, 1) := by decide +kernel
theorem dX0_becomeStar_12 : decode cX0_becomeStar 12 = .ok (.iconst 1, 1) := by decide +kernel
theorem dX0_becomeStar_13 : decode cX0_becomeStar 13 = .ok (.invokevirtual 61, 3) := by decide +kernel
theorem dX0_becomeStar_16 : decode cX0_becomeStar 16 = .ok (.aload_n 0, 1) := by decide +kernel
theorem dX0_becomeStar_17 : decode cX0_becomeStar 17 = .ok (.getfield 15, 3) := by decide +kernel
theorem dX0_becomeStar_20 : decode cX0_becomeStar 20 = .ok (.iconst 0, 1) := by decide +kernel
theorem dX0_becomeStar_21 : decode cX0_becomeStar 21 = .ok (.aload_n 0, 1) := by decide +kernel
theorem dX0_becomeStar_22 : decode cX0_becomeStar 22 = .ok (.getfield 9, 3) := by decide +kernel
theorem dX0_becomeStar_25 : decode cX0_becomeStar 25 = .ok (.iconst 0, 1) := by decide +kernel
theorem dX0_becomeStar_26 : decode cX0_becomeStar 26 = .ok (.invokestatic 27, 3) := by decide +kernel
theorem dX0_becomeStar_29 : decode cX0_becomeStar 29 = .ok (.aload_n 0, 1) := by decide +kernel
theorem dX0_becomeStar_30 : decode cX0_becomeStar 30 = .ok (.getfield 19, 3) := by decide +kernel
theorem dX0_becomeStar_33 : decode cX0_becomeStar 33 = .ok (.iconst 0, 1) := by decide +kernel
theorem dX0_becomeStar_34 : decode cX0_becomeStar 34 = .ok (.aload_n 0, 1) := by decide +kernel
theorem dX0_becomeStar_35 : decode cX0_becomeStar 35 = .ok (.getfield 9, 3) := by decide +kernel
theorem dX0_becomeStar_38 : decode cX0_becomeStar 38 = .ok (.iconst 0, 1) := by decide +kernel
theorem dX0_becomeStar_39 : decode cX0_becomeStar 39 = .ok (.invokestatic 27, 3) := by decide +kernel
theorem dX0_becomeStar_42 : decode cX0_becomeStar 42 = .ok (.aload_n 0, 1) := by decide +kernel
theorem dX0_becomeStar_43 : decode cX0_becomeStar 43 = .ok (.getfield 15, 3) := by decide +kernel
theorem dX0_becomeStar_46 : decode cX0_becomeStar 46 = .ok (.iconst 0, 1) := by decide +kernel
theorem dX0_becomeStar_47 : decode cX0_becomeStar 47 = .ok (.iconst 1, 1) := by decide +kernel
theorem dX0_becomeStar_48 : decode cX0_becomeStar 48 = .ok (.iastore, 1) := by decide +kernel
theorem dX0_becomeStar_49 : decode cX0_becomeStar 49 = .ok (.aload_n 0, 1) := by decide +kernel
theorem dX0_becomeStar_50 : decode cX0_becomeStar 50 = .ok (.getfield 19, 3) := by decide +kernel
theorem dX0_becomeStar_53 : decode cX0_becomeStar 53 = .ok (.iconst 0, 1) := by decide +kernel
theorem dX0_becomeStar_54 : decode cX0_becomeStar 54 = .ok (.iconst 1, 1) := by decide +kernel
theorem dX0_becomeStar_55 : decode cX0_becomeStar 55 = .ok (.iastore, 1) := by decide +kernel
theorem dX0_becomeStar_56 : decode cX0_becomeStar 56 = .ok (.iconst 0, 1) := by decide +kernel
theorem dX0_becomeStar_57 : decode cX0_becomeStar 57 = .ok (.istore_n 2, 1) := by decide +kernel
theorem dX0_becomeStar_58 : decode cX0_becomeStar 58 = .ok (.iload_n 2, 1) := by decide +kernel
theorem dX0_becomeStar_59 : decode cX0_becomeStar 59 = .ok (.iconst 2, 1) := by decide +kernel
theorem dX0_becomeStar_60 : decode cX0_becomeStar 60 = .ok (.if_icmp .ge 100, 3) := by decide +kernel
theorem dX0_becomeStar_63 : decode cX0_becomeStar 63 = .ok (.iconst 0, 1) := by decide +kernel
theorem dX0_becomeStar_64 : decode cX0_becomeStar 64 = .ok (.istore_n 3, 1) := by decide +kernel
theorem dX0_becomeStar_65 : decode cX0_becomeStar 65 = .ok (.iconst 0, 1) := by decide +kernel
theorem dX0_becomeStar_66 : decode cX0_becomeStar 66 = .ok (.istore 4, 2) := by decide +kernel
theorem dX0_becomeStar_68 : decode cX0_becomeStar 68 = .ok (.iload 4, 2) := by decide +kernel
theorem dX0_becomeStar_70 : decode cX0_becomeStar 70 = .ok (.aload_n 1, 1) := by decide +kernel
theorem dX0_becomeStar_71 : decode cX0_becomeStar 71 = .ok (.getfield 9, 3) := by decide +kernel
theorem dX0_becomeStar_74 : decode cX0_becomeStar 74 = .ok (.if_icmp .ge 71, 3) := by decide +kernel
theorem dX0_becomeStar_77 : decode cX0_becomeStar 77 = .ok (.aload_n 1, 1) := by decide +kernel
theorem dX0_becomeStar_78 : decode cX0_becomeStar 78 = .ok (.iload_n 2, 1) := by decide +kernel
theorem dX0_becomeStar_79 : decode cX0_becomeStar 79 = .ok (.iload 4, 2) := by decide +kernel
theorem dX0_becomeStar_81 : decode cX0_becomeStar 81 = .ok (.invokevirtual 81, 3) := by decide +kernel
theorem dX0_becomeStar_84 : decode cX0_becomeStar 84 = .ok (.istore 5, 2) := by decide +kernel
theorem dX0_becomeStar_86 : decode cX0_becomeStar 86 = .ok (.iload_n 3, 1) := by decide +kernel
theorem dX0_becomeStar_87 : decode cX0_becomeStar 87 = .ok (.aload_n 1, 1) := by decide +kernel
theorem dX0_becomeStar_88 : decode cX0_becomeStar 88 = .ok (.getfield 15, 3) := by decide +kernel
theorem dX0_becomeStar_91 : decode cX0_becomeStar 91 = .ok (.iload 4, 2) := by decide +kernel
theorem dX0_becomeStar_93 : decode cX0_becomeStar 93 = .ok (.iaload, 1) := by decide +kernel
theorem dX0_becomeStar_94 : decode cX0_becomeStar 94 = .ok (.iload 5, 2) := by decide +kernel
theorem dX0_becomeStar_96 : decode cX0_becomeStar 96 = .ok (.imul, 1) := by decide +kernel
theorem dX0_becomeStar_97 : decode cX0_becomeStar 97 = .ok (.iadd, 1) := by decide +kernel
theorem dX0_becomeStar_98 : decode cX0_becomeStar 98 = .ok (.sipush 10007, 3) := by decide +kernel
theorem dX0_becomeStar_101 : decode cX0_becomeStar 101 = .ok (.irem, 1) := by decide +kernel
theorem dX0_becomeStar_102 : decode cX0_becomeStar 102 = .ok (.istore_n 3, 1) := by decide +kernel
theorem dX0_becomeStar_103 : decode cX0_becomeStar 103 = .ok (.aload_n 0, 1) := by decide +kernel
theorem dX0_becomeStar_104 : decode cX0_becomeStar 104 = .ok (.getfield 24, 3) := by decide +kernel
theorem dX0_becomeStar_107 : decode cX0_becomeStar 107 = .ok (.iload_n 2, 1) := by decide +kernel
theorem dX0_becomeStar_108 : decode cX0_becomeStar 108 = .ok (.aaload, 1) := by decide +kernel
theorem dX0_becomeStar_109 : decode cX0_becomeStar 109 = .ok (.iconst 1, 1) := by decide +kernel
theorem dX0_becomeStar_110 : decode cX0_becomeStar 110 = .ok (.iload 4, 2) := by decide +kernel
theorem dX0_becomeStar_112 : decode cX0_becomeStar 112 = .ok (.iadd, 1) := by decide +kernel
theorem dX0_becomeStar_113 : decode cX0_becomeStar 113 = .ok (.aload_n 0, 1) := by decide +kernel
theorem dX0_becomeStar_114 : decode cX0_becomeStar 114 = .ok (.getfield 9, 3) := by decide +kernel
theorem dX0_becomeStar_117 : decode cX0_becomeStar 117 = .ok (.imul, 1) := by decide +kernel
theorem dX0_becomeStar_118 : decode cX0_becomeStar 118 = .ok (.iload 5, 2) := by decide +kernel
theorem dX0_becomeStar_120 : decode cX0_becomeStar 120 = .ok (.iastore, 1) := by decide +kernel
theorem dX0_becomeStar_121 : decode cX0_becomeStar 121 = .ok (.aload_n 0, 1) := by decide +kernel
theorem dX0_becomeStar_122 : decode cX0_becomeStar 122 = .ok (.getfield 24, 3) := by decide +kernel
theorem dX0_becomeStar_125 : decode cX0_becomeStar 125 = .ok (.iload_n 2, 1) := by decide +kernel
theorem dX0_becomeStar_126 : decode cX0_becomeStar 126 = .ok (.aaload, 1) := by decide +kernel
theorem dX0_becomeStar_127 : decode cX0_becomeStar 127 = .ok (.iconst 1, 1) := by decide +kernel
theorem dX0_becomeStar_128 : decode cX0_becomeStar 128 = .ok (.iload 4, 2) := by decide +kernel
theorem dX0_becomeStar_130 : decode cX0_becomeStar 130 = .ok (.iadd, 1) := by decide +kernel
theorem dX0_becomeStar_131 : decode cX0_becomeStar 131 = .ok (.aload_n 1, 1) := by decide +kernel
theorem dX0_becomeStar_132 : decode cX0_becomeStar 132 = .ok (.iload_n 2, 1) := by decide +kernel
theorem dX0_becomeStar_133 : decode cX0_becomeStar 133 = .ok (.iload 4, 2) := by decide +kernel
theorem dX0_becomeStar_135 : decode cX0_becomeStar 135 = .ok (.invokevirtual 85, 3) := by decide +kernel
theorem dX0_becomeStar_138 : decode cX0_becomeStar 138 = .ok (.iastore, 1) := by decide +kernel
theorem dX0_becomeStar_139 : decode cX0_becomeStar 139 = .ok (.iinc 4 1, 3) := by decide +kernel
theorem dX0_becomeStar_142 : decode cX0_becomeStar 142 = .ok (.goto (-74), 3) := by decide +kernel
theorem dX0_becomeStar_145 : decode cX0_becomeStar 145 = .ok (.aload_n 0, 1) := by decide +kernel
theorem dX0_becomeStar_146 : decode cX0_becomeStar 146 = .ok (.getfield 24, 3) := by decide +kernel
theorem dX0_becomeStar_149 : decode cX0_becomeStar 149 = .ok (.iload_n 2, 1) := by decide +kernel
theorem dX0_becomeStar_150 : decode cX0_becomeStar 150 = .ok (.aaload, 1) := by decide +kernel
theorem dX0_becomeStar_151 : decode cX0_becomeStar 151 = .ok (.iconst 0, 1) := by decide +kernel
theorem dX0_becomeStar_152 : decode cX0_becomeStar 152 = .ok (.iload_n 3, 1) := by decide +kernel
theorem dX0_becomeStar_153 : decode cX0_becomeStar 153 = .ok (.iastore, 1) := by decide +kernel
theorem dX0_becomeStar_154 : decode cX0_becomeStar 154 = .ok (.iinc 2 1, 3) := by decide +kernel
theorem dX0_becomeStar_157 : decode cX0_becomeStar 157 = .ok (.goto (-99), 3) := by decide +kernel
theorem dX0_becomeStar_160 : decode cX0_becomeStar 160 = .ok (.return_, 1) := by decide +kernel
theorem dX0_startAfter_0 : decode cX0_startAfter 0 = .ok (.iconst 0, 1) := by decide +kernel
theorem dX0_startAfter_1 : decode cX0_startAfter 1 = .ok (.istore_n 3, 1) := by decide +kernel
theorem dX0_startAfter_2 : decode cX0_startAfter 2 = .ok (.iload_n 3, 1) := by decide +kernel
theorem dX0_startAfter_3 : decode cX0_startAfter 3 = .ok (.aload_n 0, 1) := by decide +kernel
theorem dX0_startAfter_4 : decode cX0_startAfter 4 = .ok (.getfield 9, 3) := by decide +kernel
theorem dX0_startAfter_7 : decode cX0_startAfter 7 = .ok (.if_icmp .ge 21, 3) := by decide +kernel
theorem dX0_startAfter_10 : decode cX0_startAfter 10 = .ok (.aload_n 0, 1) := by decide +kernel
theorem dX0_startAfter_11 : decode cX0_startAfter 11 = .ok (.getfield 15, 3) := by decide +kernel
theorem dX0_startAfter_14 : decode cX0_startAfter 14 = .ok (.iload_n 3, 1) := by decide +kernel
theorem dX0_startAfter_15 : decode cX0_startAfter 15 = .ok (.aload_n 1, 1) := by decide +kernel
theorem dX0_startAfter_16 : decode cX0_startAfter 16 = .ok (.iload_n 2, 1) := by decide +kernel
theorem dX0_startAfter_17 : decode cX0_startAfter 17 = .ok (.iload_n 3, 1) := by decide +kernel
theorem dX0_startAfter_18 : decode cX0_startAfter 18 = .ok (.invokevirtual 85, 3) := by decide +kernel
theorem dX0_startAfter_21 : decode cX0_startAfter 21 = .ok (.iastore, 1) := by decide +kernel
theorem dX0_startAfter_22 : decode cX0_startAfter 22 = .ok (.iinc 3 1, 3) := by decide +kernel
theorem dX0_startAfter_25 : decode cX0_startAfter 25 = .ok (.goto (-23), 3) := by decide +kernel
theorem dX0_startAfter_28 : decode cX0_startAfter 28 = .ok (.return_, 1) := by decide +kernel
theorem dX0_reverse_0 : decode cX0_reverse 0 = .ok (.iconst 0, 1) := by decide +kernel
theorem dX0_reverse_1 : decode cX0_reverse 1 = .ok (.istore_n 1, 1) := by decide +kernel
theorem dX0_reverse_2 : decode cX0_reverse 2 = .ok (.iload_n 1, 1) := by decide +kernel
theorem dX0_reverse_3 : decode cX0_reverse 3 = .ok (.aload_n 0, 1) := by decide +kernel
theorem dX0_reverse_4 : decode cX0_reverse 4 = .ok (.getfield 9, 3) := by decide +kernel
theorem dX0_reverse_7 : decode cX0_reverse 7 = .ok (.if_icmp .ge 35, 3) := by decide +kernel
theorem dX0_reverse_10 : decode cX0_reverse 10 = .ok (.aload_n 0, 1) := by decide +kernel
theorem dX0_reverse_11 : decode cX0_reverse 11 = .ok (.getfield 15, 3) := by decide +kernel
theorem dX0_reverse_14 : decode cX0_reverse 14 = .ok (.iload_n 1, 1) := by decide +kernel
theorem dX0_reverse_15 : decode cX0_reverse 15 = .ok (.iaload, 1) := by decide +kernel
theorem dX0_reverse_16 : decode cX0_reverse 16 = .ok (.istore_n 2, 1) := by decide +kernel
theorem dX0_reverse_17 : decode cX0_reverse 17 = .ok (.aload_n 0, 1) := by decide +kernel
theorem dX0_reverse_18 : decode cX0_reverse 18 = .ok (.getfield 15, 3) := by decide +kernel
theorem dX0_reverse_21 : decode cX0_reverse 21 = .ok (.iload_n 1, 1) := by decide +kernel
theorem dX0_reverse_22 : decode cX0_reverse 22 = .ok (.aload_n 0, 1) := by decide +kernel
theorem dX0_reverse_23 : decode cX0_reverse 23 = .ok (.getfield 19, 3) := by decide +kernel
theorem dX0_reverse_26 : decode cX0_reverse 26 = .ok (.iload_n 1, 1) := by decide +kernel
theorem dX0_reverse_27 : decode cX0_reverse 27 = .ok (.iaload, 1) := by decide +kernel
theorem dX0_reverse_28 : decode cX0_reverse 28 = .ok (.iastore, 1) := by decide +kernel
theorem dX0_reverse_29 : decode cX0_reverse 29 = .ok (.aload_n 0, 1) := by decide +kernel
theorem dX0_reverse_30 : decode cX0_reverse 30 = .ok (.getfield 19, 3) := by decide +kernel
theorem dX0_reverse_33 : decode cX0_reverse 33 = .ok (.iload_n 1, 1) := by decide +kernel
theorem dX0_reverse_34 : decode cX0_reverse 34 = .ok (.iload_n 2, 1) := by decide +kernel
theorem dX0_reverse_35 : decode cX0_reverse 35 = .ok (.iastore, 1) := by decide +kernel
theorem dX0_reverse_36 : decode cX0_reverse 36 = .ok (.iinc 1 1, 3) := by decide +kernel
theorem dX0_reverse_39 : decode cX0_reverse 39 = .ok (.goto (-37), 3) := by decide +kernel
theorem dX0_reverse_42 : decode cX0_reverse 42 = .ok (.iconst 0, 1) := by decide +kernel
theorem dX0_reverse_43 : decode cX0_reverse 43 = .ok (.istore_n 1, 1) := by decide +kernel
theorem dX0_reverse_44 : decode cX0_reverse 44 = .ok (.iload_n 1, 1) := by decide +kernel
theorem dX0_reverse_45 : decode cX0_reverse 45 = .ok (.iconst 2, 1) := by decide +kernel
theorem dX0_reverse_46 : decode cX0_reverse 46 = .ok (.if_icmp .ge 19, 3) := by decide +kernel
theorem dX0_reverse_49 : decode cX0_reverse 49 = .ok (.aload_n 0, 1) := by decide +kernel
theorem dX0_reverse_50 : decode cX0_reverse 50 = .ok (.aload_n 0, 1) := by decide +kernel
theorem dX0_reverse_51 : decode cX0_reverse 51 = .ok (.getfield 24, 3) := by decide +kernel
theorem dX0_reverse_54 : decode cX0_reverse 54 = .ok (.iload_n 1, 1) := by decide +kernel
theorem dX0_reverse_55 : decode cX0_reverse 55 = .ok (.aaload, 1) := by decide +kernel
theorem dX0_reverse_56 : decode cX0_reverse 56 = .ok (.invokevirtual 88, 3) := by decide +kernel
theorem dX0_reverse_59 : decode cX0_reverse 59 = .ok (.iinc 1 1, 3) := by decide +kernel
theorem dX0_reverse_62 : decode cX0_reverse 62 = .ok (.goto (-18), 3) := by decide +kernel
theorem dX0_reverse_65 : decode cX0_reverse 65 = .ok (.return_, 1) := by decide +kernel
theorem dX0_transpose_0 : decode cX0_transpose 0 = .ok (.iconst 0, 1) := by decide +kernel
theorem dX0_transpose_1 : decode cX0_transpose 1 = .ok (.istore_n 2, 1) := by decide +kernel
theorem dX0_transpose_2 : decode cX0_transpose 2 = .ok (.iload_n 2, 1) := by decide +kernel
theorem dX0_transpose_3 : decode cX0_transpose 3 = .ok (.aload_n 0, 1) := by decide +kernel
theorem dX0_transpose_4 : decode cX0_transpose 4 = .ok (.getfield 9, 3) := by decide +kernel
theorem dX0_transpose_7 : decode cX0_transpose 7 = .ok (.if_icmp .ge 66, 3) := by decide +kernel
theorem dX0_transpose_10 : decode cX0_transpose 10 = .ok (.iconst 0, 1) := by decide +kernel
theorem dX0_transpose_11 : decode cX0_transpose 11 = .ok (.istore_n 3, 1) := by decide +kernel
theorem dX0_transpose_12 : decode cX0_transpose 12 = .ok (.iload_n 3, 1) := by decide +kernel
theorem dX0_transpose_13 : decode cX0_transpose 13 = .ok (.iload_n 2, 1) := by decide +kernel
theorem dX0_transpose_14 : decode cX0_transpose 14 = .ok (.if_icmp .ge 53, 3) := by decide +kernel
theorem dX0_transpose_17 : decode cX0_transpose 17 = .ok (.aload_n 1, 1) := by decide +kernel
theorem dX0_transpose_18 : decode cX0_transpose 18 = .ok (.iload_n 2, 1) := by decide +kernel
theorem dX0_transpose_19 : decode cX0_transpose 19 = .ok (.aload_n 0, 1) := by decide +kernel
theorem dX0_transpose_20 : decode cX0_transpose 20 = .ok (.getfield 9, 3) := by decide +kernel
theorem dX0_transpose_23 : decode cX0_transpose 23 = .ok (.imul, 1) := by decide +kernel
theorem dX0_transpose_24 : decode cX0_transpose 24 = .ok (.iload_n 3, 1) := by decide +kernel
theorem dX0_transpose_25 : decode cX0_transpose 25 = .ok (.iadd, 1) := by decide +kernel
theorem dX0_transpose_26 : decode cX0_transpose 26 = .ok (.iaload, 1) := by decide +kernel
theorem dX0_transpose_27 : decode cX0_transpose 27 = .ok (.istore 4, 2) := by decide +kernel
theorem dX0_transpose_29 : decode cX0_transpose 29 = .ok (.aload_n 1, 1) := by decide +kernel
theorem dX0_transpose_30 : decode cX0_transpose 30 = .ok (.iload_n 2, 1) := by decide +kernel
theorem dX0_transpose_31 : decode cX0_transpose 31 = .ok (.aload_n 0, 1) := by decide +kernel
theorem dX0_transpose_32 : decode cX0_transpose 32 = .ok (.getfield 9, 3) := by decide +kernel
theorem dX0_transpose_35 : decode cX0_transpose 35 = .ok (.imul, 1) := by decide +kernel
theorem dX0_transpose_36 : decode cX0_transpose 36 = .ok (.iload_n 3, 1) := by decide +kernel
theorem dX0_transpose_37 : decode cX0_transpose 37 = .ok (.iadd, 1) := by decide +kernel
theorem dX0_transpose_38 : decode cX0_transpose 38 = .ok (.aload_n 1, 1) := by decide +kernel
theorem dX0_transpose_39 : decode cX0_transpose 39 = .ok (.iload_n 3, 1) := by decide +kernel
theorem dX0_transpose_40 : decode cX0_transpose 40 = .ok (.aload_n 0, 1) := by decide +kernel
theorem dX0_transpose_41 : decode cX0_transpose 41 = .ok (.getfield 9, 3) := by decide +kernel
theorem dX0_transpose_44 : decode cX0_transpose 44 = .ok (.imul, 1) := by decide +kernel
theorem dX0_transpose_45 : decode cX0_transpose 45 = .ok (.iload_n 2, 1) := by decide +kernel
theorem dX0_transpose_46 : decode cX0_transpose 46 = .ok (.iadd, 1) := by decide +kernel
theorem dX0_transpose_47 : decode cX0_transpose 47 = .ok (.iaload, 1) := by decide +kernel
theorem dX0_transpose_48 : decode cX0_transpose 48 = .ok (.iastore, 1) := by decide +kernel
theorem dX0_transpose_49 : decode cX0_transpose 49 = .ok (.aload_n 1, 1) := by decide +kernel
theorem dX0_transpose_50 : decode cX0_transpose 50 = .ok (.iload_n 3, 1) := by decide +kernel
theorem dX0_transpose_51 : decode cX0_transpose 51 = .ok (.aload_n 0, 1) := by decide +kernel
theorem dX0_transpose_52 : decode cX0_transpose 52 = .ok (.getfield 9, 3) := by decide +kernel
theorem dX0_transpose_55 : decode cX0_transpose 55 = .ok (.imul, 1) := by decide +kernel
theorem dX0_transpose_56 : decode cX0_transpose 56 = .ok (.iload_n 2, 1) := by decide +kernel
theorem dX0_transpose_57 : decode cX0_transpose 57 = .ok (.iadd, 1) := by decide +kernel
theorem dX0_transpose_58 : decode cX0_transpose 58 = .ok (.iload 4, 2) := by decide +kernel
theorem dX0_transpose_60 : decode cX0_transpose 60 = .ok (.iastore, 1) := by decide +kernel
theorem dX0_transpose_61 : decode cX0_transpose 61 = .ok (.iinc 3 1, 3) := by decide +kernel
theorem dX0_transpose_64 : decode cX0_transpose 64 = .ok (.goto (-52), 3) := by decide +kernel
theorem dX0_transpose_67 : decode cX0_transpose 67 = .ok (.iinc 2 1, 3) := by decide +kernel
theorem dX0_transpose_70 : decode cX0_transpose 70 = .ok (.goto (-68), 3) := by decide +kernel
theorem dX0_transpose_73 : decode cX0_transpose 73 = .ok (.return_, 1) := by decide +kernel
theorem dX0_weightFrom_0 : decode cX0_weightFrom 0 = .ok (.iconst 0, 1) := by decide +kernel
theorem dX0_weightFrom_1 : decode cX0_weightFrom 1 = .ok (.istore_n 2, 1) := by decide +kernel
theorem dX0_weightFrom_2 : decode cX0_weightFrom 2 = .ok (.iconst 0, 1) := by decide +kernel
theorem dX0_weightFrom_3 : decode cX0_weightFrom 3 = .ok (.istore_n 3, 1) := by decide +kernel
theorem dX0_weightFrom_4 : decode cX0_weightFrom 4 = .ok (.iload_n 3, 1) := by decide +kernel
theorem dX0_weightFrom_5 : decode cX0_weightFrom 5 = .ok (.aload_n 0, 1) := by decide +kernel
theorem dX0_weightFrom_6 : decode cX0_weightFrom 6 = .ok (.getfield 9, 3) := by decide +kernel
theorem dX0_weightFrom_9 : decode cX0_weightFrom 9 = .ok (.if_icmp .ge 32, 3) := by decide +kernel
theorem dX0_weightFrom_12 : decode cX0_weightFrom 12 = .ok (.aload_n 1, 1) := by decide +kernel
theorem dX0_weightFrom_13 : decode cX0_weightFrom 13 = .ok (.iload_n 3, 1) := by decide +kernel
theorem dX0_weightFrom_14 : decode cX0_weightFrom 14 = .ok (.iaload, 1) := by decide +kernel
theorem dX0_weightFrom_15 : decode cX0_weightFrom 15 = .ok (.ifCond .eq 20, 3) := by decide +kernel
theorem dX0_weightFrom_18 : decode cX0_weightFrom 18 = .ok (.iload_n 2, 1) := by decide +kernel
theorem dX0_weightFrom_19 : decode cX0_weightFrom 19 = .ok (.aload_n 1, 1) := by decide +kernel
theorem dX0_weightFrom_20 : decode cX0_weightFrom 20 = .ok (.iload_n 3, 1) := by decide +kernel
theorem dX0_weightFrom_21 : decode cX0_weightFrom 21 = .ok (.iaload, 1) := by decide +kernel
theorem dX0_weightFrom_22 : decode cX0_weightFrom 22 = .ok (.aload_n 0, 1) := by decide +kernel
theorem dX0_weightFrom_23 : decode cX0_weightFrom 23 = .ok (.getfield 19, 3) := by decide +kernel
theorem dX0_weightFrom_26 : decode cX0_weightFrom 26 = .ok (.iload_n 3, 1) := by decide +kernel
theorem dX0_weightFrom_27 : decode cX0_weightFrom 27 = .ok (.iaload, 1) := by decide +kernel
theorem dX0_weightFrom_28 : decode cX0_weightFrom 28 = .ok (.imul, 1) := by decide +kernel
theorem dX0_weightFrom_29 : decode cX0_weightFrom 29 = .ok (.iadd, 1) := by decide +kernel
theorem dX0_weightFrom_30 : decode cX0_weightFrom 30 = .ok (.sipush 10007, 3) := by decide +kernel
theorem dX0_weightFrom_33 : decode cX0_weightFrom 33 = .ok (.irem, 1) := by decide +kernel
theorem dX0_weightFrom_34 : decode cX0_weightFrom 34 = .ok (.istore_n 2, 1) := by decide +kernel
theorem dX0_weightFrom_35 : decode cX0_weightFrom 35 = .ok (.iinc 3 1, 3) := by decide +kernel
theorem dX0_weightFrom_38 : decode cX0_weightFrom 38 = .ok (.goto (-34), 3) := by decide +kernel
theorem dX0_weightFrom_41 : decode cX0_weightFrom 41 = .ok (.iload_n 2, 1) := by decide +kernel
theorem dX0_weightFrom_42 : decode cX0_weightFrom 42 = .ok (.ireturn, 1) := by decide +kernel
theorem dX0_addStep_0 : decode cX0_addStep 0 = .ok (.aload_n 0, 1) := by decide +kernel
theorem dX0_addStep_1 : decode cX0_addStep 1 = .ok (.getfield 24, 3) := by decide +kernel
theorem dX0_addStep_4 : decode cX0_addStep 4 = .ok (.iload_n 2, 1) := by decide +kernel
theorem dX0_addStep_5 : decode cX0_addStep 5 = .ok (.aaload, 1) := by decide +kernel
theorem dX0_addStep_6 : decode cX0_addStep 6 = .ok (.astore 4, 2) := by decide +kernel
theorem dX0_addStep_8 : decode cX0_addStep 8 = .ok (.iconst 0, 1) := by decide +kernel
theorem dX0_addStep_9 : decode cX0_addStep 9 = .ok (.istore 5, 2) := by decide +kernel
theorem dX0_addStep_11 : decode cX0_addStep 11 = .ok (.iload 5, 2) := by decide +kernel
theorem dX0_addStep_13 : decode cX0_addStep 13 = .ok (.aload_n 0, 1) := by decide +kernel
theorem dX0_addStep_14 : decode cX0_addStep 14 = .ok (.getfield 9, 3) := by decide +kernel
theorem dX0_addStep_17 : decode cX0_addStep 17 = .ok (.if_icmp .ge 71, 3) := by decide +kernel
theorem dX0_addStep_20 : decode cX0_addStep 20 = .ok (.aload_n 1, 1) := by decide +kernel
theorem dX0_addStep_21 : decode cX0_addStep 21 = .ok (.iload 5, 2) := by decide +kernel
theorem dX0_addStep_23 : decode cX0_addStep 23 = .ok (.iaload, 1) := by decide +kernel
theorem dX0_addStep_24 : decode cX0_addStep 24 = .ok (.istore 6, 2) := by decide +kernel
theorem dX0_addStep_26 : decode cX0_addStep 26 = .ok (.iload 6, 2) := by decide +kernel
theorem dX0_addStep_28 : decode cX0_addStep 28 = .ok (.ifCond .eq 54, 3) := by decide +kernel
theorem dX0_addStep_31 : decode cX0_addStep 31 = .ok (.iload 5, 2) := by decide +kernel
theorem dX0_addStep_33 : decode cX0_addStep 33 = .ok (.aload_n 0, 1) := by decide +kernel
theorem dX0_addStep_34 : decode cX0_addStep 34 = .ok (.getfield 9, 3) := by decide +kernel
theorem dX0_addStep_37 : decode cX0_addStep 37 = .ok (.imul, 1) := by decide +kernel
theorem dX0_addStep_38 : decode cX0_addStep 38 = .ok (.istore 7, 2) := by decide +kernel
theorem dX0_addStep_40 : decode cX0_addStep 40 = .ok (.iconst 0, 1) := by decide +kernel
theorem dX0_addStep_41 : decode cX0_addStep 41 = .ok (.istore 8, 2) := by decide +kernel
theorem dX0_addStep_43 : decode cX0_addStep 43 = .ok (.iload 8, 2) := by decide +kernel
theorem dX0_addStep_45 : decode cX0_addStep 45 = .ok (.aload_n 0, 1) := by decide +kernel
theorem dX0_addStep_46 : decode cX0_addStep 46 = .ok (.getfield 9, 3) := by decide +kernel
theorem dX0_addStep_49 : decode cX0_addStep 49 = .ok (.if_icmp .ge 33, 3) := by decide +kernel
theorem dX0_addStep_52 : decode cX0_addStep 52 = .ok (.aload_n 3, 1) := by decide +kernel
theorem dX0_addStep_53 : decode cX0_addStep 53 = .ok (.iload 8, 2) := by decide +kernel
theorem dX0_addStep_55 : decode cX0_addStep 55 = .ok (.aload_n 3, 1) := by decide +kernel
theorem dX0_addStep_56 : decode cX0_addStep 56 = .ok (.iload 8, 2) := by decide +kernel
theorem dX0_addStep_58 : decode cX0_addStep 58 = .ok (.iaload, 1) := by decide +kernel
theorem dX0_addStep_59 : decode cX0_addStep 59 = .ok (.iload 6, 2) := by decide +kernel
theorem dX0_addStep_61 : decode cX0_addStep 61 = .ok (.aload 4, 2) := by decide +kernel
theorem dX0_addStep_63 : decode cX0_addStep 63 = .ok (.iload 7, 2) := by decide +kernel
theorem dX0_addStep_65 : decode cX0_addStep 65 = .ok (.iload 8, 2) := by decide +kernel
theorem dX0_addStep_67 : decode cX0_addStep 67 = .ok (.iadd, 1) := by decide +kernel
theorem dX0_addStep_68 : decode cX0_addStep 68 = .ok (.iaload, 1) := by decide +kernel
theorem dX0_addStep_69 : decode cX0_addStep 69 = .ok (.imul, 1) := by decide +kernel
theorem dX0_addStep_70 : decode cX0_addStep 70 = .ok (.iadd, 1) := by decide +kernel
theorem dX0_addStep_71 : decode cX0_addStep 71 = .ok (.sipush 10007, 3) := by decide +kernel
theorem dX0_addStep_74 : decode cX0_addStep 74 = .ok (.irem, 1) := by decide +kernel
theorem dX0_addStep_75 : decode cX0_addStep 75 = .ok (.iastore, 1) := by decide +kernel
theorem dX0_addStep_76 : decode cX0_addStep 76 = .ok (.iinc 8 1, 3) := by decide +kernel
theorem dX0_addStep_79 : decode cX0_addStep 79 = .ok (.goto (-36), 3) := by decide +kernel
theorem dX0_addStep_82 : decode cX0_addStep 82 = .ok (.iinc 5 1, 3) := by decide +kernel
theorem dX0_addStep_85 : decode cX0_addStep 85 = .ok (.goto (-74), 3) := by decide +kernel
theorem dX0_addStep_88 : decode cX0_addStep 88 = .ok (.return_, 1) := by decide +kernel
theorem dX0_takeStep_0 : decode cX0_takeStep 0 = .ok (.aload_n 3, 1) := by decide +kernel
theorem dX0_takeStep_1 : decode cX0_takeStep 1 = .ok (.iconst 0, 1) := by decide +kernel
theorem dX0_takeStep_2 : decode cX0_takeStep 2 = .ok (.aload_n 0, 1) := by decide +kernel
theorem dX0_takeStep_3 : decode cX0_takeStep 3 = .ok (.getfield 9, 3) := by decide +kernel
theorem dX0_takeStep_6 : decode cX0_takeStep 6 = .ok (.iconst 0, 1) := by decide +kernel
theorem dX0_takeStep_7 : decode cX0_takeStep 7 = .ok (.invokestatic 27, 3) := by decide +kernel
theorem dX0_takeStep_10 : decode cX0_takeStep 10 = .ok (.aload_n 0, 1) := by decide +kernel
theorem dX0_takeStep_11 : decode cX0_takeStep 11 = .ok (.aload_n 1, 1) := by decide +kernel
theorem dX0_takeStep_12 : decode cX0_takeStep 12 = .ok (.iload_n 2, 1) := by decide +kernel
theorem dX0_takeStep_13 : decode cX0_takeStep 13 = .ok (.aload_n 3, 1) := by decide +kernel
theorem dX0_takeStep_14 : decode cX0_takeStep 14 = .ok (.invokevirtual 92, 3) := by decide +kernel
theorem dX0_takeStep_17 : decode cX0_takeStep 17 = .ok (.return_, 1) := by decide +kernel
theorem dX0_emptyWeight_0 : decode cX0_emptyWeight 0 = .ok (.aload_n 0, 1) := by decide +kernel
theorem dX0_emptyWeight_1 : decode cX0_emptyWeight 1 = .ok (.aload_n 0, 1) := by decide +kernel
theorem dX0_emptyWeight_2 : decode cX0_emptyWeight 2 = .ok (.getfield 15, 3) := by decide +kernel
theorem dX0_emptyWeight_5 : decode cX0_emptyWeight 5 = .ok (.invokevirtual 96, 3) := by decide +kernel
theorem dX0_emptyWeight_8 : decode cX0_emptyWeight 8 = .ok (.ireturn, 1) := by decide +kernel
theorem dX0_initialThenStep_0 : decode cX0_initialThenStep 0 = .ok (.iconst 0, 1) := by decide +kernel
theorem dX0_initialThenStep_1 : decode cX0_initialThenStep 1 = .ok (.istore_n 3, 1) := by decide +kernel
theorem dX0_initialThenStep_2 : decode cX0_initialThenStep 2 = .ok (.iconst 0, 1) := by decide +kernel
theorem dX0_initialThenStep_3 : decode cX0_initialThenStep 3 = .ok (.istore 4, 2) := by decide +kernel
theorem dX0_initialThenStep_5 : decode cX0_initialThenStep 5 = .ok (.iload 4, 2) := by decide +kernel
theorem dX0_initialThenStep_7 : decode cX0_initialThenStep 7 = .ok (.aload_n 0, 1) := by decide +kernel
theorem dX0_initialThenStep_8 : decode cX0_initialThenStep 8 = .ok (.getfield 9, 3) := by decide +kernel
theorem dX0_initialThenStep_11 : decode cX0_initialThenStep 11 = .ok (.if_icmp .ge 40, 3) := by decide +kernel
theorem dX0_initialThenStep_14 : decode cX0_initialThenStep 14 = .ok (.iload_n 3, 1) := by decide +kernel
theorem dX0_initialThenStep_15 : decode cX0_initialThenStep 15 = .ok (.aload_n 0, 1) := by decide +kernel
theorem dX0_initialThenStep_16 : decode cX0_initialThenStep 16 = .ok (.getfield 15, 3) := by decide +kernel
theorem dX0_initialThenStep_19 : decode cX0_initialThenStep 19 = .ok (.iload 4, 2) := by decide +kernel
theorem dX0_initialThenStep_21 : decode cX0_initialThenStep 21 = .ok (.iaload, 1) := by decide +kernel
theorem dX0_initialThenStep_22 : decode cX0_initialThenStep 22 = .ok (.aload_n 0, 1) := by decide +kernel
theorem dX0_initialThenStep_23 : decode cX0_initialThenStep 23 = .ok (.getfield 24, 3) := by decide +kernel
theorem dX0_initialThenStep_26 : decode cX0_initialThenStep 26 = .ok (.iload_n 1, 1) := by decide +kernel
theorem dX0_initialThenStep_27 : decode cX0_initialThenStep 27 = .ok (.aaload, 1) := by decide +kernel
theorem dX0_initialThenStep_28 : decode cX0_initialThenStep 28 = .ok (.iload 4, 2) := by decide +kernel
theorem dX0_initialThenStep_30 : decode cX0_initialThenStep 30 = .ok (.aload_n 0, 1) := by decide +kernel
theorem dX0_initialThenStep_31 : decode cX0_initialThenStep 31 = .ok (.getfield 9, 3) := by decide +kernel
theorem dX0_initialThenStep_34 : decode cX0_initialThenStep 34 = .ok (.imul, 1) := by decide +kernel
theorem dX0_initialThenStep_35 : decode cX0_initialThenStep 35 = .ok (.iload_n 2, 1) := by decide +kernel
theorem dX0_initialThenStep_36 : decode cX0_initialThenStep 36 = .ok (.iadd, 1) := by decide +kernel
theorem dX0_initialThenStep_37 : decode cX0_initialThenStep 37 = .ok (.iaload, 1) := by decide +kernel
theorem dX0_initialThenStep_38 : decode cX0_initialThenStep 38 = .ok (.imul, 1) := by decide +kernel
theorem dX0_initialThenStep_39 : decode cX0_initialThenStep 39 = .ok (.iadd, 1) := by decide +kernel
theorem dX0_initialThenStep_40 : decode cX0_initialThenStep 40 = .ok (.sipush 10007, 3) := by decide +kernel
theorem dX0_initialThenStep_43 : decode cX0_initialThenStep 43 = .ok (.irem, 1) := by decide +kernel
theorem dX0_initialThenStep_44 : decode cX0_initialThenStep 44 = .ok (.istore_n 3, 1) := by decide +kernel
theorem dX0_initialThenStep_45 : decode cX0_initialThenStep 45 = .ok (.iinc 4 1, 3) := by decide +kernel
theorem dX0_initialThenStep_48 : decode cX0_initialThenStep 48 = .ok (.goto (-43), 3) := by decide +kernel
theorem dX0_initialThenStep_51 : decode cX0_initialThenStep 51 = .ok (.iload_n 3, 1) := by decide +kernel
theorem dX0_initialThenStep_52 : decode cX0_initialThenStep 52 = .ok (.ireturn, 1) := by decide +kernel
theorem dX0_stepThenLast_0 : decode cX0_stepThenLast 0 = .ok (.iconst 0, 1) := by decide +kernel
theorem dX0_stepThenLast_1 : decode cX0_stepThenLast 1 = .ok (.istore_n 3, 1) := by decide +kernel
theorem dX0_stepThenLast_2 : decode cX0_stepThenLast 2 = .ok (.iconst 0, 1) := by decide +kernel
theorem dX0_stepThenLast_3 : decode cX0_stepThenLast 3 = .ok (.istore 4, 2) := by decide +kernel
theorem dX0_stepThenLast_5 : decode cX0_stepThenLast 5 = .ok (.iload 4, 2) := by decide +kernel
theorem dX0_stepThenLast_7 : decode cX0_stepThenLast 7 = .ok (.aload_n 0, 1) := by decide +kernel
theorem dX0_stepThenLast_8 : decode cX0_stepThenLast 8 = .ok (.getfield 9, 3) := by decide +kernel
theorem dX0_stepThenLast_11 : decode cX0_stepThenLast 11 = .ok (.if_icmp .ge 40, 3) := by decide +kernel
theorem dX0_stepThenLast_14 : decode cX0_stepThenLast 14 = .ok (.iload_n 3, 1) := by decide +kernel
theorem dX0_stepThenLast_15 : decode cX0_stepThenLast 15 = .ok (.aload_n 0, 1) := by decide +kernel
theorem dX0_stepThenLast_16 : decode cX0_stepThenLast 16 = .ok (.getfield 24, 3) := by decide +kernel
theorem dX0_stepThenLast_19 : decode cX0_stepThenLast 19 = .ok (.iload_n 1, 1) := by decide +kernel
theorem dX0_stepThenLast_20 : decode cX0_stepThenLast 20 = .ok (.aaload, 1) := by decide +kernel
theorem dX0_stepThenLast_21 : decode cX0_stepThenLast 21 = .ok (.iload_n 2, 1) := by decide +kernel
theorem dX0_stepThenLast_22 : decode cX0_stepThenLast 22 = .ok (.aload_n 0, 1) := by decide +kernel
theorem dX0_stepThenLast_23 : decode cX0_stepThenLast 23 = .ok (.getfield 9, 3) := by decide +kernel
theorem dX0_stepThenLast_26 : decode cX0_stepThenLast 26 = .ok (.imul, 1) := by decide +kernel
theorem dX0_stepThenLast_27 : decode cX0_stepThenLast 27 = .ok (.iload 4, 2) := by decide +kernel
theorem dX0_stepThenLast_29 : decode cX0_stepThenLast 29 = .ok (.iadd, 1) := by decide +kernel
theorem dX0_stepThenLast_30 : decode cX0_stepThenLast 30 = .ok (.iaload, 1) := by decide +kernel
theorem dX0_stepThenLast_31 : decode cX0_stepThenLast 31 = .ok (.aload_n 0, 1) := by decide +kernel
theorem dX0_stepThenLast_32 : decode cX0_stepThenLast 32 = .ok (.getfield 19, 3) := by decide +kernel
theorem dX0_stepThenLast_35 : decode cX0_stepThenLast 35 = .ok (.iload 4, 2) := by decide +kernel
theorem dX0_stepThenLast_37 : decode cX0_stepThenLast 37 = .ok (.iaload, 1) := by decide +kernel
theorem dX0_stepThenLast_38 : decode cX0_stepThenLast 38 = .ok (.imul, 1) := by decide +kernel
theorem dX0_stepThenLast_39 : decode cX0_stepThenLast 39 = .ok (.iadd, 1) := by decide +kernel
theorem dX0_stepThenLast_40 : decode cX0_stepThenLast 40 = .ok (.sipush 10007, 3) := by decide +kernel
theorem dX0_stepThenLast_43 : decode cX0_stepThenLast 43 = .ok (.irem, 1) := by decide +kernel
theorem dX0_stepThenLast_44 : decode cX0_stepThenLast 44 = .ok (.istore_n 3, 1) := by decide +kernel
theorem dX0_stepThenLast_45 : decode cX0_stepThenLast 45 = .ok (.iinc 4 1, 3) := by decide +kernel
theorem dX0_stepThenLast_48 : decode cX0_stepThenLast 48 = .ok (.goto (-43), 3) := by decide +kernel
theorem dX0_stepThenLast_51 : decode cX0_stepThenLast 51 = .ok (.iload_n 3, 1) := by decide +kernel
theorem dX0_stepThenLast_52 : decode cX0_stepThenLast 52 = .ok (.ireturn, 1) := by decide +kernel
theorem dX0_hash_0 : decode cX0_hash 0 = .ok (.ldc2_w 100, 3) := by decide +kernel
theorem dX0_hash_3 : decode cX0_hash 3 = .ok (.lload_n 1, 1) := by decide +kernel
theorem dX0_hash_4 : decode cX0_hash 4 = .ok (.lmul, 1) := by decide +kernel
theorem dX0_hash_5 : decode cX0_hash 5 = .ok (.aload_n 0, 1) := by decide +kernel
theorem dX0_hash_6 : decode cX0_hash 6 = .ok (.getfield 9, 3) := by decide +kernel
theorem dX0_hash_9 : decode cX0_hash 9 = .ok (.i2l, 1) := by decide +kernel
theorem dX0_hash_10 : decode cX0_hash 10 = .ok (.ladd, 1) := by decide +kernel
theorem dX0_hash_11 : decode cX0_hash 11 = .ok (.lstore_n 3, 1) := by decide +kernel
theorem dX0_hash_12 : decode cX0_hash 12 = .ok (.iconst 0, 1) := by decide +kernel
theorem dX0_hash_13 : decode cX0_hash 13 = .ok (.istore 5, 2) := by decide +kernel
theorem dX0_hash_15 : decode cX0_hash 15 = .ok (.iload 5, 2) := by decide +kernel
theorem dX0_hash_17 : decode cX0_hash 17 = .ok (.aload_n 0, 1) := by decide +kernel
theorem dX0_hash_18 : decode cX0_hash 18 = .ok (.getfield 9, 3) := by decide +kernel
theorem dX0_hash_21 : decode cX0_hash 21 = .ok (.if_icmp .ge 39, 3) := by decide +kernel
theorem dX0_hash_24 : decode cX0_hash 24 = .ok (.ldc2_w 100, 3) := by decide +kernel
theorem dX0_hash_27 : decode cX0_hash 27 = .ok (.lload_n 3, 1) := by decide +kernel
theorem dX0_hash_28 : decode cX0_hash 28 = .ok (.lmul, 1) := by decide +kernel
theorem dX0_hash_29 : decode cX0_hash 29 = .ok (.aload_n 0, 1) := by decide +kernel
theorem dX0_hash_30 : decode cX0_hash 30 = .ok (.getfield 15, 3) := by decide +kernel
theorem dX0_hash_33 : decode cX0_hash 33 = .ok (.iload 5, 2) := by decide +kernel
theorem dX0_hash_35 : decode cX0_hash 35 = .ok (.iaload, 1) := by decide +kernel
theorem dX0_hash_36 : decode cX0_hash 36 = .ok (.i2l, 1) := by decide +kernel
theorem dX0_hash_37 : decode cX0_hash 37 = .ok (.ladd, 1) := by decide +kernel
theorem dX0_hash_38 : decode cX0_hash 38 = .ok (.lstore_n 3, 1) := by decide +kernel
theorem dX0_hash_39 : decode cX0_hash 39 = .ok (.ldc2_w 100, 3) := by decide +kernel
theorem dX0_hash_42 : decode cX0_hash 42 = .ok (.lload_n 3, 1) := by decide +kernel
theorem dX0_hash_43 : decode cX0_hash 43 = .ok (.lmul, 1) := by decide +kernel
theorem dX0_hash_44 : decode cX0_hash 44 = .ok (.aload_n 0, 1) := by decide +kernel
theorem dX0_hash_45 : decode cX0_hash 45 = .ok (.getfield 19, 3) := by decide +kernel
theorem dX0_hash_48 : decode cX0_hash 48 = .ok (.iload 5, 2) := by decide +kernel
theorem dX0_hash_50 : decode cX0_hash 50 = .ok (.iaload, 1) := by decide +kernel
theorem dX0_hash_51 : decode cX0_hash 51 = .ok (.i2l, 1) := by decide +kernel
theorem dX0_hash_52 : decode cX0_hash 52 = .ok (.ladd, 1) := by decide +kernel
theorem dX0_hash_53 : decode cX0_hash 53 = .ok (.lstore_n 3, 1) := by decide +kernel
theorem dX0_hash_54 : decode cX0_hash 54 = .ok (.iinc 5 1, 3) := by decide +kernel
theorem dX0_hash_57 : decode cX0_hash 57 = .ok (.goto (-42), 3) := by decide +kernel
theorem dX0_hash_60 : decode cX0_hash 60 = .ok (.iconst 0, 1) := by decide +kernel
theorem dX0_hash_61 : decode cX0_hash 61 = .ok (.istore 5, 2) := by decide +kernel
theorem dX0_hash_63 : decode cX0_hash 63 = .ok (.iload 5, 2) := by decide +kernel
theorem dX0_hash_65 : decode cX0_hash 65 = .ok (.iconst 2, 1) := by decide +kernel
theorem dX0_hash_66 : decode cX0_hash 66 = .ok (.if_icmp .ge 50, 3) := by decide +kernel
theorem dX0_hash_69 : decode cX0_hash 69 = .ok (.iconst 0, 1) := by decide +kernel
theorem dX0_hash_70 : decode cX0_hash 70 = .ok (.istore 6, 2) := by decide +kernel
theorem dX0_hash_72 : decode cX0_hash 72 = .ok (.iload 6, 2) := by decide +kernel
theorem dX0_hash_74 : decode cX0_hash 74 = .ok (.aload_n 0, 1) := by decide +kernel
theorem dX0_hash_75 : decode cX0_hash 75 = .ok (.getfield 9, 3) := by decide +kernel
theorem dX0_hash_78 : decode cX0_hash 78 = .ok (.aload_n 0, 1) := by decide +kernel
theorem dX0_hash_79 : decode cX0_hash 79 = .ok (.getfield 9, 3) := by decide +kernel
theorem dX0_hash_82 : decode cX0_hash 82 = .ok (.imul, 1) := by decide +kernel
theorem dX0_hash_83 : decode cX0_hash 83 = .ok (.if_icmp .ge 27, 3) := by decide +kernel
theorem dX0_hash_86 : decode cX0_hash 86 = .ok (.ldc2_w 100, 3) := by decide +kernel
theorem dX0_hash_89 : decode cX0_hash 89 = .ok (.lload_n 3, 1) := by decide +kernel
theorem dX0_hash_90 : decode cX0_hash 90 = .ok (.lmul, 1) := by decide +kernel
theorem dX0_hash_91 : decode cX0_hash 91 = .ok (.aload_n 0, 1) := by decide +kernel
theorem dX0_hash_92 : decode cX0_hash 92 = .ok (.getfield 24, 3) := by decide +kernel
theorem dX0_hash_95 : decode cX0_hash 95 = .ok (.iload 5, 2) := by decide +kernel
theorem dX0_hash_97 : decode cX0_hash 97 = .ok (.aaload, 1) := by decide +kernel
theorem dX0_hash_98 : decode cX0_hash 98 = .ok (.iload 6, 2) := by decide +kernel
theorem dX0_hash_100 : decode cX0_hash 100 = .ok (.iaload, 1) := by decide +kernel
theorem dX0_hash_101 : decode cX0_hash 101 = .ok (.i2l, 1) := by decide +kernel
theorem dX0_hash_102 : decode cX0_hash 102 = .ok (.ladd, 1) := by decide +kernel
theorem dX0_hash_103 : decode cX0_hash 103 = .ok (.lstore_n 3, 1) := by decide +kernel
theorem dX0_hash_104 : decode cX0_hash 104 = .ok (.iinc 6 1, 3) := by decide +kernel
theorem dX0_hash_107 : decode cX0_hash 107 = .ok (.goto (-35), 3) := by decide +kernel
theorem dX0_hash_110 : decode cX0_hash 110 = .ok (.iinc 5 1, 3) := by decide +kernel
theorem dX0_hash_113 : decode cX0_hash 113 = .ok (.goto (-50), 3) := by decide +kernel
theorem dX0_hash_116 : decode cX0_hash 116 = .ok (.lload_n 3, 1) := by decide +kernel
theorem dX0_hash_117 : decode cX0_hash 117 = .ok (.lreturn, 1) := by decide +kernel
theorem dX1_init_0 : decode cX1_init 0 = .ok (.aload_n 0, 1) := by decide +kernel
theorem dX1_init_1 : decode cX1_init 1 = .ok (.invokespecial 3, 3) := by decide +kernel
theorem dX1_init_4 : decode cX1_init 4 = .ok (.aload_n 0, 1) := by decide +kernel
theorem dX1_init_5 : decode cX1_init 5 = .ok (.bipush 24, 2) := by decide +kernel
theorem dX1_init_7 : decode cX1_init 7 = .ok (.newarray .int, 2) := by decide +kernel
theorem dX1_init_9 : decode cX1_init 9 = .ok (.putfield 9, 3) := by decide +kernel
theorem dX1_init_12 : decode cX1_init 12 = .ok (.aload_n 0, 1) := by decide +kernel
theorem dX1_init_13 : decode cX1_init 13 = .ok (.bipush 24, 2) := by decide +kernel
theorem dX1_init_15 : decode cX1_init 15 = .ok (.newarray .int, 2) := by decide +kernel
theorem dX1_init_17 : decode cX1_init 17 = .ok (.putfield 15, 3) := by decide +kernel
theorem dX1_init_20 : decode cX1_init 20 = .ok (.aload_n 0, 1) := by decide +kernel
theorem dX1_init_21 : decode cX1_init 21 = .ok (.bipush 24, 2) := by decide +kernel
theorem dX1_init_23 : decode cX1_init 23 = .ok (.bipush 24, 2) := by decide +kernel
theorem dX1_init_25 : decode cX1_init 25 = .ok (.multianewarray 18 2, 4) := by decide +kernel
theorem dX1_init_29 : decode cX1_init 29 = .ok (.putfield 20, 3) := by decide +kernel
theorem dX1_init_32 : decode cX1_init 32 = .ok (.aload_n 0, 1) := by decide +kernel
theorem dX1_init_33 : decode cX1_init 33 = .ok (.bipush 24, 2) := by decide +kernel
theorem dX1_init_35 : decode cX1_init 35 = .ok (.bipush 24, 2) := by decide +kernel
theorem dX1_init_37 : decode cX1_init 37 = .ok (.multianewarray 18 2, 4) := by decide +kernel
theorem dX1_init_41 : decode cX1_init 41 = .ok (.putfield 23, 3) := by decide +kernel
theorem dX1_init_44 : decode cX1_init 44 = .ok (.aload_n 0, 1) := by decide +kernel
theorem dX1_init_45 : decode cX1_init 45 = .ok (.bipush 24, 2) := by decide +kernel
theorem dX1_init_47 : decode cX1_init 47 = .ok (.bipush 24, 2) := by decide +kernel
theorem dX1_init_49 : decode cX1_init 49 = .ok (.multianewarray 18 2, 4) := by decide +kernel
theorem dX1_init_53 : decode cX1_init 53 = .ok (.putfield 26, 3) := by decide +kernel
theorem dX1_init_56 : decode cX1_init 56 = .ok (.aload_n 0, 1) := by decide +kernel
theorem dX1_init_57 : decode cX1_init 57 = .ok (.bipush 24, 2) := by decide +kernel
theorem dX1_init_59 : decode cX1_init 59 = .ok (.newarray .int, 2) := by decide +kernel
theorem dX1_init_61 : decode cX1_init 61 = .ok (.putfield 29, 3) := by decide +kernel
theorem dX1_init_64 : decode cX1_init 64 = .ok (.aload_n 0, 1) := by decide +kernel
theorem dX1_init_65 : decode cX1_init 65 = .ok (.bipush 48, 2) := by decide +kernel
theorem dX1_init_67 : decode cX1_init 67 = .ok (.bipush 24, 2) := by decide +kernel
theorem dX1_init_69 : decode cX1_init 69 = .ok (.multianewarray 18 2, 4) := by decide +kernel
theorem dX1_init_73 : decode cX1_init 73 = .ok (.putfield 32, 3) := by decide +kernel
theorem dX1_init_76 : decode cX1_init 76 = .ok (.aload_n 0, 1) := by decide +kernel
theorem dX1_init_77 : decode cX1_init 77 = .ok (.bipush 24, 2) := by decide +kernel
theorem dX1_init_79 : decode cX1_init 79 = .ok (.newarray .int, 2) := by decide +kernel
theorem dX1_init_81 : decode cX1_init 81 = .ok (.putfield 35, 3) := by decide +kernel
theorem dX1_init_84 : decode cX1_init 84 = .ok (.aload_n 0, 1) := by decide +kernel
theorem dX1_init_85 : decode cX1_init 85 = .ok (.bipush 24, 2) := by decide +kernel
theorem dX1_init_87 : decode cX1_init 87 = .ok (.newarray .int, 2) := by decide +kernel
theorem dX1_init_89 : decode cX1_init 89 = .ok (.putfield 38, 3) := by decide +kernel
theorem dX1_init_92 : decode cX1_init 92 = .ok (.aload_n 0, 1) := by decide +kernel
theorem dX1_init_93 : decode cX1_init 93 = .ok (.bipush 24, 2) := by decide +kernel
theorem dX1_init_95 : decode cX1_init 95 = .ok (.newarray .int, 2) := by decide +kernel
theorem dX1_init_97 : decode cX1_init 97 = .ok (.putfield 41, 3) := by decide +kernel
theorem dX1_init_100 : decode cX1_init 100 = .ok (.return_, 1) := by decide +kernel
theorem dX1_explore_0 : decode cX1_explore 0 = .ok (.aload_n 1, 1) := by decide +kernel
theorem dX1_explore_1 : decode cX1_explore 1 = .ok (.getfield 44, 3) := by decide +kernel
theorem dX1_explore_4 : decode cX1_explore 4 = .ok (.istore_n 2, 1) := by decide +kernel
theorem dX1_explore_5 : decode cX1_explore 5 = .ok (.aload_n 0, 1) := by decide +kernel
theorem dX1_explore_6 : decode cX1_explore 6 = .ok (.iconst 0, 1) := by decide +kernel
theorem dX1_explore_7 : decode cX1_explore 7 = .ok (.putfield 50, 3) := by decide +kernel
theorem dX1_explore_10 : decode cX1_explore 10 = .ok (.aload_n 1, 1) := by decide +kernel
theorem dX1_explore_11 : decode cX1_explore 11 = .ok (.getfield 53, 3) := by decide +kernel
theorem dX1_explore_14 : decode cX1_explore 14 = .ok (.iconst 0, 1) := by decide +kernel
theorem dX1_explore_15 : decode cX1_explore 15 = .ok (.aload_n 0, 1) := by decide +kernel
theorem dX1_explore_16 : decode cX1_explore 16 = .ok (.getfield 35, 3) := by decide +kernel
theorem dX1_explore_19 : decode cX1_explore 19 = .ok (.iconst 0, 1) := by decide +kernel
theorem dX1_explore_20 : decode cX1_explore 20 = .ok (.iload_n 2, 1) := by decide +kernel
theorem dX1_explore_21 : decode cX1_explore 21 = .ok (.invokestatic 56, 3) := by decide +kernel
theorem dX1_explore_24 : decode cX1_explore 24 = .ok (.aload_n 0, 1) := by decide +kernel
theorem dX1_explore_25 : decode cX1_explore 25 = .ok (.aload_n 1, 1) := by decide +kernel
theorem dX1_explore_26 : decode cX1_explore 26 = .ok (.iconst 0, 1) := by decide +kernel
theorem dX1_explore_27 : decode cX1_explore 27 = .ok (.invokevirtual 62, 3) := by decide +kernel
theorem dX1_explore_30 : decode cX1_explore 30 = .ok (.iconst 0, 1) := by decide +kernel
theorem dX1_explore_31 : decode cX1_explore 31 = .ok (.istore_n 3, 1) := by decide +kernel
theorem dX1_explore_32 : decode cX1_explore 32 = .ok (.iload_n 3, 1) := by decide +kernel
theorem dX1_explore_33 : decode cX1_explore 33 = .ok (.aload_n 0, 1) := by decide +kernel
theorem dX1_explore_34 : decode cX1_explore 34 = .ok (.getfield 50, 3) := by decide +kernel
theorem dX1_explore_37 : decode cX1_explore 37 = .ok (.if_icmp .ge 85, 3) := by decide +kernel
theorem dX1_explore_40 : decode cX1_explore 40 = .ok (.iload_n 3, 1) := by decide +kernel
theorem dX1_explore_41 : decode cX1_explore 41 = .ok (.bipush 24, 2) := by decide +kernel
theorem dX1_explore_43 : decode cX1_explore 43 = .ok (.if_icmp .ge 79, 3) := by decide +kernel
theorem dX1_explore_46 : decode cX1_explore 46 = .ok (.iconst 0, 1) := by decide +kernel
theorem dX1_explore_47 : decode cX1_explore 47 = .ok (.istore 4, 2) := by decide +kernel
theorem dX1_explore_49 : decode cX1_explore 49 = .ok (.iload 4, 2) := by decide +kernel
theorem dX1_explore_51 : decode cX1_explore 51 = .ok (.iconst 2, 1) := by decide +kernel
theorem dX1_explore_52 : decode cX1_explore 52 = .ok (.if_icmp .ge 64, 3) := by decide +kernel
theorem dX1_explore_55 : decode cX1_explore 55 = .ok (.aload_n 1, 1) := by decide +kernel
theorem dX1_explore_56 : decode cX1_explore 56 = .ok (.aload_n 0, 1) := by decide +kernel
theorem dX1_explore_57 : decode cX1_explore 57 = .ok (.getfield 20, 3) := by decide +kernel
theorem dX1_explore_60 : decode cX1_explore 60 = .ok (.iload_n 3, 1) := by decide +kernel
theorem dX1_explore_61 : decode cX1_explore 61 = .ok (.aaload, 1) := by decide +kernel
theorem dX1_explore_62 : decode cX1_explore 62 = .ok (.iload 4, 2) := by decide +kernel
theorem dX1_explore_64 : decode cX1_explore 64 = .ok (.aload_n 0, 1) := by decide +kernel
theorem dX1_explore_65 : decode cX1_explore 65 = .ok (.getfield 35, 3) := by decide +kernel
theorem dX1_explore_68 : decode cX1_explore 68 = .ok (.invokevirtual 66, 3) := by decide +kernel
theorem dX1_explore_71 : decode cX1_explore 71 = .ok (.aload_n 0, 1) := by decide +kernel
theorem dX1_explore_72 : decode cX1_explore 72 = .ok (.aload_n 1, 1) := by decide +kernel
theorem dX1_explore_73 : decode cX1_explore 73 = .ok (.iconst 2, 1) := by decide +kernel
theorem dX1_explore_74 : decode cX1_explore 74 = .ok (.aload_n 0, 1) := by decide +kernel
theorem dX1_explore_75 : decode cX1_explore 75 = .ok (.getfield 9, 3) := by decide +kernel
theorem dX1_explore_78 : decode cX1_explore 78 = .ok (.iload_n 3, 1) := by decide +kernel
theorem dX1_explore_79 : decode cX1_explore 79 = .ok (.iaload, 1) := by decide +kernel
theorem dX1_explore_80 : decode cX1_explore 80 = .ok (.imul, 1) := by decide +kernel
theorem dX1_explore_81 : decode cX1_explore 81 = .ok (.iconst 1, 1) := by decide +kernel
theorem dX1_explore_82 : decode cX1_explore 82 = .ok (.iadd, 1) := by decide +kernel
theorem dX1_explore_83 : decode cX1_explore 83 = .ok (.iload 4, 2) := by decide +kernel
theorem dX1_explore_85 : decode cX1_explore 85 = .ok (.iadd, 1) := by decide +kernel
theorem dX1_explore_86 : decode cX1_explore 86 = .ok (.invokevirtual 62, 3) := by decide +kernel
theorem dX1_explore_89 : decode cX1_explore 89 = .ok (.aload_n 0, 1) := by decide +kernel
theorem dX1_explore_90 : decode cX1_explore 90 = .ok (.getfield 41, 3) := by decide +kernel
theorem dX1_explore_93 : decode cX1_explore 93 = .ok (.iconst 0, 1) := by decide +kernel
theorem dX1_explore_94 : decode cX1_explore 94 = .ok (.aload_n 0, 1) := by decide +kernel
theorem dX1_explore_95 : decode cX1_explore 95 = .ok (.getfield 32, 3) := by decide +kernel
theorem dX1_explore_98 : decode cX1_explore 98 = .ok (.iconst 2, 1) := by decide +kernel
theorem dX1_explore_99 : decode cX1_explore 99 = .ok (.iload_n 3, 1) := by decide +kernel
theorem dX1_explore_100 : decode cX1_explore 100 = .ok (.imul, 1) := by decide +kernel
theorem dX1_explore_101 : decode cX1_explore 101 = .ok (.iload 4, 2) := by decide +kernel
theorem dX1_explore_103 : decode cX1_explore 103 = .ok (.iadd, 1) := by decide +kernel
theorem dX1_explore_104 : decode cX1_explore 104 = .ok (.aaload, 1) := by decide +kernel
theorem dX1_explore_105 : decode cX1_explore 105 = .ok (.iconst 0, 1) := by decide +kernel
theorem dX1_explore_106 : decode cX1_explore 106 = .ok (.iload_n 2, 1) := by decide +kernel
theorem dX1_explore_107 : decode cX1_explore 107 = .ok (.invokestatic 56, 3) := by decide +kernel
theorem dX1_explore_110 : decode cX1_explore 110 = .ok (.iinc 4 1, 3) := by decide +kernel
theorem dX1_explore_113 : decode cX1_explore 113 = .ok (.goto (-64), 3) := by decide +kernel
theorem dX1_explore_116 : decode cX1_explore 116 = .ok (.iinc 3 1, 3) := by decide +kernel
theorem dX1_explore_119 : decode cX1_explore 119 = .ok (.goto (-87), 3) := by decide +kernel
theorem dX1_explore_122 : decode cX1_explore 122 = .ok (.return_, 1) := by decide +kernel
theorem dX1_place_0 : decode cX1_place 0 = .ok (.aload_n 1, 1) := by decide +kernel
theorem dX1_place_1 : decode cX1_place 1 = .ok (.getfield 44, 3) := by decide +kernel
theorem dX1_place_4 : decode cX1_place 4 = .ok (.istore_n 3, 1) := by decide +kernel
theorem dX1_place_5 : decode cX1_place 5 = .ok (.aload_n 0, 1) := by decide +kernel
theorem dX1_place_6 : decode cX1_place 6 = .ok (.getfield 35, 3) := by decide +kernel
theorem dX1_place_9 : decode cX1_place 9 = .ok (.iconst 0, 1) := by decide +kernel
theorem dX1_place_10 : decode cX1_place 10 = .ok (.aload_n 0, 1) := by decide +kernel
theorem dX1_place_11 : decode cX1_place 11 = .ok (.getfield 38, 3) := by decide +kernel
theorem dX1_place_14 : decode cX1_place 14 = .ok (.iconst 0, 1) := by decide +kernel
theorem dX1_place_15 : decode cX1_place 15 = .ok (.iload_n 3, 1) := by decide +kernel
theorem dX1_place_16 : decode cX1_place 16 = .ok (.invokestatic 56, 3) := by decide +kernel
theorem dX1_place_19 : decode cX1_place 19 = .ok (.aload_n 0, 1) := by decide +kernel
theorem dX1_place_20 : decode cX1_place 20 = .ok (.getfield 41, 3) := by decide +kernel
theorem dX1_place_23 : decode cX1_place 23 = .ok (.iconst 0, 1) := by decide +kernel
theorem dX1_place_24 : decode cX1_place 24 = .ok (.iload_n 3, 1) := by decide +kernel
theorem dX1_place_25 : decode cX1_place 25 = .ok (.iconst 0, 1) := by decide +kernel
theorem dX1_place_26 : decode cX1_place 26 = .ok (.invokestatic 70, 3) := by decide +kernel
theorem dX1_place_29 : decode cX1_place 29 = .ok (.iconst 0, 1) := by decide +kernel
theorem dX1_place_30 : decode cX1_place 30 = .ok (.istore 4, 2) := by decide +kernel
theorem dX1_place_32 : decode cX1_place 32 = .ok (.iload 4, 2) := by decide +kernel
theorem dX1_place_34 : decode cX1_place 34 = .ok (.aload_n 0, 1) := by decide +kernel
theorem dX1_place_35 : decode cX1_place 35 = .ok (.getfield 50, 3) := by decide +kernel
theorem dX1_place_38 : decode cX1_place 38 = .ok (.if_icmp .ge 66, 3) := by decide +kernel
theorem dX1_place_41 : decode cX1_place 41 = .ok (.aload_n 0, 1) := by decide +kernel
theorem dX1_place_42 : decode cX1_place 42 = .ok (.getfield 38, 3) := by decide +kernel
theorem dX1_place_45 : decode cX1_place 45 = .ok (.aload_n 0, 1) := by decide +kernel
theorem dX1_place_46 : decode cX1_place 46 = .ok (.getfield 29, 3) := by decide +kernel
theorem dX1_place_49 : decode cX1_place 49 = .ok (.iload 4, 2) := by decide +kernel
theorem dX1_place_51 : decode cX1_place 51 = .ok (.iaload, 1) := by decide +kernel
theorem dX1_place_52 : decode cX1_place 52 = .ok (.iaload, 1) := by decide +kernel
theorem dX1_place_53 : decode cX1_place 53 = .ok (.istore 5, 2) := by decide +kernel
theorem dX1_place_55 : decode cX1_place 55 = .ok (.iload 5, 2) := by decide +kernel
theorem dX1_place_57 : decode cX1_place 57 = .ok (.ifCond .eq 41, 3) := by decide +kernel
theorem dX1_place_60 : decode cX1_place 60 = .ok (.aload_n 0, 1) := by decide +kernel
theorem dX1_place_61 : decode cX1_place 61 = .ok (.getfield 38, 3) := by decide +kernel
theorem dX1_place_64 : decode cX1_place 64 = .ok (.sipush 10007, 3) := by decide +kernel
theorem dX1_place_67 : decode cX1_place 67 = .ok (.iload 5, 2) := by decide +kernel
theorem dX1_place_69 : decode cX1_place 69 = .ok (.isub, 1) := by decide +kernel
theorem dX1_place_70 : decode cX1_place 70 = .ok (.aload_n 0, 1) := by decide +kernel
theorem dX1_place_71 : decode cX1_place 71 = .ok (.getfield 23, 3) := by decide +kernel
theorem dX1_place_74 : decode cX1_place 74 = .ok (.iload 4, 2) := by decide +kernel
theorem dX1_place_76 : decode cX1_place 76 = .ok (.aaload, 1) := by decide +kernel
theorem dX1_place_77 : decode cX1_place 77 = .ok (.iload_n 3, 1) := by decide +kernel
theorem dX1_place_78 : decode cX1_place 78 = .ok (.invokestatic 76, 3) := by decide +kernel
theorem dX1_place_81 : decode cX1_place 81 = .ok (.aload_n 0, 1) := by decide +kernel
theorem dX1_place_82 : decode cX1_place 82 = .ok (.getfield 41, 3) := by decide +kernel
theorem dX1_place_85 : decode cX1_place 85 = .ok (.iload 5, 2) := by decide +kernel
theorem dX1_place_87 : decode cX1_place 87 = .ok (.aload_n 0, 1) := by decide +kernel
theorem dX1_place_88 : decode cX1_place 88 = .ok (.getfield 26, 3) := by decide +kernel
theorem dX1_place_91 : decode cX1_place 91 = .ok (.iload 4, 2) := by decide +kernel
theorem dX1_place_93 : decode cX1_place 93 = .ok (.aaload, 1) := by decide +kernel
theorem dX1_place_94 : decode cX1_place 94 = .ok (.iload_n 3, 1) := by decide +kernel
theorem dX1_place_95 : decode cX1_place 95 = .ok (.invokestatic 76, 3) := by decide +kernel
theorem dX1_place_98 : decode cX1_place 98 = .ok (.iinc 4 1, 3) := by decide +kernel
theorem dX1_place_101 : decode cX1_place 101 = .ok (.goto (-69), 3) := by decide +kernel
theorem dX1_place_104 : decode cX1_place 104 = .ok (.aload_n 0, 1) := by decide +kernel
theorem dX1_place_105 : decode cX1_place 105 = .ok (.getfield 38, 3) := by decide +kernel
theorem dX1_place_108 : decode cX1_place 108 = .ok (.iload_n 3, 1) := by decide +kernel
theorem dX1_place_109 : decode cX1_place 109 = .ok (.invokestatic 80, 3) := by decide +kernel
theorem dX1_place_112 : decode cX1_place 112 = .ok (.istore 4, 2) := by decide +kernel
theorem dX1_place_114 : decode cX1_place 114 = .ok (.iload 4, 2) := by decide +kernel
theorem dX1_place_116 : decode cX1_place 116 = .ok (.iconst (-1), 1) := by decide +kernel
theorem dX1_place_117 : decode cX1_place 117 = .ok (.if_icmp .eq 65, 3) := by decide +kernel
theorem dX1_place_120 : decode cX1_place 120 = .ok (.aload_n 0, 1) := by decide +kernel
theorem dX1_place_121 : decode cX1_place 121 = .ok (.getfield 50, 3) := by decide +kernel
theorem dX1_place_124 : decode cX1_place 124 = .ok (.bipush 24, 2) := by decide +kernel
theorem dX1_place_126 : decode cX1_place 126 = .ok (.if_icmp .ge 56, 3) := by decide +kernel
theorem dX1_place_129 : decode cX1_place 129 = .ok (.aload_n 0, 1) := by decide +kernel
theorem dX1_place_130 : decode cX1_place 130 = .ok (.getfield 9, 3) := by decide +kernel
theorem dX1_place_133 : decode cX1_place 133 = .ok (.aload_n 0, 1) := by decide +kernel
theorem dX1_place_134 : decode cX1_place 134 = .ok (.getfield 50, 3) := by decide +kernel
theorem dX1_place_137 : decode cX1_place 137 = .ok (.iload_n 2, 1) := by decide +kernel
theorem dX1_place_138 : decode cX1_place 138 = .ok (.iastore, 1) := by decide +kernel
theorem dX1_place_139 : decode cX1_place 139 = .ok (.aload_n 0, 1) := by decide +kernel
theorem dX1_place_140 : decode cX1_place 140 = .ok (.getfield 15, 3) := by decide +kernel
theorem dX1_place_143 : decode cX1_place 143 = .ok (.aload_n 0, 1) := by decide +kernel
theorem dX1_place_144 : decode cX1_place 144 = .ok (.getfield 50, 3) := by decide +kernel
theorem dX1_place_147 : decode cX1_place 147 = .ok (.aload_n 1, 1) := by decide +kernel
theorem dX1_place_148 : decode cX1_place 148 = .ok (.aload_n 0, 1) := by decide +kernel
theorem dX1_place_149 : decode cX1_place 149 = .ok (.getfield 35, 3) := by decide +kernel
theorem dX1_place_152 : decode cX1_place 152 = .ok (.invokevirtual 84, 3) := by decide +kernel
theorem dX1_place_155 : decode cX1_place 155 = .ok (.iastore, 1) := by decide +kernel
theorem dX1_place_156 : decode cX1_place 156 = .ok (.aload_n 0, 1) := by decide +kernel
theorem dX1_place_157 : decode cX1_place 157 = .ok (.getfield 29, 3) := by decide +kernel
theorem dX1_place_160 : decode cX1_place 160 = .ok (.aload_n 0, 1) := by decide +kernel
theorem dX1_place_161 : decode cX1_place 161 = .ok (.getfield 50, 3) := by decide +kernel
theorem dX1_place_164 : decode cX1_place 164 = .ok (.iload 4, 2) := by decide +kernel
theorem dX1_place_166 : decode cX1_place 166 = .ok (.iastore, 1) := by decide +kernel
theorem dX1_place_167 : decode cX1_place 167 = .ok (.aload_n 0, 1) := by decide +kernel
theorem dX1_place_168 : decode cX1_place 168 = .ok (.aload_n 0, 1) := by decide +kernel
theorem dX1_place_169 : decode cX1_place 169 = .ok (.getfield 38, 3) := by decide +kernel
theorem dX1_place_172 : decode cX1_place 172 = .ok (.iload 4, 2) := by decide +kernel
theorem dX1_place_174 : decode cX1_place 174 = .ok (.iaload, 1) := by decide +kernel
theorem dX1_place_175 : decode cX1_place 175 = .ok (.invokestatic 88, 3) := by decide +kernel
theorem dX1_place_178 : decode cX1_place 178 = .ok (.iload_n 3, 1) := by decide +kernel
theorem dX1_place_179 : decode cX1_place 179 = .ok (.invokevirtual 92, 3) := by decide +kernel
theorem dX1_place_182 : decode cX1_place 182 = .ok (.return_, 1) := by decide +kernel
theorem dX1_extend_0 : decode cX1_extend 0 = .ok (.aload_n 0, 1) := by decide +kernel
theorem dX1_extend_1 : decode cX1_extend 1 = .ok (.getfield 50, 3) := by decide +kernel
theorem dX1_extend_4 : decode cX1_extend 4 = .ok (.istore_n 3, 1) := by decide +kernel
theorem dX1_extend_5 : decode cX1_extend 5 = .ok (.iconst 0, 1) := by decide +kernel
theorem dX1_extend_6 : decode cX1_extend 6 = .ok (.istore 4, 2) := by decide +kernel
theorem dX1_extend_8 : decode cX1_extend 8 = .ok (.iload 4, 2) := by decide +kernel
theorem dX1_extend_10 : decode cX1_extend 10 = .ok (.iload_n 2, 1) := by decide +kernel
theorem dX1_extend_11 : decode cX1_extend 11 = .ok (.if_icmp .ge 81, 3) := by decide +kernel
theorem dX1_extend_14 : decode cX1_extend 14 = .ok (.aload_n 0, 1) := by decide +kernel
theorem dX1_extend_15 : decode cX1_extend 15 = .ok (.getfield 20, 3) := by decide +kernel
theorem dX1_extend_18 : decode cX1_extend 18 = .ok (.iload_n 3, 1) := by decide +kernel
theorem dX1_extend_19 : decode cX1_extend 19 = .ok (.aaload, 1) := by decide +kernel
theorem dX1_extend_20 : decode cX1_extend 20 = .ok (.iload 4, 2) := by decide +kernel
theorem dX1_extend_22 : decode cX1_extend 22 = .ok (.aload_n 0, 1) := by decide +kernel
theorem dX1_extend_23 : decode cX1_extend 23 = .ok (.getfield 35, 3) := by decide +kernel
theorem dX1_extend_26 : decode cX1_extend 26 = .ok (.iload 4, 2) := by decide +kernel
theorem dX1_extend_28 : decode cX1_extend 28 = .ok (.iaload, 1) := by decide +kernel
theorem dX1_extend_29 : decode cX1_extend 29 = .ok (.iastore, 1) := by decide +kernel
theorem dX1_extend_30 : decode cX1_extend 30 = .ok (.aload_n 0, 1) := by decide +kernel
theorem dX1_extend_31 : decode cX1_extend 31 = .ok (.getfield 23, 3) := by decide +kernel
theorem dX1_extend_34 : decode cX1_extend 34 = .ok (.iload_n 3, 1) := by decide +kernel
theorem dX1_extend_35 : decode cX1_extend 35 = .ok (.aaload, 1) := by decide +kernel
theorem dX1_extend_36 : decode cX1_extend 36 = .ok (.iload 4, 2) := by decide +kernel
theorem dX1_extend_38 : decode cX1_extend 38 = .ok (.aload_n 0, 1) := by decide +kernel
theorem dX1_extend_39 : decode cX1_extend 39 = .ok (.getfield 38, 3) := by decide +kernel
theorem dX1_extend_42 : decode cX1_extend 42 = .ok (.iload 4, 2) := by decide +kernel
theorem dX1_extend_44 : decode cX1_extend 44 = .ok (.iaload, 1) := by decide +kernel
theorem dX1_extend_45 : decode cX1_extend 45 = .ok (.iload_n 1, 1) := by decide +kernel
theorem dX1_extend_46 : decode cX1_extend 46 = .ok (.imul, 1) := by decide +kernel
theorem dX1_extend_47 : decode cX1_extend 47 = .ok (.sipush 10007, 3) := by decide +kernel
theorem dX1_extend_50 : decode cX1_extend 50 = .ok (.irem, 1) := by decide +kernel
theorem dX1_extend_51 : decode cX1_extend 51 = .ok (.iastore, 1) := by decide +kernel
theorem dX1_extend_52 : decode cX1_extend 52 = .ok (.aload_n 0, 1) := by decide +kernel
theorem dX1_extend_53 : decode cX1_extend 53 = .ok (.getfield 26, 3) := by decide +kernel
theorem dX1_extend_56 : decode cX1_extend 56 = .ok (.iload_n 3, 1) := by decide +kernel
theorem dX1_extend_57 : decode cX1_extend 57 = .ok (.aaload, 1) := by decide +kernel
theorem dX1_extend_58 : decode cX1_extend 58 = .ok (.iload 4, 2) := by decide +kernel
theorem dX1_extend_60 : decode cX1_extend 60 = .ok (.aload_n 0, 1) := by decide +kernel
theorem dX1_extend_61 : decode cX1_extend 61 = .ok (.getfield 41, 3) := by decide +kernel
theorem dX1_extend_64 : decode cX1_extend 64 = .ok (.iload 4, 2) := by decide +kernel
theorem dX1_extend_66 : decode cX1_extend 66 = .ok (.iaload, 1) := by decide +kernel
theorem dX1_extend_67 : decode cX1_extend 67 = .ok (.sipush 10007, 3) := by decide +kernel
theorem dX1_extend_70 : decode cX1_extend 70 = .ok (.iload_n 1, 1) := by decide +kernel
theorem dX1_extend_71 : decode cX1_extend 71 = .ok (.isub, 1) := by decide +kernel
theorem dX1_extend_72 : decode cX1_extend 72 = .ok (.imul, 1) := by decide +kernel
theorem dX1_extend_73 : decode cX1_extend 73 = .ok (.sipush 10007, 3) := by decide +kernel
theorem dX1_extend_76 : decode cX1_extend 76 = .ok (.irem, 1) := by decide +kernel
theorem dX1_extend_77 : decode cX1_extend 77 = .ok (.iastore, 1) := by decide +kernel
theorem dX1_extend_78 : decode cX1_extend 78 = .ok (.aload_n 0, 1) := by decide +kernel
theorem dX1_extend_79 : decode cX1_extend 79 = .ok (.getfield 41, 3) := by decide +kernel
theorem dX1_extend_82 : decode cX1_extend 82 = .ok (.iload 4, 2) := by decide +kernel
theorem dX1_extend_84 : decode cX1_extend 84 = .ok (.iconst 0, 1) := by decide +kernel
theorem dX1_extend_85 : decode cX1_extend 85 = .ok (.iastore, 1) := by decide +kernel
theorem dX1_extend_86 : decode cX1_extend 86 = .ok (.iinc 4 1, 3) := by decide +kernel
theorem dX1_extend_89 : decode cX1_extend 89 = .ok (.goto (-81), 3) := by decide +kernel
theorem dX1_extend_92 : decode cX1_extend 92 = .ok (.aload_n 0, 1) := by decide +kernel
theorem dX1_extend_93 : decode cX1_extend 93 = .ok (.getfield 26, 3) := by decide +kernel
theorem dX1_extend_96 : decode cX1_extend 96 = .ok (.iload_n 3, 1) := by decide +kernel
theorem dX1_extend_97 : decode cX1_extend 97 = .ok (.aaload, 1) := by decide +kernel
theorem dX1_extend_98 : decode cX1_extend 98 = .ok (.iload_n 3, 1) := by decide +kernel
theorem dX1_extend_99 : decode cX1_extend 99 = .ok (.iload_n 1, 1) := by decide +kernel
theorem dX1_extend_100 : decode cX1_extend 100 = .ok (.iastore, 1) := by decide +kernel
theorem dX1_extend_101 : decode cX1_extend 101 = .ok (.aload_n 0, 1) := by decide +kernel
theorem dX1_extend_102 : decode cX1_extend 102 = .ok (.getfield 41, 3) := by decide +kernel
theorem dX1_extend_105 : decode cX1_extend 105 = .ok (.iload_n 3, 1) := by decide +kernel
theorem dX1_extend_106 : decode cX1_extend 106 = .ok (.iconst 1, 1) := by decide +kernel
theorem dX1_extend_107 : decode cX1_extend 107 = .ok (.iastore, 1) := by decide +kernel
theorem dX1_extend_108 : decode cX1_extend 108 = .ok (.aload_n 0, 1) := by decide +kernel
theorem dX1_extend_109 : decode cX1_extend 109 = .ok (.dup, 1) := by decide +kernel
theorem dX1_extend_110 : decode cX1_extend 110 = .ok (.getfield 50, 3) := by decide +kernel
theorem dX1_extend_113 : decode cX1_extend 113 = .ok (.iconst 1, 1) := by decide +kernel
theorem dX1_extend_114 : decode cX1_extend 114 = .ok (.iadd, 1) := by decide +kernel
theorem dX1_extend_115 : decode cX1_extend 115 = .ok (.putfield 50, 3) := by decide +kernel
theorem dX1_extend_118 : decode cX1_extend 118 = .ok (.return_, 1) := by decide +kernel
theorem dX1_firstWeighted_0 : decode cX1_firstWeighted 0 = .ok (.aload_n 0, 1) := by decide +kernel
theorem dX1_firstWeighted_1 : decode cX1_firstWeighted 1 = .ok (.getfield 15, 3) := by decide +kernel
theorem dX1_firstWeighted_4 : decode cX1_firstWeighted 4 = .ok (.aload_n 0, 1) := by decide +kernel
theorem dX1_firstWeighted_5 : decode cX1_firstWeighted 5 = .ok (.getfield 50, 3) := by decide +kernel
theorem dX1_firstWeighted_8 : decode cX1_firstWeighted 8 = .ok (.invokestatic 80, 3) := by decide +kernel
theorem dX1_firstWeighted_11 : decode cX1_firstWeighted 11 = .ok (.istore_n 1, 1) := by decide +kernel
theorem dX1_firstWeighted_12 : decode cX1_firstWeighted 12 = .ok (.iload_n 1, 1) := by decide +kernel
theorem dX1_firstWeighted_13 : decode cX1_firstWeighted 13 = .ok (.iconst (-1), 1) := by decide +kernel
theorem dX1_firstWeighted_14 : decode cX1_firstWeighted 14 = .ok (.if_icmp .ne 7, 3) := by decide +kernel
theorem dX1_firstWeighted_17 : decode cX1_firstWeighted 17 = .ok (.iconst (-1), 1) := by decide +kernel
theorem dX1_firstWeighted_18 : decode cX1_firstWeighted 18 = .ok (.goto 9, 3) := by decide +kernel
theorem dX1_firstWeighted_21 : decode cX1_firstWeighted 21 = .ok (.aload_n 0, 1) := by decide +kernel
theorem dX1_firstWeighted_22 : decode cX1_firstWeighted 22 = .ok (.getfield 9, 3) := by decide +kernel
theorem dX1_firstWeighted_25 : decode cX1_firstWeighted 25 = .ok (.iload_n 1, 1) := by decide +kernel
theorem dX1_firstWeighted_26 : decode cX1_firstWeighted 26 = .ok (.iaload, 1) := by decide +kernel
theorem dX1_firstWeighted_27 : decode cX1_firstWeighted 27 = .ok (.ireturn, 1) := by decide +kernel
theorem dX1_build_0 : decode cX1_build 0 = .ok (.aload_n 1, 1) := by decide +kernel
theorem dX1_build_1 : decode cX1_build 1 = .ok (.aload_n 0, 1) := by decide +kernel
theorem dX1_build_2 : decode cX1_build 2 = .ok (.getfield 50, 3) := by decide +kernel
theorem dX1_build_5 : decode cX1_build 5 = .ok (.invokevirtual 96, 3) := by decide +kernel
theorem dX1_build_8 : decode cX1_build 8 = .ok (.aload_n 0, 1) := by decide +kernel
theorem dX1_build_9 : decode cX1_build 9 = .ok (.getfield 15, 3) := by decide +kernel
theorem dX1_build_12 : decode cX1_build 12 = .ok (.iconst 0, 1) := by decide +kernel
theorem dX1_build_13 : decode cX1_build 13 = .ok (.aload_n 1, 1) := by decide +kernel
theorem dX1_build_14 : decode cX1_build 14 = .ok (.getfield 100, 3) := by decide +kernel
theorem dX1_build_17 : decode cX1_build 17 = .ok (.iconst 0, 1) := by decide +kernel
theorem dX1_build_18 : decode cX1_build 18 = .ok (.aload_n 0, 1) := by decide +kernel
theorem dX1_build_19 : decode cX1_build 19 = .ok (.getfield 50, 3) := by decide +kernel
theorem dX1_build_22 : decode cX1_build 22 = .ok (.invokestatic 56, 3) := by decide +kernel
theorem dX1_build_25 : decode cX1_build 25 = .ok (.iconst 0, 1) := by decide +kernel
theorem dX1_build_26 : decode cX1_build 26 = .ok (.istore_n 2, 1) := by decide +kernel
theorem dX1_build_27 : decode cX1_build 27 = .ok (.iload_n 2, 1) := by decide +kernel
theorem dX1_build_28 : decode cX1_build 28 = .ok (.aload_n 0, 1) := by decide +kernel
theorem dX1_build_29 : decode cX1_build 29 = .ok (.getfield 50, 3) := by decide +kernel
theorem dX1_build_32 : decode cX1_build 32 = .ok (.if_icmp .ge 67, 3) := by decide +kernel
theorem dX1_build_35 : decode cX1_build 35 = .ok (.aload_n 1, 1) := by decide +kernel
theorem dX1_build_36 : decode cX1_build 36 = .ok (.getfield 53, 3) := by decide +kernel
theorem dX1_build_39 : decode cX1_build 39 = .ok (.iload_n 2, 1) := by decide +kernel
theorem dX1_build_40 : decode cX1_build 40 = .ok (.iload_n 2, 1) := by decide +kernel
theorem dX1_build_41 : decode cX1_build 41 = .ok (.ifCond .ne 7, 3) := by decide +kernel
theorem dX1_build_44 : decode cX1_build 44 = .ok (.iconst 1, 1) := by decide +kernel
theorem dX1_build_45 : decode cX1_build 45 = .ok (.goto 4, 3) := by decide +kernel
theorem dX1_build_48 : decode cX1_build 48 = .ok (.iconst 0, 1) := by decide +kernel
theorem dX1_build_49 : decode cX1_build 49 = .ok (.iastore, 1) := by decide +kernel
theorem dX1_build_50 : decode cX1_build 50 = .ok (.iconst 0, 1) := by decide +kernel
theorem dX1_build_51 : decode cX1_build 51 = .ok (.istore_n 3, 1) := by decide +kernel
theorem dX1_build_52 : decode cX1_build 52 = .ok (.iload_n 3, 1) := by decide +kernel
theorem dX1_build_53 : decode cX1_build 53 = .ok (.iconst 2, 1) := by decide +kernel
theorem dX1_build_54 : decode cX1_build 54 = .ok (.if_icmp .ge 39, 3) := by decide +kernel
theorem dX1_build_57 : decode cX1_build 57 = .ok (.aload_n 0, 1) := by decide +kernel
theorem dX1_build_58 : decode cX1_build 58 = .ok (.getfield 32, 3) := by decide +kernel
theorem dX1_build_61 : decode cX1_build 61 = .ok (.iconst 2, 1) := by decide +kernel
theorem dX1_build_62 : decode cX1_build 62 = .ok (.iload_n 2, 1) := by decide +kernel
theorem dX1_build_63 : decode cX1_build 63 = .ok (.imul, 1) := by decide +kernel
theorem dX1_build_64 : decode cX1_build 64 = .ok (.iload_n 3, 1) := by decide +kernel
theorem dX1_build_65 : decode cX1_build 65 = .ok (.iadd, 1) := by decide +kernel
theorem dX1_build_66 : decode cX1_build 66 = .ok (.aaload, 1) := by decide +kernel
theorem dX1_build_67 : decode cX1_build 67 = .ok (.iconst 0, 1) := by decide +kernel
theorem dX1_build_68 : decode cX1_build 68 = .ok (.aload_n 1, 1) := by decide +kernel
theorem dX1_build_69 : decode cX1_build 69 = .ok (.getfield 103, 3) := by decide +kernel
theorem dX1_build_72 : decode cX1_build 72 = .ok (.iload_n 3, 1) := by decide +kernel
theorem dX1_build_73 : decode cX1_build 73 = .ok (.aaload, 1) := by decide +kernel
theorem dX1_build_74 : decode cX1_build 74 = .ok (.iload_n 2, 1) := by decide +kernel
theorem dX1_build_75 : decode cX1_build 75 = .ok (.aload_n 0, 1) := by decide +kernel
theorem dX1_build_76 : decode cX1_build 76 = .ok (.getfield 50, 3) := by decide +kernel
theorem dX1_build_79 : decode cX1_build 79 = .ok (.imul, 1) := by decide +kernel
theorem dX1_build_80 : decode cX1_build 80 = .ok (.aload_n 0, 1) := by decide +kernel
theorem dX1_build_81 : decode cX1_build 81 = .ok (.getfield 50, 3) := by decide +kernel
theorem dX1_build_84 : decode cX1_build 84 = .ok (.invokestatic 56, 3) := by decide +kernel
theorem dX1_build_87 : decode cX1_build 87 = .ok (.iinc 3 1, 3) := by decide +kernel
theorem dX1_build_90 : decode cX1_build 90 = .ok (.goto (-38), 3) := by decide +kernel
theorem dX1_build_93 : decode cX1_build 93 = .ok (.iinc 2 1, 3) := by decide +kernel
theorem dX1_build_96 : decode cX1_build 96 = .ok (.goto (-69), 3) := by decide +kernel
theorem dX1_build_99 : decode cX1_build 99 = .ok (.return_, 1) := by decide +kernel
theorem dX1_reduce_0 : decode cX1_reduce 0 = .ok (.aload_n 0, 1) := by decide +kernel
theorem dX1_reduce_1 : decode cX1_reduce 1 = .ok (.aload_n 1, 1) := by decide +kernel
theorem dX1_reduce_2 : decode cX1_reduce 2 = .ok (.invokevirtual 106, 3) := by decide +kernel
theorem dX1_reduce_5 : decode cX1_reduce 5 = .ok (.aload_n 0, 1) := by decide +kernel
theorem dX1_reduce_6 : decode cX1_reduce 6 = .ok (.aload_n 1, 1) := by decide +kernel
theorem dX1_reduce_7 : decode cX1_reduce 7 = .ok (.invokevirtual 110, 3) := by decide +kernel
theorem dX1_reduce_10 : decode cX1_reduce 10 = .ok (.return_, 1) := by decide +kernel
theorem dX1_minimize_0 : decode cX1_minimize 0 = .ok (.iconst 0, 1) := by decide +kernel
theorem dX1_minimize_1 : decode cX1_minimize 1 = .ok (.istore_n 2, 1) := by decide +kernel
theorem dX1_minimize_2 : decode cX1_minimize 2 = .ok (.iload_n 2, 1) := by decide +kernel
theorem dX1_minimize_3 : decode cX1_minimize 3 = .ok (.iconst 2, 1) := by decide +kernel
theorem dX1_minimize_4 : decode cX1_minimize 4 = .ok (.if_icmp .ge 23, 3) := by decide +kernel
theorem dX1_minimize_7 : decode cX1_minimize 7 = .ok (.aload_n 0, 1) := by decide +kernel
theorem dX1_minimize_8 : decode cX1_minimize 8 = .ok (.aload_n 1, 1) := by decide +kernel
theorem dX1_minimize_9 : decode cX1_minimize 9 = .ok (.invokevirtual 106, 3) := by decide +kernel
theorem dX1_minimize_12 : decode cX1_minimize 12 = .ok (.aload_n 0, 1) := by decide +kernel
theorem dX1_minimize_13 : decode cX1_minimize 13 = .ok (.aload_n 1, 1) := by decide +kernel
theorem dX1_minimize_14 : decode cX1_minimize 14 = .ok (.invokevirtual 110, 3) := by decide +kernel
theorem dX1_minimize_17 : decode cX1_minimize 17 = .ok (.aload_n 1, 1) := by decide +kernel
theorem dX1_minimize_18 : decode cX1_minimize 18 = .ok (.invokevirtual 113, 3) := by decide +kernel
theorem dX1_minimize_21 : decode cX1_minimize 21 = .ok (.iinc 2 1, 3) := by decide +kernel
theorem dX1_minimize_24 : decode cX1_minimize 24 = .ok (.goto (-22), 3) := by decide +kernel
theorem dX1_minimize_27 : decode cX1_minimize 27 = .ok (.return_, 1) := by decide +kernel
theorem dX2_init_0 : decode cX2_init 0 = .ok (.aload_n 0, 1) := by decide +kernel
theorem dX2_init_1 : decode cX2_init 1 = .ok (.invokespecial 3, 3) := by decide +kernel
theorem dX2_init_4 : decode cX2_init 4 = .ok (.aload_n 0, 1) := by decide +kernel
theorem dX2_init_5 : decode cX2_init 5 = .ok (.bipush 60, 2) := by decide +kernel
theorem dX2_init_7 : decode cX2_init 7 = .ok (.newarray .int, 2) := by decide +kernel
theorem dX2_init_9 : decode cX2_init 9 = .ok (.putfield 9, 3) := by decide +kernel
theorem dX2_init_12 : decode cX2_init 12 = .ok (.aload_n 0, 1) := by decide +kernel
theorem dX2_init_13 : decode cX2_init 13 = .ok (.bipush 9, 2) := by decide +kernel
theorem dX2_init_15 : decode cX2_init 15 = .ok (.invokestatic 15, 3) := by decide +kernel
theorem dX2_init_18 : decode cX2_init 18 = .ok (.putfield 19, 3) := by decide +kernel
theorem dX2_init_21 : decode cX2_init 21 = .ok (.aload_n 0, 1) := by decide +kernel
theorem dX2_init_22 : decode cX2_init 22 = .ok (.bipush 9, 2) := by decide +kernel
theorem dX2_init_24 : decode cX2_init 24 = .ok (.newarray .boolean, 2) := by decide +kernel
theorem dX2_init_26 : decode cX2_init 26 = .ok (.putfield 23, 3) := by decide +kernel
theorem dX2_init_29 : decode cX2_init 29 = .ok (.aload_n 0, 1) := by decide +kernel
theorem dX2_init_30 : decode cX2_init 30 = .ok (.bipush 9, 2) := by decide +kernel
theorem dX2_init_32 : decode cX2_init 32 = .ok (.invokestatic 15, 3) := by decide +kernel
theorem dX2_init_35 : decode cX2_init 35 = .ok (.putfield 27, 3) := by decide +kernel
theorem dX2_init_38 : decode cX2_init 38 = .ok (.aload_n 0, 1) := by decide +kernel
theorem dX2_init_39 : decode cX2_init 39 = .ok (.bipush 9, 2) := by decide +kernel
theorem dX2_init_41 : decode cX2_init 41 = .ok (.newarray .boolean, 2) := by decide +kernel
theorem dX2_init_43 : decode cX2_init 43 = .ok (.putfield 30, 3) := by decide +kernel
theorem dX2_init_46 : decode cX2_init 46 = .ok (.aload_n 0, 1) := by decide +kernel
theorem dX2_init_47 : decode cX2_init 47 = .ok (.new 33, 3) := by decide +kernel
theorem dX2_init_50 : decode cX2_init 50 = .ok (.dup, 1) := by decide +kernel
theorem dX2_init_51 : decode cX2_init 51 = .ok (.bipush 12, 2) := by decide +kernel
theorem dX2_init_53 : decode cX2_init 53 = .ok (.invokespecial 35, 3) := by decide +kernel
theorem dX2_init_56 : decode cX2_init 56 = .ok (.putfield 38, 3) := by decide +kernel
theorem dX2_init_59 : decode cX2_init 59 = .ok (.aload_n 0, 1) := by decide +kernel
theorem dX2_init_60 : decode cX2_init 60 = .ok (.new 33, 3) := by decide +kernel
theorem dX2_init_63 : decode cX2_init 63 = .ok (.dup, 1) := by decide +kernel
theorem dX2_init_64 : decode cX2_init 64 = .ok (.bipush 12, 2) := by decide +kernel
theorem dX2_init_66 : decode cX2_init 66 = .ok (.invokespecial 35, 3) := by decide +kernel
theorem dX2_init_69 : decode cX2_init 69 = .ok (.putfield 42, 3) := by decide +kernel
theorem dX2_init_72 : decode cX2_init 72 = .ok (.return_, 1) := by decide +kernel
theorem dX3_init_0 : decode cX3_init 0 = .ok (.aload_n 0, 1) := by decide +kernel
theorem dX3_init_1 : decode cX3_init 1 = .ok (.invokespecial 3, 3) := by decide +kernel
theorem dX3_init_4 : decode cX3_init 4 = .ok (.aload_n 0, 1) := by decide +kernel
theorem dX3_init_5 : decode cX3_init 5 = .ok (.bipush 31, 2) := by decide +kernel
theorem dX3_init_7 : decode cX3_init 7 = .ok (.bipush 31, 2) := by decide +kernel
theorem dX3_init_9 : decode cX3_init 9 = .ok (.multianewarray 9 2, 4) := by decide +kernel
theorem dX3_init_13 : decode cX3_init 13 = .ok (.putfield 11, 3) := by decide +kernel
theorem dX3_init_16 : decode cX3_init 16 = .ok (.return_, 1) := by decide +kernel
theorem dX3_rank_0 : decode cX3_rank 0 = .ok (.iconst 0, 1) := by decide +kernel
theorem dX3_rank_1 : decode cX3_rank 1 = .ok (.istore_n 3, 1) := by decide +kernel
theorem dX3_rank_2 : decode cX3_rank 2 = .ok (.iconst 0, 1) := by decide +kernel
theorem dX3_rank_3 : decode cX3_rank 3 = .ok (.istore 4, 2) := by decide +kernel
theorem dX3_rank_5 : decode cX3_rank 5 = .ok (.iload 4, 2) := by decide +kernel
theorem dX3_rank_7 : decode cX3_rank 7 = .ok (.iload_n 2, 1) := by decide +kernel
theorem dX3_rank_8 : decode cX3_rank 8 = .ok (.if_icmp .ge 37, 3) := by decide +kernel
theorem dX3_rank_11 : decode cX3_rank 11 = .ok (.iload_n 3, 1) := by decide +kernel
theorem dX3_rank_12 : decode cX3_rank 12 = .ok (.iload_n 1, 1) := by decide +kernel
theorem dX3_rank_13 : decode cX3_rank 13 = .ok (.if_icmp .ge 32, 3) := by decide +kernel
theorem dX3_rank_16 : decode cX3_rank 16 = .ok (.aload_n 0, 1) := by decide +kernel
theorem dX3_rank_17 : decode cX3_rank 17 = .ok (.iload_n 3, 1) := by decide +kernel
theorem dX3_rank_18 : decode cX3_rank 18 = .ok (.iload_n 1, 1) := by decide +kernel
theorem dX3_rank_19 : decode cX3_rank 19 = .ok (.iload 4, 2) := by decide +kernel
theorem dX3_rank_21 : decode cX3_rank 21 = .ok (.invokevirtual 16, 3) := by decide +kernel
theorem dX3_rank_24 : decode cX3_rank 24 = .ok (.ifCond .eq 15, 3) := by decide +kernel
theorem dX3_rank_27 : decode cX3_rank 27 = .ok (.aload_n 0, 1) := by decide +kernel
theorem dX3_rank_28 : decode cX3_rank 28 = .ok (.iload_n 3, 1) := by decide +kernel
theorem dX3_rank_29 : decode cX3_rank 29 = .ok (.iload_n 1, 1) := by decide +kernel
theorem dX3_rank_30 : decode cX3_rank 30 = .ok (.iload 4, 2) := by decide +kernel
theorem dX3_rank_32 : decode cX3_rank 32 = .ok (.iload_n 2, 1) := by decide +kernel
theorem dX3_rank_33 : decode cX3_rank 33 = .ok (.invokevirtual 20, 3) := by decide +kernel
theorem dX3_rank_36 : decode cX3_rank 36 = .ok (.iinc 3 1, 3) := by decide +kernel
theorem dX3_rank_39 : decode cX3_rank 39 = .ok (.iinc 4 1, 3) := by decide +kernel
theorem dX3_rank_42 : decode cX3_rank 42 = .ok (.goto (-37), 3) := by decide +kernel
theorem dX3_rank_45 : decode cX3_rank 45 = .ok (.iload_n 3, 1) := by decide +kernel
theorem dX3_rank_46 : decode cX3_rank 46 = .ok (.ireturn, 1) := by decide +kernel
theorem dX3_raisePivot_0 : decode cX3_raisePivot 0 = .ok (.iload_n 1, 1) := by decide +kernel
theorem dX3_raisePivot_1 : decode cX3_raisePivot 1 = .ok (.istore 4, 2) := by decide +kernel
theorem dX3_raisePivot_3 : decode cX3_raisePivot 3 = .ok (.iload 4, 2) := by decide +kernel
theorem dX3_raisePivot_5 : decode cX3_raisePivot 5 = .ok (.iload_n 2, 1) := by decide +kernel
theorem dX3_raisePivot_6 : decode cX3_raisePivot 6 = .ok (.if_icmp .ge 53, 3) := by decide +kernel
theorem dX3_raisePivot_9 : decode cX3_raisePivot 9 = .ok (.aload_n 0, 1) := by decide +kernel
theorem dX3_raisePivot_10 : decode cX3_raisePivot 10 = .ok (.getfield 11, 3) := by decide +kernel
theorem dX3_raisePivot_13 : decode cX3_raisePivot 13 = .ok (.iload 4, 2) := by decide +kernel
theorem dX3_raisePivot_15 : decode cX3_raisePivot 15 = .ok (.aaload, 1) := by decide +kernel
theorem dX3_raisePivot_16 : decode cX3_raisePivot 16 = .ok (.iload_n 3, 1) := by decide +kernel
theorem dX3_raisePivot_17 : decode cX3_raisePivot 17 = .ok (.iaload, 1) := by decide +kernel
theorem dX3_raisePivot_18 : decode cX3_raisePivot 18 = .ok (.ifCond .eq 35, 3) := by decide +kernel
theorem dX3_raisePivot_21 : decode cX3_raisePivot 21 = .ok (.aload_n 0, 1) := by decide +kernel
theorem dX3_raisePivot_22 : decode cX3_raisePivot 22 = .ok (.getfield 11, 3) := by decide +kernel
theorem dX3_raisePivot_25 : decode cX3_raisePivot 25 = .ok (.iload 4, 2) := by decide +kernel
theorem dX3_raisePivot_27 : decode cX3_raisePivot 27 = .ok (.aaload, 1) := by decide +kernel
theorem dX3_raisePivot_28 : decode cX3_raisePivot 28 = .ok (.astore 5, 2) := by decide +kernel
theorem dX3_raisePivot_30 : decode cX3_raisePivot 30 = .ok (.aload_n 0, 1) := by decide +kernel
theorem dX3_raisePivot_31 : decode cX3_raisePivot 31 = .ok (.getfield 11, 3) := by decide +kernel
theorem dX3_raisePivot_34 : decode cX3_raisePivot 34 = .ok (.iload 4, 2) := by decide +kernel
theorem dX3_raisePivot_36 : decode cX3_raisePivot 36 = .ok (.aload_n 0, 1) := by decide +kernel
theorem dX3_raisePivot_37 : decode cX3_raisePivot 37 = .ok (.getfield 11, 3) := by decide +kernel
theorem dX3_raisePivot_40 : decode cX3_raisePivot 40 = .ok (.iload_n 1, 1) := by decide +kernel
theorem dX3_raisePivot_41 : decode cX3_raisePivot 41 = .ok (.aaload, 1) := by decide +kernel
theorem dX3_raisePivot_42 : decode cX3_raisePivot 42 = .ok (.aastore, 1) := by decide +kernel
theorem dX3_raisePivot_43 : decode cX3_raisePivot 43 = .ok (.aload_n 0, 1) := by decide +kernel
theorem dX3_raisePivot_44 : decode cX3_raisePivot 44 = .ok (.getfield 11, 3) := by decide +kernel
theorem dX3_raisePivot_47 : decode cX3_raisePivot 47 = .ok (.iload_n 1, 1) := by decide +kernel
theorem dX3_raisePivot_48 : decode cX3_raisePivot 48 = .ok (.aload 5, 2) := by decide +kernel
theorem dX3_raisePivot_50 : decode cX3_raisePivot 50 = .ok (.aastore, 1) := by decide +kernel
theorem dX3_raisePivot_51 : decode cX3_raisePivot 51 = .ok (.iconst 1, 1) := by decide +kernel
theorem dX3_raisePivot_52 : decode cX3_raisePivot 52 = .ok (.ireturn, 1) := by decide +kernel
theorem dX3_raisePivot_53 : decode cX3_raisePivot 53 = .ok (.iinc 4 1, 3) := by decide +kernel
theorem dX3_raisePivot_56 : decode cX3_raisePivot 56 = .ok (.goto (-53), 3) := by decide +kernel
theorem dX3_raisePivot_59 : decode cX3_raisePivot 59 = .ok (.iconst 0, 1) := by decide +kernel
theorem dX3_raisePivot_60 : decode cX3_raisePivot 60 = .ok (.ireturn, 1) := by decide +kernel
theorem dX3_clearBelow_0 : decode cX3_clearBelow 0 = .ok (.sipush 10007, 3) := by decide +kernel
theorem dX3_clearBelow_3 : decode cX3_clearBelow 3 = .ok (.aload_n 0, 1) := by decide +kernel
theorem dX3_clearBelow_4 : decode cX3_clearBelow 4 = .ok (.getfield 11, 3) := by decide +kernel
theorem dX3_clearBelow_7 : decode cX3_clearBelow 7 = .ok (.iload_n 1, 1) := by decide +kernel
theorem dX3_clearBelow_8 : decode cX3_clearBelow 8 = .ok (.aaload, 1) := by decide +kernel
theorem dX3_clearBelow_9 : decode cX3_clearBelow 9 = .ok (.iload_n 3, 1) := by decide +kernel
theorem dX3_clearBelow_10 : decode cX3_clearBelow 10 = .ok (.iaload, 1) := by decide +kernel
theorem dX3_clearBelow_11 : decode cX3_clearBelow 11 = .ok (.invokestatic 24, 3) := by decide +kernel
theorem dX3_clearBelow_14 : decode cX3_clearBelow 14 = .ok (.isub, 1) := by decide +kernel
theorem dX3_clearBelow_15 : decode cX3_clearBelow 15 = .ok (.istore 5, 2) := by decide +kernel
theorem dX3_clearBelow_17 : decode cX3_clearBelow 17 = .ok (.iload_n 1, 1) := by decide +kernel
theorem dX3_clearBelow_18 : decode cX3_clearBelow 18 = .ok (.iconst 1, 1) := by decide +kernel
theorem dX3_clearBelow_19 : decode cX3_clearBelow 19 = .ok (.iadd, 1) := by decide +kernel
theorem dX3_clearBelow_20 : decode cX3_clearBelow 20 = .ok (.istore 6, 2) := by decide +kernel
theorem dX3_clearBelow_22 : decode cX3_clearBelow 22 = .ok (.iload 6, 2) := by decide +kernel
theorem dX3_clearBelow_24 : decode cX3_clearBelow 24 = .ok (.iload_n 2, 1) := by decide +kernel
theorem dX3_clearBelow_25 : decode cX3_clearBelow 25 = .ok (.if_icmp .ge 52, 3) := by decide +kernel
theorem dX3_clearBelow_28 : decode cX3_clearBelow 28 = .ok (.aload_n 0, 1) := by decide +kernel
theorem dX3_clearBelow_29 : decode cX3_clearBelow 29 = .ok (.getfield 11, 3) := by decide +kernel
theorem dX3_clearBelow_32 : decode cX3_clearBelow 32 = .ok (.iload 6, 2) := by decide +kernel
theorem dX3_clearBelow_34 : decode cX3_clearBelow 34 = .ok (.aaload, 1) := by decide +kernel
theorem dX3_clearBelow_35 : decode cX3_clearBelow 35 = .ok (.iload_n 3, 1) := by decide +kernel
theorem dX3_clearBelow_36 : decode cX3_clearBelow 36 = .ok (.iaload, 1) := by decide +kernel
theorem dX3_clearBelow_37 : decode cX3_clearBelow 37 = .ok (.iload 5, 2) := by decide +kernel
theorem dX3_clearBelow_39 : decode cX3_clearBelow 39 = .ok (.imul, 1) := by decide +kernel
theorem dX3_clearBelow_40 : decode cX3_clearBelow 40 = .ok (.sipush 10007, 3) := by decide +kernel
theorem dX3_clearBelow_43 : decode cX3_clearBelow 43 = .ok (.irem, 1) := by decide +kernel
theorem dX3_clearBelow_44 : decode cX3_clearBelow 44 = .ok (.istore 7, 2) := by decide +kernel
theorem dX3_clearBelow_46 : decode cX3_clearBelow 46 = .ok (.iload 7, 2) := by decide +kernel
theorem dX3_clearBelow_48 : decode cX3_clearBelow 48 = .ok (.ifCond .eq 23, 3) := by decide +kernel
theorem dX3_clearBelow_51 : decode cX3_clearBelow 51 = .ok (.aload_n 0, 1) := by decide +kernel
theorem dX3_clearBelow_52 : decode cX3_clearBelow 52 = .ok (.getfield 11, 3) := by decide +kernel
theorem dX3_clearBelow_55 : decode cX3_clearBelow 55 = .ok (.iload 6, 2) := by decide +kernel
theorem dX3_clearBelow_57 : decode cX3_clearBelow 57 = .ok (.aaload, 1) := by decide +kernel
theorem dX3_clearBelow_58 : decode cX3_clearBelow 58 = .ok (.iload 7, 2) := by decide +kernel
theorem dX3_clearBelow_60 : decode cX3_clearBelow 60 = .ok (.aload_n 0, 1) := by decide +kernel
theorem dX3_clearBelow_61 : decode cX3_clearBelow 61 = .ok (.getfield 11, 3) := by decide +kernel
theorem dX3_clearBelow_64 : decode cX3_clearBelow 64 = .ok (.iload_n 1, 1) := by decide +kernel
theorem dX3_clearBelow_65 : decode cX3_clearBelow 65 = .ok (.aaload, 1) := by decide +kernel
theorem dX3_clearBelow_66 : decode cX3_clearBelow 66 = .ok (.iload 4, 2) := by decide +kernel
theorem dX3_clearBelow_68 : decode cX3_clearBelow 68 = .ok (.invokestatic 28, 3) := by decide +kernel
theorem dX3_clearBelow_71 : decode cX3_clearBelow 71 = .ok (.iinc 6 1, 3) := by decide +kernel
theorem dX3_clearBelow_74 : decode cX3_clearBelow 74 = .ok (.goto (-52), 3) := by decide +kernel
theorem dX3_clearBelow_77 : decode cX3_clearBelow 77 = .ok (.return_, 1) := by decide +kernel
theorem dX4_init_0 : decode cX4_init 0 = .ok (.aload_n 0, 1) := by decide +kernel
theorem dX4_init_1 : decode cX4_init 1 = .ok (.invokespecial 3, 3) := by decide +kernel
theorem dX4_init_4 : decode cX4_init 4 = .ok (.aload_n 0, 1) := by decide +kernel
theorem dX4_init_5 : decode cX4_init 5 = .ok (.bipush 12, 2) := by decide +kernel
theorem dX4_init_7 : decode cX4_init 7 = .ok (.newarray .int, 2) := by decide +kernel
theorem dX4_init_9 : decode cX4_init 9 = .ok (.putfield 9, 3) := by decide +kernel
theorem dX4_init_12 : decode cX4_init 12 = .ok (.aload_n 0, 1) := by decide +kernel
theorem dX4_init_13 : decode cX4_init 13 = .ok (.bipush 12, 2) := by decide +kernel
theorem dX4_init_15 : decode cX4_init 15 = .ok (.bipush 12, 2) := by decide +kernel
theorem dX4_init_17 : decode cX4_init 17 = .ok (.multianewarray 15 2, 4) := by decide +kernel
theorem dX4_init_21 : decode cX4_init 21 = .ok (.putfield 17, 3) := by decide +kernel
theorem dX4_init_24 : decode cX4_init 24 = .ok (.return_, 1) := by decide +kernel
theorem dX4_start_0 : decode cX4_start 0 = .ok (.aload_n 0, 1) := by decide +kernel
theorem dX4_start_1 : decode cX4_start 1 = .ok (.getfield 9, 3) := by decide +kernel
theorem dX4_start_4 : decode cX4_start 4 = .ok (.iconst 0, 1) := by decide +kernel
theorem dX4_start_5 : decode cX4_start 5 = .ok (.invokestatic 20, 3) := by decide +kernel
theorem dX4_start_8 : decode cX4_start 8 = .ok (.aload_n 1, 1) := by decide +kernel
theorem dX4_start_9 : decode cX4_start 9 = .ok (.getfield 26, 3) := by decide +kernel
theorem dX4_start_12 : decode cX4_start 12 = .ok (.iconst 0, 1) := by decide +kernel
theorem dX4_start_13 : decode cX4_start 13 = .ok (.aload_n 0, 1) := by decide +kernel
theorem dX4_start_14 : decode cX4_start 14 = .ok (.getfield 17, 3) := by decide +kernel
theorem dX4_start_17 : decode cX4_start 17 = .ok (.iconst 0, 1) := by decide +kernel
theorem dX4_start_18 : decode cX4_start 18 = .ok (.aaload, 1) := by decide +kernel
theorem dX4_start_19 : decode cX4_start 19 = .ok (.iconst 0, 1) := by decide +kernel
theorem dX4_start_20 : decode cX4_start 20 = .ok (.aload_n 1, 1) := by decide +kernel
theorem dX4_start_21 : decode cX4_start 21 = .ok (.getfield 31, 3) := by decide +kernel
theorem dX4_start_24 : decode cX4_start 24 = .ok (.invokestatic 35, 3) := by decide +kernel
theorem dX4_start_27 : decode cX4_start 27 = .ok (.return_, 1) := by decide +kernel
theorem dX4_weigh_0 : decode cX4_weigh 0 = .ok (.iload_n 2, 1) := by decide +kernel
theorem dX4_weigh_1 : decode cX4_weigh 1 = .ok (.invokestatic 41, 3) := by decide +kernel
theorem dX4_weigh_4 : decode cX4_weigh 4 = .ok (.bipush 11, 2) := by decide +kernel
theorem dX4_weigh_6 : decode cX4_weigh 6 = .ok (.invokestatic 45, 3) := by decide +kernel
theorem dX4_weigh_9 : decode cX4_weigh 9 = .ok (.istore_n 3, 1) := by decide +kernel
theorem dX4_weigh_10 : decode cX4_weigh 10 = .ok (.iconst 1, 1) := by decide +kernel
theorem dX4_weigh_11 : decode cX4_weigh 11 = .ok (.istore 4, 2) := by decide +kernel
theorem dX4_weigh_13 : decode cX4_weigh 13 = .ok (.iload 4, 2) := by decide +kernel
theorem dX4_weigh_15 : decode cX4_weigh 15 = .ok (.iload_n 3, 1) := by decide +kernel
theorem dX4_weigh_16 : decode cX4_weigh 16 = .ok (.if_icmp .gt 64, 3) := by decide +kernel
theorem dX4_weigh_19 : decode cX4_weigh 19 = .ok (.iload_n 2, 1) := by decide +kernel
theorem dX4_weigh_20 : decode cX4_weigh 20 = .ok (.iconst 1, 1) := by decide +kernel
theorem dX4_weigh_21 : decode cX4_weigh 21 = .ok (.iadd, 1) := by decide +kernel
theorem dX4_weigh_22 : decode cX4_weigh 22 = .ok (.iload_n 3, 1) := by decide +kernel
theorem dX4_weigh_23 : decode cX4_weigh 23 = .ok (.iload 4, 2) := by decide +kernel
theorem dX4_weigh_25 : decode cX4_weigh 25 = .ok (.isub, 1) := by decide +kernel
theorem dX4_weigh_26 : decode cX4_weigh 26 = .ok (.ishr, 1) := by decide +kernel
theorem dX4_weigh_27 : decode cX4_weigh 27 = .ok (.istore 5, 2) := by decide +kernel
theorem dX4_weigh_29 : decode cX4_weigh 29 = .ok (.aload_n 0, 1) := by decide +kernel
theorem dX4_weigh_30 : decode cX4_weigh 30 = .ok (.getfield 9, 3) := by decide +kernel
theorem dX4_weigh_33 : decode cX4_weigh 33 = .ok (.iload 4, 2) := by decide +kernel
theorem dX4_weigh_35 : decode cX4_weigh 35 = .ok (.iaload, 1) := by decide +kernel
theorem dX4_weigh_36 : decode cX4_weigh 36 = .ok (.iload 5, 2) := by decide +kernel
theorem dX4_weigh_38 : decode cX4_weigh 38 = .ok (.if_icmp .eq 36, 3) := by decide +kernel
theorem dX4_weigh_41 : decode cX4_weigh 41 = .ok (.aload_n 1, 1) := by decide +kernel
theorem dX4_weigh_42 : decode cX4_weigh 42 = .ok (.aload_n 0, 1) := by decide +kernel
theorem dX4_weigh_43 : decode cX4_weigh 43 = .ok (.getfield 17, 3) := by decide +kernel
theorem dX4_weigh_46 : decode cX4_weigh 46 = .ok (.iload 4, 2) := by decide +kernel
theorem dX4_weigh_48 : decode cX4_weigh 48 = .ok (.iconst 1, 1) := by decide +kernel
theorem dX4_weigh_49 : decode cX4_weigh 49 = .ok (.isub, 1) := by decide +kernel
theorem dX4_weigh_50 : decode cX4_weigh 50 = .ok (.aaload, 1) := by decide +kernel
theorem dX4_weigh_51 : decode cX4_weigh 51 = .ok (.iload 5, 2) := by decide +kernel
theorem dX4_weigh_53 : decode cX4_weigh 53 = .ok (.iconst 1, 1) := by decide +kernel
theorem dX4_weigh_54 : decode cX4_weigh 54 = .ok (.iand, 1) := by decide +kernel
theorem dX4_weigh_55 : decode cX4_weigh 55 = .ok (.aload_n 0, 1) := by decide +kernel
theorem dX4_weigh_56 : decode cX4_weigh 56 = .ok (.getfield 17, 3) := by decide +kernel
theorem dX4_weigh_59 : decode cX4_weigh 59 = .ok (.iload 4, 2) := by decide +kernel
theorem dX4_weigh_61 : decode cX4_weigh 61 = .ok (.aaload, 1) := by decide +kernel
theorem dX4_weigh_62 : decode cX4_weigh 62 = .ok (.invokevirtual 51, 3) := by decide +kernel
theorem dX4_weigh_65 : decode cX4_weigh 65 = .ok (.aload_n 0, 1) := by decide +kernel
theorem dX4_weigh_66 : decode cX4_weigh 66 = .ok (.getfield 9, 3) := by decide +kernel
theorem dX4_weigh_69 : decode cX4_weigh 69 = .ok (.iload 4, 2) := by decide +kernel
theorem dX4_weigh_71 : decode cX4_weigh 71 = .ok (.iload 5, 2) := by decide +kernel
theorem dX4_weigh_73 : decode cX4_weigh 73 = .ok (.iastore, 1) := by decide +kernel
theorem dX4_weigh_74 : decode cX4_weigh 74 = .ok (.iinc 4 1, 3) := by decide +kernel
theorem dX4_weigh_77 : decode cX4_weigh 77 = .ok (.goto (-64), 3) := by decide +kernel
theorem dX4_weigh_80 : decode cX4_weigh 80 = .ok (.aload_n 1, 1) := by decide +kernel
theorem dX4_weigh_81 : decode cX4_weigh 81 = .ok (.aload_n 0, 1) := by decide +kernel
theorem dX4_weigh_82 : decode cX4_weigh 82 = .ok (.getfield 17, 3) := by decide +kernel
theorem dX4_weigh_85 : decode cX4_weigh 85 = .ok (.iload_n 3, 1) := by decide +kernel
theorem dX4_weigh_86 : decode cX4_weigh 86 = .ok (.aaload, 1) := by decide +kernel
theorem dX4_weigh_87 : decode cX4_weigh 87 = .ok (.invokevirtual 55, 3) := by decide +kernel
theorem dX4_weigh_90 : decode cX4_weigh 90 = .ok (.ireturn, 1) := by decide +kernel
theorem dX5_init_0 : decode cX5_init 0 = .ok (.aload_n 0, 1) := by decide +kernel
theorem dX5_init_1 : decode cX5_init 1 = .ok (.invokespecial 3, 3) := by decide +kernel
theorem dX5_init_4 : decode cX5_init 4 = .ok (.aload_n 0, 1) := by decide +kernel
theorem dX5_init_5 : decode cX5_init 5 = .ok (.bipush 12, 2) := by decide +kernel
theorem dX5_init_7 : decode cX5_init 7 = .ok (.newarray .int, 2) := by decide +kernel
theorem dX5_init_9 : decode cX5_init 9 = .ok (.putfield 9, 3) := by decide +kernel
theorem dX5_init_12 : decode cX5_init 12 = .ok (.aload_n 0, 1) := by decide +kernel
theorem dX5_init_13 : decode cX5_init 13 = .ok (.bipush 12, 2) := by decide +kernel
theorem dX5_init_15 : decode cX5_init 15 = .ok (.newarray .int, 2) := by decide +kernel
theorem dX5_init_17 : decode cX5_init 17 = .ok (.putfield 15, 3) := by decide +kernel
theorem dX5_init_20 : decode cX5_init 20 = .ok (.return_, 1) := by decide +kernel
theorem dX5_start_0 : decode cX5_start 0 = .ok (.aload_n 1, 1) := by decide +kernel
theorem dX5_start_1 : decode cX5_start 1 = .ok (.getfield 18, 3) := by decide +kernel
theorem dX5_start_4 : decode cX5_start 4 = .ok (.iconst 0, 1) := by decide +kernel
theorem dX5_start_5 : decode cX5_start 5 = .ok (.aload_n 0, 1) := by decide +kernel
theorem dX5_start_6 : decode cX5_start 6 = .ok (.getfield 9, 3) := by decide +kernel
theorem dX5_start_9 : decode cX5_start 9 = .ok (.iconst 0, 1) := by decide +kernel
theorem dX5_start_10 : decode cX5_start 10 = .ok (.aload_n 1, 1) := by decide +kernel
theorem dX5_start_11 : decode cX5_start 11 = .ok (.getfield 23, 3) := by decide +kernel
theorem dX5_start_14 : decode cX5_start 14 = .ok (.invokestatic 27, 3) := by decide +kernel
theorem dX5_start_17 : decode cX5_start 17 = .ok (.return_, 1) := by decide +kernel
theorem dX5_takeWord_0 : decode cX5_takeWord 0 = .ok (.iload_n 2, 1) := by decide +kernel
theorem dX5_takeWord_1 : decode cX5_takeWord 1 = .ok (.iconst 1, 1) := by decide +kernel
theorem dX5_takeWord_2 : decode cX5_takeWord 2 = .ok (.iadd, 1) := by decide +kernel
theorem dX5_takeWord_3 : decode cX5_takeWord 3 = .ok (.istore_n 3, 1) := by decide +kernel
theorem dX5_takeWord_4 : decode cX5_takeWord 4 = .ok (.bipush 18, 2) := by decide +kernel
theorem dX5_takeWord_6 : decode cX5_takeWord 6 = .ok (.istore 4, 2) := by decide +kernel
theorem dX5_takeWord_8 : decode cX5_takeWord 8 = .ok (.iload 4, 2) := by decide +kernel
theorem dX5_takeWord_10 : decode cX5_takeWord 10 = .ok (.ifCond .lt 40, 3) := by decide +kernel
theorem dX5_takeWord_13 : decode cX5_takeWord 13 = .ok (.iload_n 3, 1) := by decide +kernel
theorem dX5_takeWord_14 : decode cX5_takeWord 14 = .ok (.iload 4, 2) := by decide +kernel
theorem dX5_takeWord_16 : decode cX5_takeWord 16 = .ok (.iconst 1, 1) := by decide +kernel
theorem dX5_takeWord_17 : decode cX5_takeWord 17 = .ok (.iadd, 1) := by decide +kernel
theorem dX5_takeWord_18 : decode cX5_takeWord 18 = .ok (.ishr, 1) := by decide +kernel
theorem dX5_takeWord_19 : decode cX5_takeWord 19 = .ok (.ifCond .eq 25, 3) := by decide +kernel
theorem dX5_takeWord_22 : decode cX5_takeWord 22 = .ok (.aload_n 1, 1) := by decide +kernel
theorem dX5_takeWord_23 : decode cX5_takeWord 23 = .ok (.aload_n 0, 1) := by decide +kernel
theorem dX5_takeWord_24 : decode cX5_takeWord 24 = .ok (.getfield 9, 3) := by decide +kernel
theorem dX5_takeWord_27 : decode cX5_takeWord 27 = .ok (.iload_n 3, 1) := by decide +kernel
theorem dX5_takeWord_28 : decode cX5_takeWord 28 = .ok (.iload 4, 2) := by decide +kernel
theorem dX5_takeWord_30 : decode cX5_takeWord 30 = .ok (.ishr, 1) := by decide +kernel
theorem dX5_takeWord_31 : decode cX5_takeWord 31 = .ok (.iconst 1, 1) := by decide +kernel
theorem dX5_takeWord_32 : decode cX5_takeWord 32 = .ok (.iand, 1) := by decide +kernel
theorem dX5_takeWord_33 : decode cX5_takeWord 33 = .ok (.aload_n 0, 1) := by decide +kernel
theorem dX5_takeWord_34 : decode cX5_takeWord 34 = .ok (.getfield 15, 3) := by decide +kernel
theorem dX5_takeWord_37 : decode cX5_takeWord 37 = .ok (.invokevirtual 33, 3) := by decide +kernel
theorem dX5_takeWord_40 : decode cX5_takeWord 40 = .ok (.aload_n 0, 1) := by decide +kernel
theorem dX5_takeWord_41 : decode cX5_takeWord 41 = .ok (.invokevirtual 37, 3) := by decide +kernel
theorem dX5_takeWord_44 : decode cX5_takeWord 44 = .ok (.iinc 4 (-1), 3) := by decide +kernel
theorem dX5_takeWord_47 : decode cX5_takeWord 47 = .ok (.goto (-39), 3) := by decide +kernel
theorem dX5_takeWord_50 : decode cX5_takeWord 50 = .ok (.return_, 1) := by decide +kernel
theorem dX5_takeBoth_0 : decode cX5_takeBoth 0 = .ok (.aload_n 0, 1) := by decide +kernel
theorem dX5_takeBoth_1 : decode cX5_takeBoth 1 = .ok (.getfield 15, 3) := by decide +kernel
theorem dX5_takeBoth_4 : decode cX5_takeBoth 4 = .ok (.iconst 0, 1) := by decide +kernel
theorem dX5_takeBoth_5 : decode cX5_takeBoth 5 = .ok (.aload_n 1, 1) := by decide +kernel
theorem dX5_takeBoth_6 : decode cX5_takeBoth 6 = .ok (.getfield 23, 3) := by decide +kernel
theorem dX5_takeBoth_9 : decode cX5_takeBoth 9 = .ok (.iconst 0, 1) := by decide +kernel
theorem dX5_takeBoth_10 : decode cX5_takeBoth 10 = .ok (.invokestatic 40, 3) := by decide +kernel
theorem dX5_takeBoth_13 : decode cX5_takeBoth 13 = .ok (.iconst 0, 1) := by decide +kernel
theorem dX5_takeBoth_14 : decode cX5_takeBoth 14 = .ok (.istore_n 2, 1) := by decide +kernel
theorem dX5_takeBoth_15 : decode cX5_takeBoth 15 = .ok (.iload_n 2, 1) := by decide +kernel
theorem dX5_takeBoth_16 : decode cX5_takeBoth 16 = .ok (.iconst 2, 1) := by decide +kernel
theorem dX5_takeBoth_17 : decode cX5_takeBoth 17 = .ok (.if_icmp .ge 22, 3) := by decide +kernel
theorem dX5_takeBoth_20 : decode cX5_takeBoth 20 = .ok (.aload_n 1, 1) := by decide +kernel
theorem dX5_takeBoth_21 : decode cX5_takeBoth 21 = .ok (.aload_n 0, 1) := by decide +kernel
theorem dX5_takeBoth_22 : decode cX5_takeBoth 22 = .ok (.getfield 9, 3) := by decide +kernel
theorem dX5_takeBoth_25 : decode cX5_takeBoth 25 = .ok (.iload_n 2, 1) := by decide +kernel
theorem dX5_takeBoth_26 : decode cX5_takeBoth 26 = .ok (.aload_n 0, 1) := by decide +kernel
theorem dX5_takeBoth_27 : decode cX5_takeBoth 27 = .ok (.getfield 15, 3) := by decide +kernel
theorem dX5_takeBoth_30 : decode cX5_takeBoth 30 = .ok (.invokevirtual 46, 3) := by decide +kernel
theorem dX5_takeBoth_33 : decode cX5_takeBoth 33 = .ok (.iinc 2 1, 3) := by decide +kernel
theorem dX5_takeBoth_36 : decode cX5_takeBoth 36 = .ok (.goto (-21), 3) := by decide +kernel
theorem dX5_takeBoth_39 : decode cX5_takeBoth 39 = .ok (.aload_n 0, 1) := by decide +kernel
theorem dX5_takeBoth_40 : decode cX5_takeBoth 40 = .ok (.invokevirtual 37, 3) := by decide +kernel
theorem dX5_takeBoth_43 : decode cX5_takeBoth 43 = .ok (.return_, 1) := by decide +kernel
theorem dX5_value_0 : decode cX5_value 0 = .ok (.aload_n 1, 1) := by decide +kernel
theorem dX5_value_1 : decode cX5_value 1 = .ok (.aload_n 0, 1) := by decide +kernel
theorem dX5_value_2 : decode cX5_value 2 = .ok (.getfield 9, 3) := by decide +kernel
theorem dX5_value_5 : decode cX5_value 5 = .ok (.invokevirtual 49, 3) := by decide +kernel
theorem dX5_value_8 : decode cX5_value 8 = .ok (.ireturn, 1) := by decide +kernel
theorem dX5_swap_0 : decode cX5_swap 0 = .ok (.aload_n 0, 1) := by decide +kernel
theorem dX5_swap_1 : decode cX5_swap 1 = .ok (.getfield 9, 3) := by decide +kernel
theorem dX5_swap_4 : decode cX5_swap 4 = .ok (.astore_n 1, 1) := by decide +kernel
theorem dX5_swap_5 : decode cX5_swap 5 = .ok (.aload_n 0, 1) := by decide +kernel
theorem dX5_swap_6 : decode cX5_swap 6 = .ok (.aload_n 0, 1) := by decide +kernel
theorem dX5_swap_7 : decode cX5_swap 7 = .ok (.getfield 15, 3) := by decide +kernel
theorem dX5_swap_10 : decode cX5_swap 10 = .ok (.putfield 9, 3) := by decide +kernel
theorem dX5_swap_13 : decode cX5_swap 13 = .ok (.aload_n 0, 1) := by decide +kernel
theorem dX5_swap_14 : decode cX5_swap 14 = .ok (.aload_n 1, 1) := by decide +kernel
theorem dX5_swap_15 : decode cX5_swap 15 = .ok (.putfield 15, 3) := by decide +kernel
theorem dX5_swap_18 : decode cX5_swap 18 = .ok (.return_, 1) := by decide +kernel
theorem dX6_init_0 : decode cX6_init 0 = .ok (.aload_n 0, 1) := by decide +kernel
theorem dX6_init_1 : decode cX6_init 1 = .ok (.invokespecial 3, 3) := by decide +kernel
theorem dX6_init_4 : decode cX6_init 4 = .ok (.aload_n 0, 1) := by decide +kernel
theorem dX6_init_5 : decode cX6_init 5 = .ok (.iconst 4, 1) := by decide +kernel
theorem dX6_init_6 : decode cX6_init 6 = .ok (.invokestatic 9, 3) := by decide +kernel
theorem dX6_init_9 : decode cX6_init 9 = .ok (.putfield 13, 3) := by decide +kernel
theorem dX6_init_12 : decode cX6_init 12 = .ok (.aload_n 0, 1) := by decide +kernel
theorem dX6_init_13 : decode cX6_init 13 = .ok (.iconst 4, 1) := by decide +kernel
theorem dX6_init_14 : decode cX6_init 14 = .ok (.invokestatic 9, 3) := by decide +kernel
theorem dX6_init_17 : decode cX6_init 17 = .ok (.putfield 17, 3) := by decide +kernel
theorem dX6_init_20 : decode cX6_init 20 = .ok (.aload_n 0, 1) := by decide +kernel
theorem dX6_init_21 : decode cX6_init 21 = .ok (.iconst 4, 1) := by decide +kernel
theorem dX6_init_22 : decode cX6_init 22 = .ok (.newarray .int, 2) := by decide +kernel
theorem dX6_init_24 : decode cX6_init 24 = .ok (.putfield 20, 3) := by decide +kernel
theorem dX6_init_27 : decode cX6_init 27 = .ok (.aload_n 0, 1) := by decide +kernel
theorem dX6_init_28 : decode cX6_init 28 = .ok (.iconst 0, 1) := by decide +kernel
theorem dX6_init_29 : decode cX6_init 29 = .ok (.putfield 24, 3) := by decide +kernel
theorem dX6_init_32 : decode cX6_init 32 = .ok (.aload_n 0, 1) := by decide +kernel
theorem dX6_init_33 : decode cX6_init 33 = .ok (.new 28, 3) := by decide +kernel
theorem dX6_init_36 : decode cX6_init 36 = .ok (.dup, 1) := by decide +kernel
theorem dX6_init_37 : decode cX6_init 37 = .ok (.bipush 12, 2) := by decide +kernel
theorem dX6_init_39 : decode cX6_init 39 = .ok (.invokespecial 30, 3) := by decide +kernel
theorem dX6_init_42 : decode cX6_init 42 = .ok (.putfield 33, 3) := by decide +kernel
theorem dX6_init_45 : decode cX6_init 45 = .ok (.aload_n 0, 1) := by decide +kernel
theorem dX6_init_46 : decode cX6_init 46 = .ok (.new 28, 3) := by decide +kernel
theorem dX6_init_49 : decode cX6_init 49 = .ok (.dup, 1) := by decide +kernel
theorem dX6_init_50 : decode cX6_init 50 = .ok (.bipush 24, 2) := by decide +kernel
theorem dX6_init_52 : decode cX6_init 52 = .ok (.invokespecial 30, 3) := by decide +kernel
theorem dX6_init_55 : decode cX6_init 55 = .ok (.putfield 37, 3) := by decide +kernel
theorem dX6_init_58 : decode cX6_init 58 = .ok (.aload_n 0, 1) := by decide +kernel
theorem dX6_init_59 : decode cX6_init 59 = .ok (.new 40, 3) := by decide +kernel
theorem dX6_init_62 : decode cX6_init 62 = .ok (.dup, 1) := by decide +kernel
theorem dX6_init_63 : decode cX6_init 63 = .ok (.invokespecial 42, 3) := by decide +kernel
theorem dX6_init_66 : decode cX6_init 66 = .ok (.putfield 43, 3) := by decide +kernel
theorem dX6_init_69 : decode cX6_init 69 = .ok (.aload_n 0, 1) := by decide +kernel
theorem dX6_init_70 : decode cX6_init 70 = .ok (.new 47, 3) := by decide +kernel
theorem dX6_init_73 : decode cX6_init 73 = .ok (.dup, 1) := by decide +kernel
theorem dX6_init_74 : decode cX6_init 74 = .ok (.invokespecial 49, 3) := by decide +kernel
theorem dX6_init_77 : decode cX6_init 77 = .ok (.putfield 50, 3) := by decide +kernel
theorem dX6_init_80 : decode cX6_init 80 = .ok (.aload_n 0, 1) := by decide +kernel
theorem dX6_init_81 : decode cX6_init 81 = .ok (.new 54, 3) := by decide +kernel
theorem dX6_init_84 : decode cX6_init 84 = .ok (.dup, 1) := by decide +kernel
theorem dX6_init_85 : decode cX6_init 85 = .ok (.invokespecial 56, 3) := by decide +kernel
theorem dX6_init_88 : decode cX6_init 88 = .ok (.putfield 57, 3) := by decide +kernel
theorem dX6_init_91 : decode cX6_init 91 = .ok (.aload_n 0, 1) := by decide +kernel
theorem dX6_init_92 : decode cX6_init 92 = .ok (.new 61, 3) := by decide +kernel
theorem dX6_init_95 : decode cX6_init 95 = .ok (.dup, 1) := by decide +kernel
theorem dX6_init_96 : decode cX6_init 96 = .ok (.invokespecial 63, 3) := by decide +kernel
theorem dX6_init_99 : decode cX6_init 99 = .ok (.putfield 64, 3) := by decide +kernel
theorem dX6_init_102 : decode cX6_init 102 = .ok (.aload_n 0, 1) := by decide +kernel
theorem dX6_init_103 : decode cX6_init 103 = .ok (.bipush 43, 2) := by decide +kernel
theorem dX6_init_105 : decode cX6_init 105 = .ok (.newarray .int, 2) := by decide +kernel
theorem dX6_init_107 : decode cX6_init 107 = .ok (.putfield 68, 3) := by decide +kernel
theorem dX6_init_110 : decode cX6_init 110 = .ok (.aload_n 0, 1) := by decide +kernel
theorem dX6_init_111 : decode cX6_init 111 = .ok (.new 71, 3) := by decide +kernel
theorem dX6_init_114 : decode cX6_init 114 = .ok (.dup, 1) := by decide +kernel
theorem dX6_init_115 : decode cX6_init 115 = .ok (.invokespecial 73, 3) := by decide +kernel
theorem dX6_init_118 : decode cX6_init 118 = .ok (.putfield 74, 3) := by decide +kernel
theorem dX6_init_121 : decode cX6_init 121 = .ok (.return_, 1) := by decide +kernel
theorem dX6_begin_0 : decode cX6_begin 0 = .ok (.iload_n 1, 1) := by decide +kernel
theorem dX6_begin_1 : decode cX6_begin 1 = .ok (.invokestatic 78, 3) := by decide +kernel
theorem dX6_begin_4 : decode cX6_begin 4 = .ok (.iload_n 2, 1) := by decide +kernel
theorem dX6_begin_5 : decode cX6_begin 5 = .ok (.iconst 0, 1) := by decide +kernel
theorem dX6_begin_6 : decode cX6_begin 6 = .ok (.bipush 12, 2) := by decide +kernel
theorem dX6_begin_8 : decode cX6_begin 8 = .ok (.invokestatic 81, 3) := by decide +kernel
theorem dX6_begin_11 : decode cX6_begin 11 = .ok (.aload_n 0, 1) := by decide +kernel
theorem dX6_begin_12 : decode cX6_begin 12 = .ok (.getfield 13, 3) := by decide +kernel
theorem dX6_begin_15 : decode cX6_begin 15 = .ok (.iload_n 1, 1) := by decide +kernel
theorem dX6_begin_16 : decode cX6_begin 16 = .ok (.aaload, 1) := by decide +kernel
theorem dX6_begin_17 : decode cX6_begin 17 = .ok (.astore_n 3, 1) := by decide +kernel
theorem dX6_begin_18 : decode cX6_begin 18 = .ok (.aload_n 3, 1) := by decide +kernel
theorem dX6_begin_19 : decode cX6_begin 19 = .ok (.getfield 85, 3) := by decide +kernel
theorem dX6_begin_22 : decode cX6_begin 22 = .ok (.istore 4, 2) := by decide +kernel
theorem dX6_begin_24 : decode cX6_begin 24 = .ok (.aload_n 0, 1) := by decide +kernel
theorem dX6_begin_25 : decode cX6_begin 25 = .ok (.iload_n 1, 1) := by decide +kernel
theorem dX6_begin_26 : decode cX6_begin 26 = .ok (.invokevirtual 88, 3) := by decide +kernel
theorem dX6_begin_29 : decode cX6_begin 29 = .ok (.aload_n 3, 1) := by decide +kernel
theorem dX6_begin_30 : decode cX6_begin 30 = .ok (.iload_n 2, 1) := by decide +kernel
theorem dX6_begin_31 : decode cX6_begin 31 = .ok (.invokevirtual 91, 3) := by decide +kernel
theorem dX6_begin_34 : decode cX6_begin 34 = .ok (.iload 4, 2) := by decide +kernel
theorem dX6_begin_36 : decode cX6_begin 36 = .ok (.ireturn, 1) := by decide +kernel
theorem dX6_random_0 : decode cX6_random 0 = .ok (.iload_n 1, 1) := by decide +kernel
theorem dX6_random_1 : decode cX6_random 1 = .ok (.invokestatic 78, 3) := by decide +kernel
theorem dX6_random_4 : decode cX6_random 4 = .ok (.iload_n 2, 1) := by decide +kernel
theorem dX6_random_5 : decode cX6_random 5 = .ok (.iconst 0, 1) := by decide +kernel
theorem dX6_random_6 : decode cX6_random 6 = .ok (.bipush 12, 2) := by decide +kernel
theorem dX6_random_8 : decode cX6_random 8 = .ok (.invokestatic 81, 3) := by decide +kernel
theorem dX6_random_11 : decode cX6_random 11 = .ok (.iload_n 3, 1) := by decide +kernel
theorem dX6_random_12 : decode cX6_random 12 = .ok (.iconst 0, 1) := by decide +kernel
theorem dX6_random_13 : decode cX6_random 13 = .ok (.ldc 110, 2) := by decide +kernel
theorem dX6_random_15 : decode cX6_random 15 = .ok (.invokestatic 81, 3) := by decide +kernel
theorem dX6_random_18 : decode cX6_random 18 = .ok (.aload_n 0, 1) := by decide +kernel
theorem dX6_random_19 : decode cX6_random 19 = .ok (.iload_n 1, 1) := by decide +kernel
theorem dX6_random_20 : decode cX6_random 20 = .ok (.invokevirtual 88, 3) := by decide +kernel
theorem dX6_random_23 : decode cX6_random 23 = .ok (.aload_n 0, 1) := by decide +kernel
theorem dX6_random_24 : decode cX6_random 24 = .ok (.getfield 13, 3) := by decide +kernel
theorem dX6_random_27 : decode cX6_random 27 = .ok (.iload_n 1, 1) := by decide +kernel
theorem dX6_random_28 : decode cX6_random 28 = .ok (.aaload, 1) := by decide +kernel
theorem dX6_random_29 : decode cX6_random 29 = .ok (.iload_n 2, 1) := by decide +kernel
theorem dX6_random_30 : decode cX6_random 30 = .ok (.iload_n 3, 1) := by decide +kernel
theorem dX6_random_31 : decode cX6_random 31 = .ok (.invokevirtual 111, 3) := by decide +kernel
theorem dX6_random_34 : decode cX6_random 34 = .ok (.aload_n 0, 1) := by decide +kernel
theorem dX6_random_35 : decode cX6_random 35 = .ok (.getfield 13, 3) := by decide +kernel
theorem dX6_random_38 : decode cX6_random 38 = .ok (.iload_n 1, 1) := by decide +kernel
theorem dX6_random_39 : decode cX6_random 39 = .ok (.aaload, 1) := by decide +kernel
theorem dX6_random_40 : decode cX6_random 40 = .ok (.invokevirtual 114, 3) := by decide +kernel
theorem dX6_random_43 : decode cX6_random 43 = .ok (.ireturn, 1) := by decide +kernel
theorem dX6_states_0 : decode cX6_states 0 = .ok (.iload_n 1, 1) := by decide +kernel
theorem dX6_states_1 : decode cX6_states 1 = .ok (.invokestatic 78, 3) := by decide +kernel
theorem dX6_states_4 : decode cX6_states 4 = .ok (.aload_n 0, 1) := by decide +kernel
theorem dX6_states_5 : decode cX6_states 5 = .ok (.getfield 13, 3) := by decide +kernel
theorem dX6_states_8 : decode cX6_states 8 = .ok (.iload_n 1, 1) := by decide +kernel
theorem dX6_states_9 : decode cX6_states 9 = .ok (.aaload, 1) := by decide +kernel
theorem dX6_states_10 : decode cX6_states 10 = .ok (.getfield 85, 3) := by decide +kernel
theorem dX6_states_13 : decode cX6_states 13 = .ok (.ireturn, 1) := by decide +kernel
theorem dX6_weight_0 : decode cX6_weight 0 = .ok (.iload_n 1, 1) := by decide +kernel
theorem dX6_weight_1 : decode cX6_weight 1 = .ok (.invokestatic 78, 3) := by decide +kernel
theorem dX6_weight_4 : decode cX6_weight 4 = .ok (.iload_n 2, 1) := by decide +kernel
theorem dX6_weight_5 : decode cX6_weight 5 = .ok (.iconst 0, 1) := by decide +kernel
theorem dX6_weight_6 : decode cX6_weight 6 = .ok (.ldc 118, 2) := by decide +kernel
theorem dX6_weight_8 : decode cX6_weight 8 = .ok (.invokestatic 81, 3) := by decide +kernel
theorem dX6_weight_11 : decode cX6_weight 11 = .ok (.aload_n 0, 1) := by decide +kernel
theorem dX6_weight_12 : decode cX6_weight 12 = .ok (.getfield 43, 3) := by decide +kernel
theorem dX6_weight_15 : decode cX6_weight 15 = .ok (.aload_n 0, 1) := by decide +kernel
theorem dX6_weight_16 : decode cX6_weight 16 = .ok (.getfield 13, 3) := by decide +kernel
theorem dX6_weight_19 : decode cX6_weight 19 = .ok (.iload_n 1, 1) := by decide +kernel
theorem dX6_weight_20 : decode cX6_weight 20 = .ok (.aaload, 1) := by decide +kernel
theorem dX6_weight_21 : decode cX6_weight 21 = .ok (.invokevirtual 119, 3) := by decide +kernel
theorem dX6_weight_24 : decode cX6_weight 24 = .ok (.aload_n 0, 1) := by decide +kernel
theorem dX6_weight_25 : decode cX6_weight 25 = .ok (.getfield 43, 3) := by decide +kernel
theorem dX6_weight_28 : decode cX6_weight 28 = .ok (.aload_n 0, 1) := by decide +kernel
theorem dX6_weight_29 : decode cX6_weight 29 = .ok (.getfield 13, 3) := by decide +kernel
theorem dX6_weight_32 : decode cX6_weight 32 = .ok (.iload_n 1, 1) := by decide +kernel
theorem dX6_weight_33 : decode cX6_weight 33 = .ok (.aaload, 1) := by decide +kernel
theorem dX6_weight_34 : decode cX6_weight 34 = .ok (.iload_n 2, 1) := by decide +kernel
theorem dX6_weight_35 : decode cX6_weight 35 = .ok (.invokevirtual 123, 3) := by decide +kernel
theorem dX6_weight_38 : decode cX6_weight 38 = .ok (.aload_n 0, 1) := by decide +kernel
theorem dX6_weight_39 : decode cX6_weight 39 = .ok (.getfield 43, 3) := by decide +kernel
theorem dX6_weight_42 : decode cX6_weight 42 = .ok (.aload_n 0, 1) := by decide +kernel
theorem dX6_weight_43 : decode cX6_weight 43 = .ok (.getfield 13, 3) := by decide +kernel
theorem dX6_weight_46 : decode cX6_weight 46 = .ok (.iload_n 1, 1) := by decide +kernel
theorem dX6_weight_47 : decode cX6_weight 47 = .ok (.aaload, 1) := by decide +kernel
theorem dX6_weight_48 : decode cX6_weight 48 = .ok (.invokevirtual 127, 3) := by decide +kernel
theorem dX6_weight_51 : decode cX6_weight 51 = .ok (.ireturn, 1) := by decide +kernel
theorem dX6_powerWeight_0 : decode cX6_powerWeight 0 = .ok (.iload_n 1, 1) := by decide +kernel
theorem dX6_powerWeight_1 : decode cX6_powerWeight 1 = .ok (.invokestatic 78, 3) := by decide +kernel
theorem dX6_powerWeight_4 : decode cX6_powerWeight 4 = .ok (.iload_n 2, 1) := by decide +kernel
theorem dX6_powerWeight_5 : decode cX6_powerWeight 5 = .ok (.iconst 0, 1) := by decide +kernel
theorem dX6_powerWeight_6 : decode cX6_powerWeight 6 = .ok (.ldc 118, 2) := by decide +kernel
theorem dX6_powerWeight_8 : decode cX6_powerWeight 8 = .ok (.invokestatic 81, 3) := by decide +kernel
theorem dX6_powerWeight_11 : decode cX6_powerWeight 11 = .ok (.iload_n 3, 1) := by decide +kernel
theorem dX6_powerWeight_12 : decode cX6_powerWeight 12 = .ok (.iconst 0, 1) := by decide +kernel
theorem dX6_powerWeight_13 : decode cX6_powerWeight 13 = .ok (.sipush 200, 3) := by decide +kernel
theorem dX6_powerWeight_16 : decode cX6_powerWeight 16 = .ok (.invokestatic 81, 3) := by decide +kernel
theorem dX6_powerWeight_19 : decode cX6_powerWeight 19 = .ok (.aload_n 0, 1) := by decide +kernel
theorem dX6_powerWeight_20 : decode cX6_powerWeight 20 = .ok (.getfield 43, 3) := by decide +kernel
theorem dX6_powerWeight_23 : decode cX6_powerWeight 23 = .ok (.aload_n 0, 1) := by decide +kernel
theorem dX6_powerWeight_24 : decode cX6_powerWeight 24 = .ok (.getfield 13, 3) := by decide +kernel
theorem dX6_powerWeight_27 : decode cX6_powerWeight 27 = .ok (.iload_n 1, 1) := by decide +kernel
theorem dX6_powerWeight_28 : decode cX6_powerWeight 28 = .ok (.aaload, 1) := by decide +kernel
theorem dX6_powerWeight_29 : decode cX6_powerWeight 29 = .ok (.invokevirtual 119, 3) := by decide +kernel
theorem dX6_powerWeight_32 : decode cX6_powerWeight 32 = .ok (.iconst 0, 1) := by decide +kernel
theorem dX6_powerWeight_33 : decode cX6_powerWeight 33 = .ok (.istore 4, 2) := by decide +kernel
theorem dX6_powerWeight_35 : decode cX6_powerWeight 35 = .ok (.iload 4, 2) := by decide +kernel
theorem dX6_powerWeight_37 : decode cX6_powerWeight 37 = .ok (.iload_n 3, 1) := by decide +kernel
theorem dX6_powerWeight_38 : decode cX6_powerWeight 38 = .ok (.if_icmp .ge 23, 3) := by decide +kernel
theorem dX6_powerWeight_41 : decode cX6_powerWeight 41 = .ok (.aload_n 0, 1) := by decide +kernel
theorem dX6_powerWeight_42 : decode cX6_powerWeight 42 = .ok (.getfield 43, 3) := by decide +kernel
theorem dX6_powerWeight_45 : decode cX6_powerWeight 45 = .ok (.aload_n 0, 1) := by decide +kernel
theorem dX6_powerWeight_46 : decode cX6_powerWeight 46 = .ok (.getfield 13, 3) := by decide +kernel
theorem dX6_powerWeight_49 : decode cX6_powerWeight 49 = .ok (.iload_n 1, 1) := by decide +kernel
theorem dX6_powerWeight_50 : decode cX6_powerWeight 50 = .ok (.aaload, 1) := by decide +kernel
theorem dX6_powerWeight_51 : decode cX6_powerWeight 51 = .ok (.iload_n 2, 1) := by decide +kernel
theorem dX6_powerWeight_52 : decode cX6_powerWeight 52 = .ok (.invokevirtual 123, 3) := by decide +kernel
theorem dX6_powerWeight_55 : decode cX6_powerWeight 55 = .ok (.iinc 4 1, 3) := by decide +kernel
theorem dX6_powerWeight_58 : decode cX6_powerWeight 58 = .ok (.goto (-23), 3) := by decide +kernel
theorem dX6_powerWeight_61 : decode cX6_powerWeight 61 = .ok (.aload_n 0, 1) := by decide +kernel
theorem dX6_powerWeight_62 : decode cX6_powerWeight 62 = .ok (.getfield 43, 3) := by decide +kernel
theorem dX6_powerWeight_65 : decode cX6_powerWeight 65 = .ok (.aload_n 0, 1) := by decide +kernel
theorem dX6_powerWeight_66 : decode cX6_powerWeight 66 = .ok (.getfield 13, 3) := by decide +kernel
theorem dX6_powerWeight_69 : decode cX6_powerWeight 69 = .ok (.iload_n 1, 1) := by decide +kernel
theorem dX6_powerWeight_70 : decode cX6_powerWeight 70 = .ok (.aaload, 1) := by decide +kernel
theorem dX6_powerWeight_71 : decode cX6_powerWeight 71 = .ok (.invokevirtual 127, 3) := by decide +kernel
theorem dX6_powerWeight_74 : decode cX6_powerWeight 74 = .ok (.ireturn, 1) := by decide +kernel
theorem dX6_total_0 : decode cX6_total 0 = .ok (.iload_n 1, 1) := by decide +kernel
theorem dX6_total_1 : decode cX6_total 1 = .ok (.invokestatic 78, 3) := by decide +kernel
theorem dX6_total_4 : decode cX6_total 4 = .ok (.iload_n 2, 1) := by decide +kernel
theorem dX6_total_5 : decode cX6_total 5 = .ok (.iconst 0, 1) := by decide +kernel
theorem dX6_total_6 : decode cX6_total 6 = .ok (.sipush 2000, 3) := by decide +kernel
theorem dX6_total_9 : decode cX6_total 9 = .ok (.invokestatic 81, 3) := by decide +kernel
theorem dX6_total_12 : decode cX6_total 12 = .ok (.aload_n 0, 1) := by decide +kernel
theorem dX6_total_13 : decode cX6_total 13 = .ok (.getfield 43, 3) := by decide +kernel
theorem dX6_total_16 : decode cX6_total 16 = .ok (.aload_n 0, 1) := by decide +kernel
theorem dX6_total_17 : decode cX6_total 17 = .ok (.getfield 13, 3) := by decide +kernel
theorem dX6_total_20 : decode cX6_total 20 = .ok (.iload_n 1, 1) := by decide +kernel
theorem dX6_total_21 : decode cX6_total 21 = .ok (.aaload, 1) := by decide +kernel
theorem dX6_total_22 : decode cX6_total 22 = .ok (.invokevirtual 119, 3) := by decide +kernel
theorem dX6_total_25 : decode cX6_total 25 = .ok (.iconst 0, 1) := by decide +kernel
theorem dX6_total_26 : decode cX6_total 26 = .ok (.istore_n 3, 1) := by decide +kernel
theorem dX6_total_27 : decode cX6_total 27 = .ok (.iload_n 3, 1) := by decide +kernel
theorem dX6_total_28 : decode cX6_total 28 = .ok (.iload_n 2, 1) := by decide +kernel
theorem dX6_total_29 : decode cX6_total 29 = .ok (.if_icmp .ge 22, 3) := by decide +kernel
theorem dX6_total_32 : decode cX6_total 32 = .ok (.aload_n 0, 1) := by decide +kernel
theorem dX6_total_33 : decode cX6_total 33 = .ok (.getfield 43, 3) := by decide +kernel
theorem dX6_total_36 : decode cX6_total 36 = .ok (.aload_n 0, 1) := by decide +kernel
theorem dX6_total_37 : decode cX6_total 37 = .ok (.getfield 13, 3) := by decide +kernel
theorem dX6_total_40 : decode cX6_total 40 = .ok (.iload_n 1, 1) := by decide +kernel
theorem dX6_total_41 : decode cX6_total 41 = .ok (.aaload, 1) := by decide +kernel
theorem dX6_total_42 : decode cX6_total 42 = .ok (.invokevirtual 131, 3) := by decide +kernel
theorem dX6_total_45 : decode cX6_total 45 = .ok (.iinc 3 1, 3) := by decide +kernel
theorem dX6_total_48 : decode cX6_total 48 = .ok (.goto (-21), 3) := by decide +kernel
theorem dX6_total_51 : decode cX6_total 51 = .ok (.aload_n 0, 1) := by decide +kernel
theorem dX6_total_52 : decode cX6_total 52 = .ok (.getfield 43, 3) := by decide +kernel
theorem dX6_total_55 : decode cX6_total 55 = .ok (.aload_n 0, 1) := by decide +kernel
theorem dX6_total_56 : decode cX6_total 56 = .ok (.getfield 13, 3) := by decide +kernel
theorem dX6_total_59 : decode cX6_total 59 = .ok (.iload_n 1, 1) := by decide +kernel
theorem dX6_total_60 : decode cX6_total 60 = .ok (.aaload, 1) := by decide +kernel
theorem dX6_total_61 : decode cX6_total 61 = .ok (.invokevirtual 127, 3) := by decide +kernel
theorem dX6_total_64 : decode cX6_total 64 = .ok (.ireturn, 1) := by decide +kernel
theorem dX6_first_0 : decode cX6_first 0 = .ok (.iload_n 1, 1) := by decide +kernel
theorem dX6_first_1 : decode cX6_first 1 = .ok (.invokestatic 78, 3) := by decide +kernel
theorem dX6_first_4 : decode cX6_first 4 = .ok (.aload_n 0, 1) := by decide +kernel
theorem dX6_first_5 : decode cX6_first 5 = .ok (.getfield 57, 3) := by decide +kernel
theorem dX6_first_8 : decode cX6_first 8 = .ok (.aload_n 0, 1) := by decide +kernel
theorem dX6_first_9 : decode cX6_first 9 = .ok (.getfield 13, 3) := by decide +kernel
theorem dX6_first_12 : decode cX6_first 12 = .ok (.iload_n 1, 1) := by decide +kernel
theorem dX6_first_13 : decode cX6_first 13 = .ok (.aaload, 1) := by decide +kernel
theorem dX6_first_14 : decode cX6_first 14 = .ok (.invokevirtual 139, 3) := by decide +kernel
theorem dX6_first_17 : decode cX6_first 17 = .ok (.aload_n 0, 1) := by decide +kernel
theorem dX6_first_18 : decode cX6_first 18 = .ok (.getfield 57, 3) := by decide +kernel
theorem dX6_first_21 : decode cX6_first 21 = .ok (.invokevirtual 142, 3) := by decide +kernel
theorem dX6_first_24 : decode cX6_first 24 = .ok (.ireturn, 1) := by decide +kernel
theorem dX6_combine_0 : decode cX6_combine 0 = .ok (.iload_n 1, 1) := by decide +kernel
theorem dX6_combine_1 : decode cX6_combine 1 = .ok (.invokestatic 78, 3) := by decide +kernel
theorem dX6_combine_4 : decode cX6_combine 4 = .ok (.iload_n 2, 1) := by decide +kernel
theorem dX6_combine_5 : decode cX6_combine 5 = .ok (.invokestatic 78, 3) := by decide +kernel
theorem dX6_combine_8 : decode cX6_combine 8 = .ok (.iload_n 3, 1) := by decide +kernel
theorem dX6_combine_9 : decode cX6_combine 9 = .ok (.invokestatic 78, 3) := by decide +kernel
theorem dX6_combine_12 : decode cX6_combine 12 = .ok (.iload 4, 2) := by decide +kernel
theorem dX6_combine_14 : decode cX6_combine 14 = .ok (.iconst 0, 1) := by decide +kernel
theorem dX6_combine_15 : decode cX6_combine 15 = .ok (.iconst 2, 1) := by decide +kernel
theorem dX6_combine_16 : decode cX6_combine 16 = .ok (.invokestatic 81, 3) := by decide +kernel
theorem dX6_combine_19 : decode cX6_combine 19 = .ok (.aload_n 0, 1) := by decide +kernel
theorem dX6_combine_20 : decode cX6_combine 20 = .ok (.getfield 13, 3) := by decide +kernel
theorem dX6_combine_23 : decode cX6_combine 23 = .ok (.iload_n 2, 1) := by decide +kernel
theorem dX6_combine_24 : decode cX6_combine 24 = .ok (.aaload, 1) := by decide +kernel
theorem dX6_combine_25 : decode cX6_combine 25 = .ok (.astore 5, 2) := by decide +kernel
theorem dX6_combine_27 : decode cX6_combine 27 = .ok (.aload_n 0, 1) := by decide +kernel
theorem dX6_combine_28 : decode cX6_combine 28 = .ok (.getfield 13, 3) := by decide +kernel
theorem dX6_combine_31 : decode cX6_combine 31 = .ok (.iload_n 3, 1) := by decide +kernel
theorem dX6_combine_32 : decode cX6_combine 32 = .ok (.aaload, 1) := by decide +kernel
theorem dX6_combine_33 : decode cX6_combine 33 = .ok (.astore 6, 2) := by decide +kernel
theorem dX6_combine_35 : decode cX6_combine 35 = .ok (.iload 4, 2) := by decide +kernel
theorem dX6_combine_37 : decode cX6_combine 37 = .ok (.iconst 1, 1) := by decide +kernel
theorem dX6_combine_38 : decode cX6_combine 38 = .ok (.if_icmp .ne 17, 3) := by decide +kernel
theorem dX6_combine_41 : decode cX6_combine 41 = .ok (.aload 5, 2) := by decide +kernel
theorem dX6_combine_43 : decode cX6_combine 43 = .ok (.getfield 85, 3) := by decide +kernel
theorem dX6_combine_46 : decode cX6_combine 46 = .ok (.aload 6, 2) := by decide +kernel
theorem dX6_combine_48 : decode cX6_combine 48 = .ok (.getfield 85, 3) := by decide +kernel
theorem dX6_combine_51 : decode cX6_combine 51 = .ok (.imul, 1) := by decide +kernel
theorem dX6_combine_52 : decode cX6_combine 52 = .ok (.goto 14, 3) := by decide +kernel
theorem dX6_combine_55 : decode cX6_combine 55 = .ok (.aload 5, 2) := by decide +kernel
theorem dX6_combine_57 : decode cX6_combine 57 = .ok (.getfield 85, 3) := by decide +kernel
theorem dX6_combine_60 : decode cX6_combine 60 = .ok (.aload 6, 2) := by decide +kernel
theorem dX6_combine_62 : decode cX6_combine 62 = .ok (.getfield 85, 3) := by decide +kernel
theorem dX6_combine_65 : decode cX6_combine 65 = .ok (.iadd, 1) := by decide +kernel
theorem dX6_combine_66 : decode cX6_combine 66 = .ok (.istore 7, 2) := by decide +kernel
theorem dX6_combine_68 : decode cX6_combine 68 = .ok (.iload 7, 2) := by decide +kernel
theorem dX6_combine_70 : decode cX6_combine 70 = .ok (.bipush 12, 2) := by decide +kernel
theorem dX6_combine_72 : decode cX6_combine 72 = .ok (.if_icmp .le 13, 3) := by decide +kernel
theorem dX6_combine_75 : decode cX6_combine 75 = .ok (.new 145, 3) := by decide +kernel
theorem dX6_combine_78 : decode cX6_combine 78 = .ok (.dup, 1) := by decide +kernel
theorem dX6_combine_79 : decode cX6_combine 79 = .ok (.ldc 147, 2) := by decide +kernel
theorem dX6_combine_81 : decode cX6_combine 81 = .ok (.invokespecial 149, 3) := by decide +kernel
theorem dX6_combine_84 : decode cX6_combine 84 = .ok (.athrow, 1) := by decide +kernel
theorem dX6_combine_85 : decode cX6_combine 85 = .ok (.iload 4, 2) := by decide +kernel
theorem dX6_combine_87 : decode cX6_combine 87 = .ok (.ifCond .ne 17, 3) := by decide +kernel
theorem dX6_combine_90 : decode cX6_combine 90 = .ok (.aload_n 0, 1) := by decide +kernel
theorem dX6_combine_91 : decode cX6_combine 91 = .ok (.getfield 33, 3) := by decide +kernel
theorem dX6_combine_94 : decode cX6_combine 94 = .ok (.aload 5, 2) := by decide +kernel
theorem dX6_combine_96 : decode cX6_combine 96 = .ok (.aload 6, 2) := by decide +kernel
theorem dX6_combine_98 : decode cX6_combine 98 = .ok (.invokevirtual 152, 3) := by decide +kernel
theorem dX6_combine_101 : decode cX6_combine 101 = .ok (.goto 34, 3) := by decide +kernel
theorem dX6_combine_104 : decode cX6_combine 104 = .ok (.iload 4, 2) := by decide +kernel
theorem dX6_combine_106 : decode cX6_combine 106 = .ok (.iconst 1, 1) := by decide +kernel
theorem dX6_combine_107 : decode cX6_combine 107 = .ok (.if_icmp .ne 17, 3) := by decide +kernel
theorem dX6_combine_110 : decode cX6_combine 110 = .ok (.aload_n 0, 1) := by decide +kernel
theorem dX6_combine_111 : decode cX6_combine 111 = .ok (.getfield 33, 3) := by decide +kernel
theorem dX6_combine_114 : decode cX6_combine 114 = .ok (.aload 5, 2) := by decide +kernel
theorem dX6_combine_116 : decode cX6_combine 116 = .ok (.aload 6, 2) := by decide +kernel
theorem dX6_combine_118 : decode cX6_combine 118 = .ok (.invokevirtual 156, 3) := by decide +kernel
theorem dX6_combine_121 : decode cX6_combine 121 = .ok (.goto 14, 3) := by decide +kernel
theorem dX6_combine_124 : decode cX6_combine 124 = .ok (.aload_n 0, 1) := by decide +kernel
theorem dX6_combine_125 : decode cX6_combine 125 = .ok (.getfield 33, 3) := by decide +kernel
theorem dX6_combine_128 : decode cX6_combine 128 = .ok (.aload 5, 2) := by decide +kernel
theorem dX6_combine_130 : decode cX6_combine 130 = .ok (.aload 6, 2) := by decide +kernel
theorem dX6_combine_132 : decode cX6_combine 132 = .ok (.invokevirtual 159, 3) := by decide +kernel
theorem dX6_combine_135 : decode cX6_combine 135 = .ok (.aload_n 0, 1) := by decide +kernel
theorem dX6_combine_136 : decode cX6_combine 136 = .ok (.iload_n 1, 1) := by decide +kernel
theorem dX6_combine_137 : decode cX6_combine 137 = .ok (.invokevirtual 162, 3) := by decide +kernel
theorem dX6_combine_140 : decode cX6_combine 140 = .ok (.ireturn, 1) := by decide +kernel
theorem dX6_derive_0 : decode cX6_derive 0 = .ok (.iload_n 1, 1) := by decide +kernel
theorem dX6_derive_1 : decode cX6_derive 1 = .ok (.invokestatic 78, 3) := by decide +kernel
theorem dX6_derive_4 : decode cX6_derive 4 = .ok (.iload_n 2, 1) := by decide +kernel
theorem dX6_derive_5 : decode cX6_derive 5 = .ok (.invokestatic 78, 3) := by decide +kernel
theorem dX6_derive_8 : decode cX6_derive 8 = .ok (.iload_n 3, 1) := by decide +kernel
theorem dX6_derive_9 : decode cX6_derive 9 = .ok (.iconst 0, 1) := by decide +kernel
theorem dX6_derive_10 : decode cX6_derive 10 = .ok (.bipush 6, 2) := by decide +kernel
theorem dX6_derive_12 : decode cX6_derive 12 = .ok (.invokestatic 81, 3) := by decide +kernel
theorem dX6_derive_15 : decode cX6_derive 15 = .ok (.aload_n 0, 1) := by decide +kernel
theorem dX6_derive_16 : decode cX6_derive 16 = .ok (.getfield 13, 3) := by decide +kernel
theorem dX6_derive_19 : decode cX6_derive 19 = .ok (.iload_n 2, 1) := by decide +kernel
theorem dX6_derive_20 : decode cX6_derive 20 = .ok (.aaload, 1) := by decide +kernel
theorem dX6_derive_21 : decode cX6_derive 21 = .ok (.astore 4, 2) := by decide +kernel
theorem dX6_derive_23 : decode cX6_derive 23 = .ok (.iload_n 3, 1) := by decide +kernel
theorem dX6_derive_24 : decode cX6_derive 24 = .ok (.iconst 2, 1) := by decide +kernel
theorem dX6_derive_25 : decode cX6_derive 25 = .ok (.if_icmp .ne 21, 3) := by decide +kernel
theorem dX6_derive_28 : decode cX6_derive 28 = .ok (.aload 4, 2) := by decide +kernel
theorem dX6_derive_30 : decode cX6_derive 30 = .ok (.invokevirtual 166, 3) := by decide +kernel
theorem dX6_derive_33 : decode cX6_derive 33 = .ok (.ifCond .ne 13, 3) := by decide +kernel
theorem dX6_derive_36 : decode cX6_derive 36 = .ok (.new 145, 3) := by decide +kernel
theorem dX6_derive_39 : decode cX6_derive 39 = .ok (.dup, 1) := by decide +kernel
theorem dX6_derive_40 : decode cX6_derive 40 = .ok (.ldc 170, 2) := by decide +kernel
theorem dX6_derive_42 : decode cX6_derive 42 = .ok (.invokespecial 149, 3) := by decide +kernel
theorem dX6_derive_45 : decode cX6_derive 45 = .ok (.athrow, 1) := by decide +kernel
theorem dX6_derive_46 : decode cX6_derive 46 = .ok (.aload_n 0, 1) := by decide +kernel
theorem dX6_derive_47 : decode cX6_derive 47 = .ok (.getfield 33, 3) := by decide +kernel
theorem dX6_derive_50 : decode cX6_derive 50 = .ok (.aload 4, 2) := by decide +kernel
theorem dX6_derive_52 : decode cX6_derive 52 = .ok (.invokevirtual 172, 3) := by decide +kernel
theorem dX6_derive_55 : decode cX6_derive 55 = .ok (.iload_n 3, 1) := by decide +kernel
theorem dX6_derive_56 : decode cX6_derive 56 = .ok (.tableswitch 116 1 6 #[40, 50, 62, 75, 88, 102], 40) := by decide +kernel
theorem dX6_derive_96 : decode cX6_derive 96 = .ok (.aload_n 0, 1) := by decide +kernel
theorem dX6_derive_97 : decode cX6_derive 97 = .ok (.getfield 33, 3) := by decide +kernel
theorem dX6_derive_100 : decode cX6_derive 100 = .ok (.invokevirtual 175, 3) := by decide +kernel
theorem dX6_derive_103 : decode cX6_derive 103 = .ok (.goto 69, 3) := by decide +kernel
theorem dX6_derive_106 : decode cX6_derive 106 = .ok (.aload_n 0, 1) := by decide +kernel
theorem dX6_derive_107 : decode cX6_derive 107 = .ok (.getfield 33, 3) := by decide +kernel
theorem dX6_derive_110 : decode cX6_derive 110 = .ok (.aload 4, 2) := by decide +kernel
theorem dX6_derive_112 : decode cX6_derive 112 = .ok (.invokevirtual 178, 3) := by decide +kernel
theorem dX6_derive_115 : decode cX6_derive 115 = .ok (.goto 57, 3) := by decide +kernel
theorem dX6_derive_118 : decode cX6_derive 118 = .ok (.aload_n 0, 1) := by decide +kernel
theorem dX6_derive_119 : decode cX6_derive 119 = .ok (.getfield 33, 3) := by decide +kernel
theorem dX6_derive_122 : decode cX6_derive 122 = .ok (.aload 4, 2) := by decide +kernel
theorem dX6_derive_124 : decode cX6_derive 124 = .ok (.iconst 0, 1) := by decide +kernel
theorem dX6_derive_125 : decode cX6_derive 125 = .ok (.invokevirtual 181, 3) := by decide +kernel
theorem dX6_derive_128 : decode cX6_derive 128 = .ok (.goto 44, 3) := by decide +kernel
theorem dX6_derive_131 : decode cX6_derive 131 = .ok (.aload_n 0, 1) := by decide +kernel
theorem dX6_derive_132 : decode cX6_derive 132 = .ok (.getfield 33, 3) := by decide +kernel
theorem dX6_derive_135 : decode cX6_derive 135 = .ok (.aload 4, 2) := by decide +kernel
theorem dX6_derive_137 : decode cX6_derive 137 = .ok (.iconst 1, 1) := by decide +kernel
theorem dX6_derive_138 : decode cX6_derive 138 = .ok (.invokevirtual 181, 3) := by decide +kernel
theorem dX6_derive_141 : decode cX6_derive 141 = .ok (.goto 31, 3) := by decide +kernel
theorem dX6_derive_144 : decode cX6_derive 144 = .ok (.aload_n 0, 1) := by decide +kernel
theorem dX6_derive_145 : decode cX6_derive 145 = .ok (.getfield 57, 3) := by decide +kernel
theorem dX6_derive_148 : decode cX6_derive 148 = .ok (.aload_n 0, 1) := by decide +kernel
theorem dX6_derive_149 : decode cX6_derive 149 = .ok (.getfield 33, 3) := by decide +kernel
theorem dX6_derive_152 : decode cX6_derive 152 = .ok (.invokevirtual 184, 3) := by decide +kernel
theorem dX6_derive_155 : decode cX6_derive 155 = .ok (.goto 17, 3) := by decide +kernel
theorem dX6_derive_158 : decode cX6_derive 158 = .ok (.aload_n 0, 1) := by decide +kernel
theorem dX6_derive_159 : decode cX6_derive 159 = .ok (.getfield 57, 3) := by decide +kernel
theorem dX6_derive_162 : decode cX6_derive 162 = .ok (.aload_n 0, 1) := by decide +kernel
theorem dX6_derive_163 : decode cX6_derive 163 = .ok (.getfield 33, 3) := by decide +kernel
theorem dX6_derive_166 : decode cX6_derive 166 = .ok (.invokevirtual 187, 3) := by decide +kernel
theorem dX6_derive_169 : decode cX6_derive 169 = .ok (.goto 3, 3) := by decide +kernel
theorem dX6_derive_172 : decode cX6_derive 172 = .ok (.aload_n 0, 1) := by decide +kernel
theorem dX6_derive_173 : decode cX6_derive 173 = .ok (.iload_n 1, 1) := by decide +kernel
theorem dX6_derive_174 : decode cX6_derive 174 = .ok (.invokevirtual 162, 3) := by decide +kernel
theorem dX6_derive_177 : decode cX6_derive 177 = .ok (.ireturn, 1) := by decide +kernel
theorem dX6_scale_0 : decode cX6_scale 0 = .ok (.iload_n 1, 1) := by decide +kernel
theorem dX6_scale_1 : decode cX6_scale 1 = .ok (.invokestatic 78, 3) := by decide +kernel
theorem dX6_scale_4 : decode cX6_scale 4 = .ok (.iload_n 2, 1) := by decide +kernel
theorem dX6_scale_5 : decode cX6_scale 5 = .ok (.iconst 0, 1) := by decide +kernel
theorem dX6_scale_6 : decode cX6_scale 6 = .ok (.sipush 10006, 3) := by decide +kernel
theorem dX6_scale_9 : decode cX6_scale 9 = .ok (.invokestatic 81, 3) := by decide +kernel
theorem dX6_scale_12 : decode cX6_scale 12 = .ok (.aload_n 0, 1) := by decide +kernel
theorem dX6_scale_13 : decode cX6_scale 13 = .ok (.iload_n 1, 1) := by decide +kernel
theorem dX6_scale_14 : decode cX6_scale 14 = .ok (.invokevirtual 88, 3) := by decide +kernel
theorem dX6_scale_17 : decode cX6_scale 17 = .ok (.aload_n 0, 1) := by decide +kernel
theorem dX6_scale_18 : decode cX6_scale 18 = .ok (.getfield 13, 3) := by decide +kernel
theorem dX6_scale_21 : decode cX6_scale 21 = .ok (.iload_n 1, 1) := by decide +kernel
theorem dX6_scale_22 : decode cX6_scale 22 = .ok (.aaload, 1) := by decide +kernel
theorem dX6_scale_23 : decode cX6_scale 23 = .ok (.astore_n 3, 1) := by decide +kernel
theorem dX6_scale_24 : decode cX6_scale 24 = .ok (.aload_n 3, 1) := by decide +kernel
theorem dX6_scale_25 : decode cX6_scale 25 = .ok (.getfield 190, 3) := by decide +kernel
theorem dX6_scale_28 : decode cX6_scale 28 = .ok (.iload_n 2, 1) := by decide +kernel
theorem dX6_scale_29 : decode cX6_scale 29 = .ok (.aload_n 3, 1) := by decide +kernel
theorem dX6_scale_30 : decode cX6_scale 30 = .ok (.getfield 85, 3) := by decide +kernel
theorem dX6_scale_33 : decode cX6_scale 33 = .ok (.invokestatic 193, 3) := by decide +kernel
theorem dX6_scale_36 : decode cX6_scale 36 = .ok (.aload_n 3, 1) := by decide +kernel
theorem dX6_scale_37 : decode cX6_scale 37 = .ok (.invokevirtual 114, 3) := by decide +kernel
theorem dX6_scale_40 : decode cX6_scale 40 = .ok (.ireturn, 1) := by decide +kernel
theorem dX6_dimension_0 : decode cX6_dimension 0 = .ok (.iload_n 1, 1) := by decide +kernel
theorem dX6_dimension_1 : decode cX6_dimension 1 = .ok (.invokestatic 78, 3) := by decide +kernel
theorem dX6_dimension_4 : decode cX6_dimension 4 = .ok (.iload_n 2, 1) := by decide +kernel
theorem dX6_dimension_5 : decode cX6_dimension 5 = .ok (.iconst 0, 1) := by decide +kernel
theorem dX6_dimension_6 : decode cX6_dimension 6 = .ok (.iconst 2, 1) := by decide +kernel
theorem dX6_dimension_7 : decode cX6_dimension 7 = .ok (.invokestatic 81, 3) := by decide +kernel
theorem dX6_dimension_10 : decode cX6_dimension 10 = .ok (.aload_n 0, 1) := by decide +kernel
theorem dX6_dimension_11 : decode cX6_dimension 11 = .ok (.iload_n 1, 1) := by decide +kernel
theorem dX6_dimension_12 : decode cX6_dimension 12 = .ok (.iload_n 2, 1) := by decide +kernel
theorem dX6_dimension_13 : decode cX6_dimension 13 = .ok (.invokevirtual 197, 3) := by decide +kernel
theorem dX6_dimension_16 : decode cX6_dimension 16 = .ok (.ireturn, 1) := by decide +kernel
theorem dX6_basisWord_0 : decode cX6_basisWord 0 = .ok (.iload_n 1, 1) := by decide +kernel
theorem dX6_basisWord_1 : decode cX6_basisWord 1 = .ok (.invokestatic 78, 3) := by decide +kernel
theorem dX6_basisWord_4 : decode cX6_basisWord 4 = .ok (.aload_n 0, 1) := by decide +kernel
theorem dX6_basisWord_5 : decode cX6_basisWord 5 = .ok (.getfield 57, 3) := by decide +kernel
theorem dX6_basisWord_8 : decode cX6_basisWord 8 = .ok (.aload_n 0, 1) := by decide +kernel
theorem dX6_basisWord_9 : decode cX6_basisWord 9 = .ok (.getfield 13, 3) := by decide +kernel
theorem dX6_basisWord_12 : decode cX6_basisWord 12 = .ok (.iload_n 1, 1) := by decide +kernel
theorem dX6_basisWord_13 : decode cX6_basisWord 13 = .ok (.aaload, 1) := by decide +kernel
theorem dX6_basisWord_14 : decode cX6_basisWord 14 = .ok (.invokevirtual 139, 3) := by decide +kernel
theorem dX6_basisWord_17 : decode cX6_basisWord 17 = .ok (.iload_n 2, 1) := by decide +kernel
theorem dX6_basisWord_18 : decode cX6_basisWord 18 = .ok (.ifCond .lt 14, 3) := by decide +kernel
theorem dX6_basisWord_21 : decode cX6_basisWord 21 = .ok (.iload_n 2, 1) := by decide +kernel
theorem dX6_basisWord_22 : decode cX6_basisWord 22 = .ok (.aload_n 0, 1) := by decide +kernel
theorem dX6_basisWord_23 : decode cX6_basisWord 23 = .ok (.getfield 57, 3) := by decide +kernel
theorem dX6_basisWord_26 : decode cX6_basisWord 26 = .ok (.getfield 201, 3) := by decide +kernel
theorem dX6_basisWord_29 : decode cX6_basisWord 29 = .ok (.if_icmp .lt 13, 3) := by decide +kernel
theorem dX6_basisWord_32 : decode cX6_basisWord 32 = .ok (.new 204, 3) := by decide +kernel
theorem dX6_basisWord_35 : decode cX6_basisWord 35 = .ok (.dup, 1) := by decide +kernel
theorem dX6_basisWord_36 : decode cX6_basisWord 36 = .ok (.ldc 206, 2) := by decide +kernel
theorem dX6_basisWord_38 : decode cX6_basisWord 38 = .ok (.invokespecial 208, 3) := by decide +kernel
theorem dX6_basisWord_41 : decode cX6_basisWord 41 = .ok (.athrow, 1) := by decide +kernel
theorem dX6_basisWord_42 : decode cX6_basisWord 42 = .ok (.aload_n 0, 1) := by decide +kernel
theorem dX6_basisWord_43 : decode cX6_basisWord 43 = .ok (.getfield 57, 3) := by decide +kernel
theorem dX6_basisWord_46 : decode cX6_basisWord 46 = .ok (.getfield 209, 3) := by decide +kernel
theorem dX6_basisWord_49 : decode cX6_basisWord 49 = .ok (.iload_n 2, 1) := by decide +kernel
theorem dX6_basisWord_50 : decode cX6_basisWord 50 = .ok (.iaload, 1) := by decide +kernel
theorem dX6_basisWord_51 : decode cX6_basisWord 51 = .ok (.ireturn, 1) := by decide +kernel
theorem dX6_differing_0 : decode cX6_differing 0 = .ok (.iload_n 1, 1) := by decide +kernel
theorem dX6_differing_1 : decode cX6_differing 1 = .ok (.invokestatic 78, 3) := by decide +kernel
theorem dX6_differing_4 : decode cX6_differing 4 = .ok (.iload_n 2, 1) := by decide +kernel
theorem dX6_differing_5 : decode cX6_differing 5 = .ok (.invokestatic 78, 3) := by decide +kernel
theorem dX6_differing_8 : decode cX6_differing 8 = .ok (.aload_n 0, 1) := by decide +kernel
theorem dX6_differing_9 : decode cX6_differing 9 = .ok (.getfield 37, 3) := by decide +kernel
theorem dX6_differing_12 : decode cX6_differing 12 = .ok (.aload_n 0, 1) := by decide +kernel
theorem dX6_differing_13 : decode cX6_differing 13 = .ok (.getfield 13, 3) := by decide +kernel
theorem dX6_differing_16 : decode cX6_differing 16 = .ok (.iload_n 1, 1) := by decide +kernel
theorem dX6_differing_17 : decode cX6_differing 17 = .ok (.aaload, 1) := by decide +kernel
theorem dX6_differing_18 : decode cX6_differing 18 = .ok (.aload_n 0, 1) := by decide +kernel
theorem dX6_differing_19 : decode cX6_differing 19 = .ok (.getfield 13, 3) := by decide +kernel
theorem dX6_differing_22 : decode cX6_differing 22 = .ok (.iload_n 2, 1) := by decide +kernel
theorem dX6_differing_23 : decode cX6_differing 23 = .ok (.aaload, 1) := by decide +kernel
theorem dX6_differing_24 : decode cX6_differing 24 = .ok (.invokevirtual 212, 3) := by decide +kernel
theorem dX6_differing_27 : decode cX6_differing 27 = .ok (.aload_n 0, 1) := by decide +kernel
theorem dX6_differing_28 : decode cX6_differing 28 = .ok (.getfield 57, 3) := by decide +kernel
theorem dX6_differing_31 : decode cX6_differing 31 = .ok (.aload_n 0, 1) := by decide +kernel
theorem dX6_differing_32 : decode cX6_differing 32 = .ok (.getfield 37, 3) := by decide +kernel
theorem dX6_differing_35 : decode cX6_differing 35 = .ok (.invokevirtual 139, 3) := by decide +kernel
theorem dX6_differing_38 : decode cX6_differing 38 = .ok (.aload_n 0, 1) := by decide +kernel
theorem dX6_differing_39 : decode cX6_differing 39 = .ok (.getfield 57, 3) := by decide +kernel
theorem dX6_differing_42 : decode cX6_differing 42 = .ok (.invokevirtual 142, 3) := by decide +kernel
theorem dX6_differing_45 : decode cX6_differing 45 = .ok (.ireturn, 1) := by decide +kernel
theorem dX6_hankelRank_0 : decode cX6_hankelRank 0 = .ok (.iload_n 1, 1) := by decide +kernel
theorem dX6_hankelRank_1 : decode cX6_hankelRank 1 = .ok (.invokestatic 78, 3) := by decide +kernel
theorem dX6_hankelRank_4 : decode cX6_hankelRank 4 = .ok (.iload_n 2, 1) := by decide +kernel
theorem dX6_hankelRank_5 : decode cX6_hankelRank 5 = .ok (.iconst 0, 1) := by decide +kernel
theorem dX6_hankelRank_6 : decode cX6_hankelRank 6 = .ok (.bipush 31, 2) := by decide +kernel
theorem dX6_hankelRank_8 : decode cX6_hankelRank 8 = .ok (.invokestatic 81, 3) := by decide +kernel
theorem dX6_hankelRank_11 : decode cX6_hankelRank 11 = .ok (.aload_n 0, 1) := by decide +kernel
theorem dX6_hankelRank_12 : decode cX6_hankelRank 12 = .ok (.getfield 50, 3) := by decide +kernel
theorem dX6_hankelRank_15 : decode cX6_hankelRank 15 = .ok (.aload_n 0, 1) := by decide +kernel
theorem dX6_hankelRank_16 : decode cX6_hankelRank 16 = .ok (.getfield 13, 3) := by decide +kernel
theorem dX6_hankelRank_19 : decode cX6_hankelRank 19 = .ok (.iload_n 1, 1) := by decide +kernel
theorem dX6_hankelRank_20 : decode cX6_hankelRank 20 = .ok (.aaload, 1) := by decide +kernel
theorem dX6_hankelRank_21 : decode cX6_hankelRank 21 = .ok (.invokevirtual 134, 3) := by decide +kernel
theorem dX6_hankelRank_24 : decode cX6_hankelRank 24 = .ok (.iconst 0, 1) := by decide +kernel
theorem dX6_hankelRank_25 : decode cX6_hankelRank 25 = .ok (.istore_n 3, 1) := by decide +kernel
theorem dX6_hankelRank_26 : decode cX6_hankelRank 26 = .ok (.iload_n 3, 1) := by decide +kernel
theorem dX6_hankelRank_27 : decode cX6_hankelRank 27 = .ok (.iload_n 2, 1) := by decide +kernel
theorem dX6_hankelRank_28 : decode cX6_hankelRank 28 = .ok (.if_icmp .ge 55, 3) := by decide +kernel
theorem dX6_hankelRank_31 : decode cX6_hankelRank 31 = .ok (.iconst 0, 1) := by decide +kernel
theorem dX6_hankelRank_32 : decode cX6_hankelRank 32 = .ok (.istore 4, 2) := by decide +kernel
theorem dX6_hankelRank_34 : decode cX6_hankelRank 34 = .ok (.iload 4, 2) := by decide +kernel
theorem dX6_hankelRank_36 : decode cX6_hankelRank 36 = .ok (.iload_n 2, 1) := by decide +kernel
theorem dX6_hankelRank_37 : decode cX6_hankelRank 37 = .ok (.if_icmp .ge 40, 3) := by decide +kernel
theorem dX6_hankelRank_40 : decode cX6_hankelRank 40 = .ok (.aload_n 0, 1) := by decide +kernel
theorem dX6_hankelRank_41 : decode cX6_hankelRank 41 = .ok (.getfield 64, 3) := by decide +kernel
theorem dX6_hankelRank_44 : decode cX6_hankelRank 44 = .ok (.getfield 215, 3) := by decide +kernel
theorem dX6_hankelRank_47 : decode cX6_hankelRank 47 = .ok (.iload_n 3, 1) := by decide +kernel
theorem dX6_hankelRank_48 : decode cX6_hankelRank 48 = .ok (.aaload, 1) := by decide +kernel
theorem dX6_hankelRank_49 : decode cX6_hankelRank 49 = .ok (.iload 4, 2) := by decide +kernel
theorem dX6_hankelRank_51 : decode cX6_hankelRank 51 = .ok (.aload_n 0, 1) := by decide +kernel
theorem dX6_hankelRank_52 : decode cX6_hankelRank 52 = .ok (.getfield 50, 3) := by decide +kernel
theorem dX6_hankelRank_55 : decode cX6_hankelRank 55 = .ok (.aload_n 0, 1) := by decide +kernel
theorem dX6_hankelRank_56 : decode cX6_hankelRank 56 = .ok (.getfield 13, 3) := by decide +kernel
theorem dX6_hankelRank_59 : decode cX6_hankelRank 59 = .ok (.iload_n 1, 1) := by decide +kernel
theorem dX6_hankelRank_60 : decode cX6_hankelRank 60 = .ok (.aaload, 1) := by decide +kernel
theorem dX6_hankelRank_61 : decode cX6_hankelRank 61 = .ok (.iload_n 3, 1) := by decide +kernel
theorem dX6_hankelRank_62 : decode cX6_hankelRank 62 = .ok (.iload 4, 2) := by decide +kernel
theorem dX6_hankelRank_64 : decode cX6_hankelRank 64 = .ok (.invokestatic 218, 3) := by decide +kernel
theorem dX6_hankelRank_67 : decode cX6_hankelRank 67 = .ok (.invokevirtual 135, 3) := by decide +kernel
theorem dX6_hankelRank_70 : decode cX6_hankelRank 70 = .ok (.iastore, 1) := by decide +kernel
theorem dX6_hankelRank_71 : decode cX6_hankelRank 71 = .ok (.iinc 4 1, 3) := by decide +kernel
theorem dX6_hankelRank_74 : decode cX6_hankelRank 74 = .ok (.goto (-40), 3) := by decide +kernel
theorem dX6_hankelRank_77 : decode cX6_hankelRank 77 = .ok (.iinc 3 1, 3) := by decide +kernel
theorem dX6_hankelRank_80 : decode cX6_hankelRank 80 = .ok (.goto (-54), 3) := by decide +kernel
theorem dX6_hankelRank_83 : decode cX6_hankelRank 83 = .ok (.aload_n 0, 1) := by decide +kernel
theorem dX6_hankelRank_84 : decode cX6_hankelRank 84 = .ok (.getfield 64, 3) := by decide +kernel
theorem dX6_hankelRank_87 : decode cX6_hankelRank 87 = .ok (.iload_n 2, 1) := by decide +kernel
theorem dX6_hankelRank_88 : decode cX6_hankelRank 88 = .ok (.iload_n 2, 1) := by decide +kernel
theorem dX6_hankelRank_89 : decode cX6_hankelRank 89 = .ok (.invokevirtual 221, 3) := by decide +kernel
theorem dX6_hankelRank_92 : decode cX6_hankelRank 92 = .ok (.ireturn, 1) := by decide +kernel
theorem dX6_recurs_0 : decode cX6_recurs 0 = .ok (.iload_n 1, 1) := by decide +kernel
theorem dX6_recurs_1 : decode cX6_recurs 1 = .ok (.invokestatic 78, 3) := by decide +kernel
theorem dX6_recurs_4 : decode cX6_recurs 4 = .ok (.iload_n 2, 1) := by decide +kernel
theorem dX6_recurs_5 : decode cX6_recurs 5 = .ok (.iconst 1, 1) := by decide +kernel
theorem dX6_recurs_6 : decode cX6_recurs 6 = .ok (.bipush 12, 2) := by decide +kernel
theorem dX6_recurs_8 : decode cX6_recurs 8 = .ok (.invokestatic 81, 3) := by decide +kernel
theorem dX6_recurs_11 : decode cX6_recurs 11 = .ok (.aload_n 0, 1) := by decide +kernel
theorem dX6_recurs_12 : decode cX6_recurs 12 = .ok (.iload_n 1, 1) := by decide +kernel
theorem dX6_recurs_13 : decode cX6_recurs 13 = .ok (.bipush 31, 2) := by decide +kernel
theorem dX6_recurs_15 : decode cX6_recurs 15 = .ok (.iload_n 2, 1) := by decide +kernel
theorem dX6_recurs_16 : decode cX6_recurs 16 = .ok (.iadd, 1) := by decide +kernel
theorem dX6_recurs_17 : decode cX6_recurs 17 = .ok (.invokevirtual 224, 3) := by decide +kernel
theorem dX6_recurs_20 : decode cX6_recurs 20 = .ok (.aload_n 0, 1) := by decide +kernel
theorem dX6_recurs_21 : decode cX6_recurs 21 = .ok (.iload_n 2, 1) := by decide +kernel
theorem dX6_recurs_22 : decode cX6_recurs 22 = .ok (.invokevirtual 227, 3) := by decide +kernel
theorem dX6_recurs_25 : decode cX6_recurs 25 = .ok (.aload_n 0, 1) := by decide +kernel
theorem dX6_recurs_26 : decode cX6_recurs 26 = .ok (.getfield 64, 3) := by decide +kernel
theorem dX6_recurs_29 : decode cX6_recurs 29 = .ok (.bipush 31, 2) := by decide +kernel
theorem dX6_recurs_31 : decode cX6_recurs 31 = .ok (.iload_n 2, 1) := by decide +kernel
theorem dX6_recurs_32 : decode cX6_recurs 32 = .ok (.invokevirtual 221, 3) := by decide +kernel
theorem dX6_recurs_35 : decode cX6_recurs 35 = .ok (.istore_n 3, 1) := by decide +kernel
theorem dX6_recurs_36 : decode cX6_recurs 36 = .ok (.aload_n 0, 1) := by decide +kernel
theorem dX6_recurs_37 : decode cX6_recurs 37 = .ok (.iload_n 2, 1) := by decide +kernel
theorem dX6_recurs_38 : decode cX6_recurs 38 = .ok (.invokevirtual 227, 3) := by decide +kernel
theorem dX6_recurs_41 : decode cX6_recurs 41 = .ok (.aload_n 0, 1) := by decide +kernel
theorem dX6_recurs_42 : decode cX6_recurs 42 = .ok (.getfield 64, 3) := by decide +kernel
theorem dX6_recurs_45 : decode cX6_recurs 45 = .ok (.bipush 31, 2) := by decide +kernel
theorem dX6_recurs_47 : decode cX6_recurs 47 = .ok (.iload_n 2, 1) := by decide +kernel
theorem dX6_recurs_48 : decode cX6_recurs 48 = .ok (.iconst 1, 1) := by decide +kernel
theorem dX6_recurs_49 : decode cX6_recurs 49 = .ok (.iadd, 1) := by decide +kernel
theorem dX6_recurs_50 : decode cX6_recurs 50 = .ok (.invokevirtual 221, 3) := by decide +kernel
theorem dX6_recurs_53 : decode cX6_recurs 53 = .ok (.iload_n 3, 1) := by decide +kernel
theorem dX6_recurs_54 : decode cX6_recurs 54 = .ok (.if_icmp .ne 7, 3) := by decide +kernel
theorem dX6_recurs_57 : decode cX6_recurs 57 = .ok (.iconst 1, 1) := by decide +kernel
theorem dX6_recurs_58 : decode cX6_recurs 58 = .ok (.goto 4, 3) := by decide +kernel
theorem dX6_recurs_61 : decode cX6_recurs 61 = .ok (.iconst 0, 1) := by decide +kernel
theorem dX6_recurs_62 : decode cX6_recurs 62 = .ok (.ireturn, 1) := by decide +kernel
theorem dX6_inverse_0 : decode cX6_inverse 0 = .ok (.iload_n 1, 1) := by decide +kernel
theorem dX6_inverse_1 : decode cX6_inverse 1 = .ok (.iconst 1, 1) := by decide +kernel
theorem dX6_inverse_2 : decode cX6_inverse 2 = .ok (.sipush 10006, 3) := by decide +kernel
theorem dX6_inverse_5 : decode cX6_inverse 5 = .ok (.invokestatic 81, 3) := by decide +kernel
theorem dX6_inverse_8 : decode cX6_inverse 8 = .ok (.iload_n 1, 1) := by decide +kernel
theorem dX6_inverse_9 : decode cX6_inverse 9 = .ok (.invokestatic 230, 3) := by decide +kernel
theorem dX6_inverse_12 : decode cX6_inverse 12 = .ok (.ireturn, 1) := by decide +kernel
theorem dX6_undo_0 : decode cX6_undo 0 = .ok (.aload_n 0, 1) := by decide +kernel
theorem dX6_undo_1 : decode cX6_undo 1 = .ok (.getfield 24, 3) := by decide +kernel
theorem dX6_undo_4 : decode cX6_undo 4 = .ok (.ifCond .gt 13, 3) := by decide +kernel
theorem dX6_undo_7 : decode cX6_undo 7 = .ok (.new 145, 3) := by decide +kernel
theorem dX6_undo_10 : decode cX6_undo 10 = .ok (.dup, 1) := by decide +kernel
theorem dX6_undo_11 : decode cX6_undo 11 = .ok (.ldc 251, 2) := by decide +kernel
theorem dX6_undo_13 : decode cX6_undo 13 = .ok (.invokespecial 149, 3) := by decide +kernel
theorem dX6_undo_16 : decode cX6_undo 16 = .ok (.athrow, 1) := by decide +kernel
theorem dX6_undo_17 : decode cX6_undo 17 = .ok (.aload_n 0, 1) := by decide +kernel
theorem dX6_undo_18 : decode cX6_undo 18 = .ok (.dup, 1) := by decide +kernel
theorem dX6_undo_19 : decode cX6_undo 19 = .ok (.getfield 24, 3) := by decide +kernel
theorem dX6_undo_22 : decode cX6_undo 22 = .ok (.iconst 1, 1) := by decide +kernel
theorem dX6_undo_23 : decode cX6_undo 23 = .ok (.isub, 1) := by decide +kernel
theorem dX6_undo_24 : decode cX6_undo 24 = .ok (.putfield 24, 3) := by decide +kernel
theorem dX6_undo_27 : decode cX6_undo 27 = .ok (.aload_n 0, 1) := by decide +kernel
theorem dX6_undo_28 : decode cX6_undo 28 = .ok (.getfield 13, 3) := by decide +kernel
theorem dX6_undo_31 : decode cX6_undo 31 = .ok (.aload_n 0, 1) := by decide +kernel
theorem dX6_undo_32 : decode cX6_undo 32 = .ok (.getfield 20, 3) := by decide +kernel
theorem dX6_undo_35 : decode cX6_undo 35 = .ok (.aload_n 0, 1) := by decide +kernel
theorem dX6_undo_36 : decode cX6_undo 36 = .ok (.getfield 24, 3) := by decide +kernel
theorem dX6_undo_39 : decode cX6_undo 39 = .ok (.iaload, 1) := by decide +kernel
theorem dX6_undo_40 : decode cX6_undo 40 = .ok (.aaload, 1) := by decide +kernel
theorem dX6_undo_41 : decode cX6_undo 41 = .ok (.aload_n 0, 1) := by decide +kernel
theorem dX6_undo_42 : decode cX6_undo 42 = .ok (.getfield 17, 3) := by decide +kernel
theorem dX6_undo_45 : decode cX6_undo 45 = .ok (.aload_n 0, 1) := by decide +kernel
theorem dX6_undo_46 : decode cX6_undo 46 = .ok (.getfield 24, 3) := by decide +kernel
theorem dX6_undo_49 : decode cX6_undo 49 = .ok (.aaload, 1) := by decide +kernel
theorem dX6_undo_50 : decode cX6_undo 50 = .ok (.invokevirtual 172, 3) := by decide +kernel
theorem dX6_undo_53 : decode cX6_undo 53 = .ok (.aload_n 0, 1) := by decide +kernel
theorem dX6_undo_54 : decode cX6_undo 54 = .ok (.getfield 24, 3) := by decide +kernel
theorem dX6_undo_57 : decode cX6_undo 57 = .ok (.ireturn, 1) := by decide +kernel
theorem dX6_digest_0 : decode cX6_digest 0 = .ok (.ldc2_w 253, 3) := by decide +kernel
theorem dX6_digest_3 : decode cX6_digest 3 = .ok (.aload_n 0, 1) := by decide +kernel
theorem dX6_digest_4 : decode cX6_digest 4 = .ok (.getfield 74, 3) := by decide +kernel
theorem dX6_digest_7 : decode cX6_digest 7 = .ok (.getfield 233, 3) := by decide +kernel
theorem dX6_digest_10 : decode cX6_digest 10 = .ok (.i2l, 1) := by decide +kernel
theorem dX6_digest_11 : decode cX6_digest 11 = .ok (.ladd, 1) := by decide +kernel
theorem dX6_digest_12 : decode cX6_digest 12 = .ok (.lstore_n 1, 1) := by decide +kernel
theorem dX6_digest_13 : decode cX6_digest 13 = .ok (.iconst 0, 1) := by decide +kernel
theorem dX6_digest_14 : decode cX6_digest 14 = .ok (.istore_n 3, 1) := by decide +kernel
theorem dX6_digest_15 : decode cX6_digest 15 = .ok (.iload_n 3, 1) := by decide +kernel
theorem dX6_digest_16 : decode cX6_digest 16 = .ok (.iconst 4, 1) := by decide +kernel
theorem dX6_digest_17 : decode cX6_digest 17 = .ok (.if_icmp .ge 50, 3) := by decide +kernel
theorem dX6_digest_20 : decode cX6_digest 20 = .ok (.aload_n 0, 1) := by decide +kernel
theorem dX6_digest_21 : decode cX6_digest 21 = .ok (.getfield 13, 3) := by decide +kernel
theorem dX6_digest_24 : decode cX6_digest 24 = .ok (.iload_n 3, 1) := by decide +kernel
theorem dX6_digest_25 : decode cX6_digest 25 = .ok (.aaload, 1) := by decide +kernel
theorem dX6_digest_26 : decode cX6_digest 26 = .ok (.lload_n 1, 1) := by decide +kernel
theorem dX6_digest_27 : decode cX6_digest 27 = .ok (.invokevirtual 255, 3) := by decide +kernel
theorem dX6_digest_30 : decode cX6_digest 30 = .ok (.lstore_n 1, 1) := by decide +kernel
theorem dX6_digest_31 : decode cX6_digest 31 = .ok (.iconst 0, 1) := by decide +kernel
theorem dX6_digest_32 : decode cX6_digest 32 = .ok (.istore 4, 2) := by decide +kernel
theorem dX6_digest_34 : decode cX6_digest 34 = .ok (.iload 4, 2) := by decide +kernel
theorem dX6_digest_36 : decode cX6_digest 36 = .ok (.iconst 2, 1) := by decide +kernel
theorem dX6_digest_37 : decode cX6_digest 37 = .ok (.if_icmp .gt 24, 3) := by decide +kernel
theorem dX6_digest_40 : decode cX6_digest 40 = .ok (.ldc2_w 259, 3) := by decide +kernel
theorem dX6_digest_43 : decode cX6_digest 43 = .ok (.lload_n 1, 1) := by decide +kernel
theorem dX6_digest_44 : decode cX6_digest 44 = .ok (.lmul, 1) := by decide +kernel
theorem dX6_digest_45 : decode cX6_digest 45 = .ok (.aload_n 0, 1) := by decide +kernel
theorem dX6_digest_46 : decode cX6_digest 46 = .ok (.iload_n 3, 1) := by decide +kernel
theorem dX6_digest_47 : decode cX6_digest 47 = .ok (.iload 4, 2) := by decide +kernel
theorem dX6_digest_49 : decode cX6_digest 49 = .ok (.invokevirtual 197, 3) := by decide +kernel
theorem dX6_digest_52 : decode cX6_digest 52 = .ok (.i2l, 1) := by decide +kernel
theorem dX6_digest_53 : decode cX6_digest 53 = .ok (.ladd, 1) := by decide +kernel
theorem dX6_digest_54 : decode cX6_digest 54 = .ok (.lstore_n 1, 1) := by decide +kernel
theorem dX6_digest_55 : decode cX6_digest 55 = .ok (.iinc 4 1, 3) := by decide +kernel
theorem dX6_digest_58 : decode cX6_digest 58 = .ok (.goto (-24), 3) := by decide +kernel
theorem dX6_digest_61 : decode cX6_digest 61 = .ok (.iinc 3 1, 3) := by decide +kernel
theorem dX6_digest_64 : decode cX6_digest 64 = .ok (.goto (-49), 3) := by decide +kernel
theorem dX6_digest_67 : decode cX6_digest 67 = .ok (.ldc2_w 259, 3) := by decide +kernel
theorem dX6_digest_70 : decode cX6_digest 70 = .ok (.lload_n 1, 1) := by decide +kernel
theorem dX6_digest_71 : decode cX6_digest 71 = .ok (.lmul, 1) := by decide +kernel
theorem dX6_digest_72 : decode cX6_digest 72 = .ok (.aload_n 0, 1) := by decide +kernel
theorem dX6_digest_73 : decode cX6_digest 73 = .ok (.getfield 24, 3) := by decide +kernel
theorem dX6_digest_76 : decode cX6_digest 76 = .ok (.i2l, 1) := by decide +kernel
theorem dX6_digest_77 : decode cX6_digest 77 = .ok (.ladd, 1) := by decide +kernel
theorem dX6_digest_78 : decode cX6_digest 78 = .ok (.lreturn, 1) := by decide +kernel
theorem dX6_automata_0 : decode cX6_automata 0 = .ok (.iload_n 0, 1) := by decide +kernel
theorem dX6_automata_1 : decode cX6_automata 1 = .ok (.anewarray 28, 3) := by decide +kernel
theorem dX6_automata_4 : decode cX6_automata 4 = .ok (.astore_n 1, 1) := by decide +kernel
theorem dX6_automata_5 : decode cX6_automata 5 = .ok (.iconst 0, 1) := by decide +kernel
theorem dX6_automata_6 : decode cX6_automata 6 = .ok (.istore_n 2, 1) := by decide +kernel
theorem dX6_automata_7 : decode cX6_automata 7 = .ok (.iload_n 2, 1) := by decide +kernel
theorem dX6_automata_8 : decode cX6_automata 8 = .ok (.iload_n 0, 1) := by decide +kernel
theorem dX6_automata_9 : decode cX6_automata 9 = .ok (.if_icmp .ge 21, 3) := by decide +kernel
theorem dX6_automata_12 : decode cX6_automata 12 = .ok (.aload_n 1, 1) := by decide +kernel
theorem dX6_automata_13 : decode cX6_automata 13 = .ok (.iload_n 2, 1) := by decide +kernel
theorem dX6_automata_14 : decode cX6_automata 14 = .ok (.new 28, 3) := by decide +kernel
theorem dX6_automata_17 : decode cX6_automata 17 = .ok (.dup, 1) := by decide +kernel
theorem dX6_automata_18 : decode cX6_automata 18 = .ok (.bipush 12, 2) := by decide +kernel
theorem dX6_automata_20 : decode cX6_automata 20 = .ok (.invokespecial 30, 3) := by decide +kernel
theorem dX6_automata_23 : decode cX6_automata 23 = .ok (.aastore, 1) := by decide +kernel
theorem dX6_automata_24 : decode cX6_automata 24 = .ok (.iinc 2 1, 3) := by decide +kernel
theorem dX6_automata_27 : decode cX6_automata 27 = .ok (.goto (-20), 3) := by decide +kernel
theorem dX6_automata_30 : decode cX6_automata 30 = .ok (.aload_n 1, 1) := by decide +kernel
theorem dX6_automata_31 : decode cX6_automata 31 = .ok (.areturn, 1) := by decide +kernel
theorem dX6_checkSlot_0 : decode cX6_checkSlot 0 = .ok (.iload_n 0, 1) := by decide +kernel
theorem dX6_checkSlot_1 : decode cX6_checkSlot 1 = .ok (.ifCond .lt 8, 3) := by decide +kernel
theorem dX6_checkSlot_4 : decode cX6_checkSlot 4 = .ok (.iload_n 0, 1) := by decide +kernel
theorem dX6_checkSlot_5 : decode cX6_checkSlot 5 = .ok (.iconst 4, 1) := by decide +kernel
theorem dX6_checkSlot_6 : decode cX6_checkSlot 6 = .ok (.if_icmp .lt 14, 3) := by decide +kernel
theorem dX6_checkSlot_9 : decode cX6_checkSlot 9 = .ok (.new 204, 3) := by decide +kernel
theorem dX6_checkSlot_12 : decode cX6_checkSlot 12 = .ok (.dup, 1) := by decide +kernel
theorem dX6_checkSlot_13 : decode cX6_checkSlot 13 = .ok (.ldc_w 261, 3) := by decide +kernel
theorem dX6_checkSlot_16 : decode cX6_checkSlot 16 = .ok (.invokespecial 208, 3) := by decide +kernel
theorem dX6_checkSlot_19 : decode cX6_checkSlot 19 = .ok (.athrow, 1) := by decide +kernel
theorem dX6_checkSlot_20 : decode cX6_checkSlot 20 = .ok (.return_, 1) := by decide +kernel
theorem dX6_checkRange_0 : decode cX6_checkRange 0 = .ok (.iload_n 0, 1) := by decide +kernel
theorem dX6_checkRange_1 : decode cX6_checkRange 1 = .ok (.iload_n 1, 1) := by decide +kernel
theorem dX6_checkRange_2 : decode cX6_checkRange 2 = .ok (.if_icmp .lt 8, 3) := by decide +kernel
theorem dX6_checkRange_5 : decode cX6_checkRange 5 = .ok (.iload_n 0, 1) := by decide +kernel
theorem dX6_checkRange_6 : decode cX6_checkRange 6 = .ok (.iload_n 2, 1) := by decide +kernel
theorem dX6_checkRange_7 : decode cX6_checkRange 7 = .ok (.if_icmp .le 14, 3) := by decide +kernel
theorem dX6_checkRange_10 : decode cX6_checkRange 10 = .ok (.new 267, 3) := by decide +kernel
theorem dX6_checkRange_13 : decode cX6_checkRange 13 = .ok (.dup, 1) := by decide +kernel
theorem dX6_checkRange_14 : decode cX6_checkRange 14 = .ok (.ldc_w 269, 3) := by decide +kernel
theorem dX6_checkRange_17 : decode cX6_checkRange 17 = .ok (.invokespecial 271, 3) := by decide +kernel
theorem dX6_checkRange_20 : decode cX6_checkRange 20 = .ok (.athrow, 1) := by decide +kernel
theorem dX6_checkRange_21 : decode cX6_checkRange 21 = .ok (.return_, 1) := by decide +kernel
theorem dX6_save_0 : decode cX6_save 0 = .ok (.aload_n 0, 1) := by decide +kernel
theorem dX6_save_1 : decode cX6_save 1 = .ok (.getfield 24, 3) := by decide +kernel
theorem dX6_save_4 : decode cX6_save 4 = .ok (.iconst 4, 1) := by decide +kernel
theorem dX6_save_5 : decode cX6_save 5 = .ok (.if_icmp .lt 7, 3) := by decide +kernel
theorem dX6_save_8 : decode cX6_save 8 = .ok (.aload_n 0, 1) := by decide +kernel
theorem dX6_save_9 : decode cX6_save 9 = .ok (.invokevirtual 272, 3) := by decide +kernel
theorem dX6_save_12 : decode cX6_save 12 = .ok (.aload_n 0, 1) := by decide +kernel
theorem dX6_save_13 : decode cX6_save 13 = .ok (.getfield 20, 3) := by decide +kernel
theorem dX6_save_16 : decode cX6_save 16 = .ok (.aload_n 0, 1) := by decide +kernel
theorem dX6_save_17 : decode cX6_save 17 = .ok (.getfield 24, 3) := by decide +kernel
theorem dX6_save_20 : decode cX6_save 20 = .ok (.iload_n 1, 1) := by decide +kernel
theorem dX6_save_21 : decode cX6_save 21 = .ok (.iastore, 1) := by decide +kernel
theorem dX6_save_22 : decode cX6_save 22 = .ok (.aload_n 0, 1) := by decide +kernel
theorem dX6_save_23 : decode cX6_save 23 = .ok (.getfield 17, 3) := by decide +kernel
theorem dX6_save_26 : decode cX6_save 26 = .ok (.aload_n 0, 1) := by decide +kernel
theorem dX6_save_27 : decode cX6_save 27 = .ok (.getfield 24, 3) := by decide +kernel
theorem dX6_save_30 : decode cX6_save 30 = .ok (.aaload, 1) := by decide +kernel
theorem dX6_save_31 : decode cX6_save 31 = .ok (.aload_n 0, 1) := by decide +kernel
theorem dX6_save_32 : decode cX6_save 32 = .ok (.getfield 13, 3) := by decide +kernel
theorem dX6_save_35 : decode cX6_save 35 = .ok (.iload_n 1, 1) := by decide +kernel
theorem dX6_save_36 : decode cX6_save 36 = .ok (.aaload, 1) := by decide +kernel
theorem dX6_save_37 : decode cX6_save 37 = .ok (.invokevirtual 172, 3) := by decide +kernel
theorem dX6_save_40 : decode cX6_save 40 = .ok (.aload_n 0, 1) := by decide +kernel
theorem dX6_save_41 : decode cX6_save 41 = .ok (.dup, 1) := by decide +kernel
theorem dX6_save_42 : decode cX6_save 42 = .ok (.getfield 24, 3) := by decide +kernel
theorem dX6_save_45 : decode cX6_save 45 = .ok (.iconst 1, 1) := by decide +kernel
theorem dX6_save_46 : decode cX6_save 46 = .ok (.iadd, 1) := by decide +kernel
theorem dX6_save_47 : decode cX6_save 47 = .ok (.putfield 24, 3) := by decide +kernel
theorem dX6_save_50 : decode cX6_save 50 = .ok (.return_, 1) := by decide +kernel
theorem dX6_dropOldest_0 : decode cX6_dropOldest 0 = .ok (.aload_n 0, 1) := by decide +kernel
theorem dX6_dropOldest_1 : decode cX6_dropOldest 1 = .ok (.getfield 17, 3) := by decide +kernel
theorem dX6_dropOldest_4 : decode cX6_dropOldest 4 = .ok (.iconst 0, 1) := by decide +kernel
theorem dX6_dropOldest_5 : decode cX6_dropOldest 5 = .ok (.aaload, 1) := by decide +kernel
theorem dX6_dropOldest_6 : decode cX6_dropOldest 6 = .ok (.astore_n 1, 1) := by decide +kernel
theorem dX6_dropOldest_7 : decode cX6_dropOldest 7 = .ok (.iconst 1, 1) := by decide +kernel
theorem dX6_dropOldest_8 : decode cX6_dropOldest 8 = .ok (.istore_n 2, 1) := by decide +kernel
theorem dX6_dropOldest_9 : decode cX6_dropOldest 9 = .ok (.iload_n 2, 1) := by decide +kernel
theorem dX6_dropOldest_10 : decode cX6_dropOldest 10 = .ok (.iconst 4, 1) := by decide +kernel
theorem dX6_dropOldest_11 : decode cX6_dropOldest 11 = .ok (.if_icmp .ge 37, 3) := by decide +kernel
theorem dX6_dropOldest_14 : decode cX6_dropOldest 14 = .ok (.aload_n 0, 1) := by decide +kernel
theorem dX6_dropOldest_15 : decode cX6_dropOldest 15 = .ok (.getfield 17, 3) := by decide +kernel
theorem dX6_dropOldest_18 : decode cX6_dropOldest 18 = .ok (.iload_n 2, 1) := by decide +kernel
theorem dX6_dropOldest_19 : decode cX6_dropOldest 19 = .ok (.iconst 1, 1) := by decide +kernel
theorem dX6_dropOldest_20 : decode cX6_dropOldest 20 = .ok (.isub, 1) := by decide +kernel
theorem dX6_dropOldest_21 : decode cX6_dropOldest 21 = .ok (.aload_n 0, 1) := by decide +kernel
theorem dX6_dropOldest_22 : decode cX6_dropOldest 22 = .ok (.getfield 17, 3) := by decide +kernel
theorem dX6_dropOldest_25 : decode cX6_dropOldest 25 = .ok (.iload_n 2, 1) := by decide +kernel
theorem dX6_dropOldest_26 : decode cX6_dropOldest 26 = .ok (.aaload, 1) := by decide +kernel
theorem dX6_dropOldest_27 : decode cX6_dropOldest 27 = .ok (.aastore, 1) := by decide +kernel
theorem dX6_dropOldest_28 : decode cX6_dropOldest 28 = .ok (.aload_n 0, 1) := by decide +kernel
theorem dX6_dropOldest_29 : decode cX6_dropOldest 29 = .ok (.getfield 20, 3) := by decide +kernel
theorem dX6_dropOldest_32 : decode cX6_dropOldest 32 = .ok (.iload_n 2, 1) := by decide +kernel
theorem dX6_dropOldest_33 : decode cX6_dropOldest 33 = .ok (.iconst 1, 1) := by decide +kernel
theorem dX6_dropOldest_34 : decode cX6_dropOldest 34 = .ok (.isub, 1) := by decide +kernel
theorem dX6_dropOldest_35 : decode cX6_dropOldest 35 = .ok (.aload_n 0, 1) := by decide +kernel
theorem dX6_dropOldest_36 : decode cX6_dropOldest 36 = .ok (.getfield 20, 3) := by decide +kernel
theorem dX6_dropOldest_39 : decode cX6_dropOldest 39 = .ok (.iload_n 2, 1) := by decide +kernel
theorem dX6_dropOldest_40 : decode cX6_dropOldest 40 = .ok (.iaload, 1) := by decide +kernel
theorem dX6_dropOldest_41 : decode cX6_dropOldest 41 = .ok (.iastore, 1) := by decide +kernel
theorem dX6_dropOldest_42 : decode cX6_dropOldest 42 = .ok (.iinc 2 1, 3) := by decide +kernel
theorem dX6_dropOldest_45 : decode cX6_dropOldest 45 = .ok (.goto (-36), 3) := by decide +kernel
theorem dX6_dropOldest_48 : decode cX6_dropOldest 48 = .ok (.aload_n 0, 1) := by decide +kernel
theorem dX6_dropOldest_49 : decode cX6_dropOldest 49 = .ok (.getfield 17, 3) := by decide +kernel
theorem dX6_dropOldest_52 : decode cX6_dropOldest 52 = .ok (.iconst 3, 1) := by decide +kernel
theorem dX6_dropOldest_53 : decode cX6_dropOldest 53 = .ok (.aload_n 1, 1) := by decide +kernel
theorem dX6_dropOldest_54 : decode cX6_dropOldest 54 = .ok (.aastore, 1) := by decide +kernel
theorem dX6_dropOldest_55 : decode cX6_dropOldest 55 = .ok (.aload_n 0, 1) := by decide +kernel
theorem dX6_dropOldest_56 : decode cX6_dropOldest 56 = .ok (.iconst 3, 1) := by decide +kernel
theorem dX6_dropOldest_57 : decode cX6_dropOldest 57 = .ok (.putfield 24, 3) := by decide +kernel
theorem dX6_dropOldest_60 : decode cX6_dropOldest 60 = .ok (.return_, 1) := by decide +kernel
theorem dX6_store_0 : decode cX6_store 0 = .ok (.aload_n 0, 1) := by decide +kernel
theorem dX6_store_1 : decode cX6_store 1 = .ok (.iload_n 1, 1) := by decide +kernel
theorem dX6_store_2 : decode cX6_store 2 = .ok (.invokevirtual 88, 3) := by decide +kernel
theorem dX6_store_5 : decode cX6_store 5 = .ok (.aload_n 0, 1) := by decide +kernel
theorem dX6_store_6 : decode cX6_store 6 = .ok (.getfield 13, 3) := by decide +kernel
theorem dX6_store_9 : decode cX6_store 9 = .ok (.iload_n 1, 1) := by decide +kernel
theorem dX6_store_10 : decode cX6_store 10 = .ok (.aaload, 1) := by decide +kernel
theorem dX6_store_11 : decode cX6_store 11 = .ok (.aload_n 0, 1) := by decide +kernel
theorem dX6_store_12 : decode cX6_store 12 = .ok (.getfield 33, 3) := by decide +kernel
theorem dX6_store_15 : decode cX6_store 15 = .ok (.invokevirtual 172, 3) := by decide +kernel
theorem dX6_store_18 : decode cX6_store 18 = .ok (.aload_n 0, 1) := by decide +kernel
theorem dX6_store_19 : decode cX6_store 19 = .ok (.getfield 33, 3) := by decide +kernel
theorem dX6_store_22 : decode cX6_store 22 = .ok (.getfield 85, 3) := by decide +kernel
theorem dX6_store_25 : decode cX6_store 25 = .ok (.ireturn, 1) := by decide +kernel
theorem dX6_spaceSize_0 : decode cX6_spaceSize 0 = .ok (.aload_n 0, 1) := by decide +kernel
theorem dX6_spaceSize_1 : decode cX6_spaceSize 1 = .ok (.getfield 33, 3) := by decide +kernel
theorem dX6_spaceSize_4 : decode cX6_spaceSize 4 = .ok (.aload_n 0, 1) := by decide +kernel
theorem dX6_spaceSize_5 : decode cX6_spaceSize 5 = .ok (.getfield 13, 3) := by decide +kernel
theorem dX6_spaceSize_8 : decode cX6_spaceSize 8 = .ok (.iload_n 1, 1) := by decide +kernel
theorem dX6_spaceSize_9 : decode cX6_spaceSize 9 = .ok (.aaload, 1) := by decide +kernel
theorem dX6_spaceSize_10 : decode cX6_spaceSize 10 = .ok (.invokevirtual 172, 3) := by decide +kernel
theorem dX6_spaceSize_13 : decode cX6_spaceSize 13 = .ok (.iload_n 2, 1) := by decide +kernel
theorem dX6_spaceSize_14 : decode cX6_spaceSize 14 = .ok (.iconst 1, 1) := by decide +kernel
theorem dX6_spaceSize_15 : decode cX6_spaceSize 15 = .ok (.if_icmp .ne 10, 3) := by decide +kernel
theorem dX6_spaceSize_18 : decode cX6_spaceSize 18 = .ok (.aload_n 0, 1) := by decide +kernel
theorem dX6_spaceSize_19 : decode cX6_spaceSize 19 = .ok (.getfield 33, 3) := by decide +kernel
theorem dX6_spaceSize_22 : decode cX6_spaceSize 22 = .ok (.invokevirtual 175, 3) := by decide +kernel
theorem dX6_spaceSize_25 : decode cX6_spaceSize 25 = .ok (.iload_n 2, 1) := by decide +kernel
theorem dX6_spaceSize_26 : decode cX6_spaceSize 26 = .ok (.iconst 2, 1) := by decide +kernel
theorem dX6_spaceSize_27 : decode cX6_spaceSize 27 = .ok (.if_icmp .ne 17, 3) := by decide +kernel
theorem dX6_spaceSize_30 : decode cX6_spaceSize 30 = .ok (.aload_n 0, 1) := by decide +kernel
theorem dX6_spaceSize_31 : decode cX6_spaceSize 31 = .ok (.getfield 57, 3) := by decide +kernel
theorem dX6_spaceSize_34 : decode cX6_spaceSize 34 = .ok (.aload_n 0, 1) := by decide +kernel
theorem dX6_spaceSize_35 : decode cX6_spaceSize 35 = .ok (.getfield 33, 3) := by decide +kernel
theorem dX6_spaceSize_38 : decode cX6_spaceSize 38 = .ok (.invokevirtual 187, 3) := by decide +kernel
theorem dX6_spaceSize_41 : decode cX6_spaceSize 41 = .ok (.goto 14, 3) := by decide +kernel
theorem dX6_spaceSize_44 : decode cX6_spaceSize 44 = .ok (.aload_n 0, 1) := by decide +kernel
theorem dX6_spaceSize_45 : decode cX6_spaceSize 45 = .ok (.getfield 57, 3) := by decide +kernel
theorem dX6_spaceSize_48 : decode cX6_spaceSize 48 = .ok (.aload_n 0, 1) := by decide +kernel
theorem dX6_spaceSize_49 : decode cX6_spaceSize 49 = .ok (.getfield 33, 3) := by decide +kernel
theorem dX6_spaceSize_52 : decode cX6_spaceSize 52 = .ok (.invokevirtual 184, 3) := by decide +kernel
theorem dX6_spaceSize_55 : decode cX6_spaceSize 55 = .ok (.aload_n 0, 1) := by decide +kernel
theorem dX6_spaceSize_56 : decode cX6_spaceSize 56 = .ok (.getfield 33, 3) := by decide +kernel
theorem dX6_spaceSize_59 : decode cX6_spaceSize 59 = .ok (.getfield 85, 3) := by decide +kernel
theorem dX6_spaceSize_62 : decode cX6_spaceSize 62 = .ok (.ireturn, 1) := by decide +kernel
theorem dX6_collectTotals_0 : decode cX6_collectTotals 0 = .ok (.aload_n 0, 1) := by decide +kernel
theorem dX6_collectTotals_1 : decode cX6_collectTotals 1 = .ok (.getfield 43, 3) := by decide +kernel
theorem dX6_collectTotals_4 : decode cX6_collectTotals 4 = .ok (.aload_n 0, 1) := by decide +kernel
theorem dX6_collectTotals_5 : decode cX6_collectTotals 5 = .ok (.getfield 13, 3) := by decide +kernel
theorem dX6_collectTotals_8 : decode cX6_collectTotals 8 = .ok (.iload_n 1, 1) := by decide +kernel
theorem dX6_collectTotals_9 : decode cX6_collectTotals 9 = .ok (.aaload, 1) := by decide +kernel
theorem dX6_collectTotals_10 : decode cX6_collectTotals 10 = .ok (.invokevirtual 119, 3) := by decide +kernel
theorem dX6_collectTotals_13 : decode cX6_collectTotals 13 = .ok (.iconst 0, 1) := by decide +kernel
theorem dX6_collectTotals_14 : decode cX6_collectTotals 14 = .ok (.istore_n 3, 1) := by decide +kernel
theorem dX6_collectTotals_15 : decode cX6_collectTotals 15 = .ok (.iload_n 3, 1) := by decide +kernel
theorem dX6_collectTotals_16 : decode cX6_collectTotals 16 = .ok (.iload_n 2, 1) := by decide +kernel
theorem dX6_collectTotals_17 : decode cX6_collectTotals 17 = .ok (.if_icmp .ge 41, 3) := by decide +kernel
theorem dX6_collectTotals_20 : decode cX6_collectTotals 20 = .ok (.aload_n 0, 1) := by decide +kernel
theorem dX6_collectTotals_21 : decode cX6_collectTotals 21 = .ok (.getfield 68, 3) := by decide +kernel
theorem dX6_collectTotals_24 : decode cX6_collectTotals 24 = .ok (.iload_n 3, 1) := by decide +kernel
theorem dX6_collectTotals_25 : decode cX6_collectTotals 25 = .ok (.aload_n 0, 1) := by decide +kernel
theorem dX6_collectTotals_26 : decode cX6_collectTotals 26 = .ok (.getfield 43, 3) := by decide +kernel
theorem dX6_collectTotals_29 : decode cX6_collectTotals 29 = .ok (.aload_n 0, 1) := by decide +kernel
theorem dX6_collectTotals_30 : decode cX6_collectTotals 30 = .ok (.getfield 13, 3) := by decide +kernel
theorem dX6_collectTotals_33 : decode cX6_collectTotals 33 = .ok (.iload_n 1, 1) := by decide +kernel
theorem dX6_collectTotals_34 : decode cX6_collectTotals 34 = .ok (.aaload, 1) := by decide +kernel
theorem dX6_collectTotals_35 : decode cX6_collectTotals 35 = .ok (.invokevirtual 127, 3) := by decide +kernel
theorem dX6_collectTotals_38 : decode cX6_collectTotals 38 = .ok (.iastore, 1) := by decide +kernel
theorem dX6_collectTotals_39 : decode cX6_collectTotals 39 = .ok (.aload_n 0, 1) := by decide +kernel
theorem dX6_collectTotals_40 : decode cX6_collectTotals 40 = .ok (.getfield 43, 3) := by decide +kernel
theorem dX6_collectTotals_43 : decode cX6_collectTotals 43 = .ok (.aload_n 0, 1) := by decide +kernel
theorem dX6_collectTotals_44 : decode cX6_collectTotals 44 = .ok (.getfield 13, 3) := by decide +kernel
theorem dX6_collectTotals_47 : decode cX6_collectTotals 47 = .ok (.iload_n 1, 1) := by decide +kernel
theorem dX6_collectTotals_48 : decode cX6_collectTotals 48 = .ok (.aaload, 1) := by decide +kernel
theorem dX6_collectTotals_49 : decode cX6_collectTotals 49 = .ok (.invokevirtual 131, 3) := by decide +kernel
theorem dX6_collectTotals_52 : decode cX6_collectTotals 52 = .ok (.iinc 3 1, 3) := by decide +kernel
theorem dX6_collectTotals_55 : decode cX6_collectTotals 55 = .ok (.goto (-40), 3) := by decide +kernel
theorem dX6_collectTotals_58 : decode cX6_collectTotals 58 = .ok (.return_, 1) := by decide +kernel
theorem dX6_fillRecurrences_0 : decode cX6_fillRecurrences 0 = .ok (.iconst 0, 1) := by decide +kernel
theorem dX6_fillRecurrences_1 : decode cX6_fillRecurrences 1 = .ok (.istore_n 2, 1) := by decide +kernel
theorem dX6_fillRecurrences_2 : decode cX6_fillRecurrences 2 = .ok (.iload_n 2, 1) := by decide +kernel
theorem dX6_fillRecurrences_3 : decode cX6_fillRecurrences 3 = .ok (.bipush 31, 2) := by decide +kernel
theorem dX6_fillRecurrences_5 : decode cX6_fillRecurrences 5 = .ok (.if_icmp .ge 41, 3) := by decide +kernel
theorem dX6_fillRecurrences_8 : decode cX6_fillRecurrences 8 = .ok (.iconst 0, 1) := by decide +kernel
theorem dX6_fillRecurrences_9 : decode cX6_fillRecurrences 9 = .ok (.istore_n 3, 1) := by decide +kernel
theorem dX6_fillRecurrences_10 : decode cX6_fillRecurrences 10 = .ok (.iload_n 3, 1) := by decide +kernel
theorem dX6_fillRecurrences_11 : decode cX6_fillRecurrences 11 = .ok (.iload_n 1, 1) := by decide +kernel
theorem dX6_fillRecurrences_12 : decode cX6_fillRecurrences 12 = .ok (.if_icmp .gt 28, 3) := by decide +kernel
theorem dX6_fillRecurrences_15 : decode cX6_fillRecurrences 15 = .ok (.aload_n 0, 1) := by decide +kernel
theorem dX6_fillRecurrences_16 : decode cX6_fillRecurrences 16 = .ok (.getfield 64, 3) := by decide +kernel
theorem dX6_fillRecurrences_19 : decode cX6_fillRecurrences 19 = .ok (.getfield 215, 3) := by decide +kernel
theorem dX6_fillRecurrences_22 : decode cX6_fillRecurrences 22 = .ok (.iload_n 2, 1) := by decide +kernel
theorem dX6_fillRecurrences_23 : decode cX6_fillRecurrences 23 = .ok (.aaload, 1) := by decide +kernel
theorem dX6_fillRecurrences_24 : decode cX6_fillRecurrences 24 = .ok (.iload_n 3, 1) := by decide +kernel
theorem dX6_fillRecurrences_25 : decode cX6_fillRecurrences 25 = .ok (.aload_n 0, 1) := by decide +kernel
theorem dX6_fillRecurrences_26 : decode cX6_fillRecurrences 26 = .ok (.getfield 68, 3) := by decide +kernel
theorem dX6_fillRecurrences_29 : decode cX6_fillRecurrences 29 = .ok (.iload_n 2, 1) := by decide +kernel
theorem dX6_fillRecurrences_30 : decode cX6_fillRecurrences 30 = .ok (.iload_n 3, 1) := by decide +kernel
theorem dX6_fillRecurrences_31 : decode cX6_fillRecurrences 31 = .ok (.iadd, 1) := by decide +kernel
theorem dX6_fillRecurrences_32 : decode cX6_fillRecurrences 32 = .ok (.iaload, 1) := by decide +kernel
theorem dX6_fillRecurrences_33 : decode cX6_fillRecurrences 33 = .ok (.iastore, 1) := by decide +kernel
theorem dX6_fillRecurrences_34 : decode cX6_fillRecurrences 34 = .ok (.iinc 3 1, 3) := by decide +kernel
theorem dX6_fillRecurrences_37 : decode cX6_fillRecurrences 37 = .ok (.goto (-27), 3) := by decide +kernel
theorem dX6_fillRecurrences_40 : decode cX6_fillRecurrences 40 = .ok (.iinc 2 1, 3) := by decide +kernel
theorem dX6_fillRecurrences_43 : decode cX6_fillRecurrences 43 = .ok (.goto (-41), 3) := by decide +kernel
theorem dX6_fillRecurrences_46 : decode cX6_fillRecurrences 46 = .ok (.return_, 1) := by decide +kernel
theorem dX6_lengthOf_0 : decode cX6_lengthOf 0 = .ok (.iconst 0, 1) := by decide +kernel
theorem dX6_lengthOf_1 : decode cX6_lengthOf 1 = .ok (.istore_n 1, 1) := by decide +kernel
theorem dX6_lengthOf_2 : decode cX6_lengthOf 2 = .ok (.iload_n 0, 1) := by decide +kernel
theorem dX6_lengthOf_3 : decode cX6_lengthOf 3 = .ok (.iconst 1, 1) := by decide +kernel
theorem dX6_lengthOf_4 : decode cX6_lengthOf 4 = .ok (.iadd, 1) := by decide +kernel
theorem dX6_lengthOf_5 : decode cX6_lengthOf 5 = .ok (.iconst 1, 1) := by decide +kernel
theorem dX6_lengthOf_6 : decode cX6_lengthOf 6 = .ok (.ishr, 1) := by decide +kernel
theorem dX6_lengthOf_7 : decode cX6_lengthOf 7 = .ok (.istore_n 2, 1) := by decide +kernel
theorem dX6_lengthOf_8 : decode cX6_lengthOf 8 = .ok (.iload_n 2, 1) := by decide +kernel
theorem dX6_lengthOf_9 : decode cX6_lengthOf 9 = .ok (.ifCond .le 13, 3) := by decide +kernel
theorem dX6_lengthOf_12 : decode cX6_lengthOf 12 = .ok (.iinc 1 1, 3) := by decide +kernel
theorem dX6_lengthOf_15 : decode cX6_lengthOf 15 = .ok (.iload_n 2, 1) := by decide +kernel
theorem dX6_lengthOf_16 : decode cX6_lengthOf 16 = .ok (.iconst 1, 1) := by decide +kernel
theorem dX6_lengthOf_17 : decode cX6_lengthOf 17 = .ok (.ishr, 1) := by decide +kernel
theorem dX6_lengthOf_18 : decode cX6_lengthOf 18 = .ok (.istore_n 2, 1) := by decide +kernel
theorem dX6_lengthOf_19 : decode cX6_lengthOf 19 = .ok (.goto (-11), 3) := by decide +kernel
theorem dX6_lengthOf_22 : decode cX6_lengthOf 22 = .ok (.iload_n 1, 1) := by decide +kernel
theorem dX6_lengthOf_23 : decode cX6_lengthOf 23 = .ok (.ireturn, 1) := by decide +kernel
theorem dX6_joinedWord_0 : decode cX6_joinedWord 0 = .ok (.iconst 1, 1) := by decide +kernel
theorem dX6_joinedWord_1 : decode cX6_joinedWord 1 = .ok (.iload_n 1, 1) := by decide +kernel
theorem dX6_joinedWord_2 : decode cX6_joinedWord 2 = .ok (.invokestatic 275, 3) := by decide +kernel
theorem dX6_joinedWord_5 : decode cX6_joinedWord 5 = .ok (.ishl, 1) := by decide +kernel
theorem dX6_joinedWord_6 : decode cX6_joinedWord 6 = .ok (.istore_n 2, 1) := by decide +kernel
theorem dX6_joinedWord_7 : decode cX6_joinedWord 7 = .ok (.iload_n 0, 1) := by decide +kernel
theorem dX6_joinedWord_8 : decode cX6_joinedWord 8 = .ok (.iconst 1, 1) := by decide +kernel
theorem dX6_joinedWord_9 : decode cX6_joinedWord 9 = .ok (.iadd, 1) := by decide +kernel
theorem dX6_joinedWord_10 : decode cX6_joinedWord 10 = .ok (.iload_n 2, 1) := by decide +kernel
theorem dX6_joinedWord_11 : decode cX6_joinedWord 11 = .ok (.imul, 1) := by decide +kernel
theorem dX6_joinedWord_12 : decode cX6_joinedWord 12 = .ok (.iload_n 1, 1) := by decide +kernel
theorem dX6_joinedWord_13 : decode cX6_joinedWord 13 = .ok (.iconst 1, 1) := by decide +kernel
theorem dX6_joinedWord_14 : decode cX6_joinedWord 14 = .ok (.iadd, 1) := by decide +kernel
theorem dX6_joinedWord_15 : decode cX6_joinedWord 15 = .ok (.iload_n 2, 1) := by decide +kernel
theorem dX6_joinedWord_16 : decode cX6_joinedWord 16 = .ok (.isub, 1) := by decide +kernel
theorem dX6_joinedWord_17 : decode cX6_joinedWord 17 = .ok (.iadd, 1) := by decide +kernel
theorem dX6_joinedWord_18 : decode cX6_joinedWord 18 = .ok (.iconst 1, 1) := by decide +kernel
theorem dX6_joinedWord_19 : decode cX6_joinedWord 19 = .ok (.isub, 1) := by decide +kernel
theorem dX6_joinedWord_20 : decode cX6_joinedWord 20 = .ok (.ireturn, 1) := by decide +kernel
theorem dX6_reciprocal_0 : decode cX6_reciprocal 0 = .ok (.iconst 1, 1) := by decide +kernel
theorem dX6_reciprocal_1 : decode cX6_reciprocal 1 = .ok (.istore_n 1, 1) := by decide +kernel
theorem dX6_reciprocal_2 : decode cX6_reciprocal 2 = .ok (.iload_n 0, 1) := by decide +kernel
theorem dX6_reciprocal_3 : decode cX6_reciprocal 3 = .ok (.istore_n 2, 1) := by decide +kernel
theorem dX6_reciprocal_4 : decode cX6_reciprocal 4 = .ok (.sipush 10005, 3) := by decide +kernel
theorem dX6_reciprocal_7 : decode cX6_reciprocal 7 = .ok (.istore_n 3, 1) := by decide +kernel
theorem dX6_reciprocal_8 : decode cX6_reciprocal 8 = .ok (.iload_n 3, 1) := by decide +kernel
theorem dX6_reciprocal_9 : decode cX6_reciprocal 9 = .ok (.ifCond .le 33, 3) := by decide +kernel
theorem dX6_reciprocal_12 : decode cX6_reciprocal 12 = .ok (.iload_n 3, 1) := by decide +kernel
theorem dX6_reciprocal_13 : decode cX6_reciprocal 13 = .ok (.iconst 1, 1) := by decide +kernel
theorem dX6_reciprocal_14 : decode cX6_reciprocal 14 = .ok (.iand, 1) := by decide +kernel
theorem dX6_reciprocal_15 : decode cX6_reciprocal 15 = .ok (.iconst 1, 1) := by decide +kernel
theorem dX6_reciprocal_16 : decode cX6_reciprocal 16 = .ok (.if_icmp .ne 11, 3) := by decide +kernel
theorem dX6_reciprocal_19 : decode cX6_reciprocal 19 = .ok (.iload_n 1, 1) := by decide +kernel
theorem dX6_reciprocal_20 : decode cX6_reciprocal 20 = .ok (.iload_n 2, 1) := by decide +kernel
theorem dX6_reciprocal_21 : decode cX6_reciprocal 21 = .ok (.imul, 1) := by decide +kernel
theorem dX6_reciprocal_22 : decode cX6_reciprocal 22 = .ok (.sipush 10007, 3) := by decide +kernel
theorem dX6_reciprocal_25 : decode cX6_reciprocal 25 = .ok (.irem, 1) := by decide +kernel
theorem dX6_reciprocal_26 : decode cX6_reciprocal 26 = .ok (.istore_n 1, 1) := by decide +kernel
theorem dX6_reciprocal_27 : decode cX6_reciprocal 27 = .ok (.iload_n 2, 1) := by decide +kernel
theorem dX6_reciprocal_28 : decode cX6_reciprocal 28 = .ok (.iload_n 2, 1) := by decide +kernel
theorem dX6_reciprocal_29 : decode cX6_reciprocal 29 = .ok (.imul, 1) := by decide +kernel
theorem dX6_reciprocal_30 : decode cX6_reciprocal 30 = .ok (.sipush 10007, 3) := by decide +kernel
theorem dX6_reciprocal_33 : decode cX6_reciprocal 33 = .ok (.irem, 1) := by decide +kernel
theorem dX6_reciprocal_34 : decode cX6_reciprocal 34 = .ok (.istore_n 2, 1) := by decide +kernel
theorem dX6_reciprocal_35 : decode cX6_reciprocal 35 = .ok (.iload_n 3, 1) := by decide +kernel
theorem dX6_reciprocal_36 : decode cX6_reciprocal 36 = .ok (.iconst 1, 1) := by decide +kernel
theorem dX6_reciprocal_37 : decode cX6_reciprocal 37 = .ok (.ishr, 1) := by decide +kernel
theorem dX6_reciprocal_38 : decode cX6_reciprocal 38 = .ok (.istore_n 3, 1) := by decide +kernel
theorem dX6_reciprocal_39 : decode cX6_reciprocal 39 = .ok (.goto (-31), 3) := by decide +kernel
theorem dX6_reciprocal_42 : decode cX6_reciprocal 42 = .ok (.iload_n 1, 1) := by decide +kernel
theorem dX6_reciprocal_43 : decode cX6_reciprocal 43 = .ok (.ireturn, 1) := by decide +kernel
theorem dX6_addMultiple_0 : decode cX6_addMultiple 0 = .ok (.iconst 0, 1) := by decide +kernel
theorem dX6_addMultiple_1 : decode cX6_addMultiple 1 = .ok (.istore 4, 2) := by decide +kernel
theorem dX6_addMultiple_3 : decode cX6_addMultiple 3 = .ok (.iload 4, 2) := by decide +kernel
theorem dX6_addMultiple_5 : decode cX6_addMultiple 5 = .ok (.iload_n 3, 1) := by decide +kernel
theorem dX6_addMultiple_6 : decode cX6_addMultiple 6 = .ok (.if_icmp .ge 28, 3) := by decide +kernel
theorem dX6_addMultiple_9 : decode cX6_addMultiple 9 = .ok (.aload_n 0, 1) := by decide +kernel
theorem dX6_addMultiple_10 : decode cX6_addMultiple 10 = .ok (.iload 4, 2) := by decide +kernel
theorem dX6_addMultiple_12 : decode cX6_addMultiple 12 = .ok (.aload_n 0, 1) := by decide +kernel
theorem dX6_addMultiple_13 : decode cX6_addMultiple 13 = .ok (.iload 4, 2) := by decide +kernel
theorem dX6_addMultiple_15 : decode cX6_addMultiple 15 = .ok (.iaload, 1) := by decide +kernel
theorem dX6_addMultiple_16 : decode cX6_addMultiple 16 = .ok (.iload_n 1, 1) := by decide +kernel
theorem dX6_addMultiple_17 : decode cX6_addMultiple 17 = .ok (.aload_n 2, 1) := by decide +kernel
theorem dX6_addMultiple_18 : decode cX6_addMultiple 18 = .ok (.iload 4, 2) := by decide +kernel
theorem dX6_addMultiple_20 : decode cX6_addMultiple 20 = .ok (.iaload, 1) := by decide +kernel
theorem dX6_addMultiple_21 : decode cX6_addMultiple 21 = .ok (.imul, 1) := by decide +kernel
theorem dX6_addMultiple_22 : decode cX6_addMultiple 22 = .ok (.iadd, 1) := by decide +kernel
theorem dX6_addMultiple_23 : decode cX6_addMultiple 23 = .ok (.sipush 10007, 3) := by decide +kernel
theorem dX6_addMultiple_26 : decode cX6_addMultiple 26 = .ok (.irem, 1) := by decide +kernel
theorem dX6_addMultiple_27 : decode cX6_addMultiple 27 = .ok (.iastore, 1) := by decide +kernel
theorem dX6_addMultiple_28 : decode cX6_addMultiple 28 = .ok (.iinc 4 1, 3) := by decide +kernel
theorem dX6_addMultiple_31 : decode cX6_addMultiple 31 = .ok (.goto (-28), 3) := by decide +kernel
theorem dX6_addMultiple_34 : decode cX6_addMultiple 34 = .ok (.return_, 1) := by decide +kernel
theorem dX6_multiply_0 : decode cX6_multiply 0 = .ok (.iconst 0, 1) := by decide +kernel
theorem dX6_multiply_1 : decode cX6_multiply 1 = .ok (.istore_n 3, 1) := by decide +kernel
theorem dX6_multiply_2 : decode cX6_multiply 2 = .ok (.iload_n 3, 1) := by decide +kernel
theorem dX6_multiply_3 : decode cX6_multiply 3 = .ok (.iload_n 2, 1) := by decide +kernel
theorem dX6_multiply_4 : decode cX6_multiply 4 = .ok (.if_icmp .ge 21, 3) := by decide +kernel
theorem dX6_multiply_7 : decode cX6_multiply 7 = .ok (.aload_n 0, 1) := by decide +kernel
theorem dX6_multiply_8 : decode cX6_multiply 8 = .ok (.iload_n 3, 1) := by decide +kernel
theorem dX6_multiply_9 : decode cX6_multiply 9 = .ok (.aload_n 0, 1) := by decide +kernel
theorem dX6_multiply_10 : decode cX6_multiply 10 = .ok (.iload_n 3, 1) := by decide +kernel
theorem dX6_multiply_11 : decode cX6_multiply 11 = .ok (.iaload, 1) := by decide +kernel
theorem dX6_multiply_12 : decode cX6_multiply 12 = .ok (.iload_n 1, 1) := by decide +kernel
theorem dX6_multiply_13 : decode cX6_multiply 13 = .ok (.imul, 1) := by decide +kernel
theorem dX6_multiply_14 : decode cX6_multiply 14 = .ok (.sipush 10007, 3) := by decide +kernel
theorem dX6_multiply_17 : decode cX6_multiply 17 = .ok (.irem, 1) := by decide +kernel
theorem dX6_multiply_18 : decode cX6_multiply 18 = .ok (.iastore, 1) := by decide +kernel
theorem dX6_multiply_19 : decode cX6_multiply 19 = .ok (.iinc 3 1, 3) := by decide +kernel
theorem dX6_multiply_22 : decode cX6_multiply 22 = .ok (.goto (-20), 3) := by decide +kernel
theorem dX6_multiply_25 : decode cX6_multiply 25 = .ok (.return_, 1) := by decide +kernel
theorem dX6_firstNonZero_0 : decode cX6_firstNonZero 0 = .ok (.iconst 0, 1) := by decide +kernel
theorem dX6_firstNonZero_1 : decode cX6_firstNonZero 1 = .ok (.istore_n 2, 1) := by decide +kernel
theorem dX6_firstNonZero_2 : decode cX6_firstNonZero 2 = .ok (.iload_n 2, 1) := by decide +kernel
theorem dX6_firstNonZero_3 : decode cX6_firstNonZero 3 = .ok (.iload_n 1, 1) := by decide +kernel
theorem dX6_firstNonZero_4 : decode cX6_firstNonZero 4 = .ok (.if_icmp .ge 17, 3) := by decide +kernel
theorem dX6_firstNonZero_7 : decode cX6_firstNonZero 7 = .ok (.aload_n 0, 1) := by decide +kernel
theorem dX6_firstNonZero_8 : decode cX6_firstNonZero 8 = .ok (.iload_n 2, 1) := by decide +kernel
theorem dX6_firstNonZero_9 : decode cX6_firstNonZero 9 = .ok (.iaload, 1) := by decide +kernel
theorem dX6_firstNonZero_10 : decode cX6_firstNonZero 10 = .ok (.ifCond .eq 5, 3) := by decide +kernel
theorem dX6_firstNonZero_13 : decode cX6_firstNonZero 13 = .ok (.iload_n 2, 1) := by decide +kernel
theorem dX6_firstNonZero_14 : decode cX6_firstNonZero 14 = .ok (.ireturn, 1) := by decide +kernel
theorem dX6_firstNonZero_15 : decode cX6_firstNonZero 15 = .ok (.iinc 2 1, 3) := by decide +kernel
theorem dX6_firstNonZero_18 : decode cX6_firstNonZero 18 = .ok (.goto (-16), 3) := by decide +kernel
theorem dX6_firstNonZero_21 : decode cX6_firstNonZero 21 = .ok (.iconst (-1), 1) := by decide +kernel
theorem dX6_firstNonZero_22 : decode cX6_firstNonZero 22 = .ok (.ireturn, 1) := by decide +kernel
theorem dJ7_rangeCheck_23922_0 : decode cJ7_rangeCheck_23922 0 = .ok (.iload_n 1, 1) := by decide +kernel
theorem dJ7_rangeCheck_23922_1 : decode cJ7_rangeCheck_23922 1 = .ok (.iload_n 2, 1) := by decide +kernel
theorem dJ7_rangeCheck_23922_2 : decode cJ7_rangeCheck_23922 2 = .ok (.if_icmp .le 44, 3) := by decide +kernel
theorem dJ7_rangeCheck_23922_5 : decode cJ7_rangeCheck_23922 5 = .ok (.new 43, 3) := by decide +kernel
theorem dJ7_rangeCheck_23922_8 : decode cJ7_rangeCheck_23922 8 = .ok (.dup, 1) := by decide +kernel
theorem dJ7_rangeCheck_23922_9 : decode cJ7_rangeCheck_23922 9 = .ok (.new 45, 3) := by decide +kernel
theorem dJ7_rangeCheck_23922_12 : decode cJ7_rangeCheck_23922 12 = .ok (.dup, 1) := by decide +kernel
theorem dJ7_rangeCheck_23922_13 : decode cJ7_rangeCheck_23922 13 = .ok (.invokespecial 47, 3) := by decide +kernel
theorem dJ7_rangeCheck_23922_16 : decode cJ7_rangeCheck_23922 16 = .ok (.ldc 48, 2) := by decide +kernel
theorem dJ7_rangeCheck_23922_18 : decode cJ7_rangeCheck_23922 18 = .ok (.invokevirtual 50, 3) := by decide +kernel
theorem dJ7_rangeCheck_23922_21 : decode cJ7_rangeCheck_23922 21 = .ok (.iload_n 1, 1) := by decide +kernel
theorem dJ7_rangeCheck_23922_22 : decode cJ7_rangeCheck_23922 22 = .ok (.invokevirtual 54, 3) := by decide +kernel
theorem dJ7_rangeCheck_23922_25 : decode cJ7_rangeCheck_23922 25 = .ok (.ldc 57, 2) := by decide +kernel
theorem dJ7_rangeCheck_23922_27 : decode cJ7_rangeCheck_23922 27 = .ok (.invokevirtual 50, 3) := by decide +kernel
theorem dJ7_rangeCheck_23922_30 : decode cJ7_rangeCheck_23922 30 = .ok (.iload_n 2, 1) := by decide +kernel
theorem dJ7_rangeCheck_23922_31 : decode cJ7_rangeCheck_23922 31 = .ok (.invokevirtual 54, 3) := by decide +kernel
theorem dJ7_rangeCheck_23922_34 : decode cJ7_rangeCheck_23922 34 = .ok (.ldc 59, 2) := by decide +kernel
theorem dJ7_rangeCheck_23922_36 : decode cJ7_rangeCheck_23922 36 = .ok (.invokevirtual 50, 3) := by decide +kernel
theorem dJ7_rangeCheck_23922_39 : decode cJ7_rangeCheck_23922 39 = .ok (.invokevirtual 61, 3) := by decide +kernel
theorem dJ7_rangeCheck_23922_42 : decode cJ7_rangeCheck_23922 42 = .ok (.invokespecial 65, 3) := by decide +kernel
theorem dJ7_rangeCheck_23922_45 : decode cJ7_rangeCheck_23922 45 = .ok (.athrow, 1) := by decide +kernel
theorem dJ7_rangeCheck_23922_46 : decode cJ7_rangeCheck_23922 46 = .ok (.iload_n 1, 1) := by decide +kernel
theorem dJ7_rangeCheck_23922_47 : decode cJ7_rangeCheck_23922 47 = .ok (.ifCond .ge 12, 3) := by decide +kernel
theorem dJ7_rangeCheck_23922_50 : decode cJ7_rangeCheck_23922 50 = .ok (.new 68, 3) := by decide +kernel
theorem dJ7_rangeCheck_23922_53 : decode cJ7_rangeCheck_23922 53 = .ok (.dup, 1) := by decide +kernel
theorem dJ7_rangeCheck_23922_54 : decode cJ7_rangeCheck_23922 54 = .ok (.iload_n 1, 1) := by decide +kernel
theorem dJ7_rangeCheck_23922_55 : decode cJ7_rangeCheck_23922 55 = .ok (.invokespecial 70, 3) := by decide +kernel
theorem dJ7_rangeCheck_23922_58 : decode cJ7_rangeCheck_23922 58 = .ok (.athrow, 1) := by decide +kernel
theorem dJ7_rangeCheck_23922_59 : decode cJ7_rangeCheck_23922 59 = .ok (.iload_n 2, 1) := by decide +kernel
theorem dJ7_rangeCheck_23922_60 : decode cJ7_rangeCheck_23922 60 = .ok (.iload_n 0, 1) := by decide +kernel
theorem dJ7_rangeCheck_23922_61 : decode cJ7_rangeCheck_23922 61 = .ok (.if_icmp .le 12, 3) := by decide +kernel
theorem dJ7_rangeCheck_23922_64 : decode cJ7_rangeCheck_23922 64 = .ok (.new 68, 3) := by decide +kernel
theorem dJ7_rangeCheck_23922_67 : decode cJ7_rangeCheck_23922 67 = .ok (.dup, 1) := by decide +kernel
theorem dJ7_rangeCheck_23922_68 : decode cJ7_rangeCheck_23922 68 = .ok (.iload_n 2, 1) := by decide +kernel
theorem dJ7_rangeCheck_23922_69 : decode cJ7_rangeCheck_23922 69 = .ok (.invokespecial 70, 3) := by decide +kernel
theorem dJ7_rangeCheck_23922_72 : decode cJ7_rangeCheck_23922 72 = .ok (.athrow, 1) := by decide +kernel
theorem dJ7_rangeCheck_23922_73 : decode cJ7_rangeCheck_23922 73 = .ok (.return_, 1) := by decide +kernel
theorem dJ7_fill_53178_0 : decode cJ7_fill_53178 0 = .ok (.iconst 0, 1) := by decide +kernel
theorem dJ7_fill_53178_1 : decode cJ7_fill_53178 1 = .ok (.istore_n 2, 1) := by decide +kernel
theorem dJ7_fill_53178_2 : decode cJ7_fill_53178 2 = .ok (.aload_n 0, 1) := by decide +kernel
theorem dJ7_fill_53178_3 : decode cJ7_fill_53178 3 = .ok (.arraylength, 1) := by decide +kernel
theorem dJ7_fill_53178_4 : decode cJ7_fill_53178 4 = .ok (.istore_n 3, 1) := by decide +kernel
theorem dJ7_fill_53178_5 : decode cJ7_fill_53178 5 = .ok (.iload_n 2, 1) := by decide +kernel
theorem dJ7_fill_53178_6 : decode cJ7_fill_53178 6 = .ok (.iload_n 3, 1) := by decide +kernel
theorem dJ7_fill_53178_7 : decode cJ7_fill_53178 7 = .ok (.if_icmp .ge 13, 3) := by decide +kernel
theorem dJ7_fill_53178_10 : decode cJ7_fill_53178 10 = .ok (.aload_n 0, 1) := by decide +kernel
theorem dJ7_fill_53178_11 : decode cJ7_fill_53178 11 = .ok (.iload_n 2, 1) := by decide +kernel
theorem dJ7_fill_53178_12 : decode cJ7_fill_53178 12 = .ok (.iload_n 1, 1) := by decide +kernel
theorem dJ7_fill_53178_13 : decode cJ7_fill_53178 13 = .ok (.iastore, 1) := by decide +kernel
theorem dJ7_fill_53178_14 : decode cJ7_fill_53178 14 = .ok (.iinc 2 1, 3) := by decide +kernel
theorem dJ7_fill_53178_17 : decode cJ7_fill_53178 17 = .ok (.goto (-12), 3) := by decide +kernel
theorem dJ7_fill_53178_20 : decode cJ7_fill_53178 20 = .ok (.return_, 1) := by decide +kernel
theorem dJ7_fill_fda19_0 : decode cJ7_fill_fda19 0 = .ok (.aload_n 0, 1) := by decide +kernel
theorem dJ7_fill_fda19_1 : decode cJ7_fill_fda19 1 = .ok (.arraylength, 1) := by decide +kernel
theorem dJ7_fill_fda19_2 : decode cJ7_fill_fda19 2 = .ok (.iload_n 1, 1) := by decide +kernel
theorem dJ7_fill_fda19_3 : decode cJ7_fill_fda19 3 = .ok (.iload_n 2, 1) := by decide +kernel
theorem dJ7_fill_fda19_4 : decode cJ7_fill_fda19 4 = .ok (.invokestatic 13, 3) := by decide +kernel
theorem dJ7_fill_fda19_7 : decode cJ7_fill_fda19 7 = .ok (.iload_n 1, 1) := by decide +kernel
theorem dJ7_fill_fda19_8 : decode cJ7_fill_fda19 8 = .ok (.istore 4, 2) := by decide +kernel
theorem dJ7_fill_fda19_10 : decode cJ7_fill_fda19 10 = .ok (.iload 4, 2) := by decide +kernel
theorem dJ7_fill_fda19_12 : decode cJ7_fill_fda19 12 = .ok (.iload_n 2, 1) := by decide +kernel
theorem dJ7_fill_fda19_13 : decode cJ7_fill_fda19 13 = .ok (.if_icmp .ge 14, 3) := by decide +kernel
theorem dJ7_fill_fda19_16 : decode cJ7_fill_fda19 16 = .ok (.aload_n 0, 1) := by decide +kernel
theorem dJ7_fill_fda19_17 : decode cJ7_fill_fda19 17 = .ok (.iload 4, 2) := by decide +kernel
theorem dJ7_fill_fda19_19 : decode cJ7_fill_fda19 19 = .ok (.iload_n 3, 1) := by decide +kernel
theorem dJ7_fill_fda19_20 : decode cJ7_fill_fda19 20 = .ok (.iastore, 1) := by decide +kernel
theorem dJ7_fill_fda19_21 : decode cJ7_fill_fda19 21 = .ok (.iinc 4 1, 3) := by decide +kernel
theorem dJ7_fill_fda19_24 : decode cJ7_fill_fda19 24 = .ok (.goto (-14), 3) := by decide +kernel
theorem dJ7_fill_fda19_27 : decode cJ7_fill_fda19 27 = .ok (.return_, 1) := by decide +kernel
theorem dL_cell_0 : decode cL_cell 0 = .ok (.iload_n 1, 1) := by decide +kernel
theorem dL_cell_1 : decode cL_cell 1 = .ok (.aload_n 0, 1) := by decide +kernel
theorem dL_cell_2 : decode cL_cell 2 = .ok (.arraylength, 1) := by decide +kernel
theorem dL_cell_3 : decode cL_cell 3 = .ok (.if_icmp .ge 9, 3) := by decide +kernel
theorem dL_cell_6 : decode cL_cell 6 = .ok (.aload_n 0, 1) := by decide +kernel
theorem dL_cell_7 : decode cL_cell 7 = .ok (.iload_n 1, 1) := by decide +kernel
theorem dL_cell_8 : decode cL_cell 8 = .ok (.iaload, 1) := by decide +kernel
theorem dL_cell_9 : decode cL_cell 9 = .ok (.goto 11, 3) := by decide +kernel
theorem dL_cell_12 : decode cL_cell 12 = .ok (.ldc 7, 2) := by decide +kernel
theorem dL_cell_14 : decode cL_cell 14 = .ok (.iload_n 1, 1) := by decide +kernel
theorem dL_cell_15 : decode cL_cell 15 = .ok (.sipush 461, 3) := by decide +kernel
theorem dL_cell_18 : decode cL_cell 18 = .ok (.iadd, 1) := by decide +kernel
theorem dL_cell_19 : decode cL_cell 19 = .ok (.imul, 1) := by decide +kernel
theorem dL_cell_20 : decode cL_cell 20 = .ok (.ireturn, 1) := by decide +kernel
theorem dL_up_0 : decode cL_up 0 = .ok (.iload_n 0, 1) := by decide +kernel
theorem dL_up_1 : decode cL_up 1 = .ok (.ldc 8, 2) := by decide +kernel
theorem dL_up_3 : decode cL_up 3 = .ok (.iand, 1) := by decide +kernel
theorem dL_up_4 : decode cL_up 4 = .ok (.iload_n 1, 1) := by decide +kernel
theorem dL_up_5 : decode cL_up 5 = .ok (.irem, 1) := by decide +kernel
theorem dL_up_6 : decode cL_up 6 = .ok (.ireturn, 1) := by decide +kernel
theorem dL_draws_0 : decode cL_draws 0 = .ok (.iconst 1, 1) := by decide +kernel
theorem dL_draws_1 : decode cL_draws 1 = .ok (.istore_n 2, 1) := by decide +kernel
theorem dL_draws_2 : decode cL_draws 2 = .ok (.iconst 0, 1) := by decide +kernel
theorem dL_draws_3 : decode cL_draws 3 = .ok (.istore_n 3, 1) := by decide +kernel
theorem dL_draws_4 : decode cL_draws 4 = .ok (.iload_n 3, 1) := by decide +kernel
theorem dL_draws_5 : decode cL_draws 5 = .ok (.iconst 3, 1) := by decide +kernel
theorem dL_draws_6 : decode cL_draws 6 = .ok (.if_icmp .ge 52, 3) := by decide +kernel
theorem dL_draws_9 : decode cL_draws 9 = .ok (.iload_n 2, 1) := by decide +kernel
theorem dL_draws_10 : decode cL_draws 10 = .ok (.ifCond .eq 40, 3) := by decide +kernel
theorem dL_draws_13 : decode cL_draws 13 = .ok (.aload_n 0, 1) := by decide +kernel
theorem dL_draws_14 : decode cL_draws 14 = .ok (.iload_n 3, 1) := by decide +kernel
theorem dL_draws_15 : decode cL_draws 15 = .ok (.aload_n 1, 1) := by decide +kernel
theorem dL_draws_16 : decode cL_draws 16 = .ok (.iconst 2, 1) := by decide +kernel
theorem dL_draws_17 : decode cL_draws 17 = .ok (.iload_n 3, 1) := by decide +kernel
theorem dL_draws_18 : decode cL_draws 18 = .ok (.imul, 1) := by decide +kernel
theorem dL_draws_19 : decode cL_draws 19 = .ok (.invokestatic 9, 3) := by decide +kernel
theorem dL_draws_22 : decode cL_draws 22 = .ok (.iconst 3, 1) := by decide +kernel
theorem dL_draws_23 : decode cL_draws 23 = .ok (.invokestatic 15, 3) := by decide +kernel
theorem dL_draws_26 : decode cL_draws 26 = .ok (.aload_n 1, 1) := by decide +kernel
theorem dL_draws_27 : decode cL_draws 27 = .ok (.iconst 2, 1) := by decide +kernel
theorem dL_draws_28 : decode cL_draws 28 = .ok (.iload_n 3, 1) := by decide +kernel
theorem dL_draws_29 : decode cL_draws 29 = .ok (.imul, 1) := by decide +kernel
theorem dL_draws_30 : decode cL_draws 30 = .ok (.iconst 1, 1) := by decide +kernel
theorem dL_draws_31 : decode cL_draws 31 = .ok (.iadd, 1) := by decide +kernel
theorem dL_draws_32 : decode cL_draws 32 = .ok (.invokestatic 9, 3) := by decide +kernel
theorem dL_draws_35 : decode cL_draws 35 = .ok (.ldc 19, 2) := by decide +kernel
theorem dL_draws_37 : decode cL_draws 37 = .ok (.invokestatic 15, 3) := by decide +kernel
theorem dL_draws_40 : decode cL_draws 40 = .ok (.invokevirtual 20, 3) := by decide +kernel
theorem dL_draws_43 : decode cL_draws 43 = .ok (.ifCond .lt 7, 3) := by decide +kernel
theorem dL_draws_46 : decode cL_draws 46 = .ok (.iconst 1, 1) := by decide +kernel
theorem dL_draws_47 : decode cL_draws 47 = .ok (.goto 4, 3) := by decide +kernel
theorem dL_draws_50 : decode cL_draws 50 = .ok (.iconst 0, 1) := by decide +kernel
theorem dL_draws_51 : decode cL_draws 51 = .ok (.istore_n 2, 1) := by decide +kernel
theorem dL_draws_52 : decode cL_draws 52 = .ok (.iinc 3 1, 3) := by decide +kernel
theorem dL_draws_55 : decode cL_draws 55 = .ok (.goto (-51), 3) := by decide +kernel
theorem dL_draws_58 : decode cL_draws 58 = .ok (.iload_n 2, 1) := by decide +kernel
theorem dL_draws_59 : decode cL_draws 59 = .ok (.ireturn, 1) := by decide +kernel
theorem dL_isSpread_0 : decode cL_isSpread 0 = .ok (.aload_n 0, 1) := by decide +kernel
theorem dL_isSpread_1 : decode cL_isSpread 1 = .ok (.iconst 3, 1) := by decide +kernel
theorem dL_isSpread_2 : decode cL_isSpread 2 = .ok (.iconst 1, 1) := by decide +kernel
theorem dL_isSpread_3 : decode cL_isSpread 3 = .ok (.iconst 2, 1) := by decide +kernel
theorem dL_isSpread_4 : decode cL_isSpread 4 = .ok (.iconst 0, 1) := by decide +kernel
theorem dL_isSpread_5 : decode cL_isSpread 5 = .ok (.invokevirtual 26, 3) := by decide +kernel
theorem dL_isSpread_8 : decode cL_isSpread 8 = .ok (.ifCond .lt 18, 3) := by decide +kernel
theorem dL_isSpread_11 : decode cL_isSpread 11 = .ok (.aload_n 0, 1) := by decide +kernel
theorem dL_isSpread_12 : decode cL_isSpread 12 = .ok (.iconst 3, 1) := by decide +kernel
theorem dL_isSpread_13 : decode cL_isSpread 13 = .ok (.iconst 0, 1) := by decide +kernel
theorem dL_isSpread_14 : decode cL_isSpread 14 = .ok (.iconst 3, 1) := by decide +kernel
theorem dL_isSpread_15 : decode cL_isSpread 15 = .ok (.iload_n 2, 1) := by decide +kernel
theorem dL_isSpread_16 : decode cL_isSpread 16 = .ok (.invokevirtual 26, 3) := by decide +kernel
theorem dL_isSpread_19 : decode cL_isSpread 19 = .ok (.ifCond .lt 7, 3) := by decide +kernel
theorem dL_isSpread_22 : decode cL_isSpread 22 = .ok (.iconst 1, 1) := by decide +kernel
theorem dL_isSpread_23 : decode cL_isSpread 23 = .ok (.goto 4, 3) := by decide +kernel
theorem dL_isSpread_26 : decode cL_isSpread 26 = .ok (.iconst 0, 1) := by decide +kernel
theorem dL_isSpread_27 : decode cL_isSpread 27 = .ok (.istore_n 3, 1) := by decide +kernel
theorem dL_isSpread_28 : decode cL_isSpread 28 = .ok (.iload_n 3, 1) := by decide +kernel
theorem dL_isSpread_29 : decode cL_isSpread 29 = .ok (.ifCond .eq 12, 3) := by decide +kernel
theorem dL_isSpread_32 : decode cL_isSpread 32 = .ok (.aload_n 0, 1) := by decide +kernel
theorem dL_isSpread_33 : decode cL_isSpread 33 = .ok (.iconst 3, 1) := by decide +kernel
theorem dL_isSpread_34 : decode cL_isSpread 34 = .ok (.iconst 2, 1) := by decide +kernel
theorem dL_isSpread_35 : decode cL_isSpread 35 = .ok (.invokevirtual 30, 3) := by decide +kernel
theorem dL_isSpread_38 : decode cL_isSpread 38 = .ok (.goto 4, 3) := by decide +kernel
theorem dL_isSpread_41 : decode cL_isSpread 41 = .ok (.iconst 0, 1) := by decide +kernel
theorem dL_isSpread_42 : decode cL_isSpread 42 = .ok (.istore 4, 2) := by decide +kernel
theorem dL_isSpread_44 : decode cL_isSpread 44 = .ok (.iload_n 3, 1) := by decide +kernel
theorem dL_isSpread_45 : decode cL_isSpread 45 = .ok (.ifCond .eq 51, 3) := by decide +kernel
theorem dL_isSpread_48 : decode cL_isSpread 48 = .ok (.aload_n 1, 1) := by decide +kernel
theorem dL_isSpread_49 : decode cL_isSpread 49 = .ok (.iconst 3, 1) := by decide +kernel
theorem dL_isSpread_50 : decode cL_isSpread 50 = .ok (.iconst 0, 1) := by decide +kernel
theorem dL_isSpread_51 : decode cL_isSpread 51 = .ok (.iconst 2, 1) := by decide +kernel
theorem dL_isSpread_52 : decode cL_isSpread 52 = .ok (.iload_n 2, 1) := by decide +kernel
theorem dL_isSpread_53 : decode cL_isSpread 53 = .ok (.invokevirtual 26, 3) := by decide +kernel
theorem dL_isSpread_56 : decode cL_isSpread 56 = .ok (.ifCond .lt 40, 3) := by decide +kernel
theorem dL_isSpread_59 : decode cL_isSpread 59 = .ok (.aload_n 1, 1) := by decide +kernel
theorem dL_isSpread_60 : decode cL_isSpread 60 = .ok (.iconst 2, 1) := by decide +kernel
theorem dL_isSpread_61 : decode cL_isSpread 61 = .ok (.iconst 0, 1) := by decide +kernel
theorem dL_isSpread_62 : decode cL_isSpread 62 = .ok (.iconst 1, 1) := by decide +kernel
theorem dL_isSpread_63 : decode cL_isSpread 63 = .ok (.iload_n 2, 1) := by decide +kernel
theorem dL_isSpread_64 : decode cL_isSpread 64 = .ok (.invokevirtual 26, 3) := by decide +kernel
theorem dL_isSpread_67 : decode cL_isSpread 67 = .ok (.ifCond .lt 29, 3) := by decide +kernel
theorem dL_isSpread_70 : decode cL_isSpread 70 = .ok (.aload_n 1, 1) := by decide +kernel
theorem dL_isSpread_71 : decode cL_isSpread 71 = .ok (.iconst 3, 1) := by decide +kernel
theorem dL_isSpread_72 : decode cL_isSpread 72 = .ok (.iconst 2, 1) := by decide +kernel
theorem dL_isSpread_73 : decode cL_isSpread 73 = .ok (.iconst 3, 1) := by decide +kernel
theorem dL_isSpread_74 : decode cL_isSpread 74 = .ok (.iconst 0, 1) := by decide +kernel
theorem dL_isSpread_75 : decode cL_isSpread 75 = .ok (.invokevirtual 26, 3) := by decide +kernel
theorem dL_isSpread_78 : decode cL_isSpread 78 = .ok (.ifCond .lt 18, 3) := by decide +kernel
theorem dL_isSpread_81 : decode cL_isSpread 81 = .ok (.aload_n 1, 1) := by decide +kernel
theorem dL_isSpread_82 : decode cL_isSpread 82 = .ok (.iconst 3, 1) := by decide +kernel
theorem dL_isSpread_83 : decode cL_isSpread 83 = .ok (.iconst 2, 1) := by decide +kernel
theorem dL_isSpread_84 : decode cL_isSpread 84 = .ok (.invokevirtual 30, 3) := by decide +kernel
theorem dL_isSpread_87 : decode cL_isSpread 87 = .ok (.iload 4, 2) := by decide +kernel
theorem dL_isSpread_89 : decode cL_isSpread 89 = .ok (.if_icmp .ne 7, 3) := by decide +kernel
theorem dL_isSpread_92 : decode cL_isSpread 92 = .ok (.iconst 1, 1) := by decide +kernel
theorem dL_isSpread_93 : decode cL_isSpread 93 = .ok (.goto 4, 3) := by decide +kernel
theorem dL_isSpread_96 : decode cL_isSpread 96 = .ok (.iconst 0, 1) := by decide +kernel
theorem dL_isSpread_97 : decode cL_isSpread 97 = .ok (.istore_n 3, 1) := by decide +kernel
theorem dL_isSpread_98 : decode cL_isSpread 98 = .ok (.iconst 0, 1) := by decide +kernel
theorem dL_isSpread_99 : decode cL_isSpread 99 = .ok (.istore 5, 2) := by decide +kernel
theorem dL_isSpread_101 : decode cL_isSpread 101 = .ok (.iload 5, 2) := by decide +kernel
theorem dL_isSpread_103 : decode cL_isSpread 103 = .ok (.bipush 12, 2) := by decide +kernel
theorem dL_isSpread_105 : decode cL_isSpread 105 = .ok (.if_icmp .ge 63, 3) := by decide +kernel
theorem dL_isSpread_108 : decode cL_isSpread 108 = .ok (.iload_n 3, 1) := by decide +kernel
theorem dL_isSpread_109 : decode cL_isSpread 109 = .ok (.ifCond .eq 59, 3) := by decide +kernel
theorem dL_isSpread_112 : decode cL_isSpread 112 = .ok (.aload_n 0, 1) := by decide +kernel
theorem dL_isSpread_113 : decode cL_isSpread 113 = .ok (.iconst 3, 1) := by decide +kernel
theorem dL_isSpread_114 : decode cL_isSpread 114 = .ok (.iload 5, 2) := by decide +kernel
theorem dL_isSpread_116 : decode cL_isSpread 116 = .ok (.invokevirtual 33, 3) := by decide +kernel
theorem dL_isSpread_119 : decode cL_isSpread 119 = .ok (.aload_n 1, 1) := by decide +kernel
theorem dL_isSpread_120 : decode cL_isSpread 120 = .ok (.iconst 3, 1) := by decide +kernel
theorem dL_isSpread_121 : decode cL_isSpread 121 = .ok (.iload 5, 2) := by decide +kernel
theorem dL_isSpread_123 : decode cL_isSpread 123 = .ok (.invokevirtual 33, 3) := by decide +kernel
theorem dL_isSpread_126 : decode cL_isSpread 126 = .ok (.if_icmp .ne 34, 3) := by decide +kernel
theorem dL_isSpread_129 : decode cL_isSpread 129 = .ok (.aload_n 0, 1) := by decide +kernel
theorem dL_isSpread_130 : decode cL_isSpread 130 = .ok (.iconst 3, 1) := by decide +kernel
theorem dL_isSpread_131 : decode cL_isSpread 131 = .ok (.bipush 7, 2) := by decide +kernel
theorem dL_isSpread_133 : decode cL_isSpread 133 = .ok (.iload 5, 2) := by decide +kernel
theorem dL_isSpread_135 : decode cL_isSpread 135 = .ok (.imul, 1) := by decide +kernel
theorem dL_isSpread_136 : decode cL_isSpread 136 = .ok (.iconst 3, 1) := by decide +kernel
theorem dL_isSpread_137 : decode cL_isSpread 137 = .ok (.iadd, 1) := by decide +kernel
theorem dL_isSpread_138 : decode cL_isSpread 138 = .ok (.invokevirtual 36, 3) := by decide +kernel
theorem dL_isSpread_141 : decode cL_isSpread 141 = .ok (.aload_n 1, 1) := by decide +kernel
theorem dL_isSpread_142 : decode cL_isSpread 142 = .ok (.iconst 3, 1) := by decide +kernel
theorem dL_isSpread_143 : decode cL_isSpread 143 = .ok (.bipush 7, 2) := by decide +kernel
theorem dL_isSpread_145 : decode cL_isSpread 145 = .ok (.iload 5, 2) := by decide +kernel
theorem dL_isSpread_147 : decode cL_isSpread 147 = .ok (.imul, 1) := by decide +kernel
theorem dL_isSpread_148 : decode cL_isSpread 148 = .ok (.iconst 3, 1) := by decide +kernel
theorem dL_isSpread_149 : decode cL_isSpread 149 = .ok (.iadd, 1) := by decide +kernel
theorem dL_isSpread_150 : decode cL_isSpread 150 = .ok (.invokevirtual 36, 3) := by decide +kernel
theorem dL_isSpread_153 : decode cL_isSpread 153 = .ok (.if_icmp .ne 7, 3) := by decide +kernel
theorem dL_isSpread_156 : decode cL_isSpread 156 = .ok (.iconst 1, 1) := by decide +kernel
theorem dL_isSpread_157 : decode cL_isSpread 157 = .ok (.goto 4, 3) := by decide +kernel
theorem dL_isSpread_160 : decode cL_isSpread 160 = .ok (.iconst 0, 1) := by decide +kernel
theorem dL_isSpread_161 : decode cL_isSpread 161 = .ok (.istore_n 3, 1) := by decide +kernel
theorem dL_isSpread_162 : decode cL_isSpread 162 = .ok (.iinc 5 1, 3) := by decide +kernel
theorem dL_isSpread_165 : decode cL_isSpread 165 = .ok (.goto (-64), 3) := by decide +kernel
theorem dL_isSpread_168 : decode cL_isSpread 168 = .ok (.iload_n 3, 1) := by decide +kernel
theorem dL_isSpread_169 : decode cL_isSpread 169 = .ok (.ifCond .eq 72, 3) := by decide +kernel
theorem dL_isSpread_172 : decode cL_isSpread 172 = .ok (.aload_n 0, 1) := by decide +kernel
theorem dL_isSpread_173 : decode cL_isSpread 173 = .ok (.iconst 3, 1) := by decide +kernel
theorem dL_isSpread_174 : decode cL_isSpread 174 = .ok (.invokevirtual 39, 3) := by decide +kernel
theorem dL_isSpread_177 : decode cL_isSpread 177 = .ok (.aload_n 1, 1) := by decide +kernel
theorem dL_isSpread_178 : decode cL_isSpread 178 = .ok (.iconst 3, 1) := by decide +kernel
theorem dL_isSpread_179 : decode cL_isSpread 179 = .ok (.invokevirtual 39, 3) := by decide +kernel
theorem dL_isSpread_182 : decode cL_isSpread 182 = .ok (.if_icmp .ne 59, 3) := by decide +kernel
theorem dL_isSpread_185 : decode cL_isSpread 185 = .ok (.aload_n 0, 1) := by decide +kernel
theorem dL_isSpread_186 : decode cL_isSpread 186 = .ok (.iconst 3, 1) := by decide +kernel
theorem dL_isSpread_187 : decode cL_isSpread 187 = .ok (.bipush 7, 2) := by decide +kernel
theorem dL_isSpread_189 : decode cL_isSpread 189 = .ok (.invokevirtual 43, 3) := by decide +kernel
theorem dL_isSpread_192 : decode cL_isSpread 192 = .ok (.aload_n 1, 1) := by decide +kernel
theorem dL_isSpread_193 : decode cL_isSpread 193 = .ok (.iconst 3, 1) := by decide +kernel
theorem dL_isSpread_194 : decode cL_isSpread 194 = .ok (.bipush 7, 2) := by decide +kernel
theorem dL_isSpread_196 : decode cL_isSpread 196 = .ok (.invokevirtual 43, 3) := by decide +kernel
theorem dL_isSpread_199 : decode cL_isSpread 199 = .ok (.if_icmp .ne 42, 3) := by decide +kernel
theorem dL_isSpread_202 : decode cL_isSpread 202 = .ok (.aload_n 0, 1) := by decide +kernel
theorem dL_isSpread_203 : decode cL_isSpread 203 = .ok (.invokevirtual 46, 3) := by decide +kernel
theorem dL_isSpread_206 : decode cL_isSpread 206 = .ok (.ifCond .lt 35, 3) := by decide +kernel
theorem dL_isSpread_209 : decode cL_isSpread 209 = .ok (.aload_n 0, 1) := by decide +kernel
theorem dL_isSpread_210 : decode cL_isSpread 210 = .ok (.invokevirtual 46, 3) := by decide +kernel
theorem dL_isSpread_213 : decode cL_isSpread 213 = .ok (.ifCond .lt 28, 3) := by decide +kernel
theorem dL_isSpread_216 : decode cL_isSpread 216 = .ok (.aload_n 1, 1) := by decide +kernel
theorem dL_isSpread_217 : decode cL_isSpread 217 = .ok (.invokevirtual 46, 3) := by decide +kernel
theorem dL_isSpread_220 : decode cL_isSpread 220 = .ok (.ifCond .lt 21, 3) := by decide +kernel
theorem dL_isSpread_223 : decode cL_isSpread 223 = .ok (.aload_n 1, 1) := by decide +kernel
theorem dL_isSpread_224 : decode cL_isSpread 224 = .ok (.invokevirtual 46, 3) := by decide +kernel
theorem dL_isSpread_227 : decode cL_isSpread 227 = .ok (.ifCond .lt 14, 3) := by decide +kernel
theorem dL_isSpread_230 : decode cL_isSpread 230 = .ok (.aload_n 1, 1) := by decide +kernel
theorem dL_isSpread_231 : decode cL_isSpread 231 = .ok (.invokevirtual 46, 3) := by decide +kernel
theorem dL_isSpread_234 : decode cL_isSpread 234 = .ok (.ifCond .lt 7, 3) := by decide +kernel
theorem dL_isSpread_237 : decode cL_isSpread 237 = .ok (.iconst 1, 1) := by decide +kernel
theorem dL_isSpread_238 : decode cL_isSpread 238 = .ok (.goto 4, 3) := by decide +kernel
theorem dL_isSpread_241 : decode cL_isSpread 241 = .ok (.iconst 0, 1) := by decide +kernel
theorem dL_isSpread_242 : decode cL_isSpread 242 = .ok (.ireturn, 1) := by decide +kernel
theorem dL_isTurned_0 : decode cL_isTurned 0 = .ok (.iconst 1, 1) := by decide +kernel
theorem dL_isTurned_1 : decode cL_isTurned 1 = .ok (.istore_n 1, 1) := by decide +kernel
theorem dL_isTurned_2 : decode cL_isTurned 2 = .ok (.iconst 0, 1) := by decide +kernel
theorem dL_isTurned_3 : decode cL_isTurned 3 = .ok (.istore_n 2, 1) := by decide +kernel
theorem dL_isTurned_4 : decode cL_isTurned 4 = .ok (.iload_n 2, 1) := by decide +kernel
theorem dL_isTurned_5 : decode cL_isTurned 5 = .ok (.iconst 2, 1) := by decide +kernel
theorem dL_isTurned_6 : decode cL_isTurned 6 = .ok (.if_icmp .ge 147, 3) := by decide +kernel
theorem dL_isTurned_9 : decode cL_isTurned 9 = .ok (.iload_n 1, 1) := by decide +kernel
theorem dL_isTurned_10 : decode cL_isTurned 10 = .ok (.ifCond .eq 143, 3) := by decide +kernel
theorem dL_isTurned_13 : decode cL_isTurned 13 = .ok (.aload_n 0, 1) := by decide +kernel
theorem dL_isTurned_14 : decode cL_isTurned 14 = .ok (.iconst 2, 1) := by decide +kernel
theorem dL_isTurned_15 : decode cL_isTurned 15 = .ok (.iconst 0, 1) := by decide +kernel
theorem dL_isTurned_16 : decode cL_isTurned 16 = .ok (.iconst 1, 1) := by decide +kernel
theorem dL_isTurned_17 : decode cL_isTurned 17 = .ok (.iload_n 2, 1) := by decide +kernel
theorem dL_isTurned_18 : decode cL_isTurned 18 = .ok (.invokevirtual 26, 3) := by decide +kernel
theorem dL_isTurned_21 : decode cL_isTurned 21 = .ok (.ifCond .lt 33, 3) := by decide +kernel
theorem dL_isTurned_24 : decode cL_isTurned 24 = .ok (.aload_n 0, 1) := by decide +kernel
theorem dL_isTurned_25 : decode cL_isTurned 25 = .ok (.iconst 3, 1) := by decide +kernel
theorem dL_isTurned_26 : decode cL_isTurned 26 = .ok (.iconst 1, 1) := by decide +kernel
theorem dL_isTurned_27 : decode cL_isTurned 27 = .ok (.iconst 0, 1) := by decide +kernel
theorem dL_isTurned_28 : decode cL_isTurned 28 = .ok (.iload_n 2, 1) := by decide +kernel
theorem dL_isTurned_29 : decode cL_isTurned 29 = .ok (.invokevirtual 26, 3) := by decide +kernel
theorem dL_isTurned_32 : decode cL_isTurned 32 = .ok (.aload_n 0, 1) := by decide +kernel
theorem dL_isTurned_33 : decode cL_isTurned 33 = .ok (.iconst 2, 1) := by decide +kernel
theorem dL_isTurned_34 : decode cL_isTurned 34 = .ok (.invokevirtual 50, 3) := by decide +kernel
theorem dL_isTurned_37 : decode cL_isTurned 37 = .ok (.if_icmp .ne 17, 3) := by decide +kernel
theorem dL_isTurned_40 : decode cL_isTurned 40 = .ok (.aload_n 0, 1) := by decide +kernel
theorem dL_isTurned_41 : decode cL_isTurned 41 = .ok (.iconst 2, 1) := by decide +kernel
theorem dL_isTurned_42 : decode cL_isTurned 42 = .ok (.iconst 3, 1) := by decide +kernel
theorem dL_isTurned_43 : decode cL_isTurned 43 = .ok (.invokevirtual 53, 3) := by decide +kernel
theorem dL_isTurned_46 : decode cL_isTurned 46 = .ok (.iconst (-1), 1) := by decide +kernel
theorem dL_isTurned_47 : decode cL_isTurned 47 = .ok (.if_icmp .ne 7, 3) := by decide +kernel
theorem dL_isTurned_50 : decode cL_isTurned 50 = .ok (.iconst 1, 1) := by decide +kernel
theorem dL_isTurned_51 : decode cL_isTurned 51 = .ok (.goto 4, 3) := by decide +kernel
theorem dL_isTurned_54 : decode cL_isTurned 54 = .ok (.iconst 0, 1) := by decide +kernel
theorem dL_isTurned_55 : decode cL_isTurned 55 = .ok (.istore_n 1, 1) := by decide +kernel
theorem dL_isTurned_56 : decode cL_isTurned 56 = .ok (.iload_n 1, 1) := by decide +kernel
theorem dL_isTurned_57 : decode cL_isTurned 57 = .ok (.ifCond .eq 58, 3) := by decide +kernel
theorem dL_isTurned_60 : decode cL_isTurned 60 = .ok (.aload_n 0, 1) := by decide +kernel
theorem dL_isTurned_61 : decode cL_isTurned 61 = .ok (.iconst 2, 1) := by decide +kernel
theorem dL_isTurned_62 : decode cL_isTurned 62 = .ok (.iconst 2, 1) := by decide +kernel
theorem dL_isTurned_63 : decode cL_isTurned 63 = .ok (.iconst 1, 1) := by decide +kernel
theorem dL_isTurned_64 : decode cL_isTurned 64 = .ok (.invokevirtual 56, 3) := by decide +kernel
theorem dL_isTurned_67 : decode cL_isTurned 67 = .ok (.ifCond .lt 48, 3) := by decide +kernel
theorem dL_isTurned_70 : decode cL_isTurned 70 = .ok (.aload_n 0, 1) := by decide +kernel
theorem dL_isTurned_71 : decode cL_isTurned 71 = .ok (.iconst 0, 1) := by decide +kernel
theorem dL_isTurned_72 : decode cL_isTurned 72 = .ok (.iconst 0, 1) := by decide +kernel
theorem dL_isTurned_73 : decode cL_isTurned 73 = .ok (.iconst 1, 1) := by decide +kernel
theorem dL_isTurned_74 : decode cL_isTurned 74 = .ok (.invokevirtual 56, 3) := by decide +kernel
theorem dL_isTurned_77 : decode cL_isTurned 77 = .ok (.ifCond .lt 38, 3) := by decide +kernel
theorem dL_isTurned_80 : decode cL_isTurned 80 = .ok (.aload_n 0, 1) := by decide +kernel
theorem dL_isTurned_81 : decode cL_isTurned 81 = .ok (.iconst 1, 1) := by decide +kernel
theorem dL_isTurned_82 : decode cL_isTurned 82 = .ok (.iconst 1, 1) := by decide +kernel
theorem dL_isTurned_83 : decode cL_isTurned 83 = .ok (.iconst 1, 1) := by decide +kernel
theorem dL_isTurned_84 : decode cL_isTurned 84 = .ok (.invokevirtual 56, 3) := by decide +kernel
theorem dL_isTurned_87 : decode cL_isTurned 87 = .ok (.ifCond .lt 28, 3) := by decide +kernel
theorem dL_isTurned_90 : decode cL_isTurned 90 = .ok (.aload_n 0, 1) := by decide +kernel
theorem dL_isTurned_91 : decode cL_isTurned 91 = .ok (.iconst 3, 1) := by decide +kernel
theorem dL_isTurned_92 : decode cL_isTurned 92 = .ok (.iconst 0, 1) := by decide +kernel
theorem dL_isTurned_93 : decode cL_isTurned 93 = .ok (.iconst 1, 1) := by decide +kernel
theorem dL_isTurned_94 : decode cL_isTurned 94 = .ok (.iload_n 2, 1) := by decide +kernel
theorem dL_isTurned_95 : decode cL_isTurned 95 = .ok (.invokevirtual 26, 3) := by decide +kernel
theorem dL_isTurned_98 : decode cL_isTurned 98 = .ok (.ifCond .lt 17, 3) := by decide +kernel
theorem dL_isTurned_101 : decode cL_isTurned 101 = .ok (.aload_n 0, 1) := by decide +kernel
theorem dL_isTurned_102 : decode cL_isTurned 102 = .ok (.iconst 2, 1) := by decide +kernel
theorem dL_isTurned_103 : decode cL_isTurned 103 = .ok (.iconst 3, 1) := by decide +kernel
theorem dL_isTurned_104 : decode cL_isTurned 104 = .ok (.invokevirtual 53, 3) := by decide +kernel
theorem dL_isTurned_107 : decode cL_isTurned 107 = .ok (.iconst (-1), 1) := by decide +kernel
theorem dL_isTurned_108 : decode cL_isTurned 108 = .ok (.if_icmp .ne 7, 3) := by decide +kernel
theorem dL_isTurned_111 : decode cL_isTurned 111 = .ok (.iconst 1, 1) := by decide +kernel
theorem dL_isTurned_112 : decode cL_isTurned 112 = .ok (.goto 4, 3) := by decide +kernel
theorem dL_isTurned_115 : decode cL_isTurned 115 = .ok (.iconst 0, 1) := by decide +kernel
theorem dL_isTurned_116 : decode cL_isTurned 116 = .ok (.istore_n 1, 1) := by decide +kernel
theorem dL_isTurned_117 : decode cL_isTurned 117 = .ok (.iload_n 1, 1) := by decide +kernel
theorem dL_isTurned_118 : decode cL_isTurned 118 = .ok (.ifCond .eq 27, 3) := by decide +kernel
theorem dL_isTurned_121 : decode cL_isTurned 121 = .ok (.aload_n 0, 1) := by decide +kernel
theorem dL_isTurned_122 : decode cL_isTurned 122 = .ok (.iconst 0, 1) := by decide +kernel
theorem dL_isTurned_123 : decode cL_isTurned 123 = .ok (.iconst 0, 1) := by decide +kernel
theorem dL_isTurned_124 : decode cL_isTurned 124 = .ok (.iconst 1, 1) := by decide +kernel
theorem dL_isTurned_125 : decode cL_isTurned 125 = .ok (.invokevirtual 56, 3) := by decide +kernel
theorem dL_isTurned_128 : decode cL_isTurned 128 = .ok (.ifCond .lt 17, 3) := by decide +kernel
theorem dL_isTurned_131 : decode cL_isTurned 131 = .ok (.aload_n 0, 1) := by decide +kernel
theorem dL_isTurned_132 : decode cL_isTurned 132 = .ok (.iconst 1, 1) := by decide +kernel
theorem dL_isTurned_133 : decode cL_isTurned 133 = .ok (.iconst 1, 1) := by decide +kernel
theorem dL_isTurned_134 : decode cL_isTurned 134 = .ok (.iconst 1, 1) := by decide +kernel
theorem dL_isTurned_135 : decode cL_isTurned 135 = .ok (.invokevirtual 56, 3) := by decide +kernel
theorem dL_isTurned_138 : decode cL_isTurned 138 = .ok (.ifCond .lt 7, 3) := by decide +kernel
theorem dL_isTurned_141 : decode cL_isTurned 141 = .ok (.iconst 1, 1) := by decide +kernel
theorem dL_isTurned_142 : decode cL_isTurned 142 = .ok (.goto 4, 3) := by decide +kernel
theorem dL_isTurned_145 : decode cL_isTurned 145 = .ok (.iconst 0, 1) := by decide +kernel
theorem dL_isTurned_146 : decode cL_isTurned 146 = .ok (.istore_n 1, 1) := by decide +kernel
theorem dL_isTurned_147 : decode cL_isTurned 147 = .ok (.iinc 2 1, 3) := by decide +kernel
theorem dL_isTurned_150 : decode cL_isTurned 150 = .ok (.goto (-146), 3) := by decide +kernel
theorem dL_isTurned_153 : decode cL_isTurned 153 = .ok (.iload_n 1, 1) := by decide +kernel
theorem dL_isTurned_154 : decode cL_isTurned 154 = .ok (.ireturn, 1) := by decide +kernel
theorem dL_isReduced_0 : decode cL_isReduced 0 = .ok (.iconst 1, 1) := by decide +kernel
theorem dL_isReduced_1 : decode cL_isReduced 1 = .ok (.istore_n 2, 1) := by decide +kernel
theorem dL_isReduced_2 : decode cL_isReduced 2 = .ok (.iconst 5, 1) := by decide +kernel
theorem dL_isReduced_3 : decode cL_isReduced 3 = .ok (.istore_n 3, 1) := by decide +kernel
theorem dL_isReduced_4 : decode cL_isReduced 4 = .ok (.iload_n 3, 1) := by decide +kernel
theorem dL_isReduced_5 : decode cL_isReduced 5 = .ok (.bipush 7, 2) := by decide +kernel
theorem dL_isReduced_7 : decode cL_isReduced 7 = .ok (.if_icmp .ge 74, 3) := by decide +kernel
theorem dL_isReduced_10 : decode cL_isReduced 10 = .ok (.iload_n 2, 1) := by decide +kernel
theorem dL_isReduced_11 : decode cL_isReduced 11 = .ok (.ifCond .eq 70, 3) := by decide +kernel
theorem dL_isReduced_14 : decode cL_isReduced 14 = .ok (.aload_n 0, 1) := by decide +kernel
theorem dL_isReduced_15 : decode cL_isReduced 15 = .ok (.iconst 3, 1) := by decide +kernel
theorem dL_isReduced_16 : decode cL_isReduced 16 = .ok (.iload_n 1, 1) := by decide +kernel
theorem dL_isReduced_17 : decode cL_isReduced 17 = .ok (.iload_n 3, 1) := by decide +kernel
theorem dL_isReduced_18 : decode cL_isReduced 18 = .ok (.invokevirtual 56, 3) := by decide +kernel
theorem dL_isReduced_21 : decode cL_isReduced 21 = .ok (.istore 4, 2) := by decide +kernel
theorem dL_isReduced_23 : decode cL_isReduced 23 = .ok (.aload_n 0, 1) := by decide +kernel
theorem dL_isReduced_24 : decode cL_isReduced 24 = .ok (.iload_n 1, 1) := by decide +kernel
theorem dL_isReduced_25 : decode cL_isReduced 25 = .ok (.iconst 3, 1) := by decide +kernel
theorem dL_isReduced_26 : decode cL_isReduced 26 = .ok (.invokevirtual 53, 3) := by decide +kernel
theorem dL_isReduced_29 : decode cL_isReduced 29 = .ok (.iconst (-1), 1) := by decide +kernel
theorem dL_isReduced_30 : decode cL_isReduced 30 = .ok (.if_icmp .ne 43, 3) := by decide +kernel
theorem dL_isReduced_33 : decode cL_isReduced 33 = .ok (.iload 4, 2) := by decide +kernel
theorem dL_isReduced_35 : decode cL_isReduced 35 = .ok (.aload_n 0, 1) := by decide +kernel
theorem dL_isReduced_36 : decode cL_isReduced 36 = .ok (.iload_n 1, 1) := by decide +kernel
theorem dL_isReduced_37 : decode cL_isReduced 37 = .ok (.invokevirtual 50, 3) := by decide +kernel
theorem dL_isReduced_40 : decode cL_isReduced 40 = .ok (.if_icmp .gt 33, 3) := by decide +kernel
theorem dL_isReduced_43 : decode cL_isReduced 43 = .ok (.aload_n 0, 1) := by decide +kernel
theorem dL_isReduced_44 : decode cL_isReduced 44 = .ok (.iconst 3, 1) := by decide +kernel
theorem dL_isReduced_45 : decode cL_isReduced 45 = .ok (.iconst 2, 1) := by decide +kernel
theorem dL_isReduced_46 : decode cL_isReduced 46 = .ok (.invokevirtual 30, 3) := by decide +kernel
theorem dL_isReduced_49 : decode cL_isReduced 49 = .ok (.aload_n 0, 1) := by decide +kernel
theorem dL_isReduced_50 : decode cL_isReduced 50 = .ok (.iload_n 1, 1) := by decide +kernel
theorem dL_isReduced_51 : decode cL_isReduced 51 = .ok (.iconst 2, 1) := by decide +kernel
theorem dL_isReduced_52 : decode cL_isReduced 52 = .ok (.invokevirtual 30, 3) := by decide +kernel
theorem dL_isReduced_55 : decode cL_isReduced 55 = .ok (.if_icmp .ne 18, 3) := by decide +kernel
theorem dL_isReduced_58 : decode cL_isReduced 58 = .ok (.aload_n 0, 1) := by decide +kernel
theorem dL_isReduced_59 : decode cL_isReduced 59 = .ok (.iconst 3, 1) := by decide +kernel
theorem dL_isReduced_60 : decode cL_isReduced 60 = .ok (.iconst 0, 1) := by decide +kernel
theorem dL_isReduced_61 : decode cL_isReduced 61 = .ok (.invokevirtual 30, 3) := by decide +kernel
theorem dL_isReduced_64 : decode cL_isReduced 64 = .ok (.iload 4, 2) := by decide +kernel
theorem dL_isReduced_66 : decode cL_isReduced 66 = .ok (.if_icmp .ne 7, 3) := by decide +kernel
theorem dL_isReduced_69 : decode cL_isReduced 69 = .ok (.iconst 1, 1) := by decide +kernel
theorem dL_isReduced_70 : decode cL_isReduced 70 = .ok (.goto 4, 3) := by decide +kernel
theorem dL_isReduced_73 : decode cL_isReduced 73 = .ok (.iconst 0, 1) := by decide +kernel
theorem dL_isReduced_74 : decode cL_isReduced 74 = .ok (.istore_n 2, 1) := by decide +kernel
theorem dL_isReduced_75 : decode cL_isReduced 75 = .ok (.iinc 3 1, 3) := by decide +kernel
theorem dL_isReduced_78 : decode cL_isReduced 78 = .ok (.goto (-74), 3) := by decide +kernel
theorem dL_isReduced_81 : decode cL_isReduced 81 = .ok (.iload_n 2, 1) := by decide +kernel
theorem dL_isReduced_82 : decode cL_isReduced 82 = .ok (.ifCond .eq 65, 3) := by decide +kernel
theorem dL_isReduced_85 : decode cL_isReduced 85 = .ok (.aload_n 0, 1) := by decide +kernel
theorem dL_isReduced_86 : decode cL_isReduced 86 = .ok (.iconst 3, 1) := by decide +kernel
theorem dL_isReduced_87 : decode cL_isReduced 87 = .ok (.iconst 2, 1) := by decide +kernel
theorem dL_isReduced_88 : decode cL_isReduced 88 = .ok (.invokevirtual 30, 3) := by decide +kernel
theorem dL_isReduced_91 : decode cL_isReduced 91 = .ok (.aload_n 0, 1) := by decide +kernel
theorem dL_isReduced_92 : decode cL_isReduced 92 = .ok (.iconst 3, 1) := by decide +kernel
theorem dL_isReduced_93 : decode cL_isReduced 93 = .ok (.invokevirtual 50, 3) := by decide +kernel
theorem dL_isReduced_96 : decode cL_isReduced 96 = .ok (.if_icmp .ne 51, 3) := by decide +kernel
theorem dL_isReduced_99 : decode cL_isReduced 99 = .ok (.aload_n 0, 1) := by decide +kernel
theorem dL_isReduced_100 : decode cL_isReduced 100 = .ok (.iconst 2, 1) := by decide +kernel
theorem dL_isReduced_101 : decode cL_isReduced 101 = .ok (.iload_n 1, 1) := by decide +kernel
theorem dL_isReduced_102 : decode cL_isReduced 102 = .ok (.iconst 1, 1) := by decide +kernel
theorem dL_isReduced_103 : decode cL_isReduced 103 = .ok (.invokevirtual 56, 3) := by decide +kernel
theorem dL_isReduced_106 : decode cL_isReduced 106 = .ok (.ifCond .lt 41, 3) := by decide +kernel
theorem dL_isReduced_109 : decode cL_isReduced 109 = .ok (.aload_n 0, 1) := by decide +kernel
theorem dL_isReduced_110 : decode cL_isReduced 110 = .ok (.iconst 2, 1) := by decide +kernel
theorem dL_isReduced_111 : decode cL_isReduced 111 = .ok (.iconst 2, 1) := by decide +kernel
theorem dL_isReduced_112 : decode cL_isReduced 112 = .ok (.invokevirtual 30, 3) := by decide +kernel
theorem dL_isReduced_115 : decode cL_isReduced 115 = .ok (.aload_n 0, 1) := by decide +kernel
theorem dL_isReduced_116 : decode cL_isReduced 116 = .ok (.iconst 3, 1) := by decide +kernel
theorem dL_isReduced_117 : decode cL_isReduced 117 = .ok (.invokevirtual 50, 3) := by decide +kernel
theorem dL_isReduced_120 : decode cL_isReduced 120 = .ok (.if_icmp .ne 27, 3) := by decide +kernel
theorem dL_isReduced_123 : decode cL_isReduced 123 = .ok (.aload_n 0, 1) := by decide +kernel
theorem dL_isReduced_124 : decode cL_isReduced 124 = .ok (.iconst 2, 1) := by decide +kernel
theorem dL_isReduced_125 : decode cL_isReduced 125 = .ok (.iconst 2, 1) := by decide +kernel
theorem dL_isReduced_126 : decode cL_isReduced 126 = .ok (.iconst 1, 1) := by decide +kernel
theorem dL_isReduced_127 : decode cL_isReduced 127 = .ok (.invokevirtual 56, 3) := by decide +kernel
theorem dL_isReduced_130 : decode cL_isReduced 130 = .ok (.ifCond .lt 17, 3) := by decide +kernel
theorem dL_isReduced_133 : decode cL_isReduced 133 = .ok (.aload_n 0, 1) := by decide +kernel
theorem dL_isReduced_134 : decode cL_isReduced 134 = .ok (.iload_n 1, 1) := by decide +kernel
theorem dL_isReduced_135 : decode cL_isReduced 135 = .ok (.iconst 2, 1) := by decide +kernel
theorem dL_isReduced_136 : decode cL_isReduced 136 = .ok (.invokevirtual 53, 3) := by decide +kernel
theorem dL_isReduced_139 : decode cL_isReduced 139 = .ok (.iconst (-1), 1) := by decide +kernel
theorem dL_isReduced_140 : decode cL_isReduced 140 = .ok (.if_icmp .ne 7, 3) := by decide +kernel
theorem dL_isReduced_143 : decode cL_isReduced 143 = .ok (.iconst 1, 1) := by decide +kernel
theorem dL_isReduced_144 : decode cL_isReduced 144 = .ok (.goto 4, 3) := by decide +kernel
theorem dL_isReduced_147 : decode cL_isReduced 147 = .ok (.iconst 0, 1) := by decide +kernel
theorem dL_isReduced_148 : decode cL_isReduced 148 = .ok (.istore_n 2, 1) := by decide +kernel
theorem dL_isReduced_149 : decode cL_isReduced 149 = .ok (.aload_n 0, 1) := by decide +kernel
theorem dL_isReduced_150 : decode cL_isReduced 150 = .ok (.iload_n 1, 1) := by decide +kernel
theorem dL_isReduced_151 : decode cL_isReduced 151 = .ok (.invokevirtual 50, 3) := by decide +kernel
theorem dL_isReduced_154 : decode cL_isReduced 154 = .ok (.istore_n 3, 1) := by decide +kernel
theorem dL_isReduced_155 : decode cL_isReduced 155 = .ok (.iload_n 2, 1) := by decide +kernel
theorem dL_isReduced_156 : decode cL_isReduced 156 = .ok (.ifCond .eq 45, 3) := by decide +kernel
theorem dL_isReduced_159 : decode cL_isReduced 159 = .ok (.iload_n 3, 1) := by decide +kernel
theorem dL_isReduced_160 : decode cL_isReduced 160 = .ok (.ifCond .eq 29, 3) := by decide +kernel
theorem dL_isReduced_163 : decode cL_isReduced 163 = .ok (.aload_n 0, 1) := by decide +kernel
theorem dL_isReduced_164 : decode cL_isReduced 164 = .ok (.iload_n 1, 1) := by decide +kernel
theorem dL_isReduced_165 : decode cL_isReduced 165 = .ok (.iload_n 3, 1) := by decide +kernel
theorem dL_isReduced_166 : decode cL_isReduced 166 = .ok (.invokevirtual 59, 3) := by decide +kernel
theorem dL_isReduced_169 : decode cL_isReduced 169 = .ok (.ifCond .eq 32, 3) := by decide +kernel
theorem dL_isReduced_172 : decode cL_isReduced 172 = .ok (.iload_n 3, 1) := by decide +kernel
theorem dL_isReduced_173 : decode cL_isReduced 173 = .ok (.bipush 11, 2) := by decide +kernel
theorem dL_isReduced_175 : decode cL_isReduced 175 = .ok (.if_icmp .gt 14, 3) := by decide +kernel
theorem dL_isReduced_178 : decode cL_isReduced 178 = .ok (.aload_n 0, 1) := by decide +kernel
theorem dL_isReduced_179 : decode cL_isReduced 179 = .ok (.iload_n 1, 1) := by decide +kernel
theorem dL_isReduced_180 : decode cL_isReduced 180 = .ok (.iload_n 3, 1) := by decide +kernel
theorem dL_isReduced_181 : decode cL_isReduced 181 = .ok (.iconst 1, 1) := by decide +kernel
theorem dL_isReduced_182 : decode cL_isReduced 182 = .ok (.iadd, 1) := by decide +kernel
theorem dL_isReduced_183 : decode cL_isReduced 183 = .ok (.invokevirtual 59, 3) := by decide +kernel
theorem dL_isReduced_186 : decode cL_isReduced 186 = .ok (.ifCond .eq 15, 3) := by decide +kernel
theorem dL_isReduced_189 : decode cL_isReduced 189 = .ok (.aload_n 0, 1) := by decide +kernel
theorem dL_isReduced_190 : decode cL_isReduced 190 = .ok (.iload_n 1, 1) := by decide +kernel
theorem dL_isReduced_191 : decode cL_isReduced 191 = .ok (.invokestatic 63, 3) := by decide +kernel
theorem dL_isReduced_194 : decode cL_isReduced 194 = .ok (.ifCond .eq 7, 3) := by decide +kernel
theorem dL_isReduced_197 : decode cL_isReduced 197 = .ok (.iconst 1, 1) := by decide +kernel
theorem dL_isReduced_198 : decode cL_isReduced 198 = .ok (.goto 4, 3) := by decide +kernel
theorem dL_isReduced_201 : decode cL_isReduced 201 = .ok (.iconst 0, 1) := by decide +kernel
theorem dL_isReduced_202 : decode cL_isReduced 202 = .ok (.ireturn, 1) := by decide +kernel
theorem dL_goUp_0 : decode cL_goUp 0 = .ok (.iconst 1, 1) := by decide +kernel
theorem dL_goUp_1 : decode cL_goUp 1 = .ok (.istore_n 2, 1) := by decide +kernel
theorem dL_goUp_2 : decode cL_goUp 2 = .ok (.aload_n 0, 1) := by decide +kernel
theorem dL_goUp_3 : decode cL_goUp 3 = .ok (.iload_n 1, 1) := by decide +kernel
theorem dL_goUp_4 : decode cL_goUp 4 = .ok (.iconst 0, 1) := by decide +kernel
theorem dL_goUp_5 : decode cL_goUp 5 = .ok (.invokevirtual 30, 3) := by decide +kernel
theorem dL_goUp_8 : decode cL_goUp 8 = .ok (.istore_n 3, 1) := by decide +kernel
theorem dL_goUp_9 : decode cL_goUp 9 = .ok (.iconst 1, 1) := by decide +kernel
theorem dL_goUp_10 : decode cL_goUp 10 = .ok (.istore 4, 2) := by decide +kernel
theorem dL_goUp_12 : decode cL_goUp 12 = .ok (.iload 4, 2) := by decide +kernel
theorem dL_goUp_14 : decode cL_goUp 14 = .ok (.iload_n 3, 1) := by decide +kernel
theorem dL_goUp_15 : decode cL_goUp 15 = .ok (.if_icmp .ge 38, 3) := by decide +kernel
theorem dL_goUp_18 : decode cL_goUp 18 = .ok (.iload_n 2, 1) := by decide +kernel
theorem dL_goUp_19 : decode cL_goUp 19 = .ok (.ifCond .eq 26, 3) := by decide +kernel
theorem dL_goUp_22 : decode cL_goUp 22 = .ok (.aload_n 0, 1) := by decide +kernel
theorem dL_goUp_23 : decode cL_goUp 23 = .ok (.iload_n 1, 1) := by decide +kernel
theorem dL_goUp_24 : decode cL_goUp 24 = .ok (.iload 4, 2) := by decide +kernel
theorem dL_goUp_26 : decode cL_goUp 26 = .ok (.invokevirtual 67, 3) := by decide +kernel
theorem dL_goUp_29 : decode cL_goUp 29 = .ok (.aload_n 0, 1) := by decide +kernel
theorem dL_goUp_30 : decode cL_goUp 30 = .ok (.iload_n 1, 1) := by decide +kernel
theorem dL_goUp_31 : decode cL_goUp 31 = .ok (.iload 4, 2) := by decide +kernel
theorem dL_goUp_33 : decode cL_goUp 33 = .ok (.iconst 1, 1) := by decide +kernel
theorem dL_goUp_34 : decode cL_goUp 34 = .ok (.isub, 1) := by decide +kernel
theorem dL_goUp_35 : decode cL_goUp 35 = .ok (.invokevirtual 67, 3) := by decide +kernel
theorem dL_goUp_38 : decode cL_goUp 38 = .ok (.if_icmp .le 7, 3) := by decide +kernel
theorem dL_goUp_41 : decode cL_goUp 41 = .ok (.iconst 1, 1) := by decide +kernel
theorem dL_goUp_42 : decode cL_goUp 42 = .ok (.goto 4, 3) := by decide +kernel
theorem dL_goUp_45 : decode cL_goUp 45 = .ok (.iconst 0, 1) := by decide +kernel
theorem dL_goUp_46 : decode cL_goUp 46 = .ok (.istore_n 2, 1) := by decide +kernel
theorem dL_goUp_47 : decode cL_goUp 47 = .ok (.iinc 4 1, 3) := by decide +kernel
theorem dL_goUp_50 : decode cL_goUp 50 = .ok (.goto (-38), 3) := by decide +kernel
theorem dL_goUp_53 : decode cL_goUp 53 = .ok (.iload_n 2, 1) := by decide +kernel
theorem dL_goUp_54 : decode cL_goUp 54 = .ok (.ireturn, 1) := by decide +kernel
theorem dL_isScaled_0 : decode cL_isScaled 0 = .ok (.aload_n 0, 1) := by decide +kernel
theorem dL_isScaled_1 : decode cL_isScaled 1 = .ok (.iconst 0, 1) := by decide +kernel
theorem dL_isScaled_2 : decode cL_isScaled 2 = .ok (.iload_n 2, 1) := by decide +kernel
theorem dL_isScaled_3 : decode cL_isScaled 3 = .ok (.invokevirtual 36, 3) := by decide +kernel
theorem dL_isScaled_6 : decode cL_isScaled 6 = .ok (.istore_n 3, 1) := by decide +kernel
theorem dL_isScaled_7 : decode cL_isScaled 7 = .ok (.aload_n 0, 1) := by decide +kernel
theorem dL_isScaled_8 : decode cL_isScaled 8 = .ok (.iconst 0, 1) := by decide +kernel
theorem dL_isScaled_9 : decode cL_isScaled 9 = .ok (.bipush 9, 2) := by decide +kernel
theorem dL_isScaled_11 : decode cL_isScaled 11 = .ok (.invokevirtual 33, 3) := by decide +kernel
theorem dL_isScaled_14 : decode cL_isScaled 14 = .ok (.istore 4, 2) := by decide +kernel
theorem dL_isScaled_16 : decode cL_isScaled 16 = .ok (.aload_n 0, 1) := by decide +kernel
theorem dL_isScaled_17 : decode cL_isScaled 17 = .ok (.iconst 2, 1) := by decide +kernel
theorem dL_isScaled_18 : decode cL_isScaled 18 = .ok (.iconst 0, 1) := by decide +kernel
theorem dL_isScaled_19 : decode cL_isScaled 19 = .ok (.iconst 0, 1) := by decide +kernel
theorem dL_isScaled_20 : decode cL_isScaled 20 = .ok (.invokevirtual 56, 3) := by decide +kernel
theorem dL_isScaled_23 : decode cL_isScaled 23 = .ok (.ifCond .lt 56, 3) := by decide +kernel
theorem dL_isScaled_26 : decode cL_isScaled 26 = .ok (.aload_n 0, 1) := by decide +kernel
theorem dL_isScaled_27 : decode cL_isScaled 27 = .ok (.iconst 2, 1) := by decide +kernel
theorem dL_isScaled_28 : decode cL_isScaled 28 = .ok (.iload_n 1, 1) := by decide +kernel
theorem dL_isScaled_29 : decode cL_isScaled 29 = .ok (.invokevirtual 70, 3) := by decide +kernel
theorem dL_isScaled_32 : decode cL_isScaled 32 = .ok (.ifCond .lt 47, 3) := by decide +kernel
theorem dL_isScaled_35 : decode cL_isScaled 35 = .ok (.aload_n 0, 1) := by decide +kernel
theorem dL_isScaled_36 : decode cL_isScaled 36 = .ok (.iconst 2, 1) := by decide +kernel
theorem dL_isScaled_37 : decode cL_isScaled 37 = .ok (.iload_n 2, 1) := by decide +kernel
theorem dL_isScaled_38 : decode cL_isScaled 38 = .ok (.invokevirtual 36, 3) := by decide +kernel
theorem dL_isScaled_41 : decode cL_isScaled 41 = .ok (.iload_n 3, 1) := by decide +kernel
theorem dL_isScaled_42 : decode cL_isScaled 42 = .ok (.i2l, 1) := by decide +kernel
theorem dL_isScaled_43 : decode cL_isScaled 43 = .ok (.iload_n 1, 1) := by decide +kernel
theorem dL_isScaled_44 : decode cL_isScaled 44 = .ok (.i2l, 1) := by decide +kernel
theorem dL_isScaled_45 : decode cL_isScaled 45 = .ok (.lmul, 1) := by decide +kernel
theorem dL_isScaled_46 : decode cL_isScaled 46 = .ok (.ldc2_w 73, 3) := by decide +kernel
theorem dL_isScaled_49 : decode cL_isScaled 49 = .ok (.lrem, 1) := by decide +kernel
theorem dL_isScaled_50 : decode cL_isScaled 50 = .ok (.l2i, 1) := by decide +kernel
theorem dL_isScaled_51 : decode cL_isScaled 51 = .ok (.if_icmp .ne 28, 3) := by decide +kernel
theorem dL_isScaled_54 : decode cL_isScaled 54 = .ok (.aload_n 0, 1) := by decide +kernel
theorem dL_isScaled_55 : decode cL_isScaled 55 = .ok (.iconst 2, 1) := by decide +kernel
theorem dL_isScaled_56 : decode cL_isScaled 56 = .ok (.bipush 9, 2) := by decide +kernel
theorem dL_isScaled_58 : decode cL_isScaled 58 = .ok (.invokevirtual 33, 3) := by decide +kernel
theorem dL_isScaled_61 : decode cL_isScaled 61 = .ok (.iload 4, 2) := by decide +kernel
theorem dL_isScaled_63 : decode cL_isScaled 63 = .ok (.i2l, 1) := by decide +kernel
theorem dL_isScaled_64 : decode cL_isScaled 64 = .ok (.iload_n 1, 1) := by decide +kernel
theorem dL_isScaled_65 : decode cL_isScaled 65 = .ok (.i2l, 1) := by decide +kernel
theorem dL_isScaled_66 : decode cL_isScaled 66 = .ok (.lmul, 1) := by decide +kernel
theorem dL_isScaled_67 : decode cL_isScaled 67 = .ok (.ldc2_w 73, 3) := by decide +kernel
theorem dL_isScaled_70 : decode cL_isScaled 70 = .ok (.lrem, 1) := by decide +kernel
theorem dL_isScaled_71 : decode cL_isScaled 71 = .ok (.l2i, 1) := by decide +kernel
theorem dL_isScaled_72 : decode cL_isScaled 72 = .ok (.if_icmp .ne 7, 3) := by decide +kernel
theorem dL_isScaled_75 : decode cL_isScaled 75 = .ok (.iconst 1, 1) := by decide +kernel
theorem dL_isScaled_76 : decode cL_isScaled 76 = .ok (.goto 4, 3) := by decide +kernel
theorem dL_isScaled_79 : decode cL_isScaled 79 = .ok (.iconst 0, 1) := by decide +kernel
theorem dL_isScaled_80 : decode cL_isScaled 80 = .ok (.istore 5, 2) := by decide +kernel
theorem dL_isScaled_82 : decode cL_isScaled 82 = .ok (.iload 5, 2) := by decide +kernel
theorem dL_isScaled_84 : decode cL_isScaled 84 = .ok (.ifCond .eq 34, 3) := by decide +kernel
theorem dL_isScaled_87 : decode cL_isScaled 87 = .ok (.iload_n 1, 1) := by decide +kernel
theorem dL_isScaled_88 : decode cL_isScaled 88 = .ok (.ifCond .eq 26, 3) := by decide +kernel
theorem dL_isScaled_91 : decode cL_isScaled 91 = .ok (.aload_n 0, 1) := by decide +kernel
theorem dL_isScaled_92 : decode cL_isScaled 92 = .ok (.iconst 2, 1) := by decide +kernel
theorem dL_isScaled_93 : decode cL_isScaled 93 = .ok (.aload_n 0, 1) := by decide +kernel
theorem dL_isScaled_94 : decode cL_isScaled 94 = .ok (.iload_n 1, 1) := by decide +kernel
theorem dL_isScaled_95 : decode cL_isScaled 95 = .ok (.invokevirtual 75, 3) := by decide +kernel
theorem dL_isScaled_98 : decode cL_isScaled 98 = .ok (.invokevirtual 70, 3) := by decide +kernel
theorem dL_isScaled_101 : decode cL_isScaled 101 = .ok (.ifCond .lt 17, 3) := by decide +kernel
theorem dL_isScaled_104 : decode cL_isScaled 104 = .ok (.aload_n 0, 1) := by decide +kernel
theorem dL_isScaled_105 : decode cL_isScaled 105 = .ok (.iconst 2, 1) := by decide +kernel
theorem dL_isScaled_106 : decode cL_isScaled 106 = .ok (.iconst 0, 1) := by decide +kernel
theorem dL_isScaled_107 : decode cL_isScaled 107 = .ok (.invokevirtual 53, 3) := by decide +kernel
theorem dL_isScaled_110 : decode cL_isScaled 110 = .ok (.iconst (-1), 1) := by decide +kernel
theorem dL_isScaled_111 : decode cL_isScaled 111 = .ok (.if_icmp .ne 7, 3) := by decide +kernel
theorem dL_isScaled_114 : decode cL_isScaled 114 = .ok (.iconst 1, 1) := by decide +kernel
theorem dL_isScaled_115 : decode cL_isScaled 115 = .ok (.goto 4, 3) := by decide +kernel
theorem dL_isScaled_118 : decode cL_isScaled 118 = .ok (.iconst 0, 1) := by decide +kernel
theorem dL_isScaled_119 : decode cL_isScaled 119 = .ok (.istore 5, 2) := by decide +kernel
theorem dL_isScaled_121 : decode cL_isScaled 121 = .ok (.iload 5, 2) := by decide +kernel
theorem dL_isScaled_123 : decode cL_isScaled 123 = .ok (.ifCond .eq 57, 3) := by decide +kernel
theorem dL_isScaled_126 : decode cL_isScaled 126 = .ok (.aload_n 0, 1) := by decide +kernel
theorem dL_isScaled_127 : decode cL_isScaled 127 = .ok (.iconst 2, 1) := by decide +kernel
theorem dL_isScaled_128 : decode cL_isScaled 128 = .ok (.iconst 0, 1) := by decide +kernel
theorem dL_isScaled_129 : decode cL_isScaled 129 = .ok (.iconst 0, 1) := by decide +kernel
theorem dL_isScaled_130 : decode cL_isScaled 130 = .ok (.invokevirtual 56, 3) := by decide +kernel
theorem dL_isScaled_133 : decode cL_isScaled 133 = .ok (.ifCond .lt 47, 3) := by decide +kernel
theorem dL_isScaled_136 : decode cL_isScaled 136 = .ok (.aload_n 0, 1) := by decide +kernel
theorem dL_isScaled_137 : decode cL_isScaled 137 = .ok (.iconst 2, 1) := by decide +kernel
theorem dL_isScaled_138 : decode cL_isScaled 138 = .ok (.sipush 10006, 3) := by decide +kernel
theorem dL_isScaled_141 : decode cL_isScaled 141 = .ok (.invokevirtual 70, 3) := by decide +kernel
theorem dL_isScaled_144 : decode cL_isScaled 144 = .ok (.ifCond .lt 36, 3) := by decide +kernel
theorem dL_isScaled_147 : decode cL_isScaled 147 = .ok (.aload_n 0, 1) := by decide +kernel
theorem dL_isScaled_148 : decode cL_isScaled 148 = .ok (.iconst 3, 1) := by decide +kernel
theorem dL_isScaled_149 : decode cL_isScaled 149 = .ok (.iconst 0, 1) := by decide +kernel
theorem dL_isScaled_150 : decode cL_isScaled 150 = .ok (.iconst 2, 1) := by decide +kernel
theorem dL_isScaled_151 : decode cL_isScaled 151 = .ok (.iconst 0, 1) := by decide +kernel
theorem dL_isScaled_152 : decode cL_isScaled 152 = .ok (.invokevirtual 26, 3) := by decide +kernel
theorem dL_isScaled_155 : decode cL_isScaled 155 = .ok (.ifCond .lt 25, 3) := by decide +kernel
theorem dL_isScaled_158 : decode cL_isScaled 158 = .ok (.aload_n 0, 1) := by decide +kernel
theorem dL_isScaled_159 : decode cL_isScaled 159 = .ok (.iconst 3, 1) := by decide +kernel
theorem dL_isScaled_160 : decode cL_isScaled 160 = .ok (.invokevirtual 39, 3) := by decide +kernel
theorem dL_isScaled_163 : decode cL_isScaled 163 = .ok (.iconst (-1), 1) := by decide +kernel
theorem dL_isScaled_164 : decode cL_isScaled 164 = .ok (.if_icmp .ne 16, 3) := by decide +kernel
theorem dL_isScaled_167 : decode cL_isScaled 167 = .ok (.aload_n 0, 1) := by decide +kernel
theorem dL_isScaled_168 : decode cL_isScaled 168 = .ok (.iconst 3, 1) := by decide +kernel
theorem dL_isScaled_169 : decode cL_isScaled 169 = .ok (.iconst 2, 1) := by decide +kernel
theorem dL_isScaled_170 : decode cL_isScaled 170 = .ok (.invokevirtual 30, 3) := by decide +kernel
theorem dL_isScaled_173 : decode cL_isScaled 173 = .ok (.ifCond .ne 7, 3) := by decide +kernel
theorem dL_isScaled_176 : decode cL_isScaled 176 = .ok (.iconst 1, 1) := by decide +kernel
theorem dL_isScaled_177 : decode cL_isScaled 177 = .ok (.goto 4, 3) := by decide +kernel
theorem dL_isScaled_180 : decode cL_isScaled 180 = .ok (.iconst 0, 1) := by decide +kernel
theorem dL_isScaled_181 : decode cL_isScaled 181 = .ok (.istore 5, 2) := by decide +kernel
theorem dL_isScaled_183 : decode cL_isScaled 183 = .ok (.iload 5, 2) := by decide +kernel
theorem dL_isScaled_185 : decode cL_isScaled 185 = .ok (.ifCond .eq 18, 3) := by decide +kernel
theorem dL_isScaled_188 : decode cL_isScaled 188 = .ok (.aload_n 0, 1) := by decide +kernel
theorem dL_isScaled_189 : decode cL_isScaled 189 = .ok (.iconst 0, 1) := by decide +kernel
theorem dL_isScaled_190 : decode cL_isScaled 190 = .ok (.iload_n 2, 1) := by decide +kernel
theorem dL_isScaled_191 : decode cL_isScaled 191 = .ok (.iconst 1, 1) := by decide +kernel
theorem dL_isScaled_192 : decode cL_isScaled 192 = .ok (.invokevirtual 78, 3) := by decide +kernel
theorem dL_isScaled_195 : decode cL_isScaled 195 = .ok (.iload_n 3, 1) := by decide +kernel
theorem dL_isScaled_196 : decode cL_isScaled 196 = .ok (.if_icmp .ne 7, 3) := by decide +kernel
theorem dL_isScaled_199 : decode cL_isScaled 199 = .ok (.iconst 1, 1) := by decide +kernel
theorem dL_isScaled_200 : decode cL_isScaled 200 = .ok (.goto 4, 3) := by decide +kernel
theorem dL_isScaled_203 : decode cL_isScaled 203 = .ok (.iconst 0, 1) := by decide +kernel
theorem dL_isScaled_204 : decode cL_isScaled 204 = .ok (.ireturn, 1) := by decide +kernel
theorem dL_law_0 : decode cL_law 0 = .ok (.new 21, 3) := by decide +kernel
theorem dL_law_3 : decode cL_law 3 = .ok (.dup, 1) := by decide +kernel
theorem dL_law_4 : decode cL_law 4 = .ok (.invokespecial 81, 3) := by decide +kernel
theorem dL_law_7 : decode cL_law 7 = .ok (.astore_n 1, 1) := by decide +kernel
theorem dL_law_8 : decode cL_law 8 = .ok (.new 21, 3) := by decide +kernel
theorem dL_law_11 : decode cL_law 11 = .ok (.dup, 1) := by decide +kernel
theorem dL_law_12 : decode cL_law 12 = .ok (.invokespecial 81, 3) := by decide +kernel
theorem dL_law_15 : decode cL_law 15 = .ok (.astore_n 2, 1) := by decide +kernel
theorem dL_law_16 : decode cL_law 16 = .ok (.aload_n 1, 1) := by decide +kernel
theorem dL_law_17 : decode cL_law 17 = .ok (.aload_n 0, 1) := by decide +kernel
theorem dL_law_18 : decode cL_law 18 = .ok (.invokestatic 82, 3) := by decide +kernel
theorem dL_law_21 : decode cL_law 21 = .ok (.ifCond .eq 33, 3) := by decide +kernel
theorem dL_law_24 : decode cL_law 24 = .ok (.aload_n 2, 1) := by decide +kernel
theorem dL_law_25 : decode cL_law 25 = .ok (.aload_n 0, 1) := by decide +kernel
theorem dL_law_26 : decode cL_law 26 = .ok (.invokestatic 82, 3) := by decide +kernel
theorem dL_law_29 : decode cL_law 29 = .ok (.ifCond .eq 25, 3) := by decide +kernel
theorem dL_law_32 : decode cL_law 32 = .ok (.aload_n 1, 1) := by decide +kernel
theorem dL_law_33 : decode cL_law 33 = .ok (.aload_n 2, 1) := by decide +kernel
theorem dL_law_34 : decode cL_law 34 = .ok (.iconst 1, 1) := by decide +kernel
theorem dL_law_35 : decode cL_law 35 = .ok (.invokestatic 86, 3) := by decide +kernel
theorem dL_law_38 : decode cL_law 38 = .ok (.ifCond .eq 16, 3) := by decide +kernel
theorem dL_law_41 : decode cL_law 41 = .ok (.aload_n 1, 1) := by decide +kernel
theorem dL_law_42 : decode cL_law 42 = .ok (.aload_n 2, 1) := by decide +kernel
theorem dL_law_43 : decode cL_law 43 = .ok (.iconst 2, 1) := by decide +kernel
theorem dL_law_44 : decode cL_law 44 = .ok (.invokestatic 86, 3) := by decide +kernel
theorem dL_law_47 : decode cL_law 47 = .ok (.ifCond .eq 7, 3) := by decide +kernel
theorem dL_law_50 : decode cL_law 50 = .ok (.iconst 1, 1) := by decide +kernel
theorem dL_law_51 : decode cL_law 51 = .ok (.goto 4, 3) := by decide +kernel
theorem dL_law_54 : decode cL_law 54 = .ok (.iconst 0, 1) := by decide +kernel
theorem dL_law_55 : decode cL_law 55 = .ok (.istore_n 3, 1) := by decide +kernel
theorem dL_law_56 : decode cL_law 56 = .ok (.iload_n 3, 1) := by decide +kernel
theorem dL_law_57 : decode cL_law 57 = .ok (.ifCond .eq 61, 3) := by decide +kernel
theorem dL_law_60 : decode cL_law 60 = .ok (.aload_n 1, 1) := by decide +kernel
theorem dL_law_61 : decode cL_law 61 = .ok (.invokestatic 90, 3) := by decide +kernel
theorem dL_law_64 : decode cL_law 64 = .ok (.ifCond .eq 54, 3) := by decide +kernel
theorem dL_law_67 : decode cL_law 67 = .ok (.aload_n 1, 1) := by decide +kernel
theorem dL_law_68 : decode cL_law 68 = .ok (.iconst 0, 1) := by decide +kernel
theorem dL_law_69 : decode cL_law 69 = .ok (.invokestatic 94, 3) := by decide +kernel
theorem dL_law_72 : decode cL_law 72 = .ok (.ifCond .eq 46, 3) := by decide +kernel
theorem dL_law_75 : decode cL_law 75 = .ok (.aload_n 1, 1) := by decide +kernel
theorem dL_law_76 : decode cL_law 76 = .ok (.iconst 1, 1) := by decide +kernel
theorem dL_law_77 : decode cL_law 77 = .ok (.invokestatic 94, 3) := by decide +kernel
theorem dL_law_80 : decode cL_law 80 = .ok (.ifCond .eq 38, 3) := by decide +kernel
theorem dL_law_83 : decode cL_law 83 = .ok (.aload_n 1, 1) := by decide +kernel
theorem dL_law_84 : decode cL_law 84 = .ok (.aload_n 0, 1) := by decide +kernel
theorem dL_law_85 : decode cL_law 85 = .ok (.bipush 6, 2) := by decide +kernel
theorem dL_law_87 : decode cL_law 87 = .ok (.invokestatic 9, 3) := by decide +kernel
theorem dL_law_90 : decode cL_law 90 = .ok (.sipush 10007, 3) := by decide +kernel
theorem dL_law_93 : decode cL_law 93 = .ok (.invokestatic 15, 3) := by decide +kernel
theorem dL_law_96 : decode cL_law 96 = .ok (.aload_n 0, 1) := by decide +kernel
theorem dL_law_97 : decode cL_law 97 = .ok (.bipush 7, 2) := by decide +kernel
theorem dL_law_99 : decode cL_law 99 = .ok (.invokestatic 9, 3) := by decide +kernel
theorem dL_law_102 : decode cL_law 102 = .ok (.sipush 5000, 3) := by decide +kernel
theorem dL_law_105 : decode cL_law 105 = .ok (.invokestatic 15, 3) := by decide +kernel
theorem dL_law_108 : decode cL_law 108 = .ok (.invokestatic 97, 3) := by decide +kernel
theorem dL_law_111 : decode cL_law 111 = .ok (.ifCond .eq 7, 3) := by decide +kernel
theorem dL_law_114 : decode cL_law 114 = .ok (.iconst 1, 1) := by decide +kernel
theorem dL_law_115 : decode cL_law 115 = .ok (.goto 4, 3) := by decide +kernel
theorem dL_law_118 : decode cL_law 118 = .ok (.iconst 0, 1) := by decide +kernel
theorem dL_law_119 : decode cL_law 119 = .ok (.istore_n 3, 1) := by decide +kernel
theorem dL_law_120 : decode cL_law 120 = .ok (.aload_n 1, 1) := by decide +kernel
theorem dL_law_121 : decode cL_law 121 = .ok (.invokevirtual 101, 3) := by decide +kernel
theorem dL_law_124 : decode cL_law 124 = .ok (.lstore 4, 2) := by decide +kernel
theorem dL_law_126 : decode cL_law 126 = .ok (.iload_n 3, 1) := by decide +kernel
theorem dL_law_127 : decode cL_law 127 = .ok (.ifCond .eq 55, 3) := by decide +kernel
theorem dL_law_130 : decode cL_law 130 = .ok (.aload_n 1, 1) := by decide +kernel
theorem dL_law_131 : decode cL_law 131 = .ok (.aload_n 0, 1) := by decide +kernel
theorem dL_law_132 : decode cL_law 132 = .ok (.bipush 8, 2) := by decide +kernel
theorem dL_law_134 : decode cL_law 134 = .ok (.invokestatic 9, 3) := by decide +kernel
theorem dL_law_137 : decode cL_law 137 = .ok (.iconst 4, 1) := by decide +kernel
theorem dL_law_138 : decode cL_law 138 = .ok (.invokestatic 15, 3) := by decide +kernel
theorem dL_law_141 : decode cL_law 141 = .ok (.aload_n 0, 1) := by decide +kernel
theorem dL_law_142 : decode cL_law 142 = .ok (.bipush 9, 2) := by decide +kernel
theorem dL_law_144 : decode cL_law 144 = .ok (.invokestatic 9, 3) := by decide +kernel
theorem dL_law_147 : decode cL_law 147 = .ok (.bipush 13, 2) := by decide +kernel
theorem dL_law_149 : decode cL_law 149 = .ok (.invokestatic 15, 3) := by decide +kernel
theorem dL_law_152 : decode cL_law 152 = .ok (.invokevirtual 105, 3) := by decide +kernel
theorem dL_law_155 : decode cL_law 155 = .ok (.ifCond .lt 27, 3) := by decide +kernel
theorem dL_law_158 : decode cL_law 158 = .ok (.aload_n 1, 1) := by decide +kernel
theorem dL_law_159 : decode cL_law 159 = .ok (.invokevirtual 46, 3) := by decide +kernel
theorem dL_law_162 : decode cL_law 162 = .ok (.iconst 3, 1) := by decide +kernel
theorem dL_law_163 : decode cL_law 163 = .ok (.if_icmp .ne 19, 3) := by decide +kernel
theorem dL_law_166 : decode cL_law 166 = .ok (.aload_n 1, 1) := by decide +kernel
theorem dL_law_167 : decode cL_law 167 = .ok (.invokevirtual 101, 3) := by decide +kernel
theorem dL_law_170 : decode cL_law 170 = .ok (.lload 4, 2) := by decide +kernel
theorem dL_law_172 : decode cL_law 172 = .ok (.lconst 1, 1) := by decide +kernel
theorem dL_law_173 : decode cL_law 173 = .ok (.lsub, 1) := by decide +kernel
theorem dL_law_174 : decode cL_law 174 = .ok (.lcmp, 1) := by decide +kernel
theorem dL_law_175 : decode cL_law 175 = .ok (.ifCond .ne 7, 3) := by decide +kernel
theorem dL_law_178 : decode cL_law 178 = .ok (.iconst 1, 1) := by decide +kernel
theorem dL_law_179 : decode cL_law 179 = .ok (.goto 4, 3) := by decide +kernel
theorem dL_law_182 : decode cL_law 182 = .ok (.iconst 0, 1) := by decide +kernel
theorem dL_law_183 : decode cL_law 183 = .ok (.istore_n 3, 1) := by decide +kernel
theorem dL_law_184 : decode cL_law 184 = .ok (.iload_n 3, 1) := by decide +kernel
theorem dL_law_185 : decode cL_law 185 = .ok (.ireturn, 1) := by decide +kernel

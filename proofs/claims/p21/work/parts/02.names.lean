/-! part 02: printed names (claim/NAMES.whole.lean.txt, cut); the table of methods and of links, laid by wip/p2/tables.py -/
def RX0 : String := "CarriedAsFarAsTheStile$Moves"
def TX0 : u_T := fun k => match k with
  | 0 => ("CarriedAsFarAsTheStile$Moves", "begun", "[I", true)
  | 1 => ("CarriedAsFarAsTheStile$Moves", "ran", "I", false)
  | 2 => ("CarriedAsFarAsTheStile$Moves", "own", "I", false)
  | 3 => ("CarriedAsFarAsTheStile$Moves", "number", "I", false)
  | _ => ("CarriedAsFarAsTheStile$Moves", "trait", "I", false)
def tyX0 : Nat → FieldType := fun k => match k with
  | 0 => .array .int
  | 1 => .int
  | 2 => .int
  | 3 => .int
  | _ => .int
theorem nmX0 : ∀ a, a < 5 → ∀ b, b < 5 → a ≠ b → (TX0 a).2.1 ≠ (TX0 b).2.1 := by decide +kernel
theorem tyX0_ok : ∀ k, k < 5 → parseFieldDescriptor (TX0 k).2.2.1 = some (tyX0 k) := by decide +kernel
abbrev cX0_init : ByteArray := prog_2_method_1_code
def yX0_init : MethodName := ⟨RX0, "<init>", "()V"⟩
abbrev cX0_forget : ByteArray := prog_2_method_2_code
def yX0_forget : MethodName := ⟨RX0, "forget", "()V"⟩
abbrev cX0_run : ByteArray := prog_2_method_3_code
def yX0_run : MethodName := ⟨RX0, "run", "(LCarriedAsFarAsTheStile$Way;III)I"⟩
abbrev cX0_kept : ByteArray := prog_2_method_4_code
def yX0_kept : MethodName := ⟨RX0, "kept", "(I)I"⟩
abbrev cX0_from : ByteArray := prog_2_method_5_code
def yX0_from : MethodName := ⟨RX0, "from", "(IIII)I"⟩
abbrev cX0_runBody : ByteArray := prog_2_method_6_code
def yX0_runBody : MethodName := ⟨RX0, "runBody", "(IIII)I"⟩
def RX1 : String := "CarriedAsFarAsTheStile$Rules"
def TX1 : u_T := fun k => match k with
  | 0 => ("CarriedAsFarAsTheStile$Rules", "walk", "LCarriedAsFarAsTheStile$Walk;", true)
  | 1 => ("CarriedAsFarAsTheStile$Rules", "turn", "I", false)
  | 2 => ("CarriedAsFarAsTheStile$Rules", "acts", "I", false)
  | _ => ("CarriedAsFarAsTheStile$Rules", "worst", "I", false)
def tyX1 : Nat → FieldType := fun k => match k with
  | 0 => .object "CarriedAsFarAsTheStile$Walk"
  | 1 => .int
  | 2 => .int
  | _ => .int
theorem nmX1 : ∀ a, a < 4 → ∀ b, b < 4 → a ≠ b → (TX1 a).2.1 ≠ (TX1 b).2.1 := by decide +kernel
theorem tyX1_ok : ∀ k, k < 4 → parseFieldDescriptor (TX1 k).2.2.1 = some (tyX1 k) := by decide +kernel
abbrev cX1_init : ByteArray := prog_3_method_1_code
def yX1_init : MethodName := ⟨RX1, "<init>", "(LCarriedAsFarAsTheStile$Way;)V"⟩
abbrev cX1_begin : ByteArray := prog_3_method_2_code
def yX1_begin : MethodName := ⟨RX1, "begin", "(LCarriedAsFarAsTheStile$Walk;)V"⟩
abbrev cX1_goOn : ByteArray := prog_3_method_3_code
def yX1_goOn : MethodName := ⟨RX1, "goOn", "(I)V"⟩
abbrev cX1_step : ByteArray := prog_3_method_4_code
def yX1_step : MethodName := ⟨RX1, "step", "(I)Z"⟩
abbrev cX1_choose : ByteArray := prog_3_method_5_code
def yX1_choose : MethodName := ⟨RX1, "choose", "(I)I"⟩
abbrev cX1_whoseTurn : ByteArray := prog_3_method_6_code
def yX1_whoseTurn : MethodName := ⟨RX1, "whoseTurn", "()I"⟩
abbrev cX1_freshest : ByteArray := prog_3_method_7_code
def yX1_freshest : MethodName := ⟨RX1, "freshest", "()I"⟩
def RX2 : String := "CarriedAsFarAsTheStile$Search"
def TX2 : u_T := fun k => match k with
  | 0 => ("CarriedAsFarAsTheStile$Search", "walks", "[LCarriedAsFarAsTheStile$Walk;", true)
  | 1 => ("CarriedAsFarAsTheStile$Search", "row", "[I", true)
  | 2 => ("CarriedAsFarAsTheStile$Search", "best", "[I", true)
  | 3 => ("CarriedAsFarAsTheStile$Search", "depthWanted", "I", false)
  | 4 => ("CarriedAsFarAsTheStile$Search", "bestActs", "I", false)
  | 5 => ("CarriedAsFarAsTheStile$Search", "bestHere", "I", false)
  | 6 => ("CarriedAsFarAsTheStile$Search", "bestWorst", "I", false)
  | _ => ("CarriedAsFarAsTheStile$Search", "bestMinutes", "I", false)
def tyX2 : Nat → FieldType := fun k => match k with
  | 0 => .array (.object "CarriedAsFarAsTheStile$Walk")
  | 1 => .array .int
  | 2 => .array .int
  | 3 => .int
  | 4 => .int
  | 5 => .int
  | 6 => .int
  | _ => .int
theorem nmX2 : ∀ a, a < 8 → ∀ b, b < 8 → a ≠ b → (TX2 a).2.1 ≠ (TX2 b).2.1 := by decide +kernel
theorem tyX2_ok : ∀ k, k < 8 → parseFieldDescriptor (TX2 k).2.2.1 = some (tyX2 k) := by decide +kernel
abbrev cX2_init : ByteArray := prog_4_method_1_code
def yX2_init : MethodName := ⟨RX2, "<init>", "(LCarriedAsFarAsTheStile$Way;)V"⟩
abbrev cX2_look : ByteArray := prog_4_method_2_code
def yX2_look : MethodName := ⟨RX2, "look", "(LCarriedAsFarAsTheStile$Walk;I)V"⟩
abbrev cX2_deeper : ByteArray := prog_4_method_3_code
def yX2_deeper : MethodName := ⟨RX2, "deeper", "(II)V"⟩
abbrev cX2_isHopeless : ByteArray := prog_4_method_4_code
def yX2_isHopeless : MethodName := ⟨RX2, "isHopeless", "(II)Z"⟩
abbrev cX2_offer : ByteArray := prog_4_method_5_code
def yX2_offer : MethodName := ⟨RX2, "offer", "(II)V"⟩
def RX3 : String := "CarriedAsFarAsTheStile$Shelf"
def TX3 : u_T := fun k => match k with
  | 0 => ("CarriedAsFarAsTheStile$Shelf", "cells", "[J", true)
  | 1 => ("CarriedAsFarAsTheStile$Shelf", "holding", "I", false)
  | _ => ("CarriedAsFarAsTheStile$Shelf", "size", "I", false)
def tyX3 : Nat → FieldType := fun k => match k with
  | 0 => .array .long
  | 1 => .int
  | _ => .int
theorem nmX3 : ∀ a, a < 3 → ∀ b, b < 3 → a ≠ b → (TX3 a).2.1 ≠ (TX3 b).2.1 := by decide +kernel
theorem tyX3_ok : ∀ k, k < 3 → parseFieldDescriptor (TX3 k).2.2.1 = some (tyX3 k) := by decide +kernel
abbrev cX3_init : ByteArray := prog_5_method_1_code
def yX3_init : MethodName := ⟨RX3, "<init>", "()V"⟩
abbrev cX3_holdsRow : ByteArray := prog_5_method_2_code
def yX3_holdsRow : MethodName := ⟨RX3, "holdsRow", "()Z"⟩
abbrev cX3_hasElement : ByteArray := prog_5_method_3_code
def yX3_hasElement : MethodName := ⟨RX3, "hasElement", "(I)Z"⟩
abbrev cX3_hasElements : ByteArray := prog_5_method_4_code
def yX3_hasElements : MethodName := ⟨RX3, "hasElements", "(II)Z"⟩
abbrev cX3_makeRow : ByteArray := prog_5_method_5_code
def yX3_makeRow : MethodName := ⟨RX3, "makeRow", "(II)V"⟩
abbrev cX3_put : ByteArray := prog_5_method_6_code
def yX3_put : MethodName := ⟨RX3, "put", "(IJ)V"⟩
abbrev cX3_number : ByteArray := prog_5_method_7_code
def yX3_number : MethodName := ⟨RX3, "number", "(I)I"⟩
def RX4 : String := "CarriedAsFarAsTheStile$Telling"
def TX4 : u_T := fun k => match k with
  | 0 => ("CarriedAsFarAsTheStile$Telling", "walk", "LCarriedAsFarAsTheStile$Walk;", true)
  | 1 => ("CarriedAsFarAsTheStile$Telling", "letters", "[I", true)
  | 2 => ("CarriedAsFarAsTheStile$Telling", "size", "I", false)
  | 3 => ("CarriedAsFarAsTheStile$Telling", "place", "I", false)
  | 4 => ("CarriedAsFarAsTheStile$Telling", "numberPlace", "I", false)
  | 5 => ("CarriedAsFarAsTheStile$Telling", "items", "I", false)
  | _ => ("CarriedAsFarAsTheStile$Telling", "fault", "I", false)
def tyX4 : Nat → FieldType := fun k => match k with
  | 0 => .object "CarriedAsFarAsTheStile$Walk"
  | 1 => .array .int
  | 2 => .int
  | 3 => .int
  | 4 => .int
  | 5 => .int
  | _ => .int
theorem nmX4 : ∀ a, a < 7 → ∀ b, b < 7 → a ≠ b → (TX4 a).2.1 ≠ (TX4 b).2.1 := by decide +kernel
theorem tyX4_ok : ∀ k, k < 7 → parseFieldDescriptor (TX4 k).2.2.1 = some (tyX4 k) := by decide +kernel
abbrev cX4_init : ByteArray := prog_6_method_1_code
def yX4_init : MethodName := ⟨RX4, "<init>", "()V"⟩
abbrev cX4_read : ByteArray := prog_6_method_2_code
def yX4_read : MethodName := ⟨RX4, "read", "(LCarriedAsFarAsTheStile$Shelf;LCarriedAsFarAsTheStile$Walk;)V"⟩
abbrev cX4_readItem : ByteArray := prog_6_method_3_code
def yX4_readItem : MethodName := ⟨RX4, "readItem", "()V"⟩
abbrev cX4_hasRoomFor : ByteArray := prog_6_method_4_code
def yX4_hasRoomFor : MethodName := ⟨RX4, "hasRoomFor", "(I)Z"⟩
abbrev cX4_tellFurlong : ByteArray := prog_6_method_5_code
def yX4_tellFurlong : MethodName := ⟨RX4, "tellFurlong", "(I)V"⟩
abbrev cX4_tellPerson : ByteArray := prog_6_method_6_code
def yX4_tellPerson : MethodName := ⟨RX4, "tellPerson", "()V"⟩
abbrev cX4_tellTired : ByteArray := prog_6_method_7_code
def yX4_tellTired : MethodName := ⟨RX4, "tellTired", "()V"⟩
abbrev cX4_tellBag : ByteArray := prog_6_method_8_code
def yX4_tellBag : MethodName := ⟨RX4, "tellBag", "()V"⟩
abbrev cX4_tellAct : ByteArray := prog_6_method_9_code
def yX4_tellAct : MethodName := ⟨RX4, "tellAct", "()V"⟩
abbrev cX4_tellAsked : ByteArray := prog_6_method_10_code
def yX4_tellAsked : MethodName := ⟨RX4, "tellAsked", "(I)V"⟩
abbrev cX4_readWord : ByteArray := prog_6_method_11_code
def yX4_readWord : MethodName := ⟨RX4, "readWord", "()I"⟩
abbrev cX4_wordBeginning : ByteArray := prog_6_method_12_code
def yX4_wordBeginning : MethodName := ⟨RX4, "wordBeginning", "(II)I"⟩
abbrev cX4_beginsThere : ByteArray := prog_6_method_13_code
def yX4_beginsThere : MethodName := ⟨RX4, "beginsThere", "(Ljava/lang/String;II)Z"⟩
abbrev cX4_spelling : ByteArray := prog_6_method_14_code
def yX4_spelling : MethodName := ⟨RX4, "spelling", "(I)Ljava/lang/String;"⟩
abbrev cX4_readSign : ByteArray := prog_6_method_15_code
def yX4_readSign : MethodName := ⟨RX4, "readSign", "(C)Z"⟩
abbrev cX4_readNumber : ByteArray := prog_6_method_16_code
def yX4_readNumber : MethodName := ⟨RX4, "readNumber", "(II)I"⟩
abbrev cX4_isDigitNext : ByteArray := prog_6_method_17_code
def yX4_isDigitNext : MethodName := ⟨RX4, "isDigitNext", "()Z"⟩
def RX5 : String := "CarriedAsFarAsTheStile$Walk"
def TX5 : u_T := fun k => match k with
  | 0 => ("CarriedAsFarAsTheStile$Walk", "way", "LCarriedAsFarAsTheStile$Way;", true)
  | 1 => ("CarriedAsFarAsTheStile$Walk", "tired", "[I", true)
  | 2 => ("CarriedAsFarAsTheStile$Walk", "bag", "I", false)
  | 3 => ("CarriedAsFarAsTheStile$Walk", "most", "I", false)
  | 4 => ("CarriedAsFarAsTheStile$Walk", "legs", "I", false)
  | 5 => ("CarriedAsFarAsTheStile$Walk", "nap", "I", false)
  | 6 => ("CarriedAsFarAsTheStile$Walk", "on", "I", false)
  | 7 => ("CarriedAsFarAsTheStile$Walk", "biscuits", "I", false)
  | 8 => ("CarriedAsFarAsTheStile$Walk", "races", "I", false)
  | 9 => ("CarriedAsFarAsTheStile$Walk", "worn", "I", false)
  | 10 => ("CarriedAsFarAsTheStile$Walk", "here", "I", false)
  | 11 => ("CarriedAsFarAsTheStile$Walk", "minutes", "I", false)
  | _ => ("CarriedAsFarAsTheStile$Walk", "seed", "I", false)
def tyX5 : Nat → FieldType := fun k => match k with
  | 0 => .object "CarriedAsFarAsTheStile$Way"
  | 1 => .array .int
  | 2 => .int
  | 3 => .int
  | 4 => .int
  | 5 => .int
  | 6 => .int
  | 7 => .int
  | 8 => .int
  | 9 => .int
  | 10 => .int
  | 11 => .int
  | _ => .int
theorem nmX5 : ∀ a, a < 13 → ∀ b, b < 13 → a ≠ b → (TX5 a).2.1 ≠ (TX5 b).2.1 := by decide +kernel
theorem tyX5_ok : ∀ k, k < 13 → parseFieldDescriptor (TX5 k).2.2.1 = some (tyX5 k) := by decide +kernel
abbrev cX5_init : ByteArray := prog_7_method_1_code
def yX5_init : MethodName := ⟨RX5, "<init>", "(LCarriedAsFarAsTheStile$Way;)V"⟩
abbrev cX5_copyFrom : ByteArray := prog_7_method_2_code
def yX5_copyFrom : MethodName := ⟨RX5, "copyFrom", "(LCarriedAsFarAsTheStile$Walk;)V"⟩
abbrev cX5_addPerson : ByteArray := prog_7_method_3_code
def yX5_addPerson : MethodName := ⟨RX5, "addPerson", "(II)I"⟩
abbrev cX5_asked : ByteArray := prog_7_method_4_code
def yX5_asked : MethodName := ⟨RX5, "asked", "(I)I"⟩
abbrev cX5_become : ByteArray := prog_7_method_5_code
def yX5_become : MethodName := ⟨RX5, "become", "(II)V"⟩
abbrev cX5_atEnd : ByteArray := prog_7_method_6_code
def yX5_atEnd : MethodName := ⟨RX5, "atEnd", "()Z"⟩
abbrev cX5_asleep : ByteArray := prog_7_method_7_code
def yX5_asleep : MethodName := ⟨RX5, "asleep", "()Z"⟩
abbrev cX5_greatestTired : ByteArray := prog_7_method_8_code
def yX5_greatestTired : MethodName := ⟨RX5, "greatestTired", "()I"⟩
abbrev cX5_minutesThereAndBack : ByteArray := prog_7_method_9_code
def yX5_minutesThereAndBack : MethodName := ⟨RX5, "minutesThereAndBack", "()I"⟩
abbrev cX5_loadOnSlope : ByteArray := prog_7_method_10_code
def yX5_loadOnSlope : MethodName := ⟨RX5, "loadOnSlope", "(II)I"⟩
abbrev cX5_mayBe : ByteArray := prog_7_method_11_code
def yX5_mayBe : MethodName := ⟨RX5, "mayBe", "(I)Z"⟩
abbrev cX5_mayCarry : ByteArray := prog_7_method_12_code
def yX5_mayCarry : MethodName := ⟨RX5, "mayCarry", "(I)Z"⟩
abbrev cX5_mayWalk : ByteArray := prog_7_method_13_code
def yX5_mayWalk : MethodName := ⟨RX5, "mayWalk", "()Z"⟩
abbrev cX5_mayRest : ByteArray := prog_7_method_14_code
def yX5_mayRest : MethodName := ⟨RX5, "mayRest", "()Z"⟩
abbrev cX5_come : ByteArray := prog_7_method_15_code
def yX5_come : MethodName := ⟨RX5, "come", "(I)V"⟩
abbrev cX5_walk : ByteArray := prog_7_method_16_code
def yX5_walk : MethodName := ⟨RX5, "walk", "()V"⟩
abbrev cX5_carry : ByteArray := prog_7_method_17_code
def yX5_carry : MethodName := ⟨RX5, "carry", "(I)V"⟩
abbrev cX5_restOthers : ByteArray := prog_7_method_18_code
def yX5_restOthers : MethodName := ⟨RX5, "restOthers", "(I)V"⟩
abbrev cX5_restAll : ByteArray := prog_7_method_19_code
def yX5_restAll : MethodName := ⟨RX5, "restAll", "()V"⟩
abbrev cX5_draw : ByteArray := prog_7_method_20_code
def yX5_draw : MethodName := ⟨RX5, "draw", "(I)I"⟩
def RX6 : String := "CarriedAsFarAsTheStile$Way"
def TX6 : u_T := fun k => match k with
  | 0 => ("CarriedAsFarAsTheStile$Way", "slopes", "[I", true)
  | 1 => ("CarriedAsFarAsTheStile$Way", "stiles", "[I", true)
  | 2 => ("CarriedAsFarAsTheStile$Way", "kinds", "[I", true)
  | 3 => ("CarriedAsFarAsTheStile$Way", "traits", "[I", true)
  | 4 => ("CarriedAsFarAsTheStile$Way", "furlongs", "I", false)
  | _ => ("CarriedAsFarAsTheStile$Way", "people", "I", false)
def tyX6 : Nat → FieldType := fun k => match k with
  | 0 => .array .int
  | 1 => .array .int
  | 2 => .array .int
  | 3 => .array .int
  | 4 => .int
  | _ => .int
theorem nmX6 : ∀ a, a < 6 → ∀ b, b < 6 → a ≠ b → (TX6 a).2.1 ≠ (TX6 b).2.1 := by decide +kernel
theorem tyX6_ok : ∀ k, k < 6 → parseFieldDescriptor (TX6 k).2.2.1 = some (tyX6 k) := by decide +kernel
abbrev cX6_init : ByteArray := prog_8_method_1_code
def yX6_init : MethodName := ⟨RX6, "<init>", "()V"⟩
abbrev cX6_copyFrom : ByteArray := prog_8_method_2_code
def yX6_copyFrom : MethodName := ⟨RX6, "copyFrom", "(LCarriedAsFarAsTheStile$Way;)V"⟩
abbrev cX6_hasFurlong : ByteArray := prog_8_method_3_code
def yX6_hasFurlong : MethodName := ⟨RX6, "hasFurlong", "(I)Z"⟩
abbrev cX6_hasPerson : ByteArray := prog_8_method_4_code
def yX6_hasPerson : MethodName := ⟨RX6, "hasPerson", "(I)Z"⟩
abbrev cX6_addFurlong : ByteArray := prog_8_method_5_code
def yX6_addFurlong : MethodName := ⟨RX6, "addFurlong", "(IZ)I"⟩
def RX7 : String := "CarriedAsFarAsTheStile"
def TX7 : u_T := fun k => match k with
  | 0 => ("CarriedAsFarAsTheStile", "shelves", "[LCarriedAsFarAsTheStile$Shelf;", true)
  | 1 => ("CarriedAsFarAsTheStile", "now", "LCarriedAsFarAsTheStile$Walk;", true)
  | 2 => ("CarriedAsFarAsTheStile", "image", "LCarriedAsFarAsTheStile$Walk;", true)
  | 3 => ("CarriedAsFarAsTheStile", "trial", "LCarriedAsFarAsTheStile$Walk;", true)
  | 4 => ("CarriedAsFarAsTheStile", "rules", "LCarriedAsFarAsTheStile$Rules;", true)
  | 5 => ("CarriedAsFarAsTheStile", "search", "LCarriedAsFarAsTheStile$Search;", true)
  | 6 => ("CarriedAsFarAsTheStile", "telling", "LCarriedAsFarAsTheStile$Telling;", true)
  | 7 => ("CarriedAsFarAsTheStile", "moves", "LCarriedAsFarAsTheStile$Moves;", true)
  | 8 => ("CarriedAsFarAsTheStile", "refusals", "[I", true)
  | 9 => ("CarriedAsFarAsTheStile", "imageTaken", "Z", false)
  | _ => ("CarriedAsFarAsTheStile", "latestFault", "I", false)
def tyX7 : Nat → FieldType := fun k => match k with
  | 0 => .array (.object "CarriedAsFarAsTheStile$Shelf")
  | 1 => .object "CarriedAsFarAsTheStile$Walk"
  | 2 => .object "CarriedAsFarAsTheStile$Walk"
  | 3 => .object "CarriedAsFarAsTheStile$Walk"
  | 4 => .object "CarriedAsFarAsTheStile$Rules"
  | 5 => .object "CarriedAsFarAsTheStile$Search"
  | 6 => .object "CarriedAsFarAsTheStile$Telling"
  | 7 => .object "CarriedAsFarAsTheStile$Moves"
  | 8 => .array .int
  | 9 => .boolean
  | _ => .int
theorem nmX7 : ∀ a, a < 11 → ∀ b, b < 11 → a ≠ b → (TX7 a).2.1 ≠ (TX7 b).2.1 := by decide +kernel
theorem tyX7_ok : ∀ k, k < 11 → parseFieldDescriptor (TX7 k).2.2.1 = some (tyX7 k) := by decide +kernel
abbrev cX7_init : ByteArray := prog_1_method_1_code
def yX7_init : MethodName := ⟨RX7, "<init>", "()V"⟩
abbrev cX7_row : ByteArray := prog_1_method_2_code
def yX7_row : MethodName := ⟨RX7, "row", "(III)I"⟩
abbrev cX7_set : ByteArray := prog_1_method_3_code
def yX7_set : MethodName := ⟨RX7, "set", "(IIJ)I"⟩
abbrev cX7_copy : ByteArray := prog_1_method_4_code
def yX7_copy : MethodName := ⟨RX7, "copy", "(IIIII)I"⟩
abbrev cX7_element : ByteArray := prog_1_method_5_code
def yX7_element : MethodName := ⟨RX7, "element", "(II)J"⟩
abbrev cX7_show : ByteArray := prog_1_method_6_code
def yX7_show : MethodName := ⟨RX7, "show", "(II)I"⟩
abbrev cX7_holds : ByteArray := prog_1_method_7_code
def yX7_holds : MethodName := ⟨RX7, "holds", "(I)I"⟩
abbrev cX7_says : ByteArray := prog_1_method_8_code
def yX7_says : MethodName := ⟨RX7, "says", "(II)I"⟩
abbrev cX7_furlong : ByteArray := prog_1_method_9_code
def yX7_furlong : MethodName := ⟨RX7, "furlong", "(IZ)I"⟩
abbrev cX7_person : ByteArray := prog_1_method_10_code
def yX7_person : MethodName := ⟨RX7, "person", "(II)I"⟩
abbrev cX7_furlongOf : ByteArray := prog_1_method_11_code
def yX7_furlongOf : MethodName := ⟨RX7, "furlongOf", "(II)I"⟩
abbrev cX7_personOf : ByteArray := prog_1_method_12_code
def yX7_personOf : MethodName := ⟨RX7, "personOf", "(II)I"⟩
abbrev cX7_ask : ByteArray := prog_1_method_13_code
def yX7_ask : MethodName := ⟨RX7, "ask", "(II)I"⟩
abbrev cX7_tire : ByteArray := prog_1_method_14_code
def yX7_tire : MethodName := ⟨RX7, "tire", "(II)I"⟩
abbrev cX7_bag : ByteArray := prog_1_method_15_code
def yX7_bag : MethodName := ⟨RX7, "bag", "(I)I"⟩
abbrev cX7_way : ByteArray := prog_1_method_16_code
def yX7_way : MethodName := ⟨RX7, "way", "(I)I"⟩
abbrev cX7_fault : ByteArray := prog_1_method_17_code
def yX7_fault : MethodName := ⟨RX7, "fault", "()I"⟩
abbrev cX7_load : ByteArray := prog_1_method_18_code
def yX7_load : MethodName := ⟨RX7, "load", "(II)I"⟩
abbrev cX7_may : ByteArray := prog_1_method_19_code
def yX7_may : MethodName := ⟨RX7, "may", "(I)I"⟩
abbrev cX7_next : ByteArray := prog_1_method_20_code
def yX7_next : MethodName := ⟨RX7, "next", "()I"⟩
abbrev cX7_ahead : ByteArray := prog_1_method_21_code
def yX7_ahead : MethodName := ⟨RX7, "ahead", "(II)I"⟩
abbrev cX7_by : ByteArray := prog_1_method_22_code
def yX7_by : MethodName := ⟨RX7, "by", "(II)I"⟩
abbrev cX7_best : ByteArray := prog_1_method_23_code
def yX7_best : MethodName := ⟨RX7, "best", "(I)I"⟩
abbrev cX7_whose : ByteArray := prog_1_method_24_code
def yX7_whose : MethodName := ⟨RX7, "whose", "(I)I"⟩
abbrev cX7_turn : ByteArray := prog_1_method_25_code
def yX7_turn : MethodName := ⟨RX7, "turn", "(II)I"⟩
abbrev cX7_pays : ByteArray := prog_1_method_26_code
def yX7_pays : MethodName := ⟨RX7, "pays", "(I)I"⟩
abbrev cX7_bagged : ByteArray := prog_1_method_27_code
def yX7_bagged : MethodName := ⟨RX7, "bagged", "(I)I"⟩
abbrev cX7_judge : ByteArray := prog_1_method_28_code
def yX7_judge : MethodName := ⟨RX7, "judge", "(II)I"⟩
abbrev cX7_behind : ByteArray := prog_1_method_29_code
def yX7_behind : MethodName := ⟨RX7, "behind", "(III)I"⟩
abbrev cX7_done : ByteArray := prog_1_method_30_code
def yX7_done : MethodName := ⟨RX7, "done", "(II)I"⟩
abbrev cX7_fits : ByteArray := prog_1_method_31_code
def yX7_fits : MethodName := ⟨RX7, "fits", "(I)I"⟩
abbrev cX7_enough : ByteArray := prog_1_method_32_code
def yX7_enough : MethodName := ⟨RX7, "enough", "()I"⟩
abbrev cX7_leastWorn : ByteArray := prog_1_method_33_code
def yX7_leastWorn : MethodName := ⟨RX7, "leastWorn", "(I)I"⟩
abbrev cX7_does : ByteArray := prog_1_method_34_code
def yX7_does : MethodName := ⟨RX7, "does", "(I)I"⟩
abbrev cX7_summer : ByteArray := prog_1_method_35_code
def yX7_summer : MethodName := ⟨RX7, "summer", "(I)I"⟩
abbrev cX7_day : ByteArray := prog_1_method_36_code
def yX7_day : MethodName := ⟨RX7, "day", "()I"⟩
abbrev cX7_seed : ByteArray := prog_1_method_37_code
def yX7_seed : MethodName := ⟨RX7, "seed", "(I)I"⟩
abbrev cX7_act : ByteArray := prog_1_method_38_code
def yX7_act : MethodName := ⟨RX7, "act", "(III)I"⟩
abbrev cX7_trace : ByteArray := prog_1_method_39_code
def yX7_trace : MethodName := ⟨RX7, "trace", "(I)I"⟩
abbrev cX7_image : ByteArray := prog_1_method_40_code
def yX7_image : MethodName := ⟨RX7, "image", "()I"⟩
abbrev cX7_restore : ByteArray := prog_1_method_41_code
def yX7_restore : MethodName := ⟨RX7, "restore", "()I"⟩
abbrev cX7_status : ByteArray := prog_1_method_42_code
def yX7_status : MethodName := ⟨RX7, "status", "(I)I"⟩
abbrev cX7_refuse : ByteArray := prog_1_method_43_code
def yX7_refuse : MethodName := ⟨RX7, "refuse", "(I)I"⟩
abbrev cX7_refuseFar : ByteArray := prog_1_method_44_code
def yX7_refuseFar : MethodName := ⟨RX7, "refuseFar", "(I)I"⟩
abbrev cX7_whyNoRow : ByteArray := prog_1_method_45_code
def yX7_whyNoRow : MethodName := ⟨RX7, "whyNoRow", "(I)I"⟩
abbrev cX7_whyNoCopy : ByteArray := prog_1_method_46_code
def yX7_whyNoCopy : MethodName := ⟨RX7, "whyNoCopy", "(II)I"⟩
abbrev cX7_whyNoWalk : ByteArray := prog_1_method_47_code
def yX7_whyNoWalk : MethodName := ⟨RX7, "whyNoWalk", "(II)I"⟩
abbrev cX7_isShelf : ByteArray := prog_1_method_48_code
def yX7_isShelf : MethodName := ⟨RX7, "isShelf", "(I)Z"⟩
abbrev cX7_isKind : ByteArray := prog_1_method_49_code
def yX7_isKind : MethodName := ⟨RX7, "isKind", "(I)Z"⟩
abbrev cX7_isRule : ByteArray := prog_1_method_50_code
def yX7_isRule : MethodName := ⟨RX7, "isRule", "(I)Z"⟩
abbrev cX7_isUnder : ByteArray := prog_1_method_51_code
def yX7_isUnder : MethodName := ⟨RX7, "isUnder", "(II)Z"⟩
abbrev cX7_restOfKind : ByteArray := prog_1_method_52_code
def yX7_restOfKind : MethodName := ⟨RX7, "restOfKind", "(I)I"⟩
abbrev cX7_isBetter : ByteArray := prog_1_method_53_code
def yX7_isBetter : MethodName := ⟨RX7, "isBetter", "(IIII)Z"⟩
abbrev cX7_nthBit : ByteArray := prog_1_method_54_code
def yX7_nthBit : MethodName := ⟨RX7, "nthBit", "(II)I"⟩
abbrev cX7_tryWalk : ByteArray := prog_1_method_55_code
def yX7_tryWalk : MethodName := ⟨RX7, "tryWalk", "(LCarriedAsFarAsTheStile$Shelf;I)I"⟩
abbrev cX7_areSoTired : ByteArray := prog_1_method_56_code
def yX7_areSoTired : MethodName := ⟨RX7, "areSoTired", "(LCarriedAsFarAsTheStile$Walk;LCarriedAsFarAsTheStile$Shelf;)Z"⟩
abbrev cX7_leastToTheEnd : ByteArray := prog_1_method_57_code
def yX7_leastToTheEnd : MethodName := ⟨RX7, "leastToTheEnd", "(II)I"⟩
def RX8 : String := "CarriedAsFarAsTheStileModel"
def TX8 : u_T := fun k => match k with
  | 0 => ("CarriedAsFarAsTheStileModel", "furlongs", "I", false)
  | 1 => ("CarriedAsFarAsTheStileModel", "many", "I", false)
  | 2 => ("CarriedAsFarAsTheStileModel", "bagged", "I", false)
  | 3 => ("CarriedAsFarAsTheStileModel", "legs", "I", false)
  | 4 => ("CarriedAsFarAsTheStileModel", "most", "I", false)
  | 5 => ("CarriedAsFarAsTheStileModel", "nap", "I", false)
  | 6 => ("CarriedAsFarAsTheStileModel", "on", "I", false)
  | 7 => ("CarriedAsFarAsTheStileModel", "biscuits", "I", false)
  | 8 => ("CarriedAsFarAsTheStileModel", "races", "I", false)
  | 9 => ("CarriedAsFarAsTheStileModel", "worn", "I", false)
  | 10 => ("CarriedAsFarAsTheStileModel", "here", "I", false)
  | 11 => ("CarriedAsFarAsTheStileModel", "minutes", "I", false)
  | 12 => ("CarriedAsFarAsTheStileModel", "seed", "I", false)
  | 13 => ("CarriedAsFarAsTheStileModel", "fault", "I", false)
  | 14 => ("CarriedAsFarAsTheStileModel", "refused", "[I", true)
  | 15 => ("CarriedAsFarAsTheStileModel", "slope", "[I", true)
  | 16 => ("CarriedAsFarAsTheStileModel", "stile", "[I", true)
  | 17 => ("CarriedAsFarAsTheStileModel", "kind", "[I", true)
  | 18 => ("CarriedAsFarAsTheStileModel", "part", "[I", true)
  | 19 => ("CarriedAsFarAsTheStileModel", "tired", "[I", true)
  | 20 => ("CarriedAsFarAsTheStileModel", "held", "[I", true)
  | 21 => ("CarriedAsFarAsTheStileModel", "sort", "[I", true)
  | 22 => ("CarriedAsFarAsTheStileModel", "size", "[I", true)
  | 23 => ("CarriedAsFarAsTheStileModel", "shown", "[I", true)
  | 24 => ("CarriedAsFarAsTheStileModel", "cells", "[J", true)
  | 25 => ("CarriedAsFarAsTheStileModel", "carried", "[J", true)
  | 26 => ("CarriedAsFarAsTheStileModel", "words", "[I", true)
  | 27 => ("CarriedAsFarAsTheStileModel", "numbers", "[I", true)
  | 28 => ("CarriedAsFarAsTheStileModel", "tell", "[I", true)
  | 29 => ("CarriedAsFarAsTheStileModel", "base", "I", false)
  | 30 => ("CarriedAsFarAsTheStileModel", "at", "I", false)
  | 31 => ("CarriedAsFarAsTheStileModel", "end", "I", false)
  | 32 => ("CarriedAsFarAsTheStileModel", "number", "I", false)
  | 33 => ("CarriedAsFarAsTheStileModel", "wrongAt", "I", false)
  | 34 => ("CarriedAsFarAsTheStileModel", "was", "[I", true)
  | 35 => ("CarriedAsFarAsTheStileModel", "kept", "[I", true)
  | 36 => ("CarriedAsFarAsTheStileModel", "tried", "[I", true)
  | 37 => ("CarriedAsFarAsTheStileModel", "ahead", "[I", true)
  | 38 => ("CarriedAsFarAsTheStileModel", "chosen", "[I", true)
  | 39 => ("CarriedAsFarAsTheStileModel", "best", "[I", true)
  | 40 => ("CarriedAsFarAsTheStileModel", "bestMany", "I", false)
  | 41 => ("CarriedAsFarAsTheStileModel", "bestHere", "I", false)
  | 42 => ("CarriedAsFarAsTheStileModel", "bestWorn", "I", false)
  | 43 => ("CarriedAsFarAsTheStileModel", "bestMinutes", "I", false)
  | 44 => ("CarriedAsFarAsTheStileModel", "turn", "I", false)
  | 45 => ("CarriedAsFarAsTheStileModel", "ever", "I", false)
  | 46 => ("CarriedAsFarAsTheStileModel", "made", "I", false)
  | 47 => ("CarriedAsFarAsTheStileModel", "ruleHere", "I", false)
  | 48 => ("CarriedAsFarAsTheStileModel", "ruleMinutes", "I", false)
  | 49 => ("CarriedAsFarAsTheStileModel", "ruleEver", "I", false)
  | 50 => ("CarriedAsFarAsTheStileModel", "trace", "[I", true)
  | 51 => ("CarriedAsFarAsTheStileModel", "ran", "I", false)
  | _ => ("CarriedAsFarAsTheStileModel", "isKept", "Z", false)
def tyX8 : Nat → FieldType := fun k => match k with
  | 0 => .int
  | 1 => .int
  | 2 => .int
  | 3 => .int
  | 4 => .int
  | 5 => .int
  | 6 => .int
  | 7 => .int
  | 8 => .int
  | 9 => .int
  | 10 => .int
  | 11 => .int
  | 12 => .int
  | 13 => .int
  | 14 => .array .int
  | 15 => .array .int
  | 16 => .array .int
  | 17 => .array .int
  | 18 => .array .int
  | 19 => .array .int
  | 20 => .array .int
  | 21 => .array .int
  | 22 => .array .int
  | 23 => .array .int
  | 24 => .array .long
  | 25 => .array .long
  | 26 => .array .int
  | 27 => .array .int
  | 28 => .array .int
  | 29 => .int
  | 30 => .int
  | 31 => .int
  | 32 => .int
  | 33 => .int
  | 34 => .array .int
  | 35 => .array .int
  | 36 => .array .int
  | 37 => .array .int
  | 38 => .array .int
  | 39 => .array .int
  | 40 => .int
  | 41 => .int
  | 42 => .int
  | 43 => .int
  | 44 => .int
  | 45 => .int
  | 46 => .int
  | 47 => .int
  | 48 => .int
  | 49 => .int
  | 50 => .array .int
  | 51 => .int
  | _ => .boolean
theorem nmX8 : ∀ a, a < 53 → ∀ b, b < 53 → a ≠ b → (TX8 a).2.1 ≠ (TX8 b).2.1 := by decide +kernel
theorem tyX8_ok : ∀ k, k < 53 → parseFieldDescriptor (TX8 k).2.2.1 = some (tyX8 k) := by decide +kernel
abbrev cX8_init : ByteArray := prog_10_method_1_code
def yX8_init : MethodName := ⟨RX8, "<init>", "()V"⟩
abbrev cX8_no : ByteArray := prog_10_method_2_code
def yX8_no : MethodName := ⟨RX8, "no", "(I)I"⟩
abbrev cX8_noTen : ByteArray := prog_10_method_3_code
def yX8_noTen : MethodName := ⟨RX8, "noTen", "(I)I"⟩
abbrev cX8_isShelf : ByteArray := prog_10_method_4_code
def yX8_isShelf : MethodName := ⟨RX8, "isShelf", "(I)Z"⟩
abbrev cX8_isPerson : ByteArray := prog_10_method_5_code
def yX8_isPerson : MethodName := ⟨RX8, "isPerson", "(I)Z"⟩
abbrev cX8_isFurlong : ByteArray := prog_10_method_6_code
def yX8_isFurlong : MethodName := ⟨RX8, "isFurlong", "(I)Z"⟩
abbrev cX8_row : ByteArray := prog_10_method_7_code
def yX8_row : MethodName := ⟨RX8, "row", "(III)I"⟩
abbrev cX8_set : ByteArray := prog_10_method_8_code
def yX8_set : MethodName := ⟨RX8, "set", "(IIJ)I"⟩
abbrev cX8_copy : ByteArray := prog_10_method_9_code
def yX8_copy : MethodName := ⟨RX8, "copy", "(IIIII)I"⟩
abbrev cX8_element : ByteArray := prog_10_method_10_code
def yX8_element : MethodName := ⟨RX8, "element", "(II)J"⟩
abbrev cX8_show : ByteArray := prog_10_method_11_code
def yX8_show : MethodName := ⟨RX8, "show", "(II)I"⟩
abbrev cX8_holds : ByteArray := prog_10_method_12_code
def yX8_holds : MethodName := ⟨RX8, "holds", "(I)I"⟩
abbrev cX8_says : ByteArray := prog_10_method_13_code
def yX8_says : MethodName := ⟨RX8, "says", "(II)I"⟩
abbrev cX8_wanted : ByteArray := prog_10_method_14_code
def yX8_wanted : MethodName := ⟨RX8, "wanted", "(I)I"⟩
abbrev cX8_intAt : ByteArray := prog_10_method_15_code
def yX8_intAt : MethodName := ⟨RX8, "intAt", "(II)I"⟩
abbrev cX8_bars : ByteArray := prog_10_method_16_code
def yX8_bars : MethodName := ⟨RX8, "bars", "(II)I"⟩
abbrev cX8_addsFurlong : ByteArray := prog_10_method_17_code
def yX8_addsFurlong : MethodName := ⟨RX8, "addsFurlong", "(II)I"⟩
abbrev cX8_addsPerson : ByteArray := prog_10_method_18_code
def yX8_addsPerson : MethodName := ⟨RX8, "addsPerson", "(II)I"⟩
abbrev cX8_furlong : ByteArray := prog_10_method_19_code
def yX8_furlong : MethodName := ⟨RX8, "furlong", "(IZ)I"⟩
abbrev cX8_person : ByteArray := prog_10_method_20_code
def yX8_person : MethodName := ⟨RX8, "person", "(II)I"⟩
abbrev cX8_furlongOf : ByteArray := prog_10_method_21_code
def yX8_furlongOf : MethodName := ⟨RX8, "furlongOf", "(II)I"⟩
abbrev cX8_personOf : ByteArray := prog_10_method_22_code
def yX8_personOf : MethodName := ⟨RX8, "personOf", "(II)I"⟩
abbrev cX8_isAsked : ByteArray := prog_10_method_23_code
def yX8_isAsked : MethodName := ⟨RX8, "isAsked", "(II)Z"⟩
abbrev cX8_told : ByteArray := prog_10_method_24_code
def yX8_told : MethodName := ⟨RX8, "told", "(I)I"⟩
abbrev cX8_tells : ByteArray := prog_10_method_25_code
def yX8_tells : MethodName := ⟨RX8, "tells", "(II)V"⟩
abbrev cX8_asks : ByteArray := prog_10_method_26_code
def yX8_asks : MethodName := ⟨RX8, "asks", "(II)I"⟩
abbrev cX8_ask : ByteArray := prog_10_method_27_code
def yX8_ask : MethodName := ⟨RX8, "ask", "(II)I"⟩
abbrev cX8_tire : ByteArray := prog_10_method_28_code
def yX8_tire : MethodName := ⟨RX8, "tire", "(II)I"⟩
abbrev cX8_bag : ByteArray := prog_10_method_29_code
def yX8_bag : MethodName := ⟨RX8, "bag", "(I)I"⟩
abbrev cX8_wrong : ByteArray := prog_10_method_30_code
def yX8_wrong : MethodName := ⟨RX8, "wrong", "(I)Z"⟩
abbrev cX8_stands : ByteArray := prog_10_method_31_code
def yX8_stands : MethodName := ⟨RX8, "stands", "(I)Z"⟩
abbrev cX8_word : ByteArray := prog_10_method_32_code
def yX8_word : MethodName := ⟨RX8, "word", "()I"⟩
abbrev cX8_isDigit : ByteArray := prog_10_method_33_code
def yX8_isDigit : MethodName := ⟨RX8, "isDigit", "()Z"⟩
abbrev cX8_reads : ByteArray := prog_10_method_34_code
def yX8_reads : MethodName := ⟨RX8, "reads", "()Z"⟩
abbrev cX8_isSo : ByteArray := prog_10_method_35_code
def yX8_isSo : MethodName := ⟨RX8, "isSo", "(II)Z"⟩
abbrev cX8_item : ByteArray := prog_10_method_36_code
def yX8_item : MethodName := ⟨RX8, "item", "()Z"⟩
abbrev cX8_carries : ByteArray := prog_10_method_37_code
def yX8_carries : MethodName := ⟨RX8, "carries", "([II[IIZ)I"⟩
abbrev cX8_all : ByteArray := prog_10_method_38_code
def yX8_all : MethodName := ⟨RX8, "all", "([IIZ)V"⟩
abbrev cX8_way : ByteArray := prog_10_method_39_code
def yX8_way : MethodName := ⟨RX8, "way", "(I)I"⟩
abbrev cX8_fault : ByteArray := prog_10_method_40_code
def yX8_fault : MethodName := ⟨RX8, "fault", "()I"⟩
abbrev cX8_isAsleep : ByteArray := prog_10_method_41_code
def yX8_isAsleep : MethodName := ⟨RX8, "isAsleep", "()Z"⟩
abbrev cX8_loadOf : ByteArray := prog_10_method_42_code
def yX8_loadOf : MethodName := ⟨RX8, "loadOf", "(II)I"⟩
abbrev cX8_mayCarry : ByteArray := prog_10_method_43_code
def yX8_mayCarry : MethodName := ⟨RX8, "mayCarry", "(I)Z"⟩
abbrev cX8_mayBe : ByteArray := prog_10_method_44_code
def yX8_mayBe : MethodName := ⟨RX8, "mayBe", "(I)Z"⟩
abbrev cX8_rests : ByteArray := prog_10_method_45_code
def yX8_rests : MethodName := ⟨RX8, "rests", "(II)V"⟩
abbrev cX8_acts : ByteArray := prog_10_method_46_code
def yX8_acts : MethodName := ⟨RX8, "acts", "(I)V"⟩
abbrev cX8_greatest : ByteArray := prog_10_method_47_code
def yX8_greatest : MethodName := ⟨RX8, "greatest", "()I"⟩
abbrev cX8_load : ByteArray := prog_10_method_48_code
def yX8_load : MethodName := ⟨RX8, "load", "(II)I"⟩
abbrev cX8_may : ByteArray := prog_10_method_49_code
def yX8_may : MethodName := ⟨RX8, "may", "(I)I"⟩
abbrev cX8_next : ByteArray := prog_10_method_50_code
def yX8_next : MethodName := ⟨RX8, "next", "()I"⟩
abbrev cX8_looks : ByteArray := prog_10_method_51_code
def yX8_looks : MethodName := ⟨RX8, "looks", "(III)V"⟩
abbrev cX8_ahead : ByteArray := prog_10_method_52_code
def yX8_ahead : MethodName := ⟨RX8, "ahead", "(II)I"⟩
abbrev cX8_freshest : ByteArray := prog_10_method_53_code
def yX8_freshest : MethodName := ⟨RX8, "freshest", "()I"⟩
abbrev cX8_ruled : ByteArray := prog_10_method_54_code
def yX8_ruled : MethodName := ⟨RX8, "ruled", "(I)I"⟩
abbrev cX8_begins : ByteArray := prog_10_method_55_code
def yX8_begins : MethodName := ⟨RX8, "begins", "()V"⟩
abbrev cX8_goes : ByteArray := prog_10_method_56_code
def yX8_goes : MethodName := ⟨RX8, "goes", "(I)Z"⟩
abbrev cX8_isRule : ByteArray := prog_10_method_57_code
def yX8_isRule : MethodName := ⟨RX8, "isRule", "(I)Z"⟩
abbrev cX8_leads : ByteArray := prog_10_method_58_code
def yX8_leads : MethodName := ⟨RX8, "leads", "(I)V"⟩
abbrev cX8_takesBack : ByteArray := prog_10_method_59_code
def yX8_takesBack : MethodName := ⟨RX8, "takesBack", "()V"⟩
abbrev cX8_by : ByteArray := prog_10_method_60_code
def yX8_by : MethodName := ⟨RX8, "by", "(II)I"⟩
abbrev cX8_best : ByteArray := prog_10_method_61_code
def yX8_best : MethodName := ⟨RX8, "best", "(I)I"⟩
abbrev cX8_whose : ByteArray := prog_10_method_62_code
def yX8_whose : MethodName := ⟨RX8, "whose", "(I)I"⟩
abbrev cX8_turn : ByteArray := prog_10_method_63_code
def yX8_turn : MethodName := ⟨RX8, "turn", "(II)I"⟩
abbrev cX8_pays : ByteArray := prog_10_method_64_code
def yX8_pays : MethodName := ⟨RX8, "pays", "(I)I"⟩
abbrev cX8_bagged : ByteArray := prog_10_method_65_code
def yX8_bagged : MethodName := ⟨RX8, "bagged", "(I)I"⟩
abbrev cX8_wrongIn : ByteArray := prog_10_method_66_code
def yX8_wrongIn : MethodName := ⟨RX8, "wrongIn", "(II)I"⟩
abbrev cX8_barsOf : ByteArray := prog_10_method_67_code
def yX8_barsOf : MethodName := ⟨RX8, "barsOf", "(II)I"⟩
abbrev cX8_judge : ByteArray := prog_10_method_68_code
def yX8_judge : MethodName := ⟨RX8, "judge", "(II)I"⟩
abbrev cX8_behind : ByteArray := prog_10_method_69_code
def yX8_behind : MethodName := ⟨RX8, "behind", "(III)I"⟩
abbrev cX8_done : ByteArray := prog_10_method_70_code
def yX8_done : MethodName := ⟨RX8, "done", "(II)I"⟩
abbrev cX8_fits : ByteArray := prog_10_method_71_code
def yX8_fits : MethodName := ⟨RX8, "fits", "(I)I"⟩
abbrev cX8_enough : ByteArray := prog_10_method_72_code
def yX8_enough : MethodName := ⟨RX8, "enough", "()I"⟩
abbrev cX8_leastWorn : ByteArray := prog_10_method_73_code
def yX8_leastWorn : MethodName := ⟨RX8, "leastWorn", "(I)I"⟩
abbrev cX8_does : ByteArray := prog_10_method_74_code
def yX8_does : MethodName := ⟨RX8, "does", "(I)I"⟩
abbrev cX8_draw : ByteArray := prog_10_method_75_code
def yX8_draw : MethodName := ⟨RX8, "draw", "(I)I"⟩
abbrev cX8_summer : ByteArray := prog_10_method_76_code
def yX8_summer : MethodName := ⟨RX8, "summer", "(I)I"⟩
abbrev cX8_day : ByteArray := prog_10_method_77_code
def yX8_day : MethodName := ⟨RX8, "day", "()I"⟩
abbrev cX8_seed : ByteArray := prog_10_method_78_code
def yX8_seed : MethodName := ⟨RX8, "seed", "(I)I"⟩
abbrev cX8_body : ByteArray := prog_10_method_79_code
def yX8_body : MethodName := ⟨RX8, "body", "(I)V"⟩
abbrev cX8_lifting : ByteArray := prog_10_method_80_code
def yX8_lifting : MethodName := ⟨RX8, "lifting", "(II)I"⟩
abbrev cX8_stepping : ByteArray := prog_10_method_81_code
def yX8_stepping : MethodName := ⟨RX8, "stepping", "(II)I"⟩
abbrev cX8_resting : ByteArray := prog_10_method_82_code
def yX8_resting : MethodName := ⟨RX8, "resting", "(II)I"⟩
abbrev cX8_act : ByteArray := prog_10_method_83_code
def yX8_act : MethodName := ⟨RX8, "act", "(III)I"⟩
abbrev cX8_trace : ByteArray := prog_10_method_84_code
def yX8_trace : MethodName := ⟨RX8, "trace", "(I)I"⟩
abbrev cX8_image : ByteArray := prog_10_method_85_code
def yX8_image : MethodName := ⟨RX8, "image", "()I"⟩
abbrev cX8_restore : ByteArray := prog_10_method_86_code
def yX8_restore : MethodName := ⟨RX8, "restore", "()I"⟩
abbrev cX8_status : ByteArray := prog_10_method_87_code
def yX8_status : MethodName := ⟨RX8, "status", "(I)I"⟩
def RJ6 : String := "java/lang/Integer"
abbrev cJ6_bitCount_0f7a4 : ByteArray := prog_11_method_49_code
def yJ6_bitCount_0f7a4 : MethodName := ⟨RJ6, "bitCount", "(I)I"⟩
def RJ9 : String := "java/lang/Math"
abbrev cJ9_max_7cf53 : ByteArray := prog_12_method_65_code
def yJ9_max_7cf53 : MethodName := ⟨RJ9, "max", "(II)I"⟩
abbrev cJ9_min_7cf53 : ByteArray := prog_12_method_69_code
def yJ9_min_7cf53 : MethodName := ⟨RJ9, "min", "(II)I"⟩
def RJ0 : String := "java/lang/String"
abbrev cJ0_length_8abf5 : ByteArray := prog_13_method_54_code
def yJ0_length_8abf5 : MethodName := ⟨RJ0, "length", "()I"⟩
abbrev cJ0_charAt_5068e : ByteArray := prog_13_method_56_code
def yJ0_charAt_5068e : MethodName := ⟨RJ0, "charAt", "(I)C"⟩
abbrev cJ0_coder_7d493 : ByteArray := prog_13_method_152_code
def yJ0_coder_7d493 : MethodName := ⟨RJ0, "coder", "()B"⟩
abbrev cJ0_isLatin1_aae02 : ByteArray := prog_13_method_154_code
def yJ0_isLatin1_aae02 : MethodName := ⟨RJ0, "isLatin1", "()Z"⟩
abbrev cJ0_checkIndex_df160 : ByteArray := prog_13_method_155_code
def yJ0_checkIndex_df160 : MethodName := ⟨RJ0, "checkIndex", "(II)V"⟩
def RJ1 : String := "java/lang/StringLatin1"
abbrev cJ1_charAt_3b067 : ByteArray := prog_14_method_2_code
def yJ1_charAt_3b067 : MethodName := ⟨RJ1, "charAt", "([BI)C"⟩
def RJ3 : String := "jdk/internal/util/Preconditions"
abbrev cJ3_checkIndex_8e157 : ByteArray := prog_17_method_11_code
def yJ3_checkIndex_8e157 : MethodName := ⟨RJ3, "checkIndex", "(IILjava/util/function/BiFunction;)I"⟩
abbrev cL_law : ByteArray := code
abbrev zx_cl : List vw_C := [(RX0, TX0, 5), (RX1, TX1, 4), (RX2, TX2, 8), (RX3, TX3, 3), (RX4, TX4, 7), (RX5, TX5, 13), (RX6, TX6, 6), (RX7, TX7, 11), (RX8, TX8, 53)]
def zx_on : List String := [RX0, RX1, RX2, RX3, RX4, RX5, RX6, RX7, RX8, RJ6, RJ9, RJ0, RJ1, RJ3, "CarriedAsFarAsTheStileLaw"]
abbrev zx_MT : Type := Nat × MethodName × ByteArray × Nat × Option FieldType × Nat × Nat
def zx_ml_0 : List zx_MT := [(0, yX0_init, cX0_init, 1, none, 0, 2),
  (0, yX0_forget, cX0_forget, 1, none, 0, 0),
  (0, yX0_run, cX0_run, 5, (some FieldType.int), 4, 0),
  (0, yX0_kept, cX0_kept, 2, (some FieldType.int), 1, 0),
  (0, yX0_from, cX0_from, 7, (some FieldType.int), 4, 0),
  (0, yX0_runBody, cX0_runBody, 5, (some FieldType.int), 4, 0),
  (1, yX1_init, cX1_init, 2, none, 1, 2),
  (1, yX1_begin, cX1_begin, 2, none, 1, 0),
  (1, yX1_goOn, cX1_goOn, 3, none, 1, 0),
  (1, yX1_step, cX1_step, 3, (some FieldType.boolean), 1, 0),
  (1, yX1_choose, cX1_choose, 3, (some FieldType.int), 1, 0),
  (1, yX1_whoseTurn, cX1_whoseTurn, 4, (some FieldType.int), 0, 0),
  (1, yX1_freshest, cX1_freshest, 3, (some FieldType.int), 0, 0),
  (2, yX2_init, cX2_init, 3, none, 1, 2),
  (2, yX2_look, cX2_look, 3, none, 2, 0),
  (2, yX2_deeper, cX2_deeper, 7, none, 2, 0),
  (2, yX2_isHopeless, cX2_isHopeless, 4, (some FieldType.boolean), 2, 0),
  (2, yX2_offer, cX2_offer, 6, none, 2, 0),
  (3, yX3_init, cX3_init, 1, none, 0, 2),
  (3, yX3_holdsRow, cX3_holdsRow, 1, (some FieldType.boolean), 0, 0),
  (3, yX3_hasElement, cX3_hasElement, 2, (some FieldType.boolean), 1, 0),
  (3, yX3_hasElements, cX3_hasElements, 3, (some FieldType.boolean), 2, 0),
  (3, yX3_makeRow, cX3_makeRow, 4, none, 2, 0),
  (3, yX3_put, cX3_put, 4, none, 2, 0),
  (3, yX3_number, cX3_number, 2, (some FieldType.int), 1, 0),
  (4, yX4_init, cX4_init, 1, none, 0, 2),
  (4, yX4_read, cX4_read, 5, none, 2, 0),
  (4, yX4_readItem, cX4_readItem, 3, none, 0, 0),
  (4, yX4_hasRoomFor, cX4_hasRoomFor, 2, (some FieldType.boolean), 1, 0),
  (4, yX4_tellFurlong, cX4_tellFurlong, 3, none, 1, 0),
  (4, yX4_tellPerson, cX4_tellPerson, 3, none, 0, 0),
  (4, yX4_tellTired, cX4_tellTired, 3, none, 0, 0),
  (4, yX4_tellBag, cX4_tellBag, 2, none, 0, 0),
  (4, yX4_tellAct, cX4_tellAct, 2, none, 0, 0),
  (4, yX4_tellAsked, cX4_tellAsked, 3, none, 1, 0),
  (4, yX4_readWord, cX4_readWord, 4, (some FieldType.int), 0, 0),
  (4, yX4_wordBeginning, cX4_wordBeginning, 4, (some FieldType.int), 2, 0),
  (4, yX4_beginsThere, cX4_beginsThere, 5, (some FieldType.boolean), 3, 0),
  (4, yX4_spelling, cX4_spelling, 1, (some (FieldType.object "java/lang/String")), 1, 1),
  (4, yX4_readSign, cX4_readSign, 2, (some FieldType.boolean), 1, 0)]
def zx_ml_1 : List zx_MT := [(4, yX4_readNumber, cX4_readNumber, 5, (some FieldType.int), 2, 0),
  (4, yX4_isDigitNext, cX4_isDigitNext, 1, (some FieldType.boolean), 0, 0),
  (5, yX5_init, cX5_init, 2, none, 1, 2),
  (5, yX5_copyFrom, cX5_copyFrom, 2, none, 1, 0),
  (5, yX5_addPerson, cX5_addPerson, 3, (some FieldType.int), 2, 0),
  (5, yX5_asked, cX5_asked, 2, (some FieldType.int), 1, 0),
  (5, yX5_become, cX5_become, 3, none, 2, 0),
  (5, yX5_atEnd, cX5_atEnd, 1, (some FieldType.boolean), 0, 0),
  (5, yX5_asleep, cX5_asleep, 1, (some FieldType.boolean), 0, 0),
  (5, yX5_greatestTired, cX5_greatestTired, 3, (some FieldType.int), 0, 0),
  (5, yX5_minutesThereAndBack, cX5_minutesThereAndBack, 1, (some FieldType.int), 0, 0),
  (5, yX5_loadOnSlope, cX5_loadOnSlope, 5, (some FieldType.int), 2, 0),
  (5, yX5_mayBe, cX5_mayBe, 2, (some FieldType.boolean), 1, 0),
  (5, yX5_mayCarry, cX5_mayCarry, 4, (some FieldType.boolean), 1, 0),
  (5, yX5_mayWalk, cX5_mayWalk, 1, (some FieldType.boolean), 0, 0),
  (5, yX5_mayRest, cX5_mayRest, 1, (some FieldType.boolean), 0, 0),
  (5, yX5_come, cX5_come, 2, none, 1, 0),
  (5, yX5_walk, cX5_walk, 1, none, 0, 0),
  (5, yX5_carry, cX5_carry, 3, none, 1, 0),
  (5, yX5_restOthers, cX5_restOthers, 4, none, 1, 0),
  (5, yX5_restAll, cX5_restAll, 2, none, 0, 0),
  (5, yX5_draw, cX5_draw, 2, (some FieldType.int), 1, 0),
  (6, yX6_init, cX6_init, 1, none, 0, 2),
  (6, yX6_copyFrom, cX6_copyFrom, 2, none, 1, 0),
  (6, yX6_hasFurlong, cX6_hasFurlong, 2, (some FieldType.boolean), 1, 0),
  (6, yX6_hasPerson, cX6_hasPerson, 2, (some FieldType.boolean), 1, 0),
  (6, yX6_addFurlong, cX6_addFurlong, 3, (some FieldType.int), 2, 0),
  (7, yX7_init, cX7_init, 2, none, 0, 2),
  (7, yX7_row, cX7_row, 4, (some FieldType.int), 3, 0),
  (7, yX7_set, cX7_set, 6, (some FieldType.int), 3, 0),
  (7, yX7_copy, cX7_copy, 9, (some FieldType.int), 5, 0),
  (7, yX7_element, cX7_element, 3, (some FieldType.long), 2, 0),
  (7, yX7_show, cX7_show, 3, (some FieldType.int), 2, 0),
  (7, yX7_holds, cX7_holds, 2, (some FieldType.int), 1, 0),
  (7, yX7_says, cX7_says, 4, (some FieldType.int), 2, 0),
  (7, yX7_furlong, cX7_furlong, 3, (some FieldType.int), 2, 0),
  (7, yX7_person, cX7_person, 3, (some FieldType.int), 2, 0),
  (7, yX7_furlongOf, cX7_furlongOf, 3, (some FieldType.int), 2, 0),
  (7, yX7_personOf, cX7_personOf, 3, (some FieldType.int), 2, 0),
  (7, yX7_ask, cX7_ask, 4, (some FieldType.int), 2, 0)]
def zx_ml_2 : List zx_MT := [(7, yX7_tire, cX7_tire, 4, (some FieldType.int), 2, 0),
  (7, yX7_bag, cX7_bag, 3, (some FieldType.int), 1, 0),
  (7, yX7_way, cX7_way, 3, (some FieldType.int), 1, 0),
  (7, yX7_fault, cX7_fault, 1, (some FieldType.int), 0, 0),
  (7, yX7_load, cX7_load, 3, (some FieldType.int), 2, 0),
  (7, yX7_may, cX7_may, 2, (some FieldType.int), 1, 0),
  (7, yX7_next, cX7_next, 3, (some FieldType.int), 0, 0),
  (7, yX7_ahead, cX7_ahead, 3, (some FieldType.int), 2, 0),
  (7, yX7_by, cX7_by, 4, (some FieldType.int), 2, 0),
  (7, yX7_best, cX7_best, 7, (some FieldType.int), 1, 0),
  (7, yX7_whose, cX7_whose, 5, (some FieldType.int), 1, 0),
  (7, yX7_turn, cX7_turn, 5, (some FieldType.int), 2, 0),
  (7, yX7_pays, cX7_pays, 4, (some FieldType.int), 1, 0),
  (7, yX7_bagged, cX7_bagged, 6, (some FieldType.int), 1, 0),
  (7, yX7_judge, cX7_judge, 4, (some FieldType.int), 2, 0),
  (7, yX7_behind, cX7_behind, 5, (some FieldType.int), 3, 0),
  (7, yX7_done, cX7_done, 4, (some FieldType.int), 2, 0),
  (7, yX7_fits, cX7_fits, 5, (some FieldType.int), 1, 0),
  (7, yX7_enough, cX7_enough, 1, (some FieldType.int), 0, 0),
  (7, yX7_leastWorn, cX7_leastWorn, 2, (some FieldType.int), 1, 0),
  (7, yX7_does, cX7_does, 2, (some FieldType.int), 1, 0),
  (7, yX7_summer, cX7_summer, 5, (some FieldType.int), 1, 0),
  (7, yX7_day, cX7_day, 3, (some FieldType.int), 0, 0),
  (7, yX7_seed, cX7_seed, 3, (some FieldType.int), 1, 0),
  (7, yX7_act, cX7_act, 4, (some FieldType.int), 3, 0),
  (7, yX7_trace, cX7_trace, 2, (some FieldType.int), 1, 0),
  (7, yX7_image, cX7_image, 1, (some FieldType.int), 0, 0),
  (7, yX7_restore, cX7_restore, 5, (some FieldType.int), 0, 0),
  (7, yX7_status, cX7_status, 2, (some FieldType.int), 1, 0),
  (7, yX7_refuse, cX7_refuse, 2, (some FieldType.int), 1, 0),
  (7, yX7_refuseFar, cX7_refuseFar, 2, (some FieldType.int), 1, 0),
  (7, yX7_whyNoRow, cX7_whyNoRow, 2, (some FieldType.int), 1, 0),
  (7, yX7_whyNoCopy, cX7_whyNoCopy, 5, (some FieldType.int), 2, 0),
  (7, yX7_whyNoWalk, cX7_whyNoWalk, 4, (some FieldType.int), 2, 0),
  (7, yX7_isShelf, cX7_isShelf, 1, (some FieldType.boolean), 1, 1),
  (7, yX7_isKind, cX7_isKind, 1, (some FieldType.boolean), 1, 1),
  (7, yX7_isRule, cX7_isRule, 1, (some FieldType.boolean), 1, 1),
  (7, yX7_isUnder, cX7_isUnder, 4, (some FieldType.boolean), 2, 1),
  (7, yX7_restOfKind, cX7_restOfKind, 1, (some FieldType.int), 1, 1),
  (7, yX7_isBetter, cX7_isBetter, 4, (some FieldType.boolean), 4, 1)]
def zx_ml_3 : List zx_MT := [(7, yX7_nthBit, cX7_nthBit, 4, (some FieldType.int), 2, 1),
  (7, yX7_tryWalk, cX7_tryWalk, 5, (some FieldType.int), 2, 0),
  (7, yX7_areSoTired, cX7_areSoTired, 3, (some FieldType.boolean), 2, 1),
  (7, yX7_leastToTheEnd, cX7_leastToTheEnd, 4, (some FieldType.int), 2, 0),
  (8, yX8_init, cX8_init, 1, none, 0, 2),
  (8, yX8_no, cX8_no, 2, (some FieldType.int), 1, 0),
  (8, yX8_noTen, cX8_noTen, 2, (some FieldType.int), 1, 0),
  (8, yX8_isShelf, cX8_isShelf, 2, (some FieldType.boolean), 1, 0),
  (8, yX8_isPerson, cX8_isPerson, 2, (some FieldType.boolean), 1, 0),
  (8, yX8_isFurlong, cX8_isFurlong, 2, (some FieldType.boolean), 1, 0),
  (8, yX8_row, cX8_row, 5, (some FieldType.int), 3, 0),
  (8, yX8_set, cX8_set, 5, (some FieldType.int), 3, 0),
  (8, yX8_copy, cX8_copy, 7, (some FieldType.int), 5, 0),
  (8, yX8_element, cX8_element, 3, (some FieldType.long), 2, 0),
  (8, yX8_show, cX8_show, 3, (some FieldType.int), 2, 0),
  (8, yX8_holds, cX8_holds, 2, (some FieldType.int), 1, 0),
  (8, yX8_says, cX8_says, 6, (some FieldType.int), 2, 0),
  (8, yX8_wanted, cX8_wanted, 2, (some FieldType.int), 1, 0),
  (8, yX8_intAt, cX8_intAt, 3, (some FieldType.int), 2, 0),
  (8, yX8_bars, cX8_bars, 4, (some FieldType.int), 2, 0),
  (8, yX8_addsFurlong, cX8_addsFurlong, 3, (some FieldType.int), 2, 0),
  (8, yX8_addsPerson, cX8_addsPerson, 3, (some FieldType.int), 2, 0),
  (8, yX8_furlong, cX8_furlong, 3, (some FieldType.int), 2, 0),
  (8, yX8_person, cX8_person, 3, (some FieldType.int), 2, 0),
  (8, yX8_furlongOf, cX8_furlongOf, 3, (some FieldType.int), 2, 0),
  (8, yX8_personOf, cX8_personOf, 3, (some FieldType.int), 2, 0),
  (8, yX8_isAsked, cX8_isAsked, 3, (some FieldType.boolean), 2, 0),
  (8, yX8_told, cX8_told, 2, (some FieldType.int), 1, 0),
  (8, yX8_tells, cX8_tells, 3, none, 2, 0),
  (8, yX8_asks, cX8_asks, 4, (some FieldType.int), 2, 0),
  (8, yX8_ask, cX8_ask, 3, (some FieldType.int), 2, 0),
  (8, yX8_tire, cX8_tire, 4, (some FieldType.int), 2, 0),
  (8, yX8_bag, cX8_bag, 3, (some FieldType.int), 1, 0),
  (8, yX8_wrong, cX8_wrong, 2, (some FieldType.boolean), 1, 0),
  (8, yX8_stands, cX8_stands, 4, (some FieldType.boolean), 1, 0),
  (8, yX8_word, cX8_word, 6, (some FieldType.int), 0, 0),
  (8, yX8_isDigit, cX8_isDigit, 1, (some FieldType.boolean), 0, 0),
  (8, yX8_reads, cX8_reads, 2, (some FieldType.boolean), 0, 0),
  (8, yX8_isSo, cX8_isSo, 3, (some FieldType.boolean), 2, 0),
  (8, yX8_item, cX8_item, 4, (some FieldType.boolean), 0, 0)]
def zx_ml_4 : List zx_MT := [(8, yX8_carries, cX8_carries, 7, (some FieldType.int), 5, 0),
  (8, yX8_all, cX8_all, 6, none, 3, 0),
  (8, yX8_way, cX8_way, 5, (some FieldType.int), 1, 0),
  (8, yX8_fault, cX8_fault, 1, (some FieldType.int), 0, 0),
  (8, yX8_isAsleep, cX8_isAsleep, 1, (some FieldType.boolean), 0, 0),
  (8, yX8_loadOf, cX8_loadOf, 4, (some FieldType.int), 2, 0),
  (8, yX8_mayCarry, cX8_mayCarry, 3, (some FieldType.boolean), 1, 0),
  (8, yX8_mayBe, cX8_mayBe, 2, (some FieldType.boolean), 1, 0),
  (8, yX8_rests, cX8_rests, 3, none, 2, 0),
  (8, yX8_acts, cX8_acts, 5, none, 1, 0),
  (8, yX8_greatest, cX8_greatest, 3, (some FieldType.int), 0, 0),
  (8, yX8_load, cX8_load, 3, (some FieldType.int), 2, 0),
  (8, yX8_may, cX8_may, 2, (some FieldType.int), 1, 0),
  (8, yX8_next, cX8_next, 3, (some FieldType.int), 0, 0),
  (8, yX8_looks, cX8_looks, 7, none, 3, 0),
  (8, yX8_ahead, cX8_ahead, 5, (some FieldType.int), 2, 0),
  (8, yX8_freshest, cX8_freshest, 3, (some FieldType.int), 0, 0),
  (8, yX8_ruled, cX8_ruled, 4, (some FieldType.int), 1, 0),
  (8, yX8_begins, cX8_begins, 1, none, 0, 0),
  (8, yX8_goes, cX8_goes, 4, (some FieldType.boolean), 1, 0),
  (8, yX8_isRule, cX8_isRule, 2, (some FieldType.boolean), 1, 0),
  (8, yX8_leads, cX8_leads, 3, none, 1, 0),
  (8, yX8_takesBack, cX8_takesBack, 1, none, 0, 0),
  (8, yX8_by, cX8_by, 4, (some FieldType.int), 2, 0),
  (8, yX8_best, cX8_best, 7, (some FieldType.int), 1, 0),
  (8, yX8_whose, cX8_whose, 4, (some FieldType.int), 1, 0),
  (8, yX8_turn, cX8_turn, 6, (some FieldType.int), 2, 0),
  (8, yX8_pays, cX8_pays, 6, (some FieldType.int), 1, 0),
  (8, yX8_bagged, cX8_bagged, 7, (some FieldType.int), 1, 0),
  (8, yX8_wrongIn, cX8_wrongIn, 5, (some FieldType.int), 2, 0),
  (8, yX8_barsOf, cX8_barsOf, 4, (some FieldType.int), 2, 0),
  (8, yX8_judge, cX8_judge, 5, (some FieldType.int), 2, 0),
  (8, yX8_behind, cX8_behind, 7, (some FieldType.int), 3, 0),
  (8, yX8_done, cX8_done, 4, (some FieldType.int), 2, 0),
  (8, yX8_fits, cX8_fits, 7, (some FieldType.int), 1, 0),
  (8, yX8_enough, cX8_enough, 4, (some FieldType.int), 0, 0),
  (8, yX8_leastWorn, cX8_leastWorn, 5, (some FieldType.int), 1, 0),
  (8, yX8_does, cX8_does, 2, (some FieldType.int), 1, 0),
  (8, yX8_draw, cX8_draw, 2, (some FieldType.int), 1, 0),
  (8, yX8_summer, cX8_summer, 8, (some FieldType.int), 1, 0)]
def zx_ml_5 : List zx_MT := [(8, yX8_day, cX8_day, 3, (some FieldType.int), 0, 0),
  (8, yX8_seed, cX8_seed, 3, (some FieldType.int), 1, 0),
  (8, yX8_body, cX8_body, 2, none, 1, 0),
  (8, yX8_lifting, cX8_lifting, 5, (some FieldType.int), 2, 0),
  (8, yX8_stepping, cX8_stepping, 7, (some FieldType.int), 2, 0),
  (8, yX8_resting, cX8_resting, 5, (some FieldType.int), 2, 0),
  (8, yX8_act, cX8_act, 4, (some FieldType.int), 3, 0),
  (8, yX8_trace, cX8_trace, 2, (some FieldType.int), 1, 0),
  (8, yX8_image, cX8_image, 1, (some FieldType.int), 0, 0),
  (8, yX8_restore, cX8_restore, 2, (some FieldType.int), 0, 0),
  (8, yX8_status, cX8_status, 2, (some FieldType.int), 1, 0),
  (9, yJ6_bitCount_0f7a4, cJ6_bitCount_0f7a4, 1, (some FieldType.int), 1, 1),
  (10, yJ9_max_7cf53, cJ9_max_7cf53, 2, (some FieldType.int), 2, 3),
  (10, yJ9_min_7cf53, cJ9_min_7cf53, 2, (some FieldType.int), 2, 4),
  (11, yJ0_length_8abf5, cJ0_length_8abf5, 1, (some FieldType.int), 0, 0),
  (11, yJ0_charAt_5068e, cJ0_charAt_5068e, 2, (some FieldType.char), 1, 0),
  (11, yJ0_coder_7d493, cJ0_coder_7d493, 1, (some FieldType.byte), 0, 0),
  (11, yJ0_isLatin1_aae02, cJ0_isLatin1_aae02, 1, (some FieldType.boolean), 0, 0),
  (11, yJ0_checkIndex_df160, cJ0_checkIndex_df160, 2, none, 2, 1),
  (12, yJ1_charAt_3b067, cJ1_charAt_3b067, 2, (some FieldType.char), 2, 1),
  (13, yJ3_checkIndex_8e157, cJ3_checkIndex_8e157, 3, (some FieldType.int), 3, 1)]
def zx_ml : List zx_MT := zx_ml_0 ++ zx_ml_1 ++ zx_ml_2 ++ zx_ml_3 ++ zx_ml_4 ++ zx_ml_5
def zx_mc : List (Nat × Nat × Nat × Nat) := [(317, 87, 316, 0), (932, 87, 930, 931), (936, 87, 934, 935), (957, 87, 955, 956), (941, 87, 940, 33), (949, 87, 948, 34), (219, 84, 218, 0), (797, 84, 795, 796), (803, 84, 801, 802), (807, 84, 805, 806), (812, 84, 811, 27), (817, 84, 816, 28), (822, 84, 821, 29), (243, 85, 242, 0), (760, 85, 758, 759), (770, 85, 769, 24), (774, 85, 773, 25), (782, 85, 781, 26), (339, 88, 338, 0), (416, 88, 414, 415), (420, 88, 418, 419), (436, 88, 434, 435), (404, 88, 402, 403), (424, 88, 422, 423), (561, 88, 559, 560), (282, 86, 281, 0), (547, 86, 545, 546), (565, 86, 564, 4), (644, 86, 643, 8), (648, 86, 647, 9), (665, 86, 664, 13), (670, 86, 669, 14), (674, 86, 673, 15), (678, 86, 677, 16), (729, 86, 728, 23), (569, 86, 568, 5), (573, 86, 572, 6), (592, 86, 591, 7), (576, 86, 575, 0), (656, 86, 655, 11), (652, 86, 651, 10), (660, 86, 659, 12), (156, 82, 155, 0), (556, 82, 554, 555), (496, 82, 494, 495), (524, 82, 522, 523), (528, 82, 526, 527), (690, 82, 688, 689), (474, 82, 472, 473), (766, 82, 764, 765), (841, 82, 839, 840), (478, 82, 476, 477), (682, 82, 680, 681), (699, 82, 697, 698), (686, 82, 685, 17), (695, 82, 694, 18), (705, 82, 703, 704), (709, 82, 708, 19), (725, 82, 724, 22), (713, 82, 712, 20), (721, 82, 720, 21), (912, 82, 910, 911), (113, 83, 112, 0), (551, 83, 549, 550), (504, 83, 502, 503), (451, 83, 449, 450), (488, 83, 486, 487), (101, 81, 100, 0), (393, 81, 391, 392), (408, 81, 406, 407), (428, 81, 426, 427), (443, 81, 441, 442), (447, 81, 445, 446), (455, 81, 453, 454), (459, 81, 457, 458), (484, 81, 482, 483), (492, 81, 490, 491), (500, 81, 498, 499), (512, 81, 510, 511), (516, 81, 514, 515), (535, 81, 533, 534), (539, 81, 537, 538), (543, 81, 541, 542), (739, 81, 737, 738), (743, 81, 741, 742), (747, 81, 745, 746), (752, 81, 750, 751), (756, 81, 754, 755), (790, 81, 788, 789), (828, 81, 826, 827), (833, 81, 831, 832), (837, 81, 835, 836), (846, 81, 844, 845), (851, 81, 849, 850), (855, 81, 853, 854), (868, 81, 866, 867), (873, 81, 871, 872), (877, 81, 875, 876), (884, 81, 882, 883), (893, 81, 891, 892), (897, 81, 895, 896), (901, 81, 899, 900), (920, 81, 918, 919), (924, 81, 922, 923), (928, 81, 926, 927), (953, 81, 951, 952), (961, 81, 959, 960), (965, 81, 963, 964), (969, 81, 967, 968), (400, 81, 399, 0), (508, 81, 507, 3), (412, 81, 411, 1), (432, 81, 431, 2), (859, 81, 858, 30), (396, 81, 395, 0), (462, 81, 461, 0), (793, 81, 792, 0), (465, 81, 464, 0), (470, 81, 469, 0), (785, 81, 784, 0), (916, 81, 915, 0), (863, 81, 862, 31), (880, 81, 879, 0), (888, 81, 887, 32), (974, 89, 973, 0), (1147, 89, 1146, 36), (1211, 89, 1210, 43), (1143, 89, 1142, 35), (1167, 89, 1166, 37), (1207, 89, 1206, 42), (1139, 89, 1137, 1138), (1151, 89, 1149, 1150), (1155, 89, 1153, 1154), (1159, 89, 1157, 1158), (1163, 89, 1161, 1162), (1171, 89, 1169, 1170), (1175, 89, 1173, 1174), (1251, 89, 1250, 48), (1404, 89, 1403, 74), (1396, 89, 1395, 72), (1191, 89, 1190, 40), (1199, 89, 1198, 41), (1187, 89, 1185, 1186), (1195, 89, 1193, 1194), (1203, 89, 1201, 1202), (1215, 89, 1213, 1214), (1223, 89, 1222, 44), (1231, 89, 1230, 46), (1235, 89, 1234, 47), (1227, 89, 1226, 45), (1219, 89, 1217, 1218), (1239, 89, 1237, 1238), (1243, 89, 1241, 1242), (1271, 89, 1270, 53), (1267, 89, 1266, 52), (1275, 89, 1274, 54), (1283, 89, 1282, 56), (1279, 89, 1278, 55), (1287, 89, 1286, 57), (1263, 89, 1262, 51), (1259, 89, 1258, 50), (1255, 89, 1254, 49), (1247, 89, 1245, 1246), (1307, 89, 1305, 1306), (1179, 89, 1178, 38), (1183, 89, 1182, 39), (1295, 89, 1294, 59), (1291, 89, 1290, 58), (1303, 89, 1302, 61), (1299, 89, 1298, 60), (1327, 89, 1326, 62), (1311, 89, 1309, 1310), (1315, 89, 1313, 1314), (1319, 89, 1317, 1318), (1331, 89, 1330, 63), (1323, 89, 1321, 1322), (1360, 89, 1359, 69), (1356, 89, 1355, 68), (1348, 89, 1347, 66), (1352, 89, 1351, 67), (1340, 89, 1339, 64), (1344, 89, 1343, 65), (1364, 89, 1363, 70), (1336, 89, 1334, 1335), (1368, 89, 1366, 1367), (1372, 89, 1370, 1371), (1376, 89, 1374, 1375), (1380, 89, 1378, 1379), (1384, 89, 1382, 1383), (1400, 89, 1399, 73), (1392, 89, 1391, 71), (1388, 89, 1386, 1387), (1408, 89, 1406, 1407), (1412, 89, 1410, 1411), (1416, 89, 1414, 1415), (1420, 89, 1418, 1419), (1424, 89, 1422, 1423), (1428, 89, 1426, 1427), (1436, 89, 1435, 75), (1432, 89, 1430, 1431), (1441, 89, 1439, 1440), (1445, 89, 1443, 1444), (1457, 89, 1456, 77), (1453, 89, 1452, 76), (1461, 89, 1460, 78), (1465, 89, 1464, 79), (1449, 89, 1447, 1448), (1469, 89, 1467, 1468), (1473, 89, 1471, 1472), (1477, 89, 1475, 1476), (1481, 89, 1479, 1480), (905, 96, 904, 0), (717, 91, 716, 0), (531, 91, 530, 0), (596, 92, 594, 595), (606, 92, 604, 605), (600, 92, 598, 599), (610, 92, 608, 609), (616, 92, 615, 0), (613, 93, 612, 0), (621, 94, 620, 0)]
def zx_lF : List (List (Nat × Nat × Nat × Nat × Nat)) := [[(31, 6, 2, 1, 125), (36, 6, 3, 1, 129), (11, 0, 0, 0, 319), (15, 0, 1, 0, 320), (19, 0, 2, 0, 322), (22, 0, 3, 0, 323), (25, 0, 4, 0, 324)],
  [(69, 6, 1, 1, 120), (64, 6, 5, 1, 138), (60, 5, 0, 1, 161), (88, 5, 1, 1, 163), (73, 5, 10, 1, 181), (26, 1, 0, 0, 223), (9, 1, 1, 0, 225), (15, 1, 2, 0, 226), (18, 1, 3, 0, 228)],
  [(83, 5, 10, 1, 180), (90, 5, 11, 1, 184), (13, 2, 0, 0, 248), (17, 2, 1, 0, 249), (21, 2, 2, 0, 250), (24, 2, 3, 0, 252), (28, 2, 4, 0, 253), (31, 2, 5, 0, 255), (34, 2, 6, 0, 257), (37, 2, 7, 0, 259)],
  [(9, 3, 0, 0, 341), (15, 3, 1, 0, 343), (19, 3, 2, 0, 345)],
  [(79, 6, 1, 1, 119), (82, 6, 4, 1, 132), (100, 6, 5, 1, 137), (43, 5, 0, 1, 160), (114, 5, 1, 1, 164), (117, 5, 2, 1, 167), (17, 4, 0, 0, 288), (23, 4, 1, 0, 290), (27, 4, 2, 0, 291), (31, 4, 3, 0, 292), (34, 4, 4, 0, 293), (37, 4, 5, 0, 294), (40, 4, 6, 0, 296), (53, 3, 2, 1, 346)],
  [(102, 6, 0, 1, 117), (111, 6, 1, 1, 122), (59, 6, 2, 1, 124), (67, 6, 3, 1, 128), (76, 6, 4, 1, 133), (64, 6, 5, 1, 136), (49, 5, 0, 0, 159), (9, 5, 1, 0, 162), (15, 5, 2, 0, 166), (19, 5, 3, 0, 169), (22, 5, 4, 0, 171), (25, 5, 5, 0, 173), (28, 5, 6, 0, 174), (31, 5, 7, 0, 176), (34, 5, 8, 0, 177), (37, 5, 9, 0, 178), (40, 5, 10, 0, 179), (43, 5, 11, 0, 183), (46, 5, 12, 0, 186)],
  [(9, 6, 0, 0, 115), (15, 6, 1, 0, 118), (18, 6, 2, 0, 123), (21, 6, 3, 0, 127), (24, 6, 4, 0, 131), (28, 6, 5, 0, 135)],
  [(165, 6, 0, 1, 116), (168, 6, 1, 1, 121), (127, 6, 2, 1, 126), (171, 6, 3, 1, 130), (146, 6, 4, 1, 134), (153, 6, 5, 1, 139), (30, 5, 0, 1, 158), (143, 5, 1, 1, 165), (174, 5, 2, 1, 168), (307, 5, 3, 1, 170), (277, 5, 4, 1, 172), (304, 5, 6, 1, 175), (221, 5, 10, 1, 182), (230, 5, 11, 1, 185), (310, 5, 12, 1, 187), (246, 1, 0, 1, 224), (250, 1, 2, 1, 227), (247, 1, 3, 1, 229), (233, 2, 2, 1, 251), (215, 2, 4, 1, 254), (218, 2, 5, 1, 256), (224, 2, 6, 1, 258), (227, 2, 7, 1, 260), (196, 4, 0, 1, 289), (205, 4, 5, 1, 295), (193, 4, 6, 1, 297), (326, 0, 1, 1, 321), (108, 3, 0, 1, 342), (121, 3, 1, 1, 344), (280, 3, 2, 1, 347), (11, 7, 0, 0, 356), (23, 7, 1, 0, 357), (27, 7, 2, 0, 358), (34, 7, 3, 0, 359), (40, 7, 4, 0, 360), (47, 7, 5, 0, 361), (54, 7, 6, 0, 362), (61, 7, 7, 0, 363), (65, 7, 8, 0, 364), (69, 7, 9, 0, 365), (73, 7, 10, 0, 366)],
  [(108, 8, 0, 0, 976), (105, 8, 1, 0, 977), (9, 8, 2, 0, 978), (13, 8, 3, 0, 979), (16, 8, 4, 0, 980), (19, 8, 5, 0, 981), (204, 8, 6, 0, 982), (22, 8, 7, 0, 983), (25, 8, 8, 0, 984), (28, 8, 9, 0, 985), (207, 8, 10, 0, 986), (210, 8, 11, 0, 987), (31, 8, 12, 0, 988), (34, 8, 13, 0, 989), (37, 8, 14, 0, 990), (41, 8, 15, 0, 991), (44, 8, 16, 0, 992), (47, 8, 17, 0, 993), (50, 8, 18, 0, 994), (53, 8, 19, 0, 995), (56, 8, 20, 0, 996), (59, 8, 21, 0, 997), (62, 8, 22, 0, 998), (65, 8, 23, 0, 999), (68, 8, 24, 0, 1000), (72, 8, 25, 0, 1001), (75, 8, 26, 0, 1002), (78, 8, 27, 0, 1003), (81, 8, 28, 0, 1004), (168, 8, 29, 0, 1005), (162, 8, 30, 0, 1006), (165, 8, 31, 0, 1007), (171, 8, 32, 0, 1008), (159, 8, 33, 0, 1009), (84, 8, 34, 0, 1010), (87, 8, 35, 0, 1011), (90, 8, 36, 0, 1012), (93, 8, 37, 0, 1013), (96, 8, 38, 0, 1014), (99, 8, 39, 0, 1015), (229, 8, 40, 0, 1016), (232, 8, 41, 0, 1017), (235, 8, 42, 0, 1018), (238, 8, 43, 0, 1019), (248, 8, 44, 0, 1020), (257, 8, 45, 0, 1021), (254, 8, 46, 0, 1022), (269, 8, 47, 0, 1023), (272, 8, 48, 0, 1024), (275, 8, 49, 0, 1025), (102, 8, 50, 0, 1026), (303, 8, 51, 0, 1027), (318, 8, 52, 0, 1028)],
  [],
  [],
  [],
  [],
  [],
  []]
def zx_lM : List (List (Nat × Nat × Nat × Nat)) := [[(28, 1, 0, 937), (39, 4, 0, 938), (43, 115, 1, 942), (53, 5, 0, 946)],
  [(23, 42, 0, 222), (30, 43, 0, 798), (34, 49, 0, 799), (38, 9, 0, 804), (42, 47, 0, 808), (46, 10, 0, 809), (76, 52, 0, 813), (79, 11, 0, 814), (85, 53, 0, 818), (82, 12, 0, 819), (50, 56, 0, 823), (54, 212, 0, 824)],
  [(40, 42, 0, 247), (43, 213, 0, 761), (49, 43, 0, 762), (53, 49, 0, 763), (57, 15, 0, 767), (61, 16, 0, 771), (65, 47, 0, 775), (69, 52, 0, 776), (73, 56, 0, 777), (77, 212, 0, 778), (80, 17, 0, 779), (86, 119, 1, 783)],
  [],
  [(13, 62, 1, 286), (14, 42, 0, 287), (47, 63, 0, 548), (50, 43, 0, 553), (56, 24, 0, 558), (60, 27, 0, 562), (67, 35, 0, 566), (136, 36, 0, 570), (139, 38, 0, 574), (148, 37, 0, 589), (143, 214, 0, 593), (152, 215, 0, 603), (71, 28, 0, 641), (75, 29, 0, 645), (103, 40, 0, 649), (63, 39, 0, 653), (178, 41, 0, 657), (107, 66, 0, 661), (85, 30, 0, 662), (111, 44, 0, 666), (88, 31, 0, 667), (91, 32, 0, 671), (94, 33, 0, 675), (120, 52, 0, 679), (123, 56, 0, 702), (97, 34, 0, 726), (132, 46, 0, 732)],
  [(70, 213, 0, 529), (85, 54, 0, 683), (99, 47, 0, 687), (105, 48, 0, 691), (89, 55, 0, 692), (92, 53, 0, 696), (96, 65, 0, 700), (108, 51, 0, 701), (114, 57, 0, 706), (124, 59, 0, 710), (127, 118, 1, 714), (79, 212, 0, 715), (117, 60, 0, 718), (120, 58, 0, 722)],
  [],
  [(19, 62, 1, 111), (20, 42, 0, 154), (39, 6, 0, 217), (46, 13, 0, 241), (53, 25, 1, 280), (60, 0, 1, 315), (77, 18, 1, 337), (78, 114, 0, 394), (82, 109, 0, 397), (86, 22, 0, 401), (90, 111, 0, 409), (323, 19, 0, 413), (93, 20, 0, 417), (96, 23, 0, 421), (100, 112, 0, 429), (104, 21, 0, 433), (118, 65, 0, 448), (124, 115, 0, 460), (130, 117, 0, 463), (133, 118, 0, 468), (136, 48, 0, 471), (140, 51, 0, 475), (149, 66, 0, 485), (156, 44, 0, 493), (159, 64, 0, 501), (162, 110, 0, 505), (183, 45, 0, 521), (186, 46, 0, 525), (189, 26, 0, 544), (199, 63, 0, 733), (202, 43, 0, 734), (208, 52, 0, 748), (211, 14, 0, 757), (236, 116, 0, 791), (239, 7, 0, 794), (242, 8, 0, 800), (253, 119, 0, 829), (257, 50, 0, 838), (261, 9, 0, 842), (264, 56, 0, 847), (267, 113, 0, 856), (270, 121, 0, 860), (332, 24, 0, 864), (274, 49, 0, 869), (283, 122, 0, 878), (287, 123, 0, 885), (335, 47, 0, 889), (290, 86, 0, 902), (293, 211, 0, 903), (298, 61, 0, 909), (301, 120, 0, 914), (313, 1, 0, 929), (316, 2, 0, 933), (320, 3, 0, 954)],
  [(111, 127, 0, 1140), (115, 125, 0, 1144), (119, 128, 0, 1164), (122, 164, 0, 1176), (126, 165, 0, 1180), (133, 140, 0, 1188), (136, 141, 0, 1196), (139, 129, 0, 1204), (142, 126, 0, 1208), (152, 146, 0, 1220), (156, 149, 0, 1224), (145, 147, 0, 1228), (148, 148, 0, 1232), (130, 137, 0, 1248), (213, 161, 0, 1252), (200, 160, 0, 1256), (217, 159, 0, 1260), (183, 154, 0, 1264), (177, 153, 0, 1268), (186, 155, 0, 1272), (190, 157, 0, 1276), (174, 156, 0, 1280), (193, 158, 0, 1284), (180, 167, 0, 1288), (220, 166, 0, 1292), (196, 169, 0, 1296), (223, 168, 0, 1300), (241, 170, 0, 1324), (244, 174, 0, 1328), (226, 173, 0, 1332), (278, 180, 0, 1337), (281, 181, 0, 1341), (263, 178, 0, 1345), (266, 179, 0, 1349), (260, 177, 0, 1353), (251, 176, 0, 1357), (284, 182, 0, 1361), (293, 190, 0, 1389), (290, 139, 0, 1393), (296, 189, 0, 1397), (287, 138, 0, 1401), (300, 198, 0, 1433), (309, 203, 0, 1450), (306, 202, 0, 1454), (312, 204, 0, 1458), (315, 205, 0, 1462)],
  [],
  [],
  [(335, 216, 0, 597), (492, 217, 0, 607), (495, 219, 0, 611), (1059, 220, 0, 619)],
  [(9, 218, 0, 614)],
  [],
  [(9, 67, 0, 99), (13, 68, 0, 390), (20, 69, 0, 405), (25, 70, 0, 425), (30, 71, 0, 440), (35, 72, 0, 444), (40, 73, 0, 452), (45, 74, 0, 456), (49, 75, 0, 481), (54, 76, 0, 489), (58, 77, 0, 497), (62, 78, 0, 509), (66, 79, 0, 513), (70, 80, 0, 532), (74, 81, 0, 536), (78, 82, 0, 540), (82, 83, 0, 736), (87, 84, 0, 740), (91, 85, 0, 744), (95, 86, 0, 749), (99, 87, 0, 753), (103, 88, 0, 787), (107, 89, 0, 825), (111, 90, 0, 830), (115, 91, 0, 834), (119, 92, 0, 843), (123, 93, 0, 848), (127, 94, 0, 852), (131, 95, 0, 865), (135, 96, 0, 870), (139, 97, 0, 874), (143, 98, 0, 881), (147, 99, 0, 890), (151, 100, 0, 894), (155, 101, 0, 898), (159, 102, 0, 917), (163, 103, 0, 921), (167, 104, 0, 925), (171, 105, 0, 950), (175, 106, 0, 958), (179, 107, 0, 962), (183, 108, 0, 966), (12, 124, 0, 972), (17, 130, 0, 1136), (24, 131, 0, 1148), (29, 132, 0, 1152), (34, 133, 0, 1156), (39, 134, 0, 1160), (44, 135, 0, 1168), (48, 136, 0, 1172), (53, 142, 0, 1184), (57, 143, 0, 1192), (61, 144, 0, 1200), (65, 145, 0, 1212), (69, 150, 0, 1216), (73, 151, 0, 1236), (77, 152, 0, 1240), (81, 162, 0, 1244), (86, 163, 0, 1304), (90, 171, 0, 1308), (94, 172, 0, 1312), (98, 173, 0, 1316), (102, 175, 0, 1320), (106, 183, 0, 1333), (110, 184, 0, 1365), (114, 185, 0, 1369), (118, 186, 0, 1373), (122, 187, 0, 1377), (126, 188, 0, 1381), (130, 191, 0, 1385), (134, 192, 0, 1405), (138, 193, 0, 1409), (142, 194, 0, 1413), (146, 195, 0, 1417), (150, 196, 0, 1421), (154, 197, 0, 1425), (158, 199, 0, 1429), (162, 200, 0, 1438), (166, 201, 0, 1442), (170, 206, 0, 1446), (174, 207, 0, 1466), (178, 208, 0, 1470), (182, 209, 0, 1474), (186, 210, 0, 1478)]]
def zx_lC : List (List (Nat × Nat × Nat)) := [[],
  [(21, 5, 221)],
  [(11, 5, 245)],
  [],
  [(9, 5, 284), (11, 6, 285)],
  [],
  [],
  [(9, 3, 105), (15, 5, 107), (17, 6, 109), (37, 1, 215), (44, 2, 239), (51, 4, 278), (58, 0, 313)],
  [],
  [],
  [],
  [],
  [],
  [],
  [(7, 7, 97), (10, 8, 970)]]
def zx_lI : List (List (Nat × Int32 × Nat)) := [[],
  [],
  [],
  [],
  [],
  [(131, (1103515245 : Int32), 913)],
  [],
  [],
  [(299, (1103515245 : Int32), 1437)],
  [(265, (1431655765 : Int32), 906), (266, (858993459 : Int32), 907), (267, (252645135 : Int32), 908)],
  [],
  [],
  [],
  [],
  []]
def zx_lL : List (List (Nat × Int64 × Nat)) := [[],
  [],
  [],
  [],
  [],
  [],
  [],
  [],
  [],
  [],
  [],
  [],
  [],
  [],
  [(18, (4294967295 : Int64), 1482)]]
def zx_lS : List (List (Nat × Nat)) := [[],
  [],
  [],
  [],
  [(156, 0), (158, 1), (160, 2), (162, 3), (164, 4), (165, 5), (166, 6), (168, 7), (170, 8), (172, 9), (174, 10), (176, 11)],
  [],
  [],
  [],
  [],
  [],
  [],
  [],
  [],
  [],
  []]
def zx_lG : List (List (Nat × Nat × Nat × Nat)) := [[(47, 4, 0, 943), (50, 0, 1, 945)],
  [],
  [],
  [],
  [(126, 2, 1, 730), (129, 3, 1, 731)],
  [(82, 1, 1, 479)],
  [],
  [(329, 0, 0, 466), (177, 2, 0, 517), (180, 3, 0, 519)],
  [],
  [],
  [],
  [(38, 5, 0, 601), (1053, 6, 0, 617)],
  [],
  [],
  []]
def zx_lA : List (List (Nat × Nat)) := [[],
  [],
  [(93, 786)],
  [],
  [],
  [(53, 557)],
  [(31, 552)],
  [(112, 437)],
  [],
  [],
  [],
  [],
  [],
  [],
  []]
def zx_lO : List (List (Nat × Nat)) := [[(3, 318)],
  [(3, 220)],
  [(3, 244)],
  [(3, 340)],
  [(3, 283)],
  [(3, 157)],
  [(3, 114)],
  [(1, 102)],
  [(1, 975)],
  [],
  [],
  [],
  [],
  [],
  []]
def zx_lK : List (List (Nat × Nat × Nat)) := [[],
  [],
  [],
  [],
  [],
  [],
  [],
  [],
  [],
  [],
  [],
  [(9, 0, 1483), (15, 1, 1484)],
  [],
  [],
  []]
def zx_st : List (String × Nat × Nat) := [("up", 156, 577), ("down", 158, 578), ("stile", 160, 579), ("person", 162, 580), ("tired", 164, 581), ("bag", 165, 582), ("act", 166, 583), ("legs", 168, 584), ("nap", 170, 585), ("worn", 172, 586), ("biscuits", 174, 587), ("races", 176, 588)]
def zx_sa : List (List Int32) := [[-1, 0, 0, 1, 0, 2, 4], [0, -1, 1, -2, 2, 0, 2], [1, 1, 1, 0, 0], [9, 9, 99, 9, 9], [10, 11, 12, 20, 0, 0, 0, 30, 0, 0, 40, 0, 51, 0, 50, 0, 0, 60, 70, 71, 0]]
def zx_sl : List Nat := [2, 4, 5, 6, 5, 3, 3, 4, 3, 4, 8, 5]
def zx_sb : List (List Int32) := [[117, 112], [100, 111, 119, 110], [115, 116, 105, 108, 101], [112, 101, 114, 115, 111, 110], [116, 105, 114, 101, 100], [98, 97, 103], [97, 99, 116], [108, 101, 103, 115], [110, 97, 112], [119, 111, 114, 110], [98, 105, 115, 99, 117, 105, 116, 115], [114, 97, 99, 101, 115]]
def zx_sn : List (String × String × String) := [("CarriedAsFarAsTheStile", "KIND_ABOVE", "[I"), ("CarriedAsFarAsTheStile", "LOAD_MORE", "[I"), ("CarriedAsFarAsTheStile", "ASKED_LOWEST", "[I"), ("CarriedAsFarAsTheStile", "ASKED_HIGHEST", "[I"), ("CarriedAsFarAsTheStile$Moves", "BODIES", "[I"), ("java/lang/String", "COMPACT_STRINGS", "Z"), ("jdk/internal/util/Preconditions", "SIOOBE_FORMATTER", "Ljava/util/function/BiFunction;")]
def zx_pI : List (Nat × Nat) := [(314, 87), (216, 84), (240, 85), (336, 88), (279, 86), (108, 82), (110, 83), (98, 81), (971, 89)]

section
def RX0 : String := "BehindAnotherHearse$Hearsay"
def TX0 : u_T := fun k => match k with
  | 0 => ("BehindAnotherHearse$Hearsay", "kinds", "[I", true)
  | 1 => ("BehindAnotherHearse$Hearsay", "values", "[I", true)
  | _ => ("BehindAnotherHearse$Hearsay", "count", "I", false)
def tyX0 : Nat → FieldType := fun k => match k with
  | 0 => .array .int
  | 1 => .array .int
  | _ => .int
theorem nmX0 : ∀ a, a < 3 → ∀ b, b < 3 → a ≠ b → (TX0 a).2.1 ≠ (TX0 b).2.1 := by decide +kernel
theorem tyX0_ok : ∀ k, k < 3 → parseFieldDescriptor (TX0 k).2.2.1 = some (tyX0 k) := by decide +kernel
abbrev cX0_init : ByteArray := prog_2_method_1_code
def yX0_init : MethodName := ⟨RX0, "<init>", "()V"⟩
abbrev cX0_add : ByteArray := prog_2_method_2_code
def yX0_add : MethodName := ⟨RX0, "add", "(II)Z"⟩
abbrev cX0_canBe : ByteArray := prog_2_method_3_code
def yX0_canBe : MethodName := ⟨RX0, "canBe", "(II)Z"⟩
abbrev cX0_isTrueOf : ByteArray := prog_2_method_4_code
def yX0_isTrueOf : MethodName := ⟨RX0, "isTrueOf", "(LBehindAnotherHearse$Scene;I)Z"⟩
abbrev cX0_isOneTrueOf : ByteArray := prog_2_method_5_code
def yX0_isOneTrueOf : MethodName := ⟨RX0, "isOneTrueOf", "(LBehindAnotherHearse$Scene;II)Z"⟩
def RX1 : String := "BehindAnotherHearse$History"
def TX1 : u_T := fun k => match k with
  | 0 => ("BehindAnotherHearse$History", "scenes", "[LBehindAnotherHearse$Scene;", true)
  | 1 => ("BehindAnotherHearse$History", "first", "I", false)
  | _ => ("BehindAnotherHearse$History", "count", "I", false)
def tyX1 : Nat → FieldType := fun k => match k with
  | 0 => .array (.object "BehindAnotherHearse$Scene")
  | 1 => .int
  | _ => .int
theorem nmX1 : ∀ a, a < 3 → ∀ b, b < 3 → a ≠ b → (TX1 a).2.1 ≠ (TX1 b).2.1 := by decide +kernel
theorem tyX1_ok : ∀ k, k < 3 → parseFieldDescriptor (TX1 k).2.2.1 = some (tyX1 k) := by decide +kernel
abbrev cX1_init : ByteArray := prog_3_method_1_code
def yX1_init : MethodName := ⟨RX1, "<init>", "()V"⟩
abbrev cX1_clear : ByteArray := prog_3_method_2_code
def yX1_clear : MethodName := ⟨RX1, "clear", "()V"⟩
abbrev cX1_add : ByteArray := prog_3_method_3_code
def yX1_add : MethodName := ⟨RX1, "add", "(LBehindAnotherHearse$Scene;)V"⟩
abbrev cX1_takeBack : ByteArray := prog_3_method_4_code
def yX1_takeBack : MethodName := ⟨RX1, "takeBack", "(LBehindAnotherHearse$Scene;)Z"⟩
def RX2 : String := "BehindAnotherHearse$Law"
def TX2 : u_T := fun k => match k with
  | 0 => ("BehindAnotherHearse$Law", "kinds", "[I", true)
  | 1 => ("BehindAnotherHearse$Law", "values", "[I", true)
  | 2 => ("BehindAnotherHearse$Law", "stack", "[I", true)
  | 3 => ("BehindAnotherHearse$Law", "given", "[I", true)
  | 4 => ("BehindAnotherHearse$Law", "size", "I", false)
  | _ => ("BehindAnotherHearse$Law", "lettersUsed", "I", false)
def tyX2 : Nat → FieldType := fun k => match k with
  | 0 => .array .int
  | 1 => .array .int
  | 2 => .array .int
  | 3 => .array .int
  | 4 => .int
  | _ => .int
theorem nmX2 : ∀ a, a < 6 → ∀ b, b < 6 → a ≠ b → (TX2 a).2.1 ≠ (TX2 b).2.1 := by decide +kernel
theorem tyX2_ok : ∀ k, k < 6 → parseFieldDescriptor (TX2 k).2.2.1 = some (tyX2 k) := by decide +kernel
abbrev cX2_init : ByteArray := prog_4_method_1_code
def yX2_init : MethodName := ⟨RX2, "<init>", "()V"⟩
abbrev cX2_becomePlain : ByteArray := prog_4_method_2_code
def yX2_becomePlain : MethodName := ⟨RX2, "becomePlain", "()V"⟩
abbrev cX2_clear : ByteArray := prog_4_method_3_code
def yX2_clear : MethodName := ⟨RX2, "clear", "()V"⟩
abbrev cX2_add : ByteArray := prog_4_method_4_code
def yX2_add : MethodName := ⟨RX2, "add", "(II)V"⟩
abbrev cX2_addLetter : ByteArray := prog_4_method_5_code
def yX2_addLetter : MethodName := ⟨RX2, "addLetter", "(I)V"⟩
abbrev cX2_uses : ByteArray := prog_4_method_6_code
def yX2_uses : MethodName := ⟨RX2, "uses", "(I)Z"⟩
abbrev cX2_period : ByteArray := prog_4_method_7_code
def yX2_period : MethodName := ⟨RX2, "period", "(LBehindAnotherHearse$Street;)I"⟩
abbrev cX2_observe : ByteArray := prog_4_method_8_code
def yX2_observe : MethodName := ⟨RX2, "observe", "(LBehindAnotherHearse$Scene;LBehindAnotherHearse$Street;I)V"⟩
abbrev cX2_pace : ByteArray := prog_4_method_9_code
def yX2_pace : MethodName := ⟨RX2, "pace", "()I"⟩
abbrev cX2_join : ByteArray := prog_4_method_10_code
def yX2_join : MethodName := ⟨RX2, "join", "(III)I"⟩
def RX3 : String := "BehindAnotherHearse$Orders"
def TX3 : u_T := fun k => match k with
  | 0 => ("BehindAnotherHearse$Orders", "cells", "[I", true)
  | 1 => ("BehindAnotherHearse$Orders", "best", "[I", true)
  | _ => ("BehindAnotherHearse$Orders", "size", "I", false)
def tyX3 : Nat → FieldType := fun k => match k with
  | 0 => .array .int
  | 1 => .array .int
  | _ => .int
theorem nmX3 : ∀ a, a < 3 → ∀ b, b < 3 → a ≠ b → (TX3 a).2.1 ≠ (TX3 b).2.1 := by decide +kernel
theorem tyX3_ok : ∀ k, k < 3 → parseFieldDescriptor (TX3 k).2.2.1 = some (tyX3 k) := by decide +kernel
abbrev cX3_init : ByteArray := prog_5_method_1_code
def yX3_init : MethodName := ⟨RX3, "<init>", "()V"⟩
abbrev cX3_begin : ByteArray := prog_5_method_2_code
def yX3_begin : MethodName := ⟨RX3, "begin", "(LBehindAnotherHearse$Scene;LBehindAnotherHearse$Street;)V"⟩
abbrev cX3_markBest : ByteArray := prog_5_method_3_code
def yX3_markBest : MethodName := ⟨RX3, "markBest", "()V"⟩
abbrev cX3_toNext : ByteArray := prog_5_method_4_code
def yX3_toNext : MethodName := ⟨RX3, "toNext", "()Z"⟩
abbrev cX3_exchangeCells : ByteArray := prog_5_method_5_code
def yX3_exchangeCells : MethodName := ⟨RX3, "exchangeCells", "(II)V"⟩
def RX4 : String := "BehindAnotherHearse$Row"
def TX4 : u_T := fun k => match k with
  | 0 => ("BehindAnotherHearse$Row", "numbers", "[J", true)
  | _ => ("BehindAnotherHearse$Row", "size", "I", false)
def tyX4 : Nat → FieldType := fun k => match k with
  | 0 => .array .long
  | _ => .int
theorem nmX4 : ∀ a, a < 2 → ∀ b, b < 2 → a ≠ b → (TX4 a).2.1 ≠ (TX4 b).2.1 := by decide +kernel
theorem tyX4_ok : ∀ k, k < 2 → parseFieldDescriptor (TX4 k).2.2.1 = some (tyX4 k) := by decide +kernel
abbrev cX4_init : ByteArray := prog_6_method_1_code
def yX4_init : MethodName := ⟨RX4, "<init>", "()V"⟩
abbrev cX4_clear : ByteArray := prog_6_method_2_code
def yX4_clear : MethodName := ⟨RX4, "clear", "()V"⟩
abbrev cX4_add : ByteArray := prog_6_method_3_code
def yX4_add : MethodName := ⟨RX4, "add", "(J)V"⟩
abbrev cX4_tellOne : ByteArray := prog_6_method_4_code
def yX4_tellOne : MethodName := ⟨RX4, "tellOne", "(J)V"⟩
abbrev cX4_tellTwo : ByteArray := prog_6_method_5_code
def yX4_tellTwo : MethodName := ⟨RX4, "tellTwo", "(JJ)V"⟩
def RX5 : String := "BehindAnotherHearse$RuleReader"
def TX5 : u_T := fun k => match k with
  | 0 => ("BehindAnotherHearse$RuleReader", "waiting", "[I", true)
  | 1 => ("BehindAnotherHearse$RuleReader", "waitingCount", "I", false)
  | 2 => ("BehindAnotherHearse$RuleReader", "depth", "I", false)
  | _ => ("BehindAnotherHearse$RuleReader", "wantsThing", "Z", false)
def tyX5 : Nat → FieldType := fun k => match k with
  | 0 => .array .int
  | 1 => .int
  | 2 => .int
  | _ => .boolean
theorem nmX5 : ∀ a, a < 4 → ∀ b, b < 4 → a ≠ b → (TX5 a).2.1 ≠ (TX5 b).2.1 := by decide +kernel
theorem tyX5_ok : ∀ k, k < 4 → parseFieldDescriptor (TX5 k).2.2.1 = some (tyX5 k) := by decide +kernel
abbrev cX5_init : ByteArray := prog_7_method_1_code
def yX5_init : MethodName := ⟨RX5, "<init>", "()V"⟩
abbrev cX5_read : ByteArray := prog_7_method_2_code
def yX5_read : MethodName := ⟨RX5, "read", "(LBehindAnotherHearse$Text;LBehindAnotherHearse$Law;)I"⟩
abbrev cX5_takeThing : ByteArray := prog_7_method_3_code
def yX5_takeThing : MethodName := ⟨RX5, "takeThing", "(LBehindAnotherHearse$Text;LBehindAnotherHearse$Law;)Z"⟩
abbrev cX5_takeSign : ByteArray := prog_7_method_4_code
def yX5_takeSign : MethodName := ⟨RX5, "takeSign", "(LBehindAnotherHearse$Text;LBehindAnotherHearse$Law;)Z"⟩
abbrev cX5_hold : ByteArray := prog_7_method_5_code
def yX5_hold : MethodName := ⟨RX5, "hold", "(I)V"⟩
abbrev cX5_release : ByteArray := prog_7_method_6_code
def yX5_release : MethodName := ⟨RX5, "release", "(LBehindAnotherHearse$Law;I)V"⟩
abbrev cX5_latestBinding : ByteArray := prog_7_method_7_code
def yX5_latestBinding : MethodName := ⟨RX5, "latestBinding", "()I"⟩
abbrev cX5_bindingOf : ByteArray := prog_7_method_8_code
def yX5_bindingOf : MethodName := ⟨RX5, "bindingOf", "(I)I"⟩
def RX6 : String := "BehindAnotherHearse$Scene"
def TX6 : u_T := fun k => match k with
  | 0 => ("BehindAnotherHearse$Scene", "cell", "[I", true)
  | 1 => ("BehindAnotherHearse$Scene", "rank", "[I", true)
  | 2 => ("BehindAnotherHearse$Scene", "place", "[I", true)
  | 3 => ("BehindAnotherHearse$Scene", "own", "[I", true)
  | 4 => ("BehindAnotherHearse$Scene", "follows", "[I", true)
  | 5 => ("BehindAnotherHearse$Scene", "grave", "[I", true)
  | 6 => ("BehindAnotherHearse$Scene", "hearseCount", "I", false)
  | 7 => ("BehindAnotherHearse$Scene", "mournerCount", "I", false)
  | 8 => ("BehindAnotherHearse$Scene", "arrivedCount", "I", false)
  | 9 => ("BehindAnotherHearse$Scene", "endedCount", "I", false)
  | _ => ("BehindAnotherHearse$Scene", "step", "I", false)
def tyX6 : Nat → FieldType := fun k => match k with
  | 0 => .array .int
  | 1 => .array .int
  | 2 => .array .int
  | 3 => .array .int
  | 4 => .array .int
  | 5 => .array .int
  | 6 => .int
  | 7 => .int
  | 8 => .int
  | 9 => .int
  | _ => .int
theorem nmX6 : ∀ a, a < 11 → ∀ b, b < 11 → a ≠ b → (TX6 a).2.1 ≠ (TX6 b).2.1 := by decide +kernel
theorem tyX6_ok : ∀ k, k < 11 → parseFieldDescriptor (TX6 k).2.2.1 = some (tyX6 k) := by decide +kernel
abbrev cX6_init : ByteArray := prog_8_method_1_code
def yX6_init : MethodName := ⟨RX6, "<init>", "()V"⟩
abbrev cX6_clear : ByteArray := prog_8_method_2_code
def yX6_clear : MethodName := ⟨RX6, "clear", "()V"⟩
abbrev cX6_copyFrom : ByteArray := prog_8_method_3_code
def yX6_copyFrom : MethodName := ⟨RX6, "copyFrom", "(LBehindAnotherHearse$Scene;)V"⟩
abbrev cX6_isHearse : ByteArray := prog_8_method_4_code
def yX6_isHearse : MethodName := ⟨RX6, "isHearse", "(I)Z"⟩
abbrev cX6_isMourner : ByteArray := prog_8_method_5_code
def yX6_isMourner : MethodName := ⟨RX6, "isMourner", "(I)Z"⟩
abbrev cX6_hasArrived : ByteArray := prog_8_method_6_code
def yX6_hasArrived : MethodName := ⟨RX6, "hasArrived", "(I)Z"⟩
abbrev cX6_hasEnded : ByteArray := prog_8_method_7_code
def yX6_hasEnded : MethodName := ⟨RX6, "hasEnded", "(I)Z"⟩
abbrev cX6_isRight : ByteArray := prog_8_method_8_code
def yX6_isRight : MethodName := ⟨RX6, "isRight", "(I)Z"⟩
abbrev cX6_addHearse : ByteArray := prog_8_method_9_code
def yX6_addHearse : MethodName := ⟨RX6, "addHearse", "(I)V"⟩
abbrev cX6_addMourner : ByteArray := prog_8_method_10_code
def yX6_addMourner : MethodName := ⟨RX6, "addMourner", "(II)V"⟩
abbrev cX6_arrive : ByteArray := prog_8_method_11_code
def yX6_arrive : MethodName := ⟨RX6, "arrive", "(I)V"⟩
abbrev cX6_takeAway : ByteArray := prog_8_method_12_code
def yX6_takeAway : MethodName := ⟨RX6, "takeAway", "(I)V"⟩
abbrev cX6_endAt : ByteArray := prog_8_method_13_code
def yX6_endAt : MethodName := ⟨RX6, "endAt", "(II)V"⟩
abbrev cX6_placeHearses : ByteArray := prog_8_method_14_code
def yX6_placeHearses : MethodName := ⟨RX6, "placeHearses", "([I)V"⟩
abbrev cX6_turn : ByteArray := prog_8_method_15_code
def yX6_turn : MethodName := ⟨RX6, "turn", "(I)I"⟩
abbrev cX6_shove : ByteArray := prog_8_method_16_code
def yX6_shove : MethodName := ⟨RX6, "shove", "(IILBehindAnotherHearse$Street;)I"⟩
abbrev cX6_exchange : ByteArray := prog_8_method_17_code
def yX6_exchange : MethodName := ⟨RX6, "exchange", "(II)I"⟩
abbrev cX6_hearseOn : ByteArray := prog_8_method_18_code
def yX6_hearseOn : MethodName := ⟨RX6, "hearseOn", "(I)I"⟩
abbrev cX6_takenCells : ByteArray := prog_8_method_19_code
def yX6_takenCells : MethodName := ⟨RX6, "takenCells", "()I"⟩
abbrev cX6_foremostBelow : ByteArray := prog_8_method_20_code
def yX6_foremostBelow : MethodName := ⟨RX6, "foremostBelow", "(I)I"⟩
abbrev cX6_freeAhead : ByteArray := prog_8_method_21_code
def yX6_freeAhead : MethodName := ⟨RX6, "freeAhead", "(II)I"⟩
abbrev cX6_isAheadOf : ByteArray := prog_8_method_22_code
def yX6_isAheadOf : MethodName := ⟨RX6, "isAheadOf", "(II)Z"⟩
abbrev cX6_nearestTo : ByteArray := prog_8_method_23_code
def yX6_nearestTo : MethodName := ⟨RX6, "nearestTo", "(I)I"⟩
abbrev cX6_isInDoubt : ByteArray := prog_8_method_24_code
def yX6_isInDoubt : MethodName := ⟨RX6, "isInDoubt", "(I)Z"⟩
abbrev cX6_bitsOf : ByteArray := prog_8_method_25_code
def yX6_bitsOf : MethodName := ⟨RX6, "bitsOf", "([II)I"⟩
abbrev cX6_rightBits : ByteArray := prog_8_method_26_code
def yX6_rightBits : MethodName := ⟨RX6, "rightBits", "()I"⟩
abbrev cX6_wrongBits : ByteArray := prog_8_method_27_code
def yX6_wrongBits : MethodName := ⟨RX6, "wrongBits", "()I"⟩
def RX7 : String := "BehindAnotherHearse$Sharing"
def TX7 : u_T := fun k => match k with
  | 0 => ("BehindAnotherHearse$Sharing", "most", "[[I", true)
  | _ => ("BehindAnotherHearse$Sharing", "reach", "I", false)
def tyX7 : Nat → FieldType := fun k => match k with
  | 0 => .array (.array .int)
  | _ => .int
theorem nmX7 : ∀ a, a < 2 → ∀ b, b < 2 → a ≠ b → (TX7 a).2.1 ≠ (TX7 b).2.1 := by decide +kernel
theorem tyX7_ok : ∀ k, k < 2 → parseFieldDescriptor (TX7 k).2.2.1 = some (tyX7 k) := by decide +kernel
abbrev cX7_init : ByteArray := prog_9_method_1_code
def yX7_init : MethodName := ⟨RX7, "<init>", "()V"⟩
abbrev cX7_weigh : ByteArray := prog_9_method_2_code
def yX7_weigh : MethodName := ⟨RX7, "weigh", "(LBehindAnotherHearse$Scene;I)I"⟩
abbrev cX7_mostFrom : ByteArray := prog_9_method_3_code
def yX7_mostFrom : MethodName := ⟨RX7, "mostFrom", "(LBehindAnotherHearse$Scene;II)I"⟩
abbrev cX7_canHave : ByteArray := prog_9_method_4_code
def yX7_canHave : MethodName := ⟨RX7, "canHave", "(LBehindAnotherHearse$Scene;III)Z"⟩
abbrev cX7_choice : ByteArray := prog_9_method_5_code
def yX7_choice : MethodName := ⟨RX7, "choice", "(LBehindAnotherHearse$Scene;II)I"⟩
def RX8 : String := "BehindAnotherHearse$Street"
def TX8 : u_T := fun k => match k with
  | 0 => ("BehindAnotherHearse$Street", "digits", "[I", true)
  | 1 => ("BehindAnotherHearse$Street", "cells", "I", false)
  | 2 => ("BehindAnotherHearse$Street", "corners", "I", false)
  | _ => ("BehindAnotherHearse$Street", "digitCount", "I", false)
def tyX8 : Nat → FieldType := fun k => match k with
  | 0 => .array .int
  | 1 => .int
  | 2 => .int
  | _ => .int
theorem nmX8 : ∀ a, a < 4 → ∀ b, b < 4 → a ≠ b → (TX8 a).2.1 ≠ (TX8 b).2.1 := by decide +kernel
theorem tyX8_ok : ∀ k, k < 4 → parseFieldDescriptor (TX8 k).2.2.1 = some (tyX8 k) := by decide +kernel
abbrev cX8_init : ByteArray := prog_10_method_1_code
def yX8_init : MethodName := ⟨RX8, "<init>", "()V"⟩
abbrev cX8_become : ByteArray := prog_10_method_2_code
def yX8_become : MethodName := ⟨RX8, "become", "(LBehindAnotherHearse$Text;)V"⟩
abbrev cX8_takeWeather : ByteArray := prog_10_method_3_code
def yX8_takeWeather : MethodName := ⟨RX8, "takeWeather", "(LBehindAnotherHearse$Text;)V"⟩
abbrev cX8_gate : ByteArray := prog_10_method_4_code
def yX8_gate : MethodName := ⟨RX8, "gate", "()I"⟩
abbrev cX8_putOnStreet : ByteArray := prog_10_method_5_code
def yX8_putOnStreet : MethodName := ⟨RX8, "putOnStreet", "(I)I"⟩
abbrev cX8_weatherAt : ByteArray := prog_10_method_6_code
def yX8_weatherAt : MethodName := ⟨RX8, "weatherAt", "(I)I"⟩
abbrev cX8_isCorner : ByteArray := prog_10_method_7_code
def yX8_isCorner : MethodName := ⟨RX8, "isCorner", "(I)Z"⟩
def RX9 : String := "BehindAnotherHearse$Text"
def TX9 : u_T := fun k => match k with
  | 0 => ("BehindAnotherHearse$Text", "signs", "[I", true)
  | 1 => ("BehindAnotherHearse$Text", "length", "I", false)
  | 2 => ("BehindAnotherHearse$Text", "at", "I", false)
  | _ => ("BehindAnotherHearse$Text", "stop", "I", false)
def tyX9 : Nat → FieldType := fun k => match k with
  | 0 => .array .int
  | 1 => .int
  | 2 => .int
  | _ => .int
theorem nmX9 : ∀ a, a < 4 → ∀ b, b < 4 → a ≠ b → (TX9 a).2.1 ≠ (TX9 b).2.1 := by decide +kernel
theorem tyX9_ok : ∀ k, k < 4 → parseFieldDescriptor (TX9 k).2.2.1 = some (tyX9 k) := by decide +kernel
abbrev cX9_init : ByteArray := prog_11_method_1_code
def yX9_init : MethodName := ⟨RX9, "<init>", "()V"⟩
abbrev cX9_addFour : ByteArray := prog_11_method_2_code
def yX9_addFour : MethodName := ⟨RX9, "addFour", "(I)Z"⟩
abbrev cX9_cutTo : ByteArray := prog_11_method_3_code
def yX9_cutTo : MethodName := ⟨RX9, "cutTo", "(I)Z"⟩
abbrev cX9_clear : ByteArray := prog_11_method_4_code
def yX9_clear : MethodName := ⟨RX9, "clear", "()V"⟩
abbrev cX9_isEmpty : ByteArray := prog_11_method_5_code
def yX9_isEmpty : MethodName := ⟨RX9, "isEmpty", "()Z"⟩
abbrev cX9_signAt : ByteArray := prog_11_method_6_code
def yX9_signAt : MethodName := ⟨RX9, "signAt", "(I)I"⟩
abbrev cX9_open : ByteArray := prog_11_method_7_code
def yX9_open : MethodName := ⟨RX9, "open", "(I)V"⟩
abbrev cX9_look : ByteArray := prog_11_method_8_code
def yX9_look : MethodName := ⟨RX9, "look", "()I"⟩
abbrev cX9_pass : ByteArray := prog_11_method_9_code
def yX9_pass : MethodName := ⟨RX9, "pass", "()V"⟩
abbrev cX9_back : ByteArray := prog_11_method_10_code
def yX9_back : MethodName := ⟨RX9, "back", "()V"⟩
abbrev cX9_skip : ByteArray := prog_11_method_11_code
def yX9_skip : MethodName := ⟨RX9, "skip", "(I)Z"⟩
abbrev cX9_digit : ByteArray := prog_11_method_12_code
def yX9_digit : MethodName := ⟨RX9, "digit", "()I"⟩
abbrev cX9_number : ByteArray := prog_11_method_13_code
def yX9_number : MethodName := ⟨RX9, "number", "(I)I"⟩
abbrev cX9_isRead : ByteArray := prog_11_method_14_code
def yX9_isRead : MethodName := ⟨RX9, "isRead", "()Z"⟩
abbrev cX9_isWhole : ByteArray := prog_11_method_15_code
def yX9_isWhole : MethodName := ⟨RX9, "isWhole", "()Z"⟩
def RX10 : String := "BehindAnotherHearse$Walker"
def TX10 : u_T := fun k => match k with
  | 0 => ("BehindAnotherHearse$Walker", "street", "LBehindAnotherHearse$Street;", true)
  | 1 => ("BehindAnotherHearse$Walker", "waitsOn", "[I", true)
  | 2 => ("BehindAnotherHearse$Walker", "changesOf", "[I", true)
  | 3 => ("BehindAnotherHearse$Walker", "waits", "I", false)
  | 4 => ("BehindAnotherHearse$Walker", "changes", "I", false)
  | _ => ("BehindAnotherHearse$Walker", "isStirred", "Z", false)
def tyX10 : Nat → FieldType := fun k => match k with
  | 0 => .object "BehindAnotherHearse$Street"
  | 1 => .array .int
  | 2 => .array .int
  | 3 => .int
  | 4 => .int
  | _ => .boolean
theorem nmX10 : ∀ a, a < 6 → ∀ b, b < 6 → a ≠ b → (TX10 a).2.1 ≠ (TX10 b).2.1 := by decide +kernel
theorem tyX10_ok : ∀ k, k < 6 → parseFieldDescriptor (TX10 k).2.2.1 = some (tyX10 k) := by decide +kernel
abbrev cX10_init : ByteArray := prog_12_method_1_code
def yX10_init : MethodName := ⟨RX10, "<init>", "(LBehindAnotherHearse$Street;)V"⟩
abbrev cX10_forgetTallies : ByteArray := prog_12_method_2_code
def yX10_forgetTallies : MethodName := ⟨RX10, "forgetTallies", "()V"⟩
abbrev cX10_walk : ByteArray := prog_12_method_3_code
def yX10_walk : MethodName := ⟨RX10, "walk", "(LBehindAnotherHearse$Scene;LBehindAnotherHearse$Law;I)V"⟩
abbrev cX10_toEnd : ByteArray := prog_12_method_4_code
def yX10_toEnd : MethodName := ⟨RX10, "toEnd", "(LBehindAnotherHearse$Scene;LBehindAnotherHearse$Law;)V"⟩
abbrev cX10_advance : ByteArray := prog_12_method_5_code
def yX10_advance : MethodName := ⟨RX10, "advance", "(LBehindAnotherHearse$Scene;LBehindAnotherHearse$Law;)V"⟩
abbrev cX10_moveHearse : ByteArray := prog_12_method_6_code
def yX10_moveHearse : MethodName := ⟨RX10, "moveHearse", "(LBehindAnotherHearse$Scene;LBehindAnotherHearse$Law;I)V"⟩
abbrev cX10_goal : ByteArray := prog_12_method_7_code
def yX10_goal : MethodName := ⟨RX10, "goal", "(III)I"⟩
abbrev cX10_moveMourner : ByteArray := prog_12_method_8_code
def yX10_moveMourner : MethodName := ⟨RX10, "moveMourner", "(LBehindAnotherHearse$Scene;I)V"⟩
def RX11 : String := "BehindAnotherHearse"
def TX11 : u_T := fun k => match k with
  | 0 => ("BehindAnotherHearse", "text", "LBehindAnotherHearse$Text;", true)
  | 1 => ("BehindAnotherHearse", "street", "LBehindAnotherHearse$Street;", true)
  | 2 => ("BehindAnotherHearse", "now", "LBehindAnotherHearse$Scene;", true)
  | 3 => ("BehindAnotherHearse", "trial", "LBehindAnotherHearse$Scene;", true)
  | 4 => ("BehindAnotherHearse", "base", "LBehindAnotherHearse$Scene;", true)
  | 5 => ("BehindAnotherHearse", "before", "LBehindAnotherHearse$Scene;", true)
  | 6 => ("BehindAnotherHearse", "walker", "LBehindAnotherHearse$Walker;", true)
  | 7 => ("BehindAnotherHearse", "history", "LBehindAnotherHearse$History;", true)
  | 8 => ("BehindAnotherHearse", "kept", "[LBehindAnotherHearse$Scene;", true)
  | 9 => ("BehindAnotherHearse", "isKept", "[Z", true)
  | 10 => ("BehindAnotherHearse", "told", "LBehindAnotherHearse$Row;", true)
  | 11 => ("BehindAnotherHearse", "sharing", "LBehindAnotherHearse$Sharing;", true)
  | 12 => ("BehindAnotherHearse", "orders", "LBehindAnotherHearse$Orders;", true)
  | 13 => ("BehindAnotherHearse", "hearsay", "LBehindAnotherHearse$Hearsay;", true)
  | 14 => ("BehindAnotherHearse", "ruleReader", "LBehindAnotherHearse$RuleReader;", true)
  | 15 => ("BehindAnotherHearse", "drawn", "I", false)
  | 16 => ("BehindAnotherHearse", "rules", "LBehindAnotherHearse$Law;", false)
  | _ => ("BehindAnotherHearse", "otherRules", "LBehindAnotherHearse$Law;", false)
def tyX11 : Nat → FieldType := fun k => match k with
  | 0 => .object "BehindAnotherHearse$Text"
  | 1 => .object "BehindAnotherHearse$Street"
  | 2 => .object "BehindAnotherHearse$Scene"
  | 3 => .object "BehindAnotherHearse$Scene"
  | 4 => .object "BehindAnotherHearse$Scene"
  | 5 => .object "BehindAnotherHearse$Scene"
  | 6 => .object "BehindAnotherHearse$Walker"
  | 7 => .object "BehindAnotherHearse$History"
  | 8 => .array (.object "BehindAnotherHearse$Scene")
  | 9 => .array .boolean
  | 10 => .object "BehindAnotherHearse$Row"
  | 11 => .object "BehindAnotherHearse$Sharing"
  | 12 => .object "BehindAnotherHearse$Orders"
  | 13 => .object "BehindAnotherHearse$Hearsay"
  | 14 => .object "BehindAnotherHearse$RuleReader"
  | 15 => .int
  | 16 => .object "BehindAnotherHearse$Law"
  | _ => .object "BehindAnotherHearse$Law"
theorem nmX11 : ∀ a, a < 18 → ∀ b, b < 18 → a ≠ b → (TX11 a).2.1 ≠ (TX11 b).2.1 := by decide +kernel
theorem tyX11_ok : ∀ k, k < 18 → parseFieldDescriptor (TX11 k).2.2.1 = some (tyX11 k) := by decide +kernel
abbrev cX11_init : ByteArray := prog_1_method_1_code
def yX11_init : MethodName := ⟨RX11, "<init>", "()V"⟩
abbrev cX11_sign : ByteArray := prog_1_method_2_code
def yX11_sign : MethodName := ⟨RX11, "sign", "(I)I"⟩
abbrev cX11_end : ByteArray := prog_1_method_3_code
def yX11_end : MethodName := ⟨RX11, "end", "(I)Z"⟩
abbrev cX11_avenue : ByteArray := prog_1_method_4_code
def yX11_avenue : MethodName := ⟨RX11, "avenue", "()I"⟩
abbrev cX11_avenueFault : ByteArray := prog_1_method_5_code
def yX11_avenueFault : MethodName := ⟨RX11, "avenueFault", "()I"⟩
abbrev cX11_forgetKept : ByteArray := prog_1_method_6_code
def yX11_forgetKept : MethodName := ⟨RX11, "forgetKept", "()V"⟩
abbrev cX11_hearses : ByteArray := prog_1_method_7_code
def yX11_hearses : MethodName := ⟨RX11, "hearses", "()I"⟩
abbrev cX11_mourners : ByteArray := prog_1_method_8_code
def yX11_mourners : MethodName := ⟨RX11, "mourners", "()I"⟩
abbrev cX11_readLines : ByteArray := prog_1_method_9_code
def yX11_readLines : MethodName := ⟨RX11, "readLines", "(Z)I"⟩
abbrev cX11_readHearse : ByteArray := prog_1_method_10_code
def yX11_readHearse : MethodName := ⟨RX11, "readHearse", "()Z"⟩
abbrev cX11_readMourner : ByteArray := prog_1_method_11_code
def yX11_readMourner : MethodName := ⟨RX11, "readMourner", "()Z"⟩
abbrev cX11_readCell : ByteArray := prog_1_method_12_code
def yX11_readCell : MethodName := ⟨RX11, "readCell", "()I"⟩
abbrev cX11_weather : ByteArray := prog_1_method_13_code
def yX11_weather : MethodName := ⟨RX11, "weather", "()I"⟩
abbrev cX11_weatherFault : ByteArray := prog_1_method_14_code
def yX11_weatherFault : MethodName := ⟨RX11, "weatherFault", "()I"⟩
abbrev cX11_rule : ByteArray := prog_1_method_15_code
def yX11_rule : MethodName := ⟨RX11, "rule", "()I"⟩
abbrev cX11_hearse : ByteArray := prog_1_method_16_code
def yX11_hearse : MethodName := ⟨RX11, "hearse", "(II)I"⟩
abbrev cX11_paceNow : ByteArray := prog_1_method_17_code
def yX11_paceNow : MethodName := ⟨RX11, "paceNow", "(I)I"⟩
abbrev cX11_mourner : ByteArray := prog_1_method_18_code
def yX11_mourner : MethodName := ⟨RX11, "mourner", "(II)I"⟩
abbrev cX11_sheet : ByteArray := prog_1_method_19_code
def yX11_sheet : MethodName := ⟨RX11, "sheet", "(IIII)I"⟩
abbrev cX11_cellOfEntry : ByteArray := prog_1_method_20_code
def yX11_cellOfEntry : MethodName := ⟨RX11, "cellOfEntry", "(II)I"⟩
abbrev cX11_steps : ByteArray := prog_1_method_21_code
def yX11_steps : MethodName := ⟨RX11, "steps", "(I)I"⟩
abbrev cX11_turnsTo : ByteArray := prog_1_method_22_code
def yX11_turnsTo : MethodName := ⟨RX11, "turnsTo", "(I)I"⟩
abbrev cX11_pushes : ByteArray := prog_1_method_23_code
def yX11_pushes : MethodName := ⟨RX11, "pushes", "(II)I"⟩
abbrev cX11_swaps : ByteArray := prog_1_method_24_code
def yX11_swaps : MethodName := ⟨RX11, "swaps", "(II)I"⟩
abbrev cX11_isDone : ByteArray := prog_1_method_25_code
def yX11_isDone : MethodName := ⟨RX11, "isDone", "(I)Z"⟩
abbrev cX11_undoable : ByteArray := prog_1_method_26_code
def yX11_undoable : MethodName := ⟨RX11, "undoable", "(I)I"⟩
abbrev cX11_hour : ByteArray := prog_1_method_27_code
def yX11_hour : MethodName := ⟨RX11, "hour", "()I"⟩
abbrev cX11_hourFault : ByteArray := prog_1_method_28_code
def yX11_hourFault : MethodName := ⟨RX11, "hourFault", "()I"⟩
abbrev cX11_passAct : ByteArray := prog_1_method_29_code
def yX11_passAct : MethodName := ⟨RX11, "passAct", "()Z"⟩
abbrev cX11_doAct : ByteArray := prog_1_method_30_code
def yX11_doAct : MethodName := ⟨RX11, "doAct", "()I"⟩
abbrev cX11_undo : ByteArray := prog_1_method_31_code
def yX11_undo : MethodName := ⟨RX11, "undo", "()I"⟩
abbrev cX11_line : ByteArray := prog_1_method_32_code
def yX11_line : MethodName := ⟨RX11, "line", "()I"⟩
abbrev cX11_ahead : ByteArray := prog_1_method_33_code
def yX11_ahead : MethodName := ⟨RX11, "ahead", "(I)I"⟩
abbrev cX11_arrives : ByteArray := prog_1_method_34_code
def yX11_arrives : MethodName := ⟨RX11, "arrives", "(I)I"⟩
abbrev cX11_jam : ByteArray := prog_1_method_35_code
def yX11_jam : MethodName := ⟨RX11, "jam", "(I)I"⟩
abbrev cX11_passes : ByteArray := prog_1_method_36_code
def yX11_passes : MethodName := ⟨RX11, "passes", "(II)I"⟩
abbrev cX11_ends : ByteArray := prog_1_method_37_code
def yX11_ends : MethodName := ⟨RX11, "ends", "(I)I"⟩
abbrev cX11_right : ByteArray := prog_1_method_38_code
def yX11_right : MethodName := ⟨RX11, "right", "()I"⟩
abbrev cX11_rightOnesOfTrial : ByteArray := prog_1_method_39_code
def yX11_rightOnesOfTrial : MethodName := ⟨RX11, "rightOnesOfTrial", "(LBehindAnotherHearse$Law;)I"⟩
abbrev cX11_order : ByteArray := prog_1_method_40_code
def yX11_order : MethodName := ⟨RX11, "order", "()I"⟩
abbrev cX11_stands : ByteArray := prog_1_method_41_code
def yX11_stands : MethodName := ⟨RX11, "stands", "(I)I"⟩
abbrev cX11_when : ByteArray := prog_1_method_42_code
def yX11_when : MethodName := ⟨RX11, "when", "(I)I"⟩
abbrev cX11_isTurned : ByteArray := prog_1_method_43_code
def yX11_isTurned : MethodName := ⟨RX11, "isTurned", "(I)Z"⟩
abbrev cX11_mends : ByteArray := prog_1_method_44_code
def yX11_mends : MethodName := ⟨RX11, "mends", "(I)I"⟩
abbrev cX11_ableToTurn : ByteArray := prog_1_method_45_code
def yX11_ableToTurn : MethodName := ⟨RX11, "ableToTurn", "()I"⟩
abbrev cX11_turnInTrial : ByteArray := prog_1_method_46_code
def yX11_turnInTrial : MethodName := ⟨RX11, "turnInTrial", "(I)V"⟩
abbrev cX11_misleads : ByteArray := prog_1_method_47_code
def yX11_misleads : MethodName := ⟨RX11, "misleads", "()I"⟩
abbrev cX11_crowd : ByteArray := prog_1_method_48_code
def yX11_crowd : MethodName := ⟨RX11, "crowd", "()I"⟩
abbrev cX11_shares : ByteArray := prog_1_method_49_code
def yX11_shares : MethodName := ⟨RX11, "shares", "(I)I"⟩
abbrev cX11_strangers : ByteArray := prog_1_method_50_code
def yX11_strangers : MethodName := ⟨RX11, "strangers", "()I"⟩
abbrev cX11_doubts : ByteArray := prog_1_method_51_code
def yX11_doubts : MethodName := ⟨RX11, "doubts", "()I"⟩
abbrev cX11_heard : ByteArray := prog_1_method_52_code
def yX11_heard : MethodName := ⟨RX11, "heard", "(II)I"⟩
abbrev cX11_forget : ByteArray := prog_1_method_53_code
def yX11_forget : MethodName := ⟨RX11, "forget", "()I"⟩
abbrev cX11_fits : ByteArray := prog_1_method_54_code
def yX11_fits : MethodName := ⟨RX11, "fits", "()I"⟩
abbrev cX11_rains : ByteArray := prog_1_method_55_code
def yX11_rains : MethodName := ⟨RX11, "rains", "(III)I"⟩
abbrev cX11_power : ByteArray := prog_1_method_56_code
def yX11_power : MethodName := ⟨RX11, "power", "(JI)J"⟩
abbrev cX11_commonDivisor : ByteArray := prog_1_method_57_code
def yX11_commonDivisor : MethodName := ⟨RX11, "commonDivisor", "(JJ)J"⟩
abbrev cX11_law : ByteArray := prog_1_method_58_code
def yX11_law : MethodName := ⟨RX11, "law", "()I"⟩
abbrev cX11_rests : ByteArray := prog_1_method_59_code
def yX11_rests : MethodName := ⟨RX11, "rests", "(I)I"⟩
abbrev cX11_isBestAnswer : ByteArray := prog_1_method_60_code
def yX11_isBestAnswer : MethodName := ⟨RX11, "isBestAnswer", "(III)Z"⟩
abbrev cX11_gain : ByteArray := prog_1_method_61_code
def yX11_gain : MethodName := ⟨RX11, "gain", "(III)I"⟩
abbrev cX11_years : ByteArray := prog_1_method_62_code
def yX11_years : MethodName := ⟨RX11, "years", "(II)I"⟩
abbrev cX11_draw : ByteArray := prog_1_method_63_code
def yX11_draw : MethodName := ⟨RX11, "draw", "(I)I"⟩
abbrev cX11_keep : ByteArray := prog_1_method_64_code
def yX11_keep : MethodName := ⟨RX11, "keep", "(I)Z"⟩
abbrev cX11_again : ByteArray := prog_1_method_65_code
def yX11_again : MethodName := ⟨RX11, "again", "(I)Z"⟩
abbrev cX11_count : ByteArray := prog_1_method_66_code
def yX11_count : MethodName := ⟨RX11, "count", "(I)I"⟩
abbrev cX11_row : ByteArray := prog_1_method_67_code
def yX11_row : MethodName := ⟨RX11, "row", "(I)J"⟩
def RX12 : String := "BehindAnotherHearseModel"
def TX12 : u_T := fun k => match k with
  | 0 => ("BehindAnotherHearseModel", "thrown", "I", false)
  | 1 => ("BehindAnotherHearseModel", "told", "I", false)
  | 2 => ("BehindAnotherHearseModel", "row", "[J", true)
  | 3 => ("BehindAnotherHearseModel", "cells", "I", false)
  | 4 => ("BehindAnotherHearseModel", "hearses", "I", false)
  | 5 => ("BehindAnotherHearseModel", "mourners", "I", false)
  | 6 => ("BehindAnotherHearseModel", "changes", "I", false)
  | 7 => ("BehindAnotherHearseModel", "skyLong", "I", false)
  | 8 => ("BehindAnotherHearseModel", "corner", "[Z", true)
  | 9 => ("BehindAnotherHearseModel", "own", "[I", true)
  | 10 => ("BehindAnotherHearseModel", "sky", "[I", true)
  | 11 => ("BehindAnotherHearseModel", "now", "[I", true)
  | 12 => ("BehindAnotherHearseModel", "then", "[I", true)
  | 13 => ("BehindAnotherHearseModel", "tape", "[I", true)
  | 14 => ("BehindAnotherHearseModel", "taped", "I", false)
  | 15 => ("BehindAnotherHearseModel", "at", "I", false)
  | 16 => ("BehindAnotherHearseModel", "to", "I", false)
  | 17 => ("BehindAnotherHearseModel", "nest", "I", false)
  | 18 => ("BehindAnotherHearseModel", "readCorner", "[Z", true)
  | 19 => ("BehindAnotherHearseModel", "read", "[I", true)
  | 20 => ("BehindAnotherHearseModel", "readMany", "I", false)
  | 21 => ("BehindAnotherHearseModel", "readSky", "[I", true)
  | 22 => ("BehindAnotherHearseModel", "code", "[I", true)
  | 23 => ("BehindAnotherHearseModel", "readCode", "[I", true)
  | 24 => ("BehindAnotherHearseModel", "codeLong", "I", false)
  | 25 => ("BehindAnotherHearseModel", "codesRead", "I", false)
  | 26 => ("BehindAnotherHearseModel", "stack", "[I", true)
  | 27 => ("BehindAnotherHearseModel", "asked", "[I", true)
  | 28 => ("BehindAnotherHearseModel", "undos", "I", false)
  | 29 => ("BehindAnotherHearseModel", "undone", "[I", true)
  | 30 => ("BehindAnotherHearseModel", "waits", "I", false)
  | 31 => ("BehindAnotherHearseModel", "turnings", "I", false)
  | 32 => ("BehindAnotherHearseModel", "waitOn", "[I", true)
  | 33 => ("BehindAnotherHearseModel", "turnOf", "[I", true)
  | 34 => ("BehindAnotherHearseModel", "line", "[I", true)
  | 35 => ("BehindAnotherHearseModel", "lineLong", "I", false)
  | 36 => ("BehindAnotherHearseModel", "actSign", "[I", true)
  | 37 => ("BehindAnotherHearseModel", "actOne", "[I", true)
  | 38 => ("BehindAnotherHearseModel", "actTwo", "[I", true)
  | 39 => ("BehindAnotherHearseModel", "acts", "I", false)
  | 40 => ("BehindAnotherHearseModel", "place", "[I", true)
  | 41 => ("BehindAnotherHearseModel", "bestPlace", "[I", true)
  | 42 => ("BehindAnotherHearseModel", "bestMany", "I", false)
  | 43 => ("BehindAnotherHearseModel", "given", "[I", true)
  | 44 => ("BehindAnotherHearseModel", "bestGiven", "[I", true)
  | 45 => ("BehindAnotherHearseModel", "heardMany", "I", false)
  | 46 => ("BehindAnotherHearseModel", "heardWhat", "[I", true)
  | 47 => ("BehindAnotherHearseModel", "heardOf", "[I", true)
  | 48 => ("BehindAnotherHearseModel", "wasCode", "[I", true)
  | 49 => ("BehindAnotherHearseModel", "random", "I", false)
  | 50 => ("BehindAnotherHearseModel", "isKept", "[Z", true)
  | 51 => ("BehindAnotherHearseModel", "keptChanges", "[I", true)
  | _ => ("BehindAnotherHearseModel", "kept", "[I", true)
def tyX12 : Nat → FieldType := fun k => match k with
  | 0 => .int
  | 1 => .int
  | 2 => .array .long
  | 3 => .int
  | 4 => .int
  | 5 => .int
  | 6 => .int
  | 7 => .int
  | 8 => .array .boolean
  | 9 => .array .int
  | 10 => .array .int
  | 11 => .array .int
  | 12 => .array .int
  | 13 => .array .int
  | 14 => .int
  | 15 => .int
  | 16 => .int
  | 17 => .int
  | 18 => .array .boolean
  | 19 => .array .int
  | 20 => .int
  | 21 => .array .int
  | 22 => .array .int
  | 23 => .array .int
  | 24 => .int
  | 25 => .int
  | 26 => .array .int
  | 27 => .array .int
  | 28 => .int
  | 29 => .array .int
  | 30 => .int
  | 31 => .int
  | 32 => .array .int
  | 33 => .array .int
  | 34 => .array .int
  | 35 => .int
  | 36 => .array .int
  | 37 => .array .int
  | 38 => .array .int
  | 39 => .int
  | 40 => .array .int
  | 41 => .array .int
  | 42 => .int
  | 43 => .array .int
  | 44 => .array .int
  | 45 => .int
  | 46 => .array .int
  | 47 => .array .int
  | 48 => .array .int
  | 49 => .int
  | 50 => .array .boolean
  | 51 => .array .int
  | _ => .array .int
theorem nmX12 : ∀ a, a < 53 → ∀ b, b < 53 → a ≠ b → (TX12 a).2.1 ≠ (TX12 b).2.1 := by decide +kernel
theorem tyX12_ok : ∀ k, k < 53 → parseFieldDescriptor (TX12 k).2.2.1 = some (tyX12 k) := by decide +kernel
abbrev cX12_init : ByteArray := prog_14_method_1_code
def yX12_init : MethodName := ⟨RX12, "<init>", "()V"⟩
abbrev cX12_refuse : ByteArray := prog_14_method_3_code
def yX12_refuse : MethodName := ⟨RX12, "refuse", "()I"⟩
abbrev cX12_in : ByteArray := prog_14_method_4_code
def yX12_in : MethodName := ⟨RX12, "in", "(JJJ)Z"⟩
abbrev cX12_has : ByteArray := prog_14_method_5_code
def yX12_has : MethodName := ⟨RX12, "has", "(II)Z"⟩
abbrev cX12_flag : ByteArray := prog_14_method_6_code
def yX12_flag : MethodName := ⟨RX12, "flag", "(Z)I"⟩
abbrev cX12_common : ByteArray := prog_14_method_7_code
def yX12_common : MethodName := ⟨RX12, "common", "(JJ)J"⟩
abbrev cX12_enters : ByteArray := prog_14_method_8_code
def yX12_enters : MethodName := ⟨RX12, "enters", "(J)V"⟩
abbrev cX12_gate : ByteArray := prog_14_method_9_code
def yX12_gate : MethodName := ⟨RX12, "gate", "()I"⟩
abbrev cX12_isHearse : ByteArray := prog_14_method_10_code
def yX12_isHearse : MethodName := ⟨RX12, "isHearse", "(I)Z"⟩
abbrev cX12_isMourner : ByteArray := prog_14_method_11_code
def yX12_isMourner : MethodName := ⟨RX12, "isMourner", "(I)Z"⟩
abbrev cX12_isOn : ByteArray := prog_14_method_12_code
def yX12_isOn : MethodName := ⟨RX12, "isOn", "([II)Z"⟩
abbrev cX12_isEnded : ByteArray := prog_14_method_13_code
def yX12_isEnded : MethodName := ⟨RX12, "isEnded", "([II)Z"⟩
abbrev cX12_onCell : ByteArray := prog_14_method_14_code
def yX12_onCell : MethodName := ⟨RX12, "onCell", "([II)I"⟩
abbrev cX12_bitsBy : ByteArray := prog_14_method_15_code
def yX12_bitsBy : MethodName := ⟨RX12, "bitsBy", "([III)I"⟩
abbrev cX12_owners : ByteArray := prog_14_method_16_code
def yX12_owners : MethodName := ⟨RX12, "owners", "(I)I"⟩
abbrev cX12_endedBy : ByteArray := prog_14_method_17_code
def yX12_endedBy : MethodName := ⟨RX12, "endedBy", "([IZ)I"⟩
abbrev cX12_sign : ByteArray := prog_14_method_18_code
def yX12_sign : MethodName := ⟨RX12, "sign", "(I)I"⟩
abbrev cX12_end : ByteArray := prog_14_method_19_code
def yX12_end : MethodName := ⟨RX12, "end", "(I)Z"⟩
abbrev cX12_begins : ByteArray := prog_14_method_20_code
def yX12_begins : MethodName := ⟨RX12, "begins", "(I)I"⟩
abbrev cX12_takes : ByteArray := prog_14_method_21_code
def yX12_takes : MethodName := ⟨RX12, "takes", "(I)Z"⟩
abbrev cX12_isDigit : ByteArray := prog_14_method_22_code
def yX12_isDigit : MethodName := ⟨RX12, "isDigit", "()Z"⟩
abbrev cX12_takesOf : ByteArray := prog_14_method_23_code
def yX12_takesOf : MethodName := ⟨RX12, "takesOf", "(Ljava/lang/String;)I"⟩
abbrev cX12_number : ByteArray := prog_14_method_24_code
def yX12_number : MethodName := ⟨RX12, "number", "(I)I"⟩
abbrev cX12_digitIn : ByteArray := prog_14_method_25_code
def yX12_digitIn : MethodName := ⟨RX12, "digitIn", "(II)I"⟩
abbrev cX12_faultOf : ByteArray := prog_14_method_26_code
def yX12_faultOf : MethodName := ⟨RX12, "faultOf", "(IIZ)I"⟩
abbrev cX12_avenue : ByteArray := prog_14_method_27_code
def yX12_avenue : MethodName := ⟨RX12, "avenue", "()I"⟩
abbrev cX12_readsCell : ByteArray := prog_14_method_28_code
def yX12_readsCell : MethodName := ⟨RX12, "readsCell", "(Z)I"⟩
abbrev cX12_readsHearse : ByteArray := prog_14_method_29_code
def yX12_readsHearse : MethodName := ⟨RX12, "readsHearse", "()Z"⟩
abbrev cX12_readsMourner : ByteArray := prog_14_method_30_code
def yX12_readsMourner : MethodName := ⟨RX12, "readsMourner", "()Z"⟩
abbrev cX12_isNew : ByteArray := prog_14_method_31_code
def yX12_isNew : MethodName := ⟨RX12, "isNew", "()I"⟩
abbrev cX12_hearses : ByteArray := prog_14_method_32_code
def yX12_hearses : MethodName := ⟨RX12, "hearses", "()I"⟩
abbrev cX12_mourners : ByteArray := prog_14_method_33_code
def yX12_mourners : MethodName := ⟨RX12, "mourners", "()I"⟩
abbrev cX12_weather : ByteArray := prog_14_method_34_code
def yX12_weather : MethodName := ⟨RX12, "weather", "()I"⟩
abbrev cX12_weatherOn : ByteArray := prog_14_method_35_code
def yX12_weatherOn : MethodName := ⟨RX12, "weatherOn", "(I)I"⟩
abbrev cX12_codes : ByteArray := prog_14_method_36_code
def yX12_codes : MethodName := ⟨RX12, "codes", "(I)V"⟩
abbrev cX12_readsThing : ByteArray := prog_14_method_37_code
def yX12_readsThing : MethodName := ⟨RX12, "readsThing", "()Z"⟩
abbrev cX12_readsRank : ByteArray := prog_14_method_38_code
def yX12_readsRank : MethodName := ⟨RX12, "readsRank", "(I)Z"⟩
abbrev cX12_readsRule : ByteArray := prog_14_method_39_code
def yX12_readsRule : MethodName := ⟨RX12, "readsRule", "()I"⟩
abbrev cX12_laysCode : ByteArray := prog_14_method_40_code
def yX12_laysCode : MethodName := ⟨RX12, "laysCode", "([II)V"⟩
abbrev cX12_rule : ByteArray := prog_14_method_41_code
def yX12_rule : MethodName := ⟨RX12, "rule", "()I"⟩
abbrev cX12_worked : ByteArray := prog_14_method_42_code
def yX12_worked : MethodName := ⟨RX12, "worked", "(III)I"⟩
abbrev cX12_ruled : ByteArray := prog_14_method_43_code
def yX12_ruled : MethodName := ⟨RX12, "ruled", "()I"⟩
abbrev cX12_freeAhead : ByteArray := prog_14_method_44_code
def yX12_freeAhead : MethodName := ⟨RX12, "freeAhead", "([II)I"⟩
abbrev cX12_paceOf : ByteArray := prog_14_method_45_code
def yX12_paceOf : MethodName := ⟨RX12, "paceOf", "([II)I"⟩
abbrev cX12_nearest : ByteArray := prog_14_method_46_code
def yX12_nearest : MethodName := ⟨RX12, "nearest", "([II)I"⟩
abbrev cX12_hearse : ByteArray := prog_14_method_47_code
def yX12_hearse : MethodName := ⟨RX12, "hearse", "(II)I"⟩
abbrev cX12_mourner : ByteArray := prog_14_method_48_code
def yX12_mourner : MethodName := ⟨RX12, "mourner", "(II)I"⟩
abbrev cX12_sheet : ByteArray := prog_14_method_49_code
def yX12_sheet : MethodName := ⟨RX12, "sheet", "(IIII)I"⟩
abbrev cX12_putsBy : ByteArray := prog_14_method_50_code
def yX12_putsBy : MethodName := ⟨RX12, "putsBy", "()V"⟩
abbrev cX12_adds : ByteArray := prog_14_method_51_code
def yX12_adds : MethodName := ⟨RX12, "adds", "(I)I"⟩
abbrev cX12_counted : ByteArray := prog_14_method_52_code
def yX12_counted : MethodName := ⟨RX12, "counted", "(I)I"⟩
abbrev cX12_undo : ByteArray := prog_14_method_53_code
def yX12_undo : MethodName := ⟨RX12, "undo", "()I"⟩
abbrev cX12_laysLine : ByteArray := prog_14_method_54_code
def yX12_laysLine : MethodName := ⟨RX12, "laysLine", "([I)V"⟩
abbrev cX12_goal : ByteArray := prog_14_method_55_code
def yX12_goal : MethodName := ⟨RX12, "goal", "([III)I"⟩
abbrev cX12_hearseGoes : ByteArray := prog_14_method_56_code
def yX12_hearseGoes : MethodName := ⟨RX12, "hearseGoes", "([II)V"⟩
abbrev cX12_mournerGoes : ByteArray := prog_14_method_57_code
def yX12_mournerGoes : MethodName := ⟨RX12, "mournerGoes", "([II)V"⟩
abbrev cX12_stepGoes : ByteArray := prog_14_method_58_code
def yX12_stepGoes : MethodName := ⟨RX12, "stepGoes", "([I)V"⟩
abbrev cX12_goesOn : ByteArray := prog_14_method_59_code
def yX12_goesOn : MethodName := ⟨RX12, "goesOn", "([II)V"⟩
abbrev cX12_turnsOne : ByteArray := prog_14_method_60_code
def yX12_turnsOne : MethodName := ⟨RX12, "turnsOne", "([II)I"⟩
abbrev cX12_pushesOne : ByteArray := prog_14_method_61_code
def yX12_pushesOne : MethodName := ⟨RX12, "pushesOne", "([III)I"⟩
abbrev cX12_swapsTwo : ByteArray := prog_14_method_62_code
def yX12_swapsTwo : MethodName := ⟨RX12, "swapsTwo", "(II)I"⟩
abbrev cX12_steps : ByteArray := prog_14_method_63_code
def yX12_steps : MethodName := ⟨RX12, "steps", "(I)I"⟩
abbrev cX12_turnsTo : ByteArray := prog_14_method_64_code
def yX12_turnsTo : MethodName := ⟨RX12, "turnsTo", "(I)I"⟩
abbrev cX12_pushes : ByteArray := prog_14_method_65_code
def yX12_pushes : MethodName := ⟨RX12, "pushes", "(II)I"⟩
abbrev cX12_swaps : ByteArray := prog_14_method_66_code
def yX12_swaps : MethodName := ⟨RX12, "swaps", "(II)I"⟩
abbrev cX12_readsAct : ByteArray := prog_14_method_67_code
def yX12_readsAct : MethodName := ⟨RX12, "readsAct", "()Z"⟩
abbrev cX12_does : ByteArray := prog_14_method_68_code
def yX12_does : MethodName := ⟨RX12, "does", "(I)Z"⟩
abbrev cX12_hour : ByteArray := prog_14_method_69_code
def yX12_hour : MethodName := ⟨RX12, "hour", "()I"⟩
abbrev cX12_copies : ByteArray := prog_14_method_70_code
def yX12_copies : MethodName := ⟨RX12, "copies", "()V"⟩
abbrev cX12_line : ByteArray := prog_14_method_71_code
def yX12_line : MethodName := ⟨RX12, "line", "()I"⟩
abbrev cX12_ahead : ByteArray := prog_14_method_72_code
def yX12_ahead : MethodName := ⟨RX12, "ahead", "(I)I"⟩
abbrev cX12_arrives : ByteArray := prog_14_method_73_code
def yX12_arrives : MethodName := ⟨RX12, "arrives", "(I)I"⟩
abbrev cX12_jam : ByteArray := prog_14_method_74_code
def yX12_jam : MethodName := ⟨RX12, "jam", "(I)I"⟩
abbrev cX12_isAhead : ByteArray := prog_14_method_75_code
def yX12_isAhead : MethodName := ⟨RX12, "isAhead", "([III)Z"⟩
abbrev cX12_passes : ByteArray := prog_14_method_76_code
def yX12_passes : MethodName := ⟨RX12, "passes", "(II)I"⟩
abbrev cX12_ends : ByteArray := prog_14_method_77_code
def yX12_ends : MethodName := ⟨RX12, "ends", "(I)I"⟩
abbrev cX12_rightThen : ByteArray := prog_14_method_78_code
def yX12_rightThen : MethodName := ⟨RX12, "rightThen", "()I"⟩
abbrev cX12_right : ByteArray := prog_14_method_79_code
def yX12_right : MethodName := ⟨RX12, "right", "()I"⟩
abbrev cX12_places : ByteArray := prog_14_method_80_code
def yX12_places : MethodName := ⟨RX12, "places", "(II)V"⟩
abbrev cX12_order : ByteArray := prog_14_method_81_code
def yX12_order : MethodName := ⟨RX12, "order", "()I"⟩
abbrev cX12_stands : ByteArray := prog_14_method_82_code
def yX12_stands : MethodName := ⟨RX12, "stands", "(I)I"⟩
abbrev cX12_when : ByteArray := prog_14_method_83_code
def yX12_when : MethodName := ⟨RX12, "when", "(I)I"⟩
abbrev cX12_mends : ByteArray := prog_14_method_84_code
def yX12_mends : MethodName := ⟨RX12, "mends", "(I)I"⟩
abbrev cX12_misleads : ByteArray := prog_14_method_85_code
def yX12_misleads : MethodName := ⟨RX12, "misleads", "()I"⟩
abbrev cX12_crowd : ByteArray := prog_14_method_86_code
def yX12_crowd : MethodName := ⟨RX12, "crowd", "()I"⟩
abbrev cX12_sharesFrom : ByteArray := prog_14_method_87_code
def yX12_sharesFrom : MethodName := ⟨RX12, "sharesFrom", "(IIII)V"⟩
abbrev cX12_shares : ByteArray := prog_14_method_88_code
def yX12_shares : MethodName := ⟨RX12, "shares", "(I)I"⟩
abbrev cX12_strangers : ByteArray := prog_14_method_89_code
def yX12_strangers : MethodName := ⟨RX12, "strangers", "()I"⟩
abbrev cX12_doubts : ByteArray := prog_14_method_90_code
def yX12_doubts : MethodName := ⟨RX12, "doubts", "()I"⟩
abbrev cX12_heard : ByteArray := prog_14_method_91_code
def yX12_heard : MethodName := ⟨RX12, "heard", "(II)I"⟩
abbrev cX12_forget : ByteArray := prog_14_method_92_code
def yX12_forget : MethodName := ⟨RX12, "forget", "()I"⟩
abbrev cX12_isSo : ByteArray := prog_14_method_93_code
def yX12_isSo : MethodName := ⟨RX12, "isSo", "(III)Z"⟩
abbrev cX12_fits : ByteArray := prog_14_method_94_code
def yX12_fits : MethodName := ⟨RX12, "fits", "()I"⟩
abbrev cX12_rains : ByteArray := prog_14_method_95_code
def yX12_rains : MethodName := ⟨RX12, "rains", "(III)I"⟩
abbrev cX12_law : ByteArray := prog_14_method_96_code
def yX12_law : MethodName := ⟨RX12, "law", "()I"⟩
abbrev cX12_gets : ByteArray := prog_14_method_97_code
def yX12_gets : MethodName := ⟨RX12, "gets", "(III)I"⟩
abbrev cX12_isRest : ByteArray := prog_14_method_98_code
def yX12_isRest : MethodName := ⟨RX12, "isRest", "(III)Z"⟩
abbrev cX12_rests : ByteArray := prog_14_method_99_code
def yX12_rests : MethodName := ⟨RX12, "rests", "(I)I"⟩
abbrev cX12_draws : ByteArray := prog_14_method_100_code
def yX12_draws : MethodName := ⟨RX12, "draws", "(I)I"⟩
abbrev cX12_years : ByteArray := prog_14_method_101_code
def yX12_years : MethodName := ⟨RX12, "years", "(II)I"⟩
abbrev cX12_keep : ByteArray := prog_14_method_102_code
def yX12_keep : MethodName := ⟨RX12, "keep", "(I)Z"⟩
abbrev cX12_again : ByteArray := prog_14_method_103_code
def yX12_again : MethodName := ⟨RX12, "again", "(I)Z"⟩
abbrev cX12_count : ByteArray := prog_14_method_104_code
def yX12_count : MethodName := ⟨RX12, "count", "(I)I"⟩
abbrev cX12_row : ByteArray := prog_14_method_105_code
def yX12_row : MethodName := ⟨RX12, "row", "(I)J"⟩
def RJ6 : String := "java/lang/Integer"
abbrev cJ6_bitCount_0f7a4 : ByteArray := prog_21_method_49_code
def yJ6_bitCount_0f7a4 : MethodName := ⟨RJ6, "bitCount", "(I)I"⟩
def RJ9 : String := "java/lang/Math"
def yJ9_abs_0f7a4 : MethodName := ⟨RJ9, "abs", "(I)I"⟩
def yJ9_max_7cf53 : MethodName := ⟨RJ9, "max", "(II)I"⟩
def yJ9_min_7cf53 : MethodName := ⟨RJ9, "min", "(II)I"⟩
def RJ0 : String := "java/lang/String"
def TJ0 : u_T := fun k => match k with
  | 0 => ("java/lang/String", "value", "[B", true)
  | 1 => ("java/lang/String", "coder", "B", true)
  | 2 => ("java/lang/String", "hash", "I", false)
  | _ => ("java/lang/String", "hashIsZero", "Z", false)
def tyJ0 : Nat → FieldType := fun k => match k with
  | 0 => .array .byte
  | 1 => .byte
  | 2 => .int
  | _ => .boolean
theorem nmJ0 : ∀ a, a < 4 → ∀ b, b < 4 → a ≠ b → (TJ0 a).2.1 ≠ (TJ0 b).2.1 := by decide +kernel
theorem tyJ0_ok : ∀ k, k < 4 → parseFieldDescriptor (TJ0 k).2.2.1 = some (tyJ0 k) := by decide +kernel
abbrev cJ0_length_8abf5 : ByteArray := prog_24_method_54_code
def yJ0_length_8abf5 : MethodName := ⟨RJ0, "length", "()I"⟩
abbrev cJ0_charAt_5068e : ByteArray := prog_24_method_56_code
def yJ0_charAt_5068e : MethodName := ⟨RJ0, "charAt", "(I)C"⟩
abbrev cJ0_indexOf_0f7a4 : ByteArray := prog_24_method_79_code
def yJ0_indexOf_0f7a4 : MethodName := ⟨RJ0, "indexOf", "(I)I"⟩
abbrev cJ0_indexOf_7cf53 : ByteArray := prog_24_method_80_code
def yJ0_indexOf_7cf53 : MethodName := ⟨RJ0, "indexOf", "(II)I"⟩
abbrev cJ0_substring_37a41 : ByteArray := prog_24_method_92_code
def yJ0_substring_37a41 : MethodName := ⟨RJ0, "substring", "(II)Ljava/lang/String;"⟩
abbrev cJ0_init_031fb : ByteArray := prog_24_method_151_code
def yJ0_init_031fb : MethodName := ⟨RJ0, "<init>", "([BB)V"⟩
abbrev cJ0_coder_7d493 : ByteArray := prog_24_method_152_code
def yJ0_coder_7d493 : MethodName := ⟨RJ0, "coder", "()B"⟩
abbrev cJ0_isLatin1_aae02 : ByteArray := prog_24_method_154_code
def yJ0_isLatin1_aae02 : MethodName := ⟨RJ0, "isLatin1", "()Z"⟩
abbrev cJ0_checkIndex_df160 : ByteArray := prog_24_method_155_code
def yJ0_checkIndex_df160 : MethodName := ⟨RJ0, "checkIndex", "(II)V"⟩
abbrev cJ0_checkBoundsBeginEnd_23922 : ByteArray := prog_24_method_158_code
def yJ0_checkBoundsBeginEnd_23922 : MethodName := ⟨RJ0, "checkBoundsBeginEnd", "(III)V"⟩
def RJ1 : String := "java/lang/StringLatin1"
abbrev cJ1_charAt_3b067 : ByteArray := prog_25_method_2_code
def yJ1_charAt_3b067 : MethodName := ⟨RJ1, "charAt", "([BI)C"⟩
abbrev cJ1_canEncode_9a6ad : ByteArray := prog_25_method_4_code
def yJ1_canEncode_9a6ad : MethodName := ⟨RJ1, "canEncode", "(I)Z"⟩
abbrev cJ1_indexOf_4cfef : ByteArray := prog_25_method_22_code
def yJ1_indexOf_4cfef : MethodName := ⟨RJ1, "indexOf", "([BIII)I"⟩
abbrev cJ1_indexOfChar_4cfef : ByteArray := prog_25_method_23_code
def yJ1_indexOfChar_4cfef : MethodName := ⟨RJ1, "indexOfChar", "([BIII)I"⟩
abbrev cJ1_newString_b4f7a : ByteArray := prog_25_method_47_code
def yJ1_newString_b4f7a : MethodName := ⟨RJ1, "newString", "([BII)Ljava/lang/String;"⟩
def RJ10 : String := "java/lang/System"
def RJ7 : String := "java/util/Arrays"
abbrev cJ7_checkLength_df160 : ByteArray := prog_31_method_131_code
def yJ7_checkLength_df160 : MethodName := ⟨RJ7, "checkLength", "(II)V"⟩
abbrev cJ7_copyOfRange_39247 : ByteArray := prog_31_method_132_code
def yJ7_copyOfRange_39247 : MethodName := ⟨RJ7, "copyOfRange", "([BII)[B"⟩
abbrev cJ7_copyOfRangeByte_39247 : ByteArray := prog_31_method_133_code
def yJ7_copyOfRangeByte_39247 : MethodName := ⟨RJ7, "copyOfRangeByte", "([BII)[B"⟩
def RJ3 : String := "jdk/internal/util/Preconditions"
abbrev cJ3_checkIndex_8e157 : ByteArray := prog_33_method_11_code
def yJ3_checkIndex_8e157 : MethodName := ⟨RJ3, "checkIndex", "(IILjava/util/function/BiFunction;)I"⟩
abbrev cJ3_checkFromToIndex_8c36e : ByteArray := prog_33_method_12_code
def yJ3_checkFromToIndex_8c36e : MethodName := ⟨RJ3, "checkFromToIndex", "(IIILjava/util/function/BiFunction;)I"⟩
def RL : String := "BehindAnotherHearseLaw"
abbrev cL_hearse : ByteArray := method_3_code
def yL_hearse : MethodName := ⟨RL, "hearse", "(LBehindAnotherHearse;II[J)I"⟩
abbrev cL_mourner : ByteArray := method_4_code
def yL_mourner : MethodName := ⟨RL, "mourner", "(LBehindAnotherHearse;II[J)I"⟩
abbrev cL_row : ByteArray := method_5_code
def yL_row : MethodName := ⟨RL, "row", "(LBehindAnotherHearse;I[J)I"⟩
abbrev cL_law : ByteArray := code
abbrev vwCl : List vw_C := [(RJ0, TJ0, 4), (RX0, TX0, 3), (RX1, TX1, 3), (RX2, TX2, 6), (RX3, TX3, 3), (RX4, TX4, 2), (RX5, TX5, 4), (RX6, TX6, 11), (RX7, TX7, 2), (RX8, TX8, 4), (RX9, TX9, 4), (RX10, TX10, 6), (RX11, TX11, 18), (RX12, TX12, 53)]
end
section
/-! a method's bytes as one number: what an opcode and its operands read -/
def fo (l : List UInt8) : Nat := l.foldr (fun b a => b.toNat + 256 * a) 0
def BY (c : ByteArray) (N L : Nat) : Prop := c.size = L ∧ ∀ (p : Nat) (h : p < c.size), (c[p]'h).toNat = N >>> (8 * p) % 256
theorem fo_at : ∀ (l : List UInt8) (p : Nat) (h : p < l.length), (l[p]'h).toNat = fo l / 256 ^ p % 256
  | [], _, h => absurd h (Nat.not_lt_zero _)
  | b :: t, 0, _ => by
    show b.toNat = (b.toNat + 256 * fo t) / 256 ^ 0 % 256
    have h8 : b.toNat < 256 := UInt8.toNat_lt b
    rw [Nat.pow_zero, Nat.div_one]
    omega
  | b :: t, p + 1, h => by
    show (t[p]'(Nat.lt_of_succ_lt_succ h)).toNat = (b.toNat + 256 * fo t) / 256 ^ (p + 1) % 256
    have h8 : b.toNat < 256 := UInt8.toNat_lt b
    have e : (b.toNat + 256 * fo t) / 256 = fo t := by omega
    rw [fo_at t p, Nat.pow_succ, Nat.mul_comm (256 ^ p) 256, ← Nat.div_div_eq_div_mul, e]
theorem BYm {c : ByteArray} {N L : Nat} (h : (Nat.beq c.size L && Nat.beq (fo c.data.toList) N) = true) : BY c N L := by
  have h := Bool.and_eq_true_iff.mp h
  have h1 := Nat.eq_of_beq_eq_true h.1
  have h2 := Nat.eq_of_beq_eq_true h.2
  refine ⟨h1, fun p hp => ?_⟩
  rw [Nat.shiftRight_eq_div_pow, Nat.pow_mul, ← h2]
  exact fo_at c.data.toList p hp
theorem b_sh (N p : Nat) : N >>> (8 * (p + 1)) = N >>> (8 * p) / 256 := by
  rw [Nat.mul_succ, Nat.shiftRight_add, Nat.shiftRight_eq_div_pow (N >>> (8 * p)) 8]
theorem e_bind {α β : Type} {x : Decoder α} {f : α → Decoder β} {c : ByteArray} {p q : Nat} {a : α} (e : x.runAt c p = .ok (a, q)) : (x >>= f).runAt c p = (f a).runAt c q := by
  have h : (x >>= f).runAt c p = (x.runAt c p >>= fun r => (f r.1).runAt c r.2) := rfl
  rw [h, e]
  rfl
theorem e_u1 {c : ByteArray} {N L p : Nat} (B : BY c N L) (hl : p < L) : (Reader.u1 : Decoder Nat).runAt c p = .ok (N >>> (8 * p) % 256, p + 1) := by
  have hp : p < c.size := by rw [B.1]; exact hl
  rw [← B.2 p hp]
  unfold Reader.u1
  refine (e_bind (a := c) (q := p) rfl).trans ?_
  refine (e_bind (a := p) (q := p) rfl).trans ?_
  rw [dif_pos hp]
  rfl
theorem e_u2 {c : ByteArray} {N L p : Nat} (B : BY c N L) (hl : p + 1 < L) : (Reader.u2 : Decoder Nat).runAt c p = .ok (N >>> (8 * p) % 256 * 256 + N >>> (8 * (p + 1)) % 256, p + 2) :=
  (e_bind (f := fun hi => (do let lo ← Reader.u1; pure (hi * 256 + lo) : Decoder Nat)) (e_u1 B (Nat.lt_of_succ_lt hl))).trans ((e_bind (e_u1 B hl)).trans rfl)
theorem e_map {α β : Type} {x : Decoder α} {g : α → β} {c : ByteArray} {p q : Nat} {a : α} (e : x.runAt c p = .ok (a, q)) : (g <$> x).runAt c p = .ok (g a, q) := by
  have h : (g <$> x).runAt c p = (x.runAt c p >>= fun r => pure (g r.1, r.2)) := rfl
  rw [h, e]
  rfl
theorem d_of {c : ByteArray} {p k : Nat} {i : Instr} (e : (Decoder.instr p).runAt c p = .ok (i, p + k)) : decode c p = .ok (i, k) := by
  have h : decode c p = ((Decoder.instr p).runAt c p >>= fun r => pure (r.1, r.2 - p)) := rfl
  rw [h, e]
  show Except.ok (i, p + k - p) = _
  rw [Nat.add_sub_cancel_left]
theorem d_u1 {c : ByteArray} {N L p b : Nat} (B : BY c N L) (hl : p < L) (h : N >>> (8 * p) % 256 = b) : (Reader.u1 : Decoder Nat).runAt c p = .ok (b, p + 1) := by
  rw [e_u1 B hl, h]
theorem bl {a b : Nat} (h : Nat.ble a b = true) : a ≤ b := Nat.le_of_ble_eq_true h
theorem b_lt {p L : Nat} (h : p + 3 ≤ L) : p < L := Nat.lt_of_lt_of_le (by omega) h
theorem b_sh2 (N p : Nat) : N >>> (8 * (p + 1 + 1)) = N >>> (8 * p) / 65536 := by
  rw [b_sh, b_sh, Nat.div_div_eq_div_mul]
theorem d_s1 {c : ByteArray} {N L p : Nat} (B : BY c N L) (hl : p + 2 ≤ L) {x : Int} (h : Reader.signed 8 (N >>> (8 * p) / 256 % 256) = x) : (Reader.s1 : Decoder Int).runAt c (p + 1) = .ok (x, p + 2) := by
  rw [← h, ← b_sh]
  exact e_map (g := Reader.signed 8) (e_u1 B hl)
theorem d_u2 {c : ByteArray} {N L p : Nat} (B : BY c N L) (hl : p + 3 ≤ L) {x : Nat} (h : N >>> (8 * p) / 256 % 256 * 256 + N >>> (8 * p) / 65536 % 256 = x) : (Reader.u2 : Decoder Nat).runAt c (p + 1) = .ok (x, p + 3) := by
  rw [← h, ← b_sh, ← b_sh2]
  exact e_u2 B hl
theorem d_s2 {c : ByteArray} {N L p : Nat} (B : BY c N L) (hl : p + 3 ≤ L) {x : Int} (h : Reader.signed 16 (N >>> (8 * p) / 256 % 256 * 256 + N >>> (8 * p) / 65536 % 256) = x) : (Reader.s2 : Decoder Int).runAt c (p + 1) = .ok (x, p + 3) := by
  rw [← h]
  exact e_map (g := Reader.signed 16) (d_u2 B hl rfl)
theorem o_2 {c : ByteArray} {N L p : Nat} (B : BY c N L) (hl : Nat.ble (p + 1) L = true) (h : N >>> (8 * p) % 256 = 2) : decode c p = .ok (.iconst (-1), 1) := d_of ((e_bind (d_u1 B (bl hl) h)).trans rfl)
theorem o_3 {c : ByteArray} {N L p : Nat} (B : BY c N L) (hl : Nat.ble (p + 1) L = true) (h : N >>> (8 * p) % 256 = 3) : decode c p = .ok (.iconst 0, 1) := d_of ((e_bind (d_u1 B (bl hl) h)).trans rfl)
theorem o_4 {c : ByteArray} {N L p : Nat} (B : BY c N L) (hl : Nat.ble (p + 1) L = true) (h : N >>> (8 * p) % 256 = 4) : decode c p = .ok (.iconst 1, 1) := d_of ((e_bind (d_u1 B (bl hl) h)).trans rfl)
theorem o_5 {c : ByteArray} {N L p : Nat} (B : BY c N L) (hl : Nat.ble (p + 1) L = true) (h : N >>> (8 * p) % 256 = 5) : decode c p = .ok (.iconst 2, 1) := d_of ((e_bind (d_u1 B (bl hl) h)).trans rfl)
theorem o_6 {c : ByteArray} {N L p : Nat} (B : BY c N L) (hl : Nat.ble (p + 1) L = true) (h : N >>> (8 * p) % 256 = 6) : decode c p = .ok (.iconst 3, 1) := d_of ((e_bind (d_u1 B (bl hl) h)).trans rfl)
theorem o_7 {c : ByteArray} {N L p : Nat} (B : BY c N L) (hl : Nat.ble (p + 1) L = true) (h : N >>> (8 * p) % 256 = 7) : decode c p = .ok (.iconst 4, 1) := d_of ((e_bind (d_u1 B (bl hl) h)).trans rfl)
theorem o_8 {c : ByteArray} {N L p : Nat} (B : BY c N L) (hl : Nat.ble (p + 1) L = true) (h : N >>> (8 * p) % 256 = 8) : decode c p = .ok (.iconst 5, 1) := d_of ((e_bind (d_u1 B (bl hl) h)).trans rfl)
theorem o_9 {c : ByteArray} {N L p : Nat} (B : BY c N L) (hl : Nat.ble (p + 1) L = true) (h : N >>> (8 * p) % 256 = 9) : decode c p = .ok (.lconst 0, 1) := d_of ((e_bind (d_u1 B (bl hl) h)).trans rfl)
theorem o_10 {c : ByteArray} {N L p : Nat} (B : BY c N L) (hl : Nat.ble (p + 1) L = true) (h : N >>> (8 * p) % 256 = 10) : decode c p = .ok (.lconst 1, 1) := d_of ((e_bind (d_u1 B (bl hl) h)).trans rfl)
theorem o_16 {c : ByteArray} {N L p : Nat} (B : BY c N L) (hl : Nat.ble (p + 2) L = true) (h : N >>> (8 * p) % 256 = 16) {x : Int} (h1 : Reader.signed 8 (N >>> (8 * p) / 256 % 256) = x) : decode c p = .ok (.bipush x, 2) := d_of ((e_bind (d_u1 B (Nat.lt_of_succ_lt (bl hl)) h)).trans ((e_bind (d_s1 B (bl hl) h1)).trans rfl))
theorem o_17 {c : ByteArray} {N L p : Nat} (B : BY c N L) (hl : Nat.ble (p + 3) L = true) (h : N >>> (8 * p) % 256 = 17) {x : Int} (h1 : Reader.signed 16 (N >>> (8 * p) / 256 % 256 * 256 + N >>> (8 * p) / 65536 % 256) = x) : decode c p = .ok (.sipush x, 3) := d_of ((e_bind (d_u1 B (b_lt (bl hl)) h)).trans ((e_bind (d_s2 B (bl hl) h1)).trans rfl))
theorem o_18 {c : ByteArray} {N L p : Nat} (B : BY c N L) (hl : Nat.ble (p + 2) L = true) (h : N >>> (8 * p) % 256 = 18) {x : Nat} (h1 : N >>> (8 * p) / 256 % 256 = x) : decode c p = .ok (.ldc x, 2) := d_of ((e_bind (d_u1 B (Nat.lt_of_succ_lt (bl hl)) h)).trans ((e_bind (d_u1 B (p := p + 1) (bl hl) ((congrArg (· % 256) (b_sh N p)).trans h1))).trans rfl))
theorem o_19 {c : ByteArray} {N L p : Nat} (B : BY c N L) (hl : Nat.ble (p + 3) L = true) (h : N >>> (8 * p) % 256 = 19) {x : Nat} (h1 : N >>> (8 * p) / 256 % 256 * 256 + N >>> (8 * p) / 65536 % 256 = x) : decode c p = .ok (.ldc_w x, 3) := d_of ((e_bind (d_u1 B (b_lt (bl hl)) h)).trans ((e_bind (d_u2 B (bl hl) h1)).trans rfl))
theorem o_20 {c : ByteArray} {N L p : Nat} (B : BY c N L) (hl : Nat.ble (p + 3) L = true) (h : N >>> (8 * p) % 256 = 20) {x : Nat} (h1 : N >>> (8 * p) / 256 % 256 * 256 + N >>> (8 * p) / 65536 % 256 = x) : decode c p = .ok (.ldc2_w x, 3) := d_of ((e_bind (d_u1 B (b_lt (bl hl)) h)).trans ((e_bind (d_u2 B (bl hl) h1)).trans rfl))
theorem o_21 {c : ByteArray} {N L p : Nat} (B : BY c N L) (hl : Nat.ble (p + 2) L = true) (h : N >>> (8 * p) % 256 = 21) {x : Nat} (h1 : N >>> (8 * p) / 256 % 256 = x) : decode c p = .ok (.iload x, 2) := d_of ((e_bind (d_u1 B (Nat.lt_of_succ_lt (bl hl)) h)).trans ((e_bind (d_u1 B (p := p + 1) (bl hl) ((congrArg (· % 256) (b_sh N p)).trans h1))).trans rfl))
theorem o_22 {c : ByteArray} {N L p : Nat} (B : BY c N L) (hl : Nat.ble (p + 2) L = true) (h : N >>> (8 * p) % 256 = 22) {x : Nat} (h1 : N >>> (8 * p) / 256 % 256 = x) : decode c p = .ok (.lload x, 2) := d_of ((e_bind (d_u1 B (Nat.lt_of_succ_lt (bl hl)) h)).trans ((e_bind (d_u1 B (p := p + 1) (bl hl) ((congrArg (· % 256) (b_sh N p)).trans h1))).trans rfl))
theorem o_25 {c : ByteArray} {N L p : Nat} (B : BY c N L) (hl : Nat.ble (p + 2) L = true) (h : N >>> (8 * p) % 256 = 25) {x : Nat} (h1 : N >>> (8 * p) / 256 % 256 = x) : decode c p = .ok (.aload x, 2) := d_of ((e_bind (d_u1 B (Nat.lt_of_succ_lt (bl hl)) h)).trans ((e_bind (d_u1 B (p := p + 1) (bl hl) ((congrArg (· % 256) (b_sh N p)).trans h1))).trans rfl))
theorem o_26 {c : ByteArray} {N L p : Nat} (B : BY c N L) (hl : Nat.ble (p + 1) L = true) (h : N >>> (8 * p) % 256 = 26) : decode c p = .ok (.iload_n 0, 1) := d_of ((e_bind (d_u1 B (bl hl) h)).trans rfl)
theorem o_27 {c : ByteArray} {N L p : Nat} (B : BY c N L) (hl : Nat.ble (p + 1) L = true) (h : N >>> (8 * p) % 256 = 27) : decode c p = .ok (.iload_n 1, 1) := d_of ((e_bind (d_u1 B (bl hl) h)).trans rfl)
theorem o_28 {c : ByteArray} {N L p : Nat} (B : BY c N L) (hl : Nat.ble (p + 1) L = true) (h : N >>> (8 * p) % 256 = 28) : decode c p = .ok (.iload_n 2, 1) := d_of ((e_bind (d_u1 B (bl hl) h)).trans rfl)
theorem o_29 {c : ByteArray} {N L p : Nat} (B : BY c N L) (hl : Nat.ble (p + 1) L = true) (h : N >>> (8 * p) % 256 = 29) : decode c p = .ok (.iload_n 3, 1) := d_of ((e_bind (d_u1 B (bl hl) h)).trans rfl)
theorem o_30 {c : ByteArray} {N L p : Nat} (B : BY c N L) (hl : Nat.ble (p + 1) L = true) (h : N >>> (8 * p) % 256 = 30) : decode c p = .ok (.lload_n 0, 1) := d_of ((e_bind (d_u1 B (bl hl) h)).trans rfl)
theorem o_31 {c : ByteArray} {N L p : Nat} (B : BY c N L) (hl : Nat.ble (p + 1) L = true) (h : N >>> (8 * p) % 256 = 31) : decode c p = .ok (.lload_n 1, 1) := d_of ((e_bind (d_u1 B (bl hl) h)).trans rfl)
theorem o_32 {c : ByteArray} {N L p : Nat} (B : BY c N L) (hl : Nat.ble (p + 1) L = true) (h : N >>> (8 * p) % 256 = 32) : decode c p = .ok (.lload_n 2, 1) := d_of ((e_bind (d_u1 B (bl hl) h)).trans rfl)
theorem o_33 {c : ByteArray} {N L p : Nat} (B : BY c N L) (hl : Nat.ble (p + 1) L = true) (h : N >>> (8 * p) % 256 = 33) : decode c p = .ok (.lload_n 3, 1) := d_of ((e_bind (d_u1 B (bl hl) h)).trans rfl)
theorem o_42 {c : ByteArray} {N L p : Nat} (B : BY c N L) (hl : Nat.ble (p + 1) L = true) (h : N >>> (8 * p) % 256 = 42) : decode c p = .ok (.aload_n 0, 1) := d_of ((e_bind (d_u1 B (bl hl) h)).trans rfl)
theorem o_43 {c : ByteArray} {N L p : Nat} (B : BY c N L) (hl : Nat.ble (p + 1) L = true) (h : N >>> (8 * p) % 256 = 43) : decode c p = .ok (.aload_n 1, 1) := d_of ((e_bind (d_u1 B (bl hl) h)).trans rfl)
theorem o_44 {c : ByteArray} {N L p : Nat} (B : BY c N L) (hl : Nat.ble (p + 1) L = true) (h : N >>> (8 * p) % 256 = 44) : decode c p = .ok (.aload_n 2, 1) := d_of ((e_bind (d_u1 B (bl hl) h)).trans rfl)
theorem o_45 {c : ByteArray} {N L p : Nat} (B : BY c N L) (hl : Nat.ble (p + 1) L = true) (h : N >>> (8 * p) % 256 = 45) : decode c p = .ok (.aload_n 3, 1) := d_of ((e_bind (d_u1 B (bl hl) h)).trans rfl)
theorem o_46 {c : ByteArray} {N L p : Nat} (B : BY c N L) (hl : Nat.ble (p + 1) L = true) (h : N >>> (8 * p) % 256 = 46) : decode c p = .ok (.iaload, 1) := d_of ((e_bind (d_u1 B (bl hl) h)).trans rfl)
theorem o_47 {c : ByteArray} {N L p : Nat} (B : BY c N L) (hl : Nat.ble (p + 1) L = true) (h : N >>> (8 * p) % 256 = 47) : decode c p = .ok (.laload, 1) := d_of ((e_bind (d_u1 B (bl hl) h)).trans rfl)
theorem o_50 {c : ByteArray} {N L p : Nat} (B : BY c N L) (hl : Nat.ble (p + 1) L = true) (h : N >>> (8 * p) % 256 = 50) : decode c p = .ok (.aaload, 1) := d_of ((e_bind (d_u1 B (bl hl) h)).trans rfl)
theorem o_51 {c : ByteArray} {N L p : Nat} (B : BY c N L) (hl : Nat.ble (p + 1) L = true) (h : N >>> (8 * p) % 256 = 51) : decode c p = .ok (.baload, 1) := d_of ((e_bind (d_u1 B (bl hl) h)).trans rfl)
theorem o_54 {c : ByteArray} {N L p : Nat} (B : BY c N L) (hl : Nat.ble (p + 2) L = true) (h : N >>> (8 * p) % 256 = 54) {x : Nat} (h1 : N >>> (8 * p) / 256 % 256 = x) : decode c p = .ok (.istore x, 2) := d_of ((e_bind (d_u1 B (Nat.lt_of_succ_lt (bl hl)) h)).trans ((e_bind (d_u1 B (p := p + 1) (bl hl) ((congrArg (· % 256) (b_sh N p)).trans h1))).trans rfl))
theorem o_55 {c : ByteArray} {N L p : Nat} (B : BY c N L) (hl : Nat.ble (p + 2) L = true) (h : N >>> (8 * p) % 256 = 55) {x : Nat} (h1 : N >>> (8 * p) / 256 % 256 = x) : decode c p = .ok (.lstore x, 2) := d_of ((e_bind (d_u1 B (Nat.lt_of_succ_lt (bl hl)) h)).trans ((e_bind (d_u1 B (p := p + 1) (bl hl) ((congrArg (· % 256) (b_sh N p)).trans h1))).trans rfl))
theorem o_58 {c : ByteArray} {N L p : Nat} (B : BY c N L) (hl : Nat.ble (p + 2) L = true) (h : N >>> (8 * p) % 256 = 58) {x : Nat} (h1 : N >>> (8 * p) / 256 % 256 = x) : decode c p = .ok (.astore x, 2) := d_of ((e_bind (d_u1 B (Nat.lt_of_succ_lt (bl hl)) h)).trans ((e_bind (d_u1 B (p := p + 1) (bl hl) ((congrArg (· % 256) (b_sh N p)).trans h1))).trans rfl))
theorem o_59 {c : ByteArray} {N L p : Nat} (B : BY c N L) (hl : Nat.ble (p + 1) L = true) (h : N >>> (8 * p) % 256 = 59) : decode c p = .ok (.istore_n 0, 1) := d_of ((e_bind (d_u1 B (bl hl) h)).trans rfl)
theorem o_60 {c : ByteArray} {N L p : Nat} (B : BY c N L) (hl : Nat.ble (p + 1) L = true) (h : N >>> (8 * p) % 256 = 60) : decode c p = .ok (.istore_n 1, 1) := d_of ((e_bind (d_u1 B (bl hl) h)).trans rfl)
theorem o_61 {c : ByteArray} {N L p : Nat} (B : BY c N L) (hl : Nat.ble (p + 1) L = true) (h : N >>> (8 * p) % 256 = 61) : decode c p = .ok (.istore_n 2, 1) := d_of ((e_bind (d_u1 B (bl hl) h)).trans rfl)
theorem o_62 {c : ByteArray} {N L p : Nat} (B : BY c N L) (hl : Nat.ble (p + 1) L = true) (h : N >>> (8 * p) % 256 = 62) : decode c p = .ok (.istore_n 3, 1) := d_of ((e_bind (d_u1 B (bl hl) h)).trans rfl)
theorem o_66 {c : ByteArray} {N L p : Nat} (B : BY c N L) (hl : Nat.ble (p + 1) L = true) (h : N >>> (8 * p) % 256 = 66) : decode c p = .ok (.lstore_n 3, 1) := d_of ((e_bind (d_u1 B (bl hl) h)).trans rfl)
theorem o_76 {c : ByteArray} {N L p : Nat} (B : BY c N L) (hl : Nat.ble (p + 1) L = true) (h : N >>> (8 * p) % 256 = 76) : decode c p = .ok (.astore_n 1, 1) := d_of ((e_bind (d_u1 B (bl hl) h)).trans rfl)
theorem o_77 {c : ByteArray} {N L p : Nat} (B : BY c N L) (hl : Nat.ble (p + 1) L = true) (h : N >>> (8 * p) % 256 = 77) : decode c p = .ok (.astore_n 2, 1) := d_of ((e_bind (d_u1 B (bl hl) h)).trans rfl)
theorem o_78 {c : ByteArray} {N L p : Nat} (B : BY c N L) (hl : Nat.ble (p + 1) L = true) (h : N >>> (8 * p) % 256 = 78) : decode c p = .ok (.astore_n 3, 1) := d_of ((e_bind (d_u1 B (bl hl) h)).trans rfl)
theorem o_79 {c : ByteArray} {N L p : Nat} (B : BY c N L) (hl : Nat.ble (p + 1) L = true) (h : N >>> (8 * p) % 256 = 79) : decode c p = .ok (.iastore, 1) := d_of ((e_bind (d_u1 B (bl hl) h)).trans rfl)
theorem o_80 {c : ByteArray} {N L p : Nat} (B : BY c N L) (hl : Nat.ble (p + 1) L = true) (h : N >>> (8 * p) % 256 = 80) : decode c p = .ok (.lastore, 1) := d_of ((e_bind (d_u1 B (bl hl) h)).trans rfl)
theorem o_83 {c : ByteArray} {N L p : Nat} (B : BY c N L) (hl : Nat.ble (p + 1) L = true) (h : N >>> (8 * p) % 256 = 83) : decode c p = .ok (.aastore, 1) := d_of ((e_bind (d_u1 B (bl hl) h)).trans rfl)
theorem o_84 {c : ByteArray} {N L p : Nat} (B : BY c N L) (hl : Nat.ble (p + 1) L = true) (h : N >>> (8 * p) % 256 = 84) : decode c p = .ok (.bastore, 1) := d_of ((e_bind (d_u1 B (bl hl) h)).trans rfl)
theorem o_87 {c : ByteArray} {N L p : Nat} (B : BY c N L) (hl : Nat.ble (p + 1) L = true) (h : N >>> (8 * p) % 256 = 87) : decode c p = .ok (.pop, 1) := d_of ((e_bind (d_u1 B (bl hl) h)).trans rfl)
theorem o_89 {c : ByteArray} {N L p : Nat} (B : BY c N L) (hl : Nat.ble (p + 1) L = true) (h : N >>> (8 * p) % 256 = 89) : decode c p = .ok (.dup, 1) := d_of ((e_bind (d_u1 B (bl hl) h)).trans rfl)
theorem o_92 {c : ByteArray} {N L p : Nat} (B : BY c N L) (hl : Nat.ble (p + 1) L = true) (h : N >>> (8 * p) % 256 = 92) : decode c p = .ok (.dup2, 1) := d_of ((e_bind (d_u1 B (bl hl) h)).trans rfl)
theorem o_96 {c : ByteArray} {N L p : Nat} (B : BY c N L) (hl : Nat.ble (p + 1) L = true) (h : N >>> (8 * p) % 256 = 96) : decode c p = .ok (.iadd, 1) := d_of ((e_bind (d_u1 B (bl hl) h)).trans rfl)
theorem o_97 {c : ByteArray} {N L p : Nat} (B : BY c N L) (hl : Nat.ble (p + 1) L = true) (h : N >>> (8 * p) % 256 = 97) : decode c p = .ok (.ladd, 1) := d_of ((e_bind (d_u1 B (bl hl) h)).trans rfl)
theorem o_100 {c : ByteArray} {N L p : Nat} (B : BY c N L) (hl : Nat.ble (p + 1) L = true) (h : N >>> (8 * p) % 256 = 100) : decode c p = .ok (.isub, 1) := d_of ((e_bind (d_u1 B (bl hl) h)).trans rfl)
theorem o_104 {c : ByteArray} {N L p : Nat} (B : BY c N L) (hl : Nat.ble (p + 1) L = true) (h : N >>> (8 * p) % 256 = 104) : decode c p = .ok (.imul, 1) := d_of ((e_bind (d_u1 B (bl hl) h)).trans rfl)
theorem o_105 {c : ByteArray} {N L p : Nat} (B : BY c N L) (hl : Nat.ble (p + 1) L = true) (h : N >>> (8 * p) % 256 = 105) : decode c p = .ok (.lmul, 1) := d_of ((e_bind (d_u1 B (bl hl) h)).trans rfl)
theorem o_108 {c : ByteArray} {N L p : Nat} (B : BY c N L) (hl : Nat.ble (p + 1) L = true) (h : N >>> (8 * p) % 256 = 108) : decode c p = .ok (.idiv, 1) := d_of ((e_bind (d_u1 B (bl hl) h)).trans rfl)
theorem o_109 {c : ByteArray} {N L p : Nat} (B : BY c N L) (hl : Nat.ble (p + 1) L = true) (h : N >>> (8 * p) % 256 = 109) : decode c p = .ok (.ldiv, 1) := d_of ((e_bind (d_u1 B (bl hl) h)).trans rfl)
theorem o_112 {c : ByteArray} {N L p : Nat} (B : BY c N L) (hl : Nat.ble (p + 1) L = true) (h : N >>> (8 * p) % 256 = 112) : decode c p = .ok (.irem, 1) := d_of ((e_bind (d_u1 B (bl hl) h)).trans rfl)
theorem o_113 {c : ByteArray} {N L p : Nat} (B : BY c N L) (hl : Nat.ble (p + 1) L = true) (h : N >>> (8 * p) % 256 = 113) : decode c p = .ok (.lrem, 1) := d_of ((e_bind (d_u1 B (bl hl) h)).trans rfl)
theorem o_116 {c : ByteArray} {N L p : Nat} (B : BY c N L) (hl : Nat.ble (p + 1) L = true) (h : N >>> (8 * p) % 256 = 116) : decode c p = .ok (.ineg, 1) := d_of ((e_bind (d_u1 B (bl hl) h)).trans rfl)
theorem o_120 {c : ByteArray} {N L p : Nat} (B : BY c N L) (hl : Nat.ble (p + 1) L = true) (h : N >>> (8 * p) % 256 = 120) : decode c p = .ok (.ishl, 1) := d_of ((e_bind (d_u1 B (bl hl) h)).trans rfl)
theorem o_122 {c : ByteArray} {N L p : Nat} (B : BY c N L) (hl : Nat.ble (p + 1) L = true) (h : N >>> (8 * p) % 256 = 122) : decode c p = .ok (.ishr, 1) := d_of ((e_bind (d_u1 B (bl hl) h)).trans rfl)
theorem o_124 {c : ByteArray} {N L p : Nat} (B : BY c N L) (hl : Nat.ble (p + 1) L = true) (h : N >>> (8 * p) % 256 = 124) : decode c p = .ok (.iushr, 1) := d_of ((e_bind (d_u1 B (bl hl) h)).trans rfl)
theorem o_126 {c : ByteArray} {N L p : Nat} (B : BY c N L) (hl : Nat.ble (p + 1) L = true) (h : N >>> (8 * p) % 256 = 126) : decode c p = .ok (.iand, 1) := d_of ((e_bind (d_u1 B (bl hl) h)).trans rfl)
theorem o_128 {c : ByteArray} {N L p : Nat} (B : BY c N L) (hl : Nat.ble (p + 1) L = true) (h : N >>> (8 * p) % 256 = 128) : decode c p = .ok (.ior, 1) := d_of ((e_bind (d_u1 B (bl hl) h)).trans rfl)
theorem o_130 {c : ByteArray} {N L p : Nat} (B : BY c N L) (hl : Nat.ble (p + 1) L = true) (h : N >>> (8 * p) % 256 = 130) : decode c p = .ok (.ixor, 1) := d_of ((e_bind (d_u1 B (bl hl) h)).trans rfl)
theorem o_132 {c : ByteArray} {N L p : Nat} (B : BY c N L) (hl : Nat.ble (p + 3) L = true) (h : N >>> (8 * p) % 256 = 132) {x : Nat} {y : Int} (h1 : N >>> (8 * p) / 256 % 256 = x) (h2 : Reader.signed 8 (N >>> (8 * p) / 65536 % 256) = y) : decode c p = .ok (.iinc x y, 3) := d_of ((e_bind (d_u1 B (b_lt (bl hl)) h)).trans ((e_bind (d_u1 B (p := p + 1) (Nat.lt_of_succ_lt (bl hl)) ((congrArg (· % 256) (b_sh N p)).trans h1))).trans ((e_bind (d_s1 B (p := p + 1) (bl hl) (by rw [b_sh, Nat.div_div_eq_div_mul]; exact h2))).trans rfl)))
theorem o_133 {c : ByteArray} {N L p : Nat} (B : BY c N L) (hl : Nat.ble (p + 1) L = true) (h : N >>> (8 * p) % 256 = 133) : decode c p = .ok (.i2l, 1) := d_of ((e_bind (d_u1 B (bl hl) h)).trans rfl)
theorem o_145 {c : ByteArray} {N L p : Nat} (B : BY c N L) (hl : Nat.ble (p + 1) L = true) (h : N >>> (8 * p) % 256 = 145) : decode c p = .ok (.i2b, 1) := d_of ((e_bind (d_u1 B (bl hl) h)).trans rfl)
theorem o_146 {c : ByteArray} {N L p : Nat} (B : BY c N L) (hl : Nat.ble (p + 1) L = true) (h : N >>> (8 * p) % 256 = 146) : decode c p = .ok (.i2c, 1) := d_of ((e_bind (d_u1 B (bl hl) h)).trans rfl)
theorem o_147 {c : ByteArray} {N L p : Nat} (B : BY c N L) (hl : Nat.ble (p + 1) L = true) (h : N >>> (8 * p) % 256 = 147) : decode c p = .ok (.i2s, 1) := d_of ((e_bind (d_u1 B (bl hl) h)).trans rfl)
theorem o_148 {c : ByteArray} {N L p : Nat} (B : BY c N L) (hl : Nat.ble (p + 1) L = true) (h : N >>> (8 * p) % 256 = 148) : decode c p = .ok (.lcmp, 1) := d_of ((e_bind (d_u1 B (bl hl) h)).trans rfl)
theorem o_153 {c : ByteArray} {N L p : Nat} (B : BY c N L) (hl : Nat.ble (p + 3) L = true) (h : N >>> (8 * p) % 256 = 153) {x : Int} (h1 : Reader.signed 16 (N >>> (8 * p) / 256 % 256 * 256 + N >>> (8 * p) / 65536 % 256) = x) : decode c p = .ok (.ifCond .eq x, 3) := d_of ((e_bind (d_u1 B (b_lt (bl hl)) h)).trans ((e_bind (d_s2 B (bl hl) h1)).trans rfl))
theorem o_154 {c : ByteArray} {N L p : Nat} (B : BY c N L) (hl : Nat.ble (p + 3) L = true) (h : N >>> (8 * p) % 256 = 154) {x : Int} (h1 : Reader.signed 16 (N >>> (8 * p) / 256 % 256 * 256 + N >>> (8 * p) / 65536 % 256) = x) : decode c p = .ok (.ifCond .ne x, 3) := d_of ((e_bind (d_u1 B (b_lt (bl hl)) h)).trans ((e_bind (d_s2 B (bl hl) h1)).trans rfl))
theorem o_155 {c : ByteArray} {N L p : Nat} (B : BY c N L) (hl : Nat.ble (p + 3) L = true) (h : N >>> (8 * p) % 256 = 155) {x : Int} (h1 : Reader.signed 16 (N >>> (8 * p) / 256 % 256 * 256 + N >>> (8 * p) / 65536 % 256) = x) : decode c p = .ok (.ifCond .lt x, 3) := d_of ((e_bind (d_u1 B (b_lt (bl hl)) h)).trans ((e_bind (d_s2 B (bl hl) h1)).trans rfl))
theorem o_156 {c : ByteArray} {N L p : Nat} (B : BY c N L) (hl : Nat.ble (p + 3) L = true) (h : N >>> (8 * p) % 256 = 156) {x : Int} (h1 : Reader.signed 16 (N >>> (8 * p) / 256 % 256 * 256 + N >>> (8 * p) / 65536 % 256) = x) : decode c p = .ok (.ifCond .ge x, 3) := d_of ((e_bind (d_u1 B (b_lt (bl hl)) h)).trans ((e_bind (d_s2 B (bl hl) h1)).trans rfl))
theorem o_157 {c : ByteArray} {N L p : Nat} (B : BY c N L) (hl : Nat.ble (p + 3) L = true) (h : N >>> (8 * p) % 256 = 157) {x : Int} (h1 : Reader.signed 16 (N >>> (8 * p) / 256 % 256 * 256 + N >>> (8 * p) / 65536 % 256) = x) : decode c p = .ok (.ifCond .gt x, 3) := d_of ((e_bind (d_u1 B (b_lt (bl hl)) h)).trans ((e_bind (d_s2 B (bl hl) h1)).trans rfl))
theorem o_158 {c : ByteArray} {N L p : Nat} (B : BY c N L) (hl : Nat.ble (p + 3) L = true) (h : N >>> (8 * p) % 256 = 158) {x : Int} (h1 : Reader.signed 16 (N >>> (8 * p) / 256 % 256 * 256 + N >>> (8 * p) / 65536 % 256) = x) : decode c p = .ok (.ifCond .le x, 3) := d_of ((e_bind (d_u1 B (b_lt (bl hl)) h)).trans ((e_bind (d_s2 B (bl hl) h1)).trans rfl))
theorem o_159 {c : ByteArray} {N L p : Nat} (B : BY c N L) (hl : Nat.ble (p + 3) L = true) (h : N >>> (8 * p) % 256 = 159) {x : Int} (h1 : Reader.signed 16 (N >>> (8 * p) / 256 % 256 * 256 + N >>> (8 * p) / 65536 % 256) = x) : decode c p = .ok (.if_icmp .eq x, 3) := d_of ((e_bind (d_u1 B (b_lt (bl hl)) h)).trans ((e_bind (d_s2 B (bl hl) h1)).trans rfl))
theorem o_160 {c : ByteArray} {N L p : Nat} (B : BY c N L) (hl : Nat.ble (p + 3) L = true) (h : N >>> (8 * p) % 256 = 160) {x : Int} (h1 : Reader.signed 16 (N >>> (8 * p) / 256 % 256 * 256 + N >>> (8 * p) / 65536 % 256) = x) : decode c p = .ok (.if_icmp .ne x, 3) := d_of ((e_bind (d_u1 B (b_lt (bl hl)) h)).trans ((e_bind (d_s2 B (bl hl) h1)).trans rfl))
theorem o_161 {c : ByteArray} {N L p : Nat} (B : BY c N L) (hl : Nat.ble (p + 3) L = true) (h : N >>> (8 * p) % 256 = 161) {x : Int} (h1 : Reader.signed 16 (N >>> (8 * p) / 256 % 256 * 256 + N >>> (8 * p) / 65536 % 256) = x) : decode c p = .ok (.if_icmp .lt x, 3) := d_of ((e_bind (d_u1 B (b_lt (bl hl)) h)).trans ((e_bind (d_s2 B (bl hl) h1)).trans rfl))
theorem o_162 {c : ByteArray} {N L p : Nat} (B : BY c N L) (hl : Nat.ble (p + 3) L = true) (h : N >>> (8 * p) % 256 = 162) {x : Int} (h1 : Reader.signed 16 (N >>> (8 * p) / 256 % 256 * 256 + N >>> (8 * p) / 65536 % 256) = x) : decode c p = .ok (.if_icmp .ge x, 3) := d_of ((e_bind (d_u1 B (b_lt (bl hl)) h)).trans ((e_bind (d_s2 B (bl hl) h1)).trans rfl))
theorem o_163 {c : ByteArray} {N L p : Nat} (B : BY c N L) (hl : Nat.ble (p + 3) L = true) (h : N >>> (8 * p) % 256 = 163) {x : Int} (h1 : Reader.signed 16 (N >>> (8 * p) / 256 % 256 * 256 + N >>> (8 * p) / 65536 % 256) = x) : decode c p = .ok (.if_icmp .gt x, 3) := d_of ((e_bind (d_u1 B (b_lt (bl hl)) h)).trans ((e_bind (d_s2 B (bl hl) h1)).trans rfl))
theorem o_164 {c : ByteArray} {N L p : Nat} (B : BY c N L) (hl : Nat.ble (p + 3) L = true) (h : N >>> (8 * p) % 256 = 164) {x : Int} (h1 : Reader.signed 16 (N >>> (8 * p) / 256 % 256 * 256 + N >>> (8 * p) / 65536 % 256) = x) : decode c p = .ok (.if_icmp .le x, 3) := d_of ((e_bind (d_u1 B (b_lt (bl hl)) h)).trans ((e_bind (d_s2 B (bl hl) h1)).trans rfl))
theorem o_167 {c : ByteArray} {N L p : Nat} (B : BY c N L) (hl : Nat.ble (p + 3) L = true) (h : N >>> (8 * p) % 256 = 167) {x : Int} (h1 : Reader.signed 16 (N >>> (8 * p) / 256 % 256 * 256 + N >>> (8 * p) / 65536 % 256) = x) : decode c p = .ok (.goto x, 3) := d_of ((e_bind (d_u1 B (b_lt (bl hl)) h)).trans ((e_bind (d_s2 B (bl hl) h1)).trans rfl))
theorem o_172 {c : ByteArray} {N L p : Nat} (B : BY c N L) (hl : Nat.ble (p + 1) L = true) (h : N >>> (8 * p) % 256 = 172) : decode c p = .ok (.ireturn, 1) := d_of ((e_bind (d_u1 B (bl hl) h)).trans rfl)
theorem o_173 {c : ByteArray} {N L p : Nat} (B : BY c N L) (hl : Nat.ble (p + 1) L = true) (h : N >>> (8 * p) % 256 = 173) : decode c p = .ok (.lreturn, 1) := d_of ((e_bind (d_u1 B (bl hl) h)).trans rfl)
theorem o_176 {c : ByteArray} {N L p : Nat} (B : BY c N L) (hl : Nat.ble (p + 1) L = true) (h : N >>> (8 * p) % 256 = 176) : decode c p = .ok (.areturn, 1) := d_of ((e_bind (d_u1 B (bl hl) h)).trans rfl)
theorem o_177 {c : ByteArray} {N L p : Nat} (B : BY c N L) (hl : Nat.ble (p + 1) L = true) (h : N >>> (8 * p) % 256 = 177) : decode c p = .ok (.return_, 1) := d_of ((e_bind (d_u1 B (bl hl) h)).trans rfl)
theorem o_178 {c : ByteArray} {N L p : Nat} (B : BY c N L) (hl : Nat.ble (p + 3) L = true) (h : N >>> (8 * p) % 256 = 178) {x : Nat} (h1 : N >>> (8 * p) / 256 % 256 * 256 + N >>> (8 * p) / 65536 % 256 = x) : decode c p = .ok (.getstatic x, 3) := d_of ((e_bind (d_u1 B (b_lt (bl hl)) h)).trans ((e_bind (d_u2 B (bl hl) h1)).trans rfl))
theorem o_180 {c : ByteArray} {N L p : Nat} (B : BY c N L) (hl : Nat.ble (p + 3) L = true) (h : N >>> (8 * p) % 256 = 180) {x : Nat} (h1 : N >>> (8 * p) / 256 % 256 * 256 + N >>> (8 * p) / 65536 % 256 = x) : decode c p = .ok (.getfield x, 3) := d_of ((e_bind (d_u1 B (b_lt (bl hl)) h)).trans ((e_bind (d_u2 B (bl hl) h1)).trans rfl))
theorem o_181 {c : ByteArray} {N L p : Nat} (B : BY c N L) (hl : Nat.ble (p + 3) L = true) (h : N >>> (8 * p) % 256 = 181) {x : Nat} (h1 : N >>> (8 * p) / 256 % 256 * 256 + N >>> (8 * p) / 65536 % 256 = x) : decode c p = .ok (.putfield x, 3) := d_of ((e_bind (d_u1 B (b_lt (bl hl)) h)).trans ((e_bind (d_u2 B (bl hl) h1)).trans rfl))
theorem o_182 {c : ByteArray} {N L p : Nat} (B : BY c N L) (hl : Nat.ble (p + 3) L = true) (h : N >>> (8 * p) % 256 = 182) {x : Nat} (h1 : N >>> (8 * p) / 256 % 256 * 256 + N >>> (8 * p) / 65536 % 256 = x) : decode c p = .ok (.invokevirtual x, 3) := d_of ((e_bind (d_u1 B (b_lt (bl hl)) h)).trans ((e_bind (d_u2 B (bl hl) h1)).trans rfl))
theorem o_183 {c : ByteArray} {N L p : Nat} (B : BY c N L) (hl : Nat.ble (p + 3) L = true) (h : N >>> (8 * p) % 256 = 183) {x : Nat} (h1 : N >>> (8 * p) / 256 % 256 * 256 + N >>> (8 * p) / 65536 % 256 = x) : decode c p = .ok (.invokespecial x, 3) := d_of ((e_bind (d_u1 B (b_lt (bl hl)) h)).trans ((e_bind (d_u2 B (bl hl) h1)).trans rfl))
theorem o_184 {c : ByteArray} {N L p : Nat} (B : BY c N L) (hl : Nat.ble (p + 3) L = true) (h : N >>> (8 * p) % 256 = 184) {x : Nat} (h1 : N >>> (8 * p) / 256 % 256 * 256 + N >>> (8 * p) / 65536 % 256 = x) : decode c p = .ok (.invokestatic x, 3) := d_of ((e_bind (d_u1 B (b_lt (bl hl)) h)).trans ((e_bind (d_u2 B (bl hl) h1)).trans rfl))
theorem o_187 {c : ByteArray} {N L p : Nat} (B : BY c N L) (hl : Nat.ble (p + 3) L = true) (h : N >>> (8 * p) % 256 = 187) {x : Nat} (h1 : N >>> (8 * p) / 256 % 256 * 256 + N >>> (8 * p) / 65536 % 256 = x) : decode c p = .ok (.new x, 3) := d_of ((e_bind (d_u1 B (b_lt (bl hl)) h)).trans ((e_bind (d_u2 B (bl hl) h1)).trans rfl))
theorem o_188_4 {c : ByteArray} {N L p : Nat} (B : BY c N L) (hl : Nat.ble (p + 2) L = true) (h : N >>> (8 * p) % 256 = 188) (h1 : N >>> (8 * p) / 256 % 256 = 4) : decode c p = .ok (.newarray .boolean, 2) := d_of ((e_bind (d_u1 B (Nat.lt_of_succ_lt (bl hl)) h)).trans ((e_bind (d_u1 B (p := p + 1) (bl hl) ((congrArg (· % 256) (b_sh N p)).trans h1))).trans rfl))
theorem o_188_8 {c : ByteArray} {N L p : Nat} (B : BY c N L) (hl : Nat.ble (p + 2) L = true) (h : N >>> (8 * p) % 256 = 188) (h1 : N >>> (8 * p) / 256 % 256 = 8) : decode c p = .ok (.newarray .byte, 2) := d_of ((e_bind (d_u1 B (Nat.lt_of_succ_lt (bl hl)) h)).trans ((e_bind (d_u1 B (p := p + 1) (bl hl) ((congrArg (· % 256) (b_sh N p)).trans h1))).trans rfl))
theorem o_188_10 {c : ByteArray} {N L p : Nat} (B : BY c N L) (hl : Nat.ble (p + 2) L = true) (h : N >>> (8 * p) % 256 = 188) (h1 : N >>> (8 * p) / 256 % 256 = 10) : decode c p = .ok (.newarray .int, 2) := d_of ((e_bind (d_u1 B (Nat.lt_of_succ_lt (bl hl)) h)).trans ((e_bind (d_u1 B (p := p + 1) (bl hl) ((congrArg (· % 256) (b_sh N p)).trans h1))).trans rfl))
theorem o_188_11 {c : ByteArray} {N L p : Nat} (B : BY c N L) (hl : Nat.ble (p + 2) L = true) (h : N >>> (8 * p) % 256 = 188) (h1 : N >>> (8 * p) / 256 % 256 = 11) : decode c p = .ok (.newarray .long, 2) := d_of ((e_bind (d_u1 B (Nat.lt_of_succ_lt (bl hl)) h)).trans ((e_bind (d_u1 B (p := p + 1) (bl hl) ((congrArg (· % 256) (b_sh N p)).trans h1))).trans rfl))
theorem o_189 {c : ByteArray} {N L p : Nat} (B : BY c N L) (hl : Nat.ble (p + 3) L = true) (h : N >>> (8 * p) % 256 = 189) {x : Nat} (h1 : N >>> (8 * p) / 256 % 256 * 256 + N >>> (8 * p) / 65536 % 256 = x) : decode c p = .ok (.anewarray x, 3) := d_of ((e_bind (d_u1 B (b_lt (bl hl)) h)).trans ((e_bind (d_u2 B (bl hl) h1)).trans rfl))
theorem o_190 {c : ByteArray} {N L p : Nat} (B : BY c N L) (hl : Nat.ble (p + 1) L = true) (h : N >>> (8 * p) % 256 = 190) : decode c p = .ok (.arraylength, 1) := d_of ((e_bind (d_u1 B (bl hl) h)).trans rfl)
theorem o_191 {c : ByteArray} {N L p : Nat} (B : BY c N L) (hl : Nat.ble (p + 1) L = true) (h : N >>> (8 * p) % 256 = 191) : decode c p = .ok (.athrow, 1) := d_of ((e_bind (d_u1 B (bl hl) h)).trans rfl)
end

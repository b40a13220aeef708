-- names, out of the printed names of the claim (trimmed by program)
def RX0 : String := "MailOffice$1"
def TX0 : u_T := fun k => match k with
  | _ => ("", "", "", false)
def tyX0 : Nat → FieldType := fun k => match k with
  | _ => .int
abbrev wsX00 : List Cond := u_ws RX0 TX0 0
theorem nmX0 : ∀ a, a < 0 → ∀ b, b < 0 → a ≠ b → (TX0 a).2.1 ≠ (TX0 b).2.1 := by decide +kernel
theorem tyX0_ok : ∀ k, k < 0 → parseFieldDescriptor (TX0 k).2.2.1 = some (tyX0 k) := by decide +kernel
def RX1 : String := "MailOffice$Command"
def TX1 : u_T := fun k => match k with
  | 0 => ("MailOffice$Command", "keyword", "LMailOffice$Keyword;", true)
  | 1 => ("MailOffice$Command", "first", "I", true)
  | 2 => ("MailOffice$Command", "firstLength", "I", true)
  | _ => ("MailOffice$Command", "second", "I", true)
def tyX1 : Nat → FieldType := fun k => match k with
  | 0 => .object "MailOffice$Keyword"
  | 1 => .int
  | 2 => .int
  | _ => .int
abbrev wsX10 : List Cond := u_ws RX1 TX1 4
theorem nmX1 : ∀ a, a < 4 → ∀ b, b < 4 → a ≠ b → (TX1 a).2.1 ≠ (TX1 b).2.1 := by decide +kernel
theorem tyX1_ok : ∀ k, k < 4 → parseFieldDescriptor (TX1 k).2.2.1 = some (tyX1 k) := by decide +kernel
abbrev cX1_init : ByteArray := prog_3_method_1_code
def yX1_init : MethodName := ⟨RX1, "<init>", "(LMailOffice$Keyword;III)V"⟩
abbrev cX1_executeOn : ByteArray := prog_3_method_2_code
def yX1_executeOn : MethodName := ⟨RX1, "executeOn", "(LMailOffice$Office;)I"⟩
def RX2 : String := "MailOffice$Keyword"
def TX2 : u_T := fun k => match k with
  | _ => ("", "", "", false)
def tyX2 : Nat → FieldType := fun k => match k with
  | _ => .int
abbrev wsX20 : List Cond := u_ws RX2 TX2 0
theorem nmX2 : ∀ a, a < 0 → ∀ b, b < 0 → a ≠ b → (TX2 a).2.1 ≠ (TX2 b).2.1 := by decide +kernel
theorem tyX2_ok : ∀ k, k < 0 → parseFieldDescriptor (TX2 k).2.2.1 = some (tyX2 k) := by decide +kernel
def RX3 : String := "MailOffice$Letter"
def TX3 : u_T := fun k => match k with
  | 0 => ("MailOffice$Letter", "id", "I", true)
  | 1 => ("MailOffice$Letter", "code", "I", true)
  | 2 => ("MailOffice$Letter", "weight", "I", true)
  | 3 => ("MailOffice$Letter", "priority", "Z", true)
  | 4 => ("MailOffice$Letter", "returns", "I", false)
  | 5 => ("MailOffice$Letter", "route", "I", false)
  | _ => ("MailOffice$Letter", "bag", "I", false)
def tyX3 : Nat → FieldType := fun k => match k with
  | 0 => .int
  | 1 => .int
  | 2 => .int
  | 3 => .boolean
  | 4 => .int
  | 5 => .int
  | _ => .int
abbrev wsX30 : List Cond := u_ws RX3 TX3 7
theorem nmX3 : ∀ a, a < 7 → ∀ b, b < 7 → a ≠ b → (TX3 a).2.1 ≠ (TX3 b).2.1 := by decide +kernel
theorem tyX3_ok : ∀ k, k < 7 → parseFieldDescriptor (TX3 k).2.2.1 = some (tyX3 k) := by decide +kernel
abbrev cX3_init : ByteArray := prog_5_method_1_code
def yX3_init : MethodName := ⟨RX3, "<init>", "(IIIZ)V"⟩
abbrev cX3_duplicate : ByteArray := prog_5_method_2_code
def yX3_duplicate : MethodName := ⟨RX3, "duplicate", "()LMailOffice$Letter;"⟩
abbrev cX3_inTray : ByteArray := prog_5_method_3_code
def yX3_inTray : MethodName := ⟨RX3, "inTray", "()Z"⟩
abbrev cX3_isIn : ByteArray := prog_5_method_4_code
def yX3_isIn : MethodName := ⟨RX3, "isIn", "(II)Z"⟩
abbrev cX3_moveToBag : ByteArray := prog_5_method_5_code
def yX3_moveToBag : MethodName := ⟨RX3, "moveToBag", "(II)V"⟩
abbrev cX3_moveToTray : ByteArray := prog_5_method_6_code
def yX3_moveToTray : MethodName := ⟨RX3, "moveToTray", "()V"⟩
abbrev cX3_comeBack : ByteArray := prog_5_method_7_code
def yX3_comeBack : MethodName := ⟨RX3, "comeBack", "()V"⟩
abbrev cX3_writeTo : ByteArray := prog_5_method_8_code
def yX3_writeTo : MethodName := ⟨RX3, "writeTo", "(Ljava/lang/StringBuilder;)V"⟩
def RX4 : String := "MailOffice$Office"
def TX4 : u_T := fun k => match k with
  | 0 => ("MailOffice$Office", "letters", "Ljava/util/ArrayList;", true)
  | 1 => ("MailOffice$Office", "table", "LMailOffice$RoutingTable;", true)
  | 2 => ("MailOffice$Office", "cutoffs", "[I", true)
  | 3 => ("MailOffice$Office", "departures", "[I", true)
  | 4 => ("MailOffice$Office", "bagCounts", "[I", true)
  | 5 => ("MailOffice$Office", "hour", "I", false)
  | 6 => ("MailOffice$Office", "day", "I", false)
  | 7 => ("MailOffice$Office", "nextId", "I", false)
  | 8 => ("MailOffice$Office", "delivered", "I", false)
  | 9 => ("MailOffice$Office", "dead", "I", false)
  | _ => ("MailOffice$Office", "returned", "I", false)
def tyX4 : Nat → FieldType := fun k => match k with
  | 0 => .object "java/util/ArrayList"
  | 1 => .object "MailOffice$RoutingTable"
  | 2 => .array .int
  | 3 => .array .int
  | 4 => .array .int
  | 5 => .int
  | 6 => .int
  | 7 => .int
  | 8 => .int
  | 9 => .int
  | _ => .int
abbrev wsX40 : List Cond := u_ws RX4 TX4 11
theorem nmX4 : ∀ a, a < 11 → ∀ b, b < 11 → a ≠ b → (TX4 a).2.1 ≠ (TX4 b).2.1 := by decide +kernel
theorem tyX4_ok : ∀ k, k < 11 → parseFieldDescriptor (TX4 k).2.2.1 = some (tyX4 k) := by decide +kernel
abbrev cX4_init : ByteArray := prog_6_method_1_code
def yX4_init : MethodName := ⟨RX4, "<init>", "()V"⟩
abbrev cX4_duplicate : ByteArray := prog_6_method_2_code
def yX4_duplicate : MethodName := ⟨RX4, "duplicate", "()LMailOffice$Office;"⟩
abbrev cX4_takeIn : ByteArray := prog_6_method_3_code
def yX4_takeIn : MethodName := ⟨RX4, "takeIn", "(IIZ)I"⟩
abbrev cX4_letterWith : ByteArray := prog_6_method_4_code
def yX4_letterWith : MethodName := ⟨RX4, "letterWith", "(I)LMailOffice$Letter;"⟩
abbrev cX4_sortById : ByteArray := prog_6_method_5_code
def yX4_sortById : MethodName := ⟨RX4, "sortById", "(I)I"⟩
abbrev cX4_placeById : ByteArray := prog_6_method_6_code
def yX4_placeById : MethodName := ⟨RX4, "placeById", "(II)I"⟩
abbrev cX4_takeOut : ByteArray := prog_6_method_7_code
def yX4_takeOut : MethodName := ⟨RX4, "takeOut", "(I)I"⟩
abbrev cX4_sortTray : ByteArray := prog_6_method_8_code
def yX4_sortTray : MethodName := ⟨RX4, "sortTray", "()I"⟩
abbrev cX4_putByCode : ByteArray := prog_6_method_9_code
def yX4_putByCode : MethodName := ⟨RX4, "putByCode", "(LMailOffice$Letter;)I"⟩
abbrev cX4_put : ByteArray := prog_6_method_10_code
def yX4_put : MethodName := ⟨RX4, "put", "(LMailOffice$Letter;I)I"⟩
abbrev cX4_sortingBag : ByteArray := prog_6_method_11_code
def yX4_sortingBag : MethodName := ⟨RX4, "sortingBag", "(LMailOffice$Letter;)I"⟩
abbrev cX4_bagFor : ByteArray := prog_6_method_12_code
def yX4_bagFor : MethodName := ⟨RX4, "bagFor", "(LMailOffice$Letter;I)I"⟩
abbrev cX4_isLate : ByteArray := prog_6_method_13_code
def yX4_isLate : MethodName := ⟨RX4, "isLate", "(LMailOffice$Letter;I)Z"⟩
abbrev cX4_changeCutoff : ByteArray := prog_6_method_14_code
def yX4_changeCutoff : MethodName := ⟨RX4, "changeCutoff", "(II)I"⟩
abbrev cX4_changeDeparture : ByteArray := prog_6_method_15_code
def yX4_changeDeparture : MethodName := ⟨RX4, "changeDeparture", "(II)I"⟩
abbrev cX4_passHours : ByteArray := prog_6_method_16_code
def yX4_passHours : MethodName := ⟨RX4, "passHours", "(I)I"⟩
abbrev cX4_moveClock : ByteArray := prog_6_method_17_code
def yX4_moveClock : MethodName := ⟨RX4, "moveClock", "()V"⟩
abbrev cX4_sendLetters : ByteArray := prog_6_method_18_code
def yX4_sendLetters : MethodName := ⟨RX4, "sendLetters", "(I)V"⟩
abbrev cX4_wouldComeBack : ByteArray := prog_6_method_19_code
def yX4_wouldComeBack : MethodName := ⟨RX4, "wouldComeBack", "(LMailOffice$Letter;)Z"⟩
abbrev cX4_routeByCode : ByteArray := prog_6_method_20_code
def yX4_routeByCode : MethodName := ⟨RX4, "routeByCode", "(LMailOffice$Letter;)I"⟩
abbrev cX4_countMissorted : ByteArray := prog_6_method_21_code
def yX4_countMissorted : MethodName := ⟨RX4, "countMissorted", "()I"⟩
abbrev cX4_countLate : ByteArray := prog_6_method_22_code
def yX4_countLate : MethodName := ⟨RX4, "countLate", "()I"⟩
abbrev cX4_orderedTray : ByteArray := prog_6_method_23_code
def yX4_orderedTray : MethodName := ⟨RX4, "orderedTray", "()Ljava/util/ArrayList;"⟩
abbrev cX4_addTrayLetters : ByteArray := prog_6_method_24_code
def yX4_addTrayLetters : MethodName := ⟨RX4, "addTrayLetters", "(Ljava/util/ArrayList;Z)V"⟩
abbrev cX4_countBags : ByteArray := prog_6_method_25_code
def yX4_countBags : MethodName := ⟨RX4, "countBags", "(I)I"⟩
abbrev cX4_weightInBag : ByteArray := prog_6_method_26_code
def yX4_weightInBag : MethodName := ⟨RX4, "weightInBag", "(II)I"⟩
abbrev cX4_countInBag : ByteArray := prog_6_method_27_code
def yX4_countInBag : MethodName := ⟨RX4, "countInBag", "(II)I"⟩
abbrev cX4_weightByLetters : ByteArray := prog_6_method_28_code
def yX4_weightByLetters : MethodName := ⟨RX4, "weightByLetters", "(I)I"⟩
abbrev cX4_weightByBags : ByteArray := prog_6_method_29_code
def yX4_weightByBags : MethodName := ⟨RX4, "weightByBags", "(I)I"⟩
abbrev cX4_totalWeight : ByteArray := prog_6_method_30_code
def yX4_totalWeight : MethodName := ⟨RX4, "totalWeight", "()I"⟩
abbrev cX4_heaviestBag : ByteArray := prog_6_method_31_code
def yX4_heaviestBag : MethodName := ⟨RX4, "heaviestBag", "(I)I"⟩
abbrev cX4_rankOf : ByteArray := prog_6_method_32_code
def yX4_rankOf : MethodName := ⟨RX4, "rankOf", "(I)I"⟩
abbrev cX4_ranksBefore : ByteArray := prog_6_method_33_code
def yX4_ranksBefore : MethodName := ⟨RX4, "ranksBefore", "(II)Z"⟩
abbrev cX4_hoursUntilDeparture : ByteArray := prog_6_method_34_code
def yX4_hoursUntilDeparture : MethodName := ⟨RX4, "hoursUntilDeparture", "(I)I"⟩
abbrev cX4_routesAgreeWith : ByteArray := prog_6_method_35_code
def yX4_routesAgreeWith : MethodName := ⟨RX4, "routesAgreeWith", "(LMailOffice$PrefixTree;)Z"⟩
abbrev cX4_bagsAreSound : ByteArray := prog_6_method_36_code
def yX4_bagsAreSound : MethodName := ⟨RX4, "bagsAreSound", "()Z"⟩
abbrev cX4_hasTooHeavyBag : ByteArray := prog_6_method_37_code
def yX4_hasTooHeavyBag : MethodName := ⟨RX4, "hasTooHeavyBag", "(I)Z"⟩
abbrev cX4_lettersAddUp : ByteArray := prog_6_method_38_code
def yX4_lettersAddUp : MethodName := ⟨RX4, "lettersAddUp", "()Z"⟩
def RX5 : String := "MailOffice$Parser"
def TX5 : u_T := fun k => match k with
  | 0 => ("MailOffice$Parser", "text", "[C", true)
  | 1 => ("MailOffice$Parser", "length", "I", true)
  | 2 => ("MailOffice$Parser", "position", "I", false)
  | _ => ("MailOffice$Parser", "commands", "Ljava/util/ArrayList;", true)
def tyX5 : Nat → FieldType := fun k => match k with
  | 0 => .array .char
  | 1 => .int
  | 2 => .int
  | _ => .object "java/util/ArrayList"
abbrev wsX50 : List Cond := u_ws RX5 TX5 4
theorem nmX5 : ∀ a, a < 4 → ∀ b, b < 4 → a ≠ b → (TX5 a).2.1 ≠ (TX5 b).2.1 := by decide +kernel
theorem tyX5_ok : ∀ k, k < 4 → parseFieldDescriptor (TX5 k).2.2.1 = some (tyX5 k) := by decide +kernel
abbrev cX5_init : ByteArray := prog_7_method_1_code
def yX5_init : MethodName := ⟨RX5, "<init>", "([CI)V"⟩
abbrev cX5_readProgram : ByteArray := prog_7_method_2_code
def yX5_readProgram : MethodName := ⟨RX5, "readProgram", "()Z"⟩
abbrev cX5_readCommand : ByteArray := prog_7_method_3_code
def yX5_readCommand : MethodName := ⟨RX5, "readCommand", "()Z"⟩
abbrev cX5_readKeyword : ByteArray := prog_7_method_4_code
def yX5_readKeyword : MethodName := ⟨RX5, "readKeyword", "()LMailOffice$Keyword;"⟩
abbrev cX5_commonLength : ByteArray := prog_7_method_5_code
def yX5_commonLength : MethodName := ⟨RX5, "commonLength", "(Ljava/lang/String;)I"⟩
abbrev cX5_readNumber : ByteArray := prog_7_method_6_code
def yX5_readNumber : MethodName := ⟨RX5, "readNumber", "(I)I"⟩
abbrev cX5_skip : ByteArray := prog_7_method_7_code
def yX5_skip : MethodName := ⟨RX5, "skip", "(C)Z"⟩
abbrev cX5_hasAt : ByteArray := prog_7_method_8_code
def yX5_hasAt : MethodName := ⟨RX5, "hasAt", "(IC)Z"⟩
abbrev cX5_hasDigitAt : ByteArray := prog_7_method_9_code
def yX5_hasDigitAt : MethodName := ⟨RX5, "hasDigitAt", "(I)Z"⟩
abbrev cX5_isInside : ByteArray := prog_7_method_10_code
def yX5_isInside : MethodName := ⟨RX5, "isInside", "(I)Z"⟩
def RX6 : String := "MailOffice$Prefix"
def TX6 : u_T := fun k => match k with
  | 0 => ("MailOffice$Prefix", "digits", "I", true)
  | 1 => ("MailOffice$Prefix", "length", "I", true)
  | 2 => ("MailOffice$Prefix", "route", "I", true)
  | 3 => ("MailOffice$Prefix", "span", "I", true)
  | _ => ("MailOffice$Prefix", "firstCode", "I", true)
def tyX6 : Nat → FieldType := fun k => match k with
  | 0 => .int
  | 1 => .int
  | 2 => .int
  | 3 => .int
  | _ => .int
abbrev wsX60 : List Cond := u_ws RX6 TX6 5
theorem nmX6 : ∀ a, a < 5 → ∀ b, b < 5 → a ≠ b → (TX6 a).2.1 ≠ (TX6 b).2.1 := by decide +kernel
theorem tyX6_ok : ∀ k, k < 5 → parseFieldDescriptor (TX6 k).2.2.1 = some (tyX6 k) := by decide +kernel
abbrev cX6_init : ByteArray := prog_8_method_1_code
def yX6_init : MethodName := ⟨RX6, "<init>", "(III)V"⟩
def RX7 : String := "MailOffice$PrefixTree"
def TX7 : u_T := fun k => match k with
  | 0 => ("MailOffice$PrefixTree", "children", "[I", true)
  | 1 => ("MailOffice$PrefixTree", "routes", "[I", true)
  | _ => ("MailOffice$PrefixTree", "nodeCount", "I", false)
def tyX7 : Nat → FieldType := fun k => match k with
  | 0 => .array .int
  | 1 => .array .int
  | _ => .int
abbrev wsX70 : List Cond := u_ws RX7 TX7 3
theorem nmX7 : ∀ a, a < 3 → ∀ b, b < 3 → a ≠ b → (TX7 a).2.1 ≠ (TX7 b).2.1 := by decide +kernel
theorem tyX7_ok : ∀ k, k < 3 → parseFieldDescriptor (TX7 k).2.2.1 = some (tyX7 k) := by decide +kernel
abbrev cX7_init : ByteArray := prog_9_method_1_code
def yX7_init : MethodName := ⟨RX7, "<init>", "()V"⟩
abbrev cX7_build : ByteArray := prog_9_method_2_code
def yX7_build : MethodName := ⟨RX7, "build", "(LMailOffice$RoutingTable;)V"⟩
abbrev cX7_routeOfCode : ByteArray := prog_9_method_3_code
def yX7_routeOfCode : MethodName := ⟨RX7, "routeOfCode", "(I)I"⟩
abbrev cX7_grow : ByteArray := prog_9_method_4_code
def yX7_grow : MethodName := ⟨RX7, "grow", "(LMailOffice$Prefix;)V"⟩
abbrev cX7_addNode : ByteArray := prog_9_method_5_code
def yX7_addNode : MethodName := ⟨RX7, "addNode", "()I"⟩
abbrev cX7_child : ByteArray := prog_9_method_6_code
def yX7_child : MethodName := ⟨RX7, "child", "(II)I"⟩
abbrev cX7_linkChild : ByteArray := prog_9_method_7_code
def yX7_linkChild : MethodName := ⟨RX7, "linkChild", "(III)V"⟩
def RX8 : String := "MailOffice$RoutingTable"
def TX8 : u_T := fun k => match k with
  | 0 => ("MailOffice$RoutingTable", "prefixes", "Ljava/util/ArrayList;", true)
  | _ => ("MailOffice$RoutingTable", "emptyPrefix", "LMailOffice$Prefix;", true)
def tyX8 : Nat → FieldType := fun k => match k with
  | 0 => .object "java/util/ArrayList"
  | _ => .object "MailOffice$Prefix"
abbrev wsX80 : List Cond := u_ws RX8 TX8 2
theorem nmX8 : ∀ a, a < 2 → ∀ b, b < 2 → a ≠ b → (TX8 a).2.1 ≠ (TX8 b).2.1 := by decide +kernel
theorem tyX8_ok : ∀ k, k < 2 → parseFieldDescriptor (TX8 k).2.2.1 = some (tyX8 k) := by decide +kernel
abbrev cX8_init : ByteArray := prog_10_method_1_code
def yX8_init : MethodName := ⟨RX8, "<init>", "()V"⟩
abbrev cX8_copyInto : ByteArray := prog_10_method_2_code
def yX8_copyInto : MethodName := ⟨RX8, "copyInto", "(LMailOffice$RoutingTable;)V"⟩
abbrev cX8_enter : ByteArray := prog_10_method_3_code
def yX8_enter : MethodName := ⟨RX8, "enter", "(III)I"⟩
abbrev cX8_strike : ByteArray := prog_10_method_4_code
def yX8_strike : MethodName := ⟨RX8, "strike", "(II)I"⟩
abbrev cX8_positionOf : ByteArray := prog_10_method_5_code
def yX8_positionOf : MethodName := ⟨RX8, "positionOf", "(II)I"⟩
abbrev cX8_longestMatch : ByteArray := prog_10_method_6_code
def yX8_longestMatch : MethodName := ⟨RX8, "longestMatch", "(II)LMailOffice$Prefix;"⟩
abbrev cX8_countCodes : ByteArray := prog_10_method_7_code
def yX8_countCodes : MethodName := ⟨RX8, "countCodes", "(I)I"⟩
def RX9 : String := "MailOffice"
def TX9 : u_T := fun k => match k with
  | 0 => ("MailOffice", "office", "LMailOffice$Office;", false)
  | 1 => ("MailOffice", "saved", "LMailOffice$Office;", false)
  | 2 => ("MailOffice", "formerOffices", "Ljava/util/ArrayList;", true)
  | 3 => ("MailOffice", "tree", "LMailOffice$PrefixTree;", true)
  | 4 => ("MailOffice", "buffer", "[C", true)
  | 5 => ("MailOffice", "bufferLength", "I", false)
  | 6 => ("MailOffice", "line", "Ljava/lang/StringBuilder;", true)
  | 7 => ("MailOffice", "storedErrorPosition", "I", false)
  | _ => ("MailOffice", "storedFailedCommand", "I", false)
def tyX9 : Nat → FieldType := fun k => match k with
  | 0 => .object "MailOffice$Office"
  | 1 => .object "MailOffice$Office"
  | 2 => .object "java/util/ArrayList"
  | 3 => .object "MailOffice$PrefixTree"
  | 4 => .array .char
  | 5 => .int
  | 6 => .object "java/lang/StringBuilder"
  | 7 => .int
  | _ => .int
abbrev wsX90 : List Cond := u_ws RX9 TX9 9
theorem nmX9 : ∀ a, a < 9 → ∀ b, b < 9 → a ≠ b → (TX9 a).2.1 ≠ (TX9 b).2.1 := by decide +kernel
theorem tyX9_ok : ∀ k, k < 9 → parseFieldDescriptor (TX9 k).2.2.1 = some (tyX9 k) := by decide +kernel
abbrev cX9_init : ByteArray := prog_1_method_1_code
def yX9_init : MethodName := ⟨RX9, "<init>", "()V"⟩
abbrev cX9_accept : ByteArray := prog_1_method_2_code
def yX9_accept : MethodName := ⟨RX9, "accept", "(IIZ)I"⟩
abbrev cX9_addPrefix : ByteArray := prog_1_method_3_code
def yX9_addPrefix : MethodName := ⟨RX9, "addPrefix", "(III)I"⟩
abbrev cX9_removePrefix : ByteArray := prog_1_method_4_code
def yX9_removePrefix : MethodName := ⟨RX9, "removePrefix", "(II)I"⟩
abbrev cX9_sort : ByteArray := prog_1_method_5_code
def yX9_sort : MethodName := ⟨RX9, "sort", "(I)I"⟩
abbrev cX9_sortAll : ByteArray := prog_1_method_6_code
def yX9_sortAll : MethodName := ⟨RX9, "sortAll", "()I"⟩
abbrev cX9_place : ByteArray := prog_1_method_7_code
def yX9_place : MethodName := ⟨RX9, "place", "(II)I"⟩
abbrev cX9_pull : ByteArray := prog_1_method_8_code
def yX9_pull : MethodName := ⟨RX9, "pull", "(I)I"⟩
abbrev cX9_setCutoff : ByteArray := prog_1_method_9_code
def yX9_setCutoff : MethodName := ⟨RX9, "setCutoff", "(II)I"⟩
abbrev cX9_setDeparture : ByteArray := prog_1_method_10_code
def yX9_setDeparture : MethodName := ⟨RX9, "setDeparture", "(II)I"⟩
abbrev cX9_pass : ByteArray := prog_1_method_11_code
def yX9_pass : MethodName := ⟨RX9, "pass", "(I)I"⟩
abbrev cX9_concluded : ByteArray := prog_1_method_12_code
def yX9_concluded : MethodName := ⟨RX9, "concluded", "(LMailOffice$Office;I)I"⟩
abbrev cX9_raise : ByteArray := prog_1_method_13_code
def yX9_raise : MethodName := ⟨RX9, "raise", "(I)V"⟩
abbrev cX9_keepForUndo : ByteArray := prog_1_method_14_code
def yX9_keepForUndo : MethodName := ⟨RX9, "keepForUndo", "(LMailOffice$Office;)V"⟩
abbrev cX9_hour : ByteArray := prog_1_method_15_code
def yX9_hour : MethodName := ⟨RX9, "hour", "()I"⟩
abbrev cX9_letterCount : ByteArray := prog_1_method_17_code
def yX9_letterCount : MethodName := ⟨RX9, "letterCount", "()I"⟩
abbrev cX9_isPresent : ByteArray := prog_1_method_18_code
def yX9_isPresent : MethodName := ⟨RX9, "isPresent", "(I)Z"⟩
abbrev cX9_idAt : ByteArray := prog_1_method_19_code
def yX9_idAt : MethodName := ⟨RX9, "idAt", "(I)I"⟩
abbrev cX9_codeOf : ByteArray := prog_1_method_20_code
def yX9_codeOf : MethodName := ⟨RX9, "codeOf", "(I)I"⟩
abbrev cX9_weightOf : ByteArray := prog_1_method_21_code
def yX9_weightOf : MethodName := ⟨RX9, "weightOf", "(I)I"⟩
abbrev cX9_isPriority : ByteArray := prog_1_method_22_code
def yX9_isPriority : MethodName := ⟨RX9, "isPriority", "(I)Z"⟩
abbrev cX9_returnsOf : ByteArray := prog_1_method_23_code
def yX9_returnsOf : MethodName := ⟨RX9, "returnsOf", "(I)I"⟩
abbrev cX9_isInTray : ByteArray := prog_1_method_24_code
def yX9_isInTray : MethodName := ⟨RX9, "isInTray", "(I)Z"⟩
abbrev cX9_routeOfBag : ByteArray := prog_1_method_25_code
def yX9_routeOfBag : MethodName := ⟨RX9, "routeOfBag", "(I)I"⟩
abbrev cX9_bagOf : ByteArray := prog_1_method_26_code
def yX9_bagOf : MethodName := ⟨RX9, "bagOf", "(I)I"⟩
abbrev cX9_isMissorted : ByteArray := prog_1_method_27_code
def yX9_isMissorted : MethodName := ⟨RX9, "isMissorted", "(I)Z"⟩
abbrev cX9_canSort : ByteArray := prog_1_method_28_code
def yX9_canSort : MethodName := ⟨RX9, "canSort", "(I)Z"⟩
abbrev cX9_sortableCount : ByteArray := prog_1_method_29_code
def yX9_sortableCount : MethodName := ⟨RX9, "sortableCount", "()I"⟩
abbrev cX9_presentLetter : ByteArray := prog_1_method_30_code
def yX9_presentLetter : MethodName := ⟨RX9, "presentLetter", "(I)LMailOffice$Letter;"⟩
abbrev cX9_baggedLetter : ByteArray := prog_1_method_31_code
def yX9_baggedLetter : MethodName := ⟨RX9, "baggedLetter", "(I)LMailOffice$Letter;"⟩
abbrev cX9_lateCount : ByteArray := prog_1_method_32_code
def yX9_lateCount : MethodName := ⟨RX9, "lateCount", "()I"⟩
abbrev cX9_traySize : ByteArray := prog_1_method_33_code
def yX9_traySize : MethodName := ⟨RX9, "traySize", "()I"⟩
abbrev cX9_trayAt : ByteArray := prog_1_method_34_code
def yX9_trayAt : MethodName := ⟨RX9, "trayAt", "(I)I"⟩
abbrev cX9_hasPrefix : ByteArray := prog_1_method_36_code
def yX9_hasPrefix : MethodName := ⟨RX9, "hasPrefix", "(II)Z"⟩
abbrev cX9_routeFor : ByteArray := prog_1_method_37_code
def yX9_routeFor : MethodName := ⟨RX9, "routeFor", "(I)I"⟩
abbrev cX9_routeForByTree : ByteArray := prog_1_method_38_code
def yX9_routeForByTree : MethodName := ⟨RX9, "routeForByTree", "(I)I"⟩
abbrev cX9_matchLength : ByteArray := prog_1_method_39_code
def yX9_matchLength : MethodName := ⟨RX9, "matchLength", "(I)I"⟩
abbrev cX9_codesOf : ByteArray := prog_1_method_40_code
def yX9_codesOf : MethodName := ⟨RX9, "codesOf", "(I)I"⟩
abbrev cX9_requireCode : ByteArray := prog_1_method_41_code
def yX9_requireCode : MethodName := ⟨RX9, "requireCode", "(I)V"⟩
abbrev cX9_requireRoute : ByteArray := prog_1_method_42_code
def yX9_requireRoute : MethodName := ⟨RX9, "requireRoute", "(I)V"⟩
abbrev cX9_foundRoute : ByteArray := prog_1_method_43_code
def yX9_foundRoute : MethodName := ⟨RX9, "foundRoute", "(I)I"⟩
abbrev cX9_bagCount : ByteArray := prog_1_method_44_code
def yX9_bagCount : MethodName := ⟨RX9, "bagCount", "(I)I"⟩
abbrev cX9_bagWeight : ByteArray := prog_1_method_45_code
def yX9_bagWeight : MethodName := ⟨RX9, "bagWeight", "(II)I"⟩
abbrev cX9_lettersInBag : ByteArray := prog_1_method_46_code
def yX9_lettersInBag : MethodName := ⟨RX9, "lettersInBag", "(II)I"⟩
abbrev cX9_routeWeight : ByteArray := prog_1_method_47_code
def yX9_routeWeight : MethodName := ⟨RX9, "routeWeight", "(I)I"⟩
abbrev cX9_routeWeightByBags : ByteArray := prog_1_method_48_code
def yX9_routeWeightByBags : MethodName := ⟨RX9, "routeWeightByBags", "(I)I"⟩
abbrev cX9_cutoff : ByteArray := prog_1_method_49_code
def yX9_cutoff : MethodName := ⟨RX9, "cutoff", "(I)I"⟩
abbrev cX9_departure : ByteArray := prog_1_method_50_code
def yX9_departure : MethodName := ⟨RX9, "departure", "(I)I"⟩
abbrev cX9_hoursToDeparture : ByteArray := prog_1_method_51_code
def yX9_hoursToDeparture : MethodName := ⟨RX9, "hoursToDeparture", "(I)I"⟩
abbrev cX9_hoursToDelivery : ByteArray := prog_1_method_52_code
def yX9_hoursToDelivery : MethodName := ⟨RX9, "hoursToDelivery", "(I)I"⟩
abbrev cX9_hoursToDeliveryByHours : ByteArray := prog_1_method_53_code
def yX9_hoursToDeliveryByHours : MethodName := ⟨RX9, "hoursToDeliveryByHours", "(I)I"⟩
abbrev cX9_freeWeight : ByteArray := prog_1_method_54_code
def yX9_freeWeight : MethodName := ⟨RX9, "freeWeight", "(I)I"⟩
abbrev cX9_fullestBag : ByteArray := prog_1_method_55_code
def yX9_fullestBag : MethodName := ⟨RX9, "fullestBag", "(I)I"⟩
abbrev cX9_routeByWeight : ByteArray := prog_1_method_56_code
def yX9_routeByWeight : MethodName := ⟨RX9, "routeByWeight", "(I)I"⟩
abbrev cX9_requireBag : ByteArray := prog_1_method_57_code
def yX9_requireBag : MethodName := ⟨RX9, "requireBag", "(II)V"⟩
abbrev cX9_deliverableLetter : ByteArray := prog_1_method_58_code
def yX9_deliverableLetter : MethodName := ⟨RX9, "deliverableLetter", "(I)LMailOffice$Letter;"⟩
abbrev cX9_missortedCount : ByteArray := prog_1_method_59_code
def yX9_missortedCount : MethodName := ⟨RX9, "missortedCount", "()I"⟩
abbrev cX9_deliveredCount : ByteArray := prog_1_method_60_code
def yX9_deliveredCount : MethodName := ⟨RX9, "deliveredCount", "()I"⟩
abbrev cX9_deadCount : ByteArray := prog_1_method_61_code
def yX9_deadCount : MethodName := ⟨RX9, "deadCount", "()I"⟩
abbrev cX9_meanWeight : ByteArray := prog_1_method_63_code
def yX9_meanWeight : MethodName := ⟨RX9, "meanWeight", "()D"⟩
abbrev cX9_deliveredShare : ByteArray := prog_1_method_64_code
def yX9_deliveredShare : MethodName := ⟨RX9, "deliveredShare", "()F"⟩
abbrev cX9_isConsistent : ByteArray := prog_1_method_65_code
def yX9_isConsistent : MethodName := ⟨RX9, "isConsistent", "()Z"⟩
abbrev cX9_formatLetter : ByteArray := prog_1_method_66_code
def yX9_formatLetter : MethodName := ⟨RX9, "formatLetter", "(I)I"⟩
abbrev cX9_lineChar : ByteArray := prog_1_method_67_code
def yX9_lineChar : MethodName := ⟨RX9, "lineChar", "(I)C"⟩
abbrev cX9_run : ByteArray := prog_1_method_69_code
def yX9_run : MethodName := ⟨RX9, "run", "()I"⟩
abbrev cX9_errorPosition : ByteArray := prog_1_method_70_code
def yX9_errorPosition : MethodName := ⟨RX9, "errorPosition", "()I"⟩
abbrev cX9_failedCommand : ByteArray := prog_1_method_71_code
def yX9_failedCommand : MethodName := ⟨RX9, "failedCommand", "()I"⟩
abbrev cX9_save : ByteArray := prog_1_method_74_code
def yX9_save : MethodName := ⟨RX9, "save", "()I"⟩
abbrev cX9_restore : ByteArray := prog_1_method_75_code
def yX9_restore : MethodName := ⟨RX9, "restore", "()I"⟩
abbrev cX9_isCode : ByteArray := prog_1_method_76_code
def yX9_isCode : MethodName := ⟨RX9, "isCode", "(I)Z"⟩
abbrev cX9_isRoute : ByteArray := prog_1_method_77_code
def yX9_isRoute : MethodName := ⟨RX9, "isRoute", "(I)Z"⟩
abbrev cX9_isPrefix : ByteArray := prog_1_method_78_code
def yX9_isPrefix : MethodName := ⟨RX9, "isPrefix", "(II)Z"⟩
abbrev cX9_powerOfTen : ByteArray := prog_1_method_79_code
def yX9_powerOfTen : MethodName := ⟨RX9, "powerOfTen", "(I)I"⟩
def RJx145de : String := "java/io/Serializable"
def TJx145de : u_T := fun k => match k with
  | _ => ("", "", "", false)
def tyJx145de : Nat → FieldType := fun k => match k with
  | _ => .int
abbrev wsJx145de0 : List Cond := u_ws RJx145de TJx145de 0
theorem nmJx145de : ∀ a, a < 0 → ∀ b, b < 0 → a ≠ b → (TJx145de a).2.1 ≠ (TJx145de b).2.1 := by decide +kernel
theorem tyJx145de_ok : ∀ k, k < 0 → parseFieldDescriptor (TJx145de k).2.2.1 = some (tyJx145de k) := by decide +kernel
def RJ5 : String := "java/lang/AbstractStringBuilder"
def TJ5 : u_T := fun k => match k with
  | _ => ("", "", "", false)
def tyJ5 : Nat → FieldType := fun k => match k with
  | _ => .int
abbrev wsJ50 : List Cond := u_ws RJ5 TJ5 0
theorem nmJ5 : ∀ a, a < 0 → ∀ b, b < 0 → a ≠ b → (TJ5 a).2.1 ≠ (TJ5 b).2.1 := by decide +kernel
theorem tyJ5_ok : ∀ k, k < 0 → parseFieldDescriptor (TJ5 k).2.2.1 = some (tyJ5 k) := by decide +kernel
abbrev cJ5_init_d00df : ByteArray := prog_14_method_2_code
def yJ5_init_d00df : MethodName := ⟨RJ5, "<init>", "(I)V"⟩
abbrev cJ5_length_8abf5 : ByteArray := prog_14_method_6_code
def yJ5_length_8abf5 : MethodName := ⟨RJ5, "length", "()I"⟩
abbrev cJ5_ensureCapacityInternal_d00df : ByteArray := prog_14_method_9_code
def yJ5_ensureCapacityInternal_d00df : MethodName := ⟨RJ5, "ensureCapacityInternal", "(I)V"⟩
abbrev cJ5_newCapacity_0f7a4 : ByteArray := prog_14_method_10_code
def yJ5_newCapacity_0f7a4 : MethodName := ⟨RJ5, "newCapacity", "(I)I"⟩
abbrev cJ5_inflate_da8c8 : ByteArray := prog_14_method_11_code
def yJ5_inflate_da8c8 : MethodName := ⟨RJ5, "inflate", "()V"⟩
abbrev cJ5_setLength_d00df : ByteArray := prog_14_method_13_code
def yJ5_setLength_d00df : MethodName := ⟨RJ5, "setLength", "(I)V"⟩
abbrev cJ5_charAt_5068e : ByteArray := prog_14_method_14_code
def yJ5_charAt_5068e : MethodName := ⟨RJ5, "charAt", "(I)C"⟩
abbrev cJ5_append_cf1ce : ByteArray := prog_14_method_22_code
def yJ5_append_cf1ce : MethodName := ⟨RJ5, "append", "(Ljava/lang/String;)Ljava/lang/AbstractStringBuilder;"⟩
abbrev cJ5_appendNull_278bc : ByteArray := prog_14_method_26_code
def yJ5_appendNull_278bc : MethodName := ⟨RJ5, "appendNull", "()Ljava/lang/AbstractStringBuilder;"⟩
abbrev cJ5_append_3fe6f : ByteArray := prog_14_method_31_code
def yJ5_append_3fe6f : MethodName := ⟨RJ5, "append", "(C)Ljava/lang/AbstractStringBuilder;"⟩
abbrev cJ5_append_c97b9 : ByteArray := prog_14_method_32_code
def yJ5_append_c97b9 : MethodName := ⟨RJ5, "append", "(I)Ljava/lang/AbstractStringBuilder;"⟩
abbrev cJ5_getValue_6d5f1 : ByteArray := prog_14_method_64_code
def yJ5_getValue_6d5f1 : MethodName := ⟨RJ5, "getValue", "()[B"⟩
abbrev cJ5_isLatin1_aae02 : ByteArray := prog_14_method_68_code
def yJ5_isLatin1_aae02 : MethodName := ⟨RJ5, "isLatin1", "()Z"⟩
abbrev cJ5_inflateIfNeededFor_a7421 : ByteArray := prog_14_method_71_code
def yJ5_inflateIfNeededFor_a7421 : MethodName := ⟨RJ5, "inflateIfNeededFor", "(Ljava/lang/String;)V"⟩
abbrev cJ5_putStringAt_47b60 : ByteArray := prog_14_method_73_code
def yJ5_putStringAt_47b60 : MethodName := ⟨RJ5, "putStringAt", "(ILjava/lang/String;)V"⟩
def RJx2cfe8 : String := "java/lang/Appendable"
def TJx2cfe8 : u_T := fun k => match k with
  | _ => ("", "", "", false)
def tyJx2cfe8 : Nat → FieldType := fun k => match k with
  | _ => .int
abbrev wsJx2cfe80 : List Cond := u_ws RJx2cfe8 TJx2cfe8 0
theorem nmJx2cfe8 : ∀ a, a < 0 → ∀ b, b < 0 → a ≠ b → (TJx2cfe8 a).2.1 ≠ (TJx2cfe8 b).2.1 := by decide +kernel
theorem tyJx2cfe8_ok : ∀ k, k < 0 → parseFieldDescriptor (TJx2cfe8 k).2.2.1 = some (tyJx2cfe8 k) := by decide +kernel
def RJx00060 : String := "java/lang/ArrayIndexOutOfBoundsException"
def TJx00060 : u_T := fun k => match k with
  | 0 => ("java/lang/Throwable", "backtrace", "Ljava/lang/Object;", false)
  | 1 => ("java/lang/Throwable", "detailMessage", "Ljava/lang/String;", false)
  | 2 => ("java/lang/Throwable", "cause", "Ljava/lang/Throwable;", false)
  | 3 => ("java/lang/Throwable", "stackTrace", "[Ljava/lang/StackTraceElement;", false)
  | 4 => ("java/lang/Throwable", "depth", "I", false)
  | _ => ("java/lang/Throwable", "suppressedExceptions", "Ljava/util/List;", false)
def tyJx00060 : Nat → FieldType := fun k => match k with
  | 0 => .object "java/lang/Object"
  | 1 => .object "java/lang/String"
  | 2 => .object "java/lang/Throwable"
  | 3 => .array (.object "java/lang/StackTraceElement")
  | 4 => .int
  | _ => .object "java/util/List"
abbrev wsJx000600 : List Cond := u_ws RJx00060 TJx00060 6
theorem nmJx00060 : ∀ a, a < 6 → ∀ b, b < 6 → a ≠ b → (TJx00060 a).2.1 ≠ (TJx00060 b).2.1 := by decide +kernel
theorem tyJx00060_ok : ∀ k, k < 6 → parseFieldDescriptor (TJx00060 k).2.2.1 = some (tyJx00060 k) := by decide +kernel
abbrev cJx00060_init_a7421 : ByteArray := prog_17_method_2_code
def yJx00060_init_a7421 : MethodName := ⟨RJx00060, "<init>", "(Ljava/lang/String;)V"⟩
abbrev cJx00060_init_d00df : ByteArray := prog_17_method_3_code
def yJx00060_init_d00df : MethodName := ⟨RJx00060, "<init>", "(I)V"⟩
def RJx9f9b0 : String := "java/lang/CharSequence"
def TJx9f9b0 : u_T := fun k => match k with
  | _ => ("", "", "", false)
def tyJx9f9b0 : Nat → FieldType := fun k => match k with
  | _ => .int
abbrev wsJx9f9b00 : List Cond := u_ws RJx9f9b0 TJx9f9b0 0
theorem nmJx9f9b0 : ∀ a, a < 0 → ∀ b, b < 0 → a ≠ b → (TJx9f9b0 a).2.1 ≠ (TJx9f9b0 b).2.1 := by decide +kernel
theorem tyJx9f9b0_ok : ∀ k, k < 0 → parseFieldDescriptor (TJx9f9b0 k).2.2.1 = some (tyJx9f9b0 k) := by decide +kernel
def RJx8e188 : String := "java/lang/Cloneable"
def TJx8e188 : u_T := fun k => match k with
  | _ => ("", "", "", false)
def tyJx8e188 : Nat → FieldType := fun k => match k with
  | _ => .int
abbrev wsJx8e1880 : List Cond := u_ws RJx8e188 TJx8e188 0
theorem nmJx8e188 : ∀ a, a < 0 → ∀ b, b < 0 → a ≠ b → (TJx8e188 a).2.1 ≠ (TJx8e188 b).2.1 := by decide +kernel
theorem tyJx8e188_ok : ∀ k, k < 0 → parseFieldDescriptor (TJx8e188 k).2.2.1 = some (tyJx8e188 k) := by decide +kernel
def RJxb160c : String := "java/lang/Comparable"
def TJxb160c : u_T := fun k => match k with
  | _ => ("", "", "", false)
def tyJxb160c : Nat → FieldType := fun k => match k with
  | _ => .int
abbrev wsJxb160c0 : List Cond := u_ws RJxb160c TJxb160c 0
theorem nmJxb160c : ∀ a, a < 0 → ∀ b, b < 0 → a ≠ b → (TJxb160c a).2.1 ≠ (TJxb160c b).2.1 := by decide +kernel
theorem tyJxb160c_ok : ∀ k, k < 0 → parseFieldDescriptor (TJxb160c k).2.2.1 = some (tyJxb160c k) := by decide +kernel
def RJx29ce0 : String := "java/lang/Enum"
def TJx29ce0 : u_T := fun k => match k with
  | _ => ("", "", "", false)
def tyJx29ce0 : Nat → FieldType := fun k => match k with
  | _ => .int
abbrev wsJx29ce00 : List Cond := u_ws RJx29ce0 TJx29ce0 0
theorem nmJx29ce0 : ∀ a, a < 0 → ∀ b, b < 0 → a ≠ b → (TJx29ce0 a).2.1 ≠ (TJx29ce0 b).2.1 := by decide +kernel
theorem tyJx29ce0_ok : ∀ k, k < 0 → parseFieldDescriptor (TJx29ce0 k).2.2.1 = some (tyJx29ce0 k) := by decide +kernel
abbrev cJx29ce0_ordinal_8abf5 : ByteArray := prog_21_method_2_code
def yJx29ce0_ordinal_8abf5 : MethodName := ⟨RJx29ce0, "ordinal", "()I"⟩
def RJ6 : String := "java/lang/Integer"
def TJ6 : u_T := fun k => match k with
  | _ => ("", "", "", false)
def tyJ6 : Nat → FieldType := fun k => match k with
  | _ => .int
abbrev wsJ60 : List Cond := u_ws RJ6 TJ6 0
theorem nmJ6 : ∀ a, a < 0 → ∀ b, b < 0 → a ≠ b → (TJ6 a).2.1 ≠ (TJ6 b).2.1 := by decide +kernel
theorem tyJ6_ok : ∀ k, k < 0 → parseFieldDescriptor (TJ6 k).2.2.1 = some (tyJ6 k) := by decide +kernel
abbrev cJ6_getChars_ba4f3 : ByteArray := prog_26_method_12_code
def yJ6_getChars_ba4f3 : MethodName := ⟨RJ6, "getChars", "(II[B)I"⟩
abbrev cJ6_stringSize_0f7a4 : ByteArray := prog_26_method_13_code
def yJ6_stringSize_0f7a4 : MethodName := ⟨RJ6, "stringSize", "(I)I"⟩
def RJxab1ab : String := "java/lang/Iterable"
def TJxab1ab : u_T := fun k => match k with
  | _ => ("", "", "", false)
def tyJxab1ab : Nat → FieldType := fun k => match k with
  | _ => .int
abbrev wsJxab1ab0 : List Cond := u_ws RJxab1ab TJxab1ab 0
theorem nmJxab1ab : ∀ a, a < 0 → ∀ b, b < 0 → a ≠ b → (TJxab1ab a).2.1 ≠ (TJxab1ab b).2.1 := by decide +kernel
theorem tyJxab1ab_ok : ∀ k, k < 0 → parseFieldDescriptor (TJxab1ab k).2.2.1 = some (tyJxab1ab k) := by decide +kernel
def RJ9 : String := "java/lang/Math"
def TJ9 : u_T := fun k => match k with
  | _ => ("", "", "", false)
def tyJ9 : Nat → FieldType := fun k => match k with
  | _ => .int
abbrev wsJ90 : List Cond := u_ws RJ9 TJ9 0
theorem nmJ9 : ∀ a, a < 0 → ∀ b, b < 0 → a ≠ b → (TJ9 a).2.1 ≠ (TJ9 b).2.1 := by decide +kernel
theorem tyJ9_ok : ∀ k, k < 0 → parseFieldDescriptor (TJ9 k).2.2.1 = some (tyJ9 k) := by decide +kernel
abbrev cJ9_max_7cf53 : ByteArray := prog_28_method_65_code
def yJ9_max_7cf53 : MethodName := ⟨RJ9, "max", "(II)I"⟩
abbrev cJ9_min_7cf53 : ByteArray := prog_28_method_69_code
def yJ9_min_7cf53 : MethodName := ⟨RJ9, "min", "(II)I"⟩
def RJxd2413 : String := "java/lang/Number"
def TJxd2413 : u_T := fun k => match k with
  | _ => ("", "", "", false)
def tyJxd2413 : Nat → FieldType := fun k => match k with
  | _ => .int
abbrev wsJxd24130 : List Cond := u_ws RJxd2413 TJxd2413 0
theorem nmJxd2413 : ∀ a, a < 0 → ∀ b, b < 0 → a ≠ b → (TJxd2413 a).2.1 ≠ (TJxd2413 b).2.1 := by decide +kernel
theorem tyJxd2413_ok : ∀ k, k < 0 → parseFieldDescriptor (TJxd2413 k).2.2.1 = some (tyJxd2413 k) := by decide +kernel
def RJ0 : String := "java/lang/String"
def TJ0 : u_T := fun k => match k with
  | 0 => ("java/lang/String", "value", "[B", true)
  | 1 => ("java/lang/String", "coder", "B", true)
  | 2 => ("java/lang/String", "hash", "I", false)
  | _ => ("java/lang/String", "hashIsZero", "Z", false)
def tyJ0 : Nat → FieldType := fun k => match k with
  | 0 => .array .byte
  | 1 => .byte
  | 2 => .int
  | _ => .boolean
abbrev wsJ00 : List Cond := u_ws RJ0 TJ0 4
theorem nmJ0 : ∀ a, a < 4 → ∀ b, b < 4 → a ≠ b → (TJ0 a).2.1 ≠ (TJ0 b).2.1 := by decide +kernel
theorem tyJ0_ok : ∀ k, k < 4 → parseFieldDescriptor (TJ0 k).2.2.1 = some (tyJ0 k) := by decide +kernel
abbrev cJ0_init_81219 : ByteArray := prog_31_method_53_code
def yJ0_init_81219 : MethodName := ⟨RJ0, "<init>", "(Ljava/lang/StringBuilder;)V"⟩
abbrev cJ0_length_8abf5 : ByteArray := prog_31_method_54_code
def yJ0_length_8abf5 : MethodName := ⟨RJ0, "length", "()I"⟩
abbrev cJ0_charAt_5068e : ByteArray := prog_31_method_56_code
def yJ0_charAt_5068e : MethodName := ⟨RJ0, "charAt", "(I)C"⟩
abbrev cJ0_getBytes_840e7 : ByteArray := prog_31_method_147_code
def yJ0_getBytes_840e7 : MethodName := ⟨RJ0, "getBytes", "([BIB)V"⟩
abbrev cJ0_init_db425 : ByteArray := prog_31_method_150_code
def yJ0_init_db425 : MethodName := ⟨RJ0, "<init>", "(Ljava/lang/AbstractStringBuilder;Ljava/lang/Void;)V"⟩
abbrev cJ0_coder_7d493 : ByteArray := prog_31_method_152_code
def yJ0_coder_7d493 : MethodName := ⟨RJ0, "coder", "()B"⟩
abbrev cJ0_isLatin1_aae02 : ByteArray := prog_31_method_154_code
def yJ0_isLatin1_aae02 : MethodName := ⟨RJ0, "isLatin1", "()Z"⟩
abbrev cJ0_checkIndex_df160 : ByteArray := prog_31_method_155_code
def yJ0_checkIndex_df160 : MethodName := ⟨RJ0, "checkIndex", "(II)V"⟩
abbrev cJ0_checkBoundsOffCount_cabcc : ByteArray := prog_31_method_157_code
def yJ0_checkBoundsOffCount_cabcc : MethodName := ⟨RJ0, "checkBoundsOffCount", "(III)I"⟩
abbrev cJ0_checkBoundsBeginEnd_23922 : ByteArray := prog_31_method_158_code
def yJ0_checkBoundsBeginEnd_23922 : MethodName := ⟨RJ0, "checkBoundsBeginEnd", "(III)V"⟩
def RJ4 : String := "java/lang/StringBuilder"
def TJ4 : u_T := fun k => match k with
  | 0 => ("java/lang/AbstractStringBuilder", "value", "[B", false)
  | 1 => ("java/lang/AbstractStringBuilder", "coder", "B", false)
  | 2 => ("java/lang/AbstractStringBuilder", "maybeLatin1", "Z", false)
  | _ => ("java/lang/AbstractStringBuilder", "count", "I", false)
def tyJ4 : Nat → FieldType := fun k => match k with
  | 0 => .array .byte
  | 1 => .byte
  | 2 => .boolean
  | _ => .int
abbrev wsJ40 : List Cond := u_ws RJ4 TJ4 4
theorem nmJ4 : ∀ a, a < 4 → ∀ b, b < 4 → a ≠ b → (TJ4 a).2.1 ≠ (TJ4 b).2.1 := by decide +kernel
theorem tyJ4_ok : ∀ k, k < 4 → parseFieldDescriptor (TJ4 k).2.2.1 = some (tyJ4 k) := by decide +kernel
abbrev cJ4_init_da8c8 : ByteArray := prog_32_method_1_code
def yJ4_init_da8c8 : MethodName := ⟨RJ4, "<init>", "()V"⟩
abbrev cJ4_append_15ec4 : ByteArray := prog_32_method_7_code
def yJ4_append_15ec4 : MethodName := ⟨RJ4, "append", "(Ljava/lang/String;)Ljava/lang/StringBuilder;"⟩
abbrev cJ4_append_cf468 : ByteArray := prog_32_method_14_code
def yJ4_append_cf468 : MethodName := ⟨RJ4, "append", "(C)Ljava/lang/StringBuilder;"⟩
abbrev cJ4_append_bf812 : ByteArray := prog_32_method_15_code
def yJ4_append_bf812 : MethodName := ⟨RJ4, "append", "(I)Ljava/lang/StringBuilder;"⟩
abbrev cJ4_toString_0e30d : ByteArray := prog_32_method_42_code
def yJ4_toString_0e30d : MethodName := ⟨RJ4, "toString", "()Ljava/lang/String;"⟩
abbrev cJ4_charAt_5068e : ByteArray := prog_32_method_88_code
def yJ4_charAt_5068e : MethodName := ⟨RJ4, "charAt", "(I)C"⟩
abbrev cJ4_setLength_d00df : ByteArray := prog_32_method_89_code
def yJ4_setLength_d00df : MethodName := ⟨RJ4, "setLength", "(I)V"⟩
abbrev cJ4_length_8abf5 : ByteArray := prog_32_method_93_code
def yJ4_length_8abf5 : MethodName := ⟨RJ4, "length", "()I"⟩
def RJx7c733 : String := "java/lang/StringIndexOutOfBoundsException"
def TJx7c733 : u_T := fun k => match k with
  | 0 => ("java/lang/Throwable", "backtrace", "Ljava/lang/Object;", false)
  | 1 => ("java/lang/Throwable", "detailMessage", "Ljava/lang/String;", false)
  | 2 => ("java/lang/Throwable", "cause", "Ljava/lang/Throwable;", false)
  | 3 => ("java/lang/Throwable", "stackTrace", "[Ljava/lang/StackTraceElement;", false)
  | 4 => ("java/lang/Throwable", "depth", "I", false)
  | _ => ("java/lang/Throwable", "suppressedExceptions", "Ljava/util/List;", false)
def tyJx7c733 : Nat → FieldType := fun k => match k with
  | 0 => .object "java/lang/Object"
  | 1 => .object "java/lang/String"
  | 2 => .object "java/lang/Throwable"
  | 3 => .array (.object "java/lang/StackTraceElement")
  | 4 => .int
  | _ => .object "java/util/List"
abbrev wsJx7c7330 : List Cond := u_ws RJx7c733 TJx7c733 6
theorem nmJx7c733 : ∀ a, a < 6 → ∀ b, b < 6 → a ≠ b → (TJx7c733 a).2.1 ≠ (TJx7c733 b).2.1 := by decide +kernel
theorem tyJx7c733_ok : ∀ k, k < 6 → parseFieldDescriptor (TJx7c733 k).2.2.1 = some (tyJx7c733 k) := by decide +kernel
abbrev cJx7c733_init_d00df : ByteArray := prog_33_method_3_code
def yJx7c733_init_d00df : MethodName := ⟨RJx7c733, "<init>", "(I)V"⟩
def RJ1 : String := "java/lang/StringLatin1"
def TJ1 : u_T := fun k => match k with
  | _ => ("", "", "", false)
def tyJ1 : Nat → FieldType := fun k => match k with
  | _ => .int
abbrev wsJ10 : List Cond := u_ws RJ1 TJ1 0
theorem nmJ1 : ∀ a, a < 0 → ∀ b, b < 0 → a ≠ b → (TJ1 a).2.1 ≠ (TJ1 b).2.1 := by decide +kernel
theorem tyJ1_ok : ∀ k, k < 0 → parseFieldDescriptor (TJ1 k).2.2.1 = some (tyJ1 k) := by decide +kernel
abbrev cJ1_charAt_3b067 : ByteArray := prog_34_method_2_code
def yJ1_charAt_3b067 : MethodName := ⟨RJ1, "charAt", "([BI)C"⟩
abbrev cJ1_canEncode_fc78d : ByteArray := prog_34_method_3_code
def yJ1_canEncode_fc78d : MethodName := ⟨RJ1, "canEncode", "(C)Z"⟩
abbrev cJ1_fillNull_b72d1 : ByteArray := prog_34_method_48_code
def yJ1_fillNull_b72d1 : MethodName := ⟨RJ1, "fillNull", "([BII)V"⟩
abbrev cJ1_inflate_0e8fd : ByteArray := prog_34_method_50_code
def yJ1_inflate_0e8fd : MethodName := ⟨RJ1, "inflate", "([BI[BII)V"⟩
def RJ2 : String := "java/lang/StringUTF16"
def TJ2 : u_T := fun k => match k with
  | _ => ("", "", "", false)
def tyJ2 : Nat → FieldType := fun k => match k with
  | _ => .int
abbrev wsJ20 : List Cond := u_ws RJ2 TJ2 0
theorem nmJ2 : ∀ a, a < 0 → ∀ b, b < 0 → a ≠ b → (TJ2 a).2.1 ≠ (TJ2 b).2.1 := by decide +kernel
theorem tyJ2_ok : ∀ k, k < 0 → parseFieldDescriptor (TJ2 k).2.2.1 = some (tyJ2 k) := by decide +kernel
abbrev cJ2_newBytesFor_77867 : ByteArray := prog_35_method_2_code
def yJ2_newBytesFor_77867 : MethodName := ⟨RJ2, "newBytesFor", "(I)[B"⟩
abbrev cJ2_newBytesLength_0f7a4 : ByteArray := prog_35_method_3_code
def yJ2_newBytesLength_0f7a4 : MethodName := ⟨RJ2, "newBytesLength", "(I)I"⟩
abbrev cJ2_putChar_b72d1 : ByteArray := prog_35_method_4_code
def yJ2_putChar_b72d1 : MethodName := ⟨RJ2, "putChar", "([BII)V"⟩
abbrev cJ2_getChar_3b067 : ByteArray := prog_35_method_5_code
def yJ2_getChar_3b067 : MethodName := ⟨RJ2, "getChar", "([BI)C"⟩
abbrev cJ2_length_9d52b : ByteArray := prog_35_method_6_code
def yJ2_length_9d52b : MethodName := ⟨RJ2, "length", "([B)I"⟩
abbrev cJ2_coderFromArrayLen_85cad : ByteArray := prog_35_method_15_code
def yJ2_coderFromArrayLen_85cad : MethodName := ⟨RJ2, "coderFromArrayLen", "([BI)B"⟩
abbrev cJ2_compress_39247 : ByteArray := prog_35_method_17_code
def yJ2_compress_39247 : MethodName := ⟨RJ2, "compress", "([BII)[B"⟩
abbrev cJ2_compress_5af95 : ByteArray := prog_35_method_22_code
def yJ2_compress_5af95 : MethodName := ⟨RJ2, "compress", "([BI[BII)I"⟩
abbrev cJ2_fillNull_b72d1 : ByteArray := prog_35_method_70_code
def yJ2_fillNull_b72d1 : MethodName := ⟨RJ2, "fillNull", "([BII)V"⟩
abbrev cJ2_putCharSB_b72d1 : ByteArray := prog_35_method_71_code
def yJ2_putCharSB_b72d1 : MethodName := ⟨RJ2, "putCharSB", "([BII)V"⟩
abbrev cJ2_getChars_46870 : ByteArray := prog_35_method_77_code
def yJ2_getChars_46870 : MethodName := ⟨RJ2, "getChars", "(III[B)I"⟩
abbrev cJ2_putCharsAt_cd4e5 : ByteArray := prog_35_method_81_code
def yJ2_putCharsAt_cd4e5 : MethodName := ⟨RJ2, "putCharsAt", "([BICCCC)I"⟩
abbrev cJ2_charAt_3b067 : ByteArray := prog_35_method_83_code
def yJ2_charAt_3b067 : MethodName := ⟨RJ2, "charAt", "([BI)C"⟩
abbrev cJ2_inflate_0e8fd : ByteArray := prog_35_method_86_code
def yJ2_inflate_0e8fd : MethodName := ⟨RJ2, "inflate", "([BI[BII)V"⟩
abbrev cJ2_getChars_ba4f3 : ByteArray := prog_35_method_89_code
def yJ2_getChars_ba4f3 : MethodName := ⟨RJ2, "getChars", "(II[B)I"⟩
abbrev cJ2_checkIndex_2214a : ByteArray := prog_35_method_91_code
def yJ2_checkIndex_2214a : MethodName := ⟨RJ2, "checkIndex", "(I[B)V"⟩
abbrev cJ2_checkBoundsBeginEnd_d044e : ByteArray := prog_35_method_93_code
def yJ2_checkBoundsBeginEnd_d044e : MethodName := ⟨RJ2, "checkBoundsBeginEnd", "(II[B)V"⟩
abbrev cJ2_checkBoundsOffCount_d044e : ByteArray := prog_35_method_94_code
def yJ2_checkBoundsOffCount_d044e : MethodName := ⟨RJ2, "checkBoundsOffCount", "(II[B)V"⟩
def RJ10 : String := "java/lang/System"
def TJ10 : u_T := fun k => match k with
  | _ => ("", "", "", false)
def tyJ10 : Nat → FieldType := fun k => match k with
  | _ => .int
abbrev wsJ100 : List Cond := u_ws RJ10 TJ10 0
theorem nmJ10 : ∀ a, a < 0 → ∀ b, b < 0 → a ≠ b → (TJ10 a).2.1 ≠ (TJ10 b).2.1 := by decide +kernel
theorem tyJ10_ok : ∀ k, k < 0 → parseFieldDescriptor (TJ10 k).2.2.1 = some (tyJ10 k) := by decide +kernel
def RJxfd54e : String := "java/lang/constant/Constable"
def TJxfd54e : u_T := fun k => match k with
  | _ => ("", "", "", false)
def tyJxfd54e : Nat → FieldType := fun k => match k with
  | _ => .int
abbrev wsJxfd54e0 : List Cond := u_ws RJxfd54e TJxfd54e 0
theorem nmJxfd54e : ∀ a, a < 0 → ∀ b, b < 0 → a ≠ b → (TJxfd54e a).2.1 ≠ (TJxfd54e b).2.1 := by decide +kernel
theorem tyJxfd54e_ok : ∀ k, k < 0 → parseFieldDescriptor (TJxfd54e k).2.2.1 = some (tyJxfd54e k) := by decide +kernel
def RJx3cf43 : String := "java/lang/constant/ConstantDesc"
def TJx3cf43 : u_T := fun k => match k with
  | _ => ("", "", "", false)
def tyJx3cf43 : Nat → FieldType := fun k => match k with
  | _ => .int
abbrev wsJx3cf430 : List Cond := u_ws RJx3cf43 TJx3cf43 0
theorem nmJx3cf43 : ∀ a, a < 0 → ∀ b, b < 0 → a ≠ b → (TJx3cf43 a).2.1 ≠ (TJx3cf43 b).2.1 := by decide +kernel
theorem tyJx3cf43_ok : ∀ k, k < 0 → parseFieldDescriptor (TJx3cf43 k).2.2.1 = some (tyJx3cf43 k) := by decide +kernel
def RJxa1e45 : String := "java/util/AbstractCollection"
def TJxa1e45 : u_T := fun k => match k with
  | _ => ("", "", "", false)
def tyJxa1e45 : Nat → FieldType := fun k => match k with
  | _ => .int
abbrev wsJxa1e450 : List Cond := u_ws RJxa1e45 TJxa1e45 0
theorem nmJxa1e45 : ∀ a, a < 0 → ∀ b, b < 0 → a ≠ b → (TJxa1e45 a).2.1 ≠ (TJxa1e45 b).2.1 := by decide +kernel
theorem tyJxa1e45_ok : ∀ k, k < 0 → parseFieldDescriptor (TJxa1e45 k).2.2.1 = some (tyJxa1e45 k) := by decide +kernel
abbrev cJxa1e45_init_da8c8 : ByteArray := prog_40_method_1_code
def yJxa1e45_init_da8c8 : MethodName := ⟨RJxa1e45, "<init>", "()V"⟩
def RJxc12de : String := "java/util/AbstractList"
def TJxc12de : u_T := fun k => match k with
  | _ => ("", "", "", false)
def tyJxc12de : Nat → FieldType := fun k => match k with
  | _ => .int
abbrev wsJxc12de0 : List Cond := u_ws RJxc12de TJxc12de 0
theorem nmJxc12de : ∀ a, a < 0 → ∀ b, b < 0 → a ≠ b → (TJxc12de a).2.1 ≠ (TJxc12de b).2.1 := by decide +kernel
theorem tyJxc12de_ok : ∀ k, k < 0 → parseFieldDescriptor (TJxc12de k).2.2.1 = some (tyJxc12de k) := by decide +kernel
abbrev cJxc12de_init_da8c8 : ByteArray := prog_41_method_1_code
def yJxc12de_init_da8c8 : MethodName := ⟨RJxc12de, "<init>", "()V"⟩
def RJx4a65c : String := "java/util/ArrayList"
def TJx4a65c : u_T := fun k => match k with
  | 0 => ("java/util/AbstractList", "modCount", "I", false)
  | 1 => ("java/util/ArrayList", "elementData", "[Ljava/lang/Object;", false)
  | _ => ("java/util/ArrayList", "size", "I", false)
def tyJx4a65c : Nat → FieldType := fun k => match k with
  | 0 => .int
  | 1 => .array (.object "java/lang/Object")
  | _ => .int
abbrev wsJx4a65c0 : List Cond := u_ws RJx4a65c TJx4a65c 3
theorem nmJx4a65c : ∀ a, a < 3 → ∀ b, b < 3 → a ≠ b → (TJx4a65c a).2.1 ≠ (TJx4a65c b).2.1 := by decide +kernel
theorem tyJx4a65c_ok : ∀ k, k < 3 → parseFieldDescriptor (TJx4a65c k).2.2.1 = some (tyJx4a65c k) := by decide +kernel
abbrev cJx4a65c_init_da8c8 : ByteArray := prog_42_method_2_code
def yJx4a65c_init_da8c8 : MethodName := ⟨RJx4a65c, "<init>", "()V"⟩
abbrev cJx4a65c_grow_92f84 : ByteArray := prog_42_method_6_code
def yJx4a65c_grow_92f84 : MethodName := ⟨RJx4a65c, "grow", "(I)[Ljava/lang/Object;"⟩
abbrev cJx4a65c_grow_d5877 : ByteArray := prog_42_method_7_code
def yJx4a65c_grow_d5877 : MethodName := ⟨RJx4a65c, "grow", "()[Ljava/lang/Object;"⟩
abbrev cJx4a65c_size_8abf5 : ByteArray := prog_42_method_8_code
def yJx4a65c_size_8abf5 : MethodName := ⟨RJx4a65c, "size", "()I"⟩
abbrev cJx4a65c_elementData_915e3 : ByteArray := prog_42_method_18_code
def yJx4a65c_elementData_915e3 : MethodName := ⟨RJx4a65c, "elementData", "(I)Ljava/lang/Object;"⟩
abbrev cJx4a65c_get_915e3 : ByteArray := prog_42_method_20_code
def yJx4a65c_get_915e3 : MethodName := ⟨RJx4a65c, "get", "(I)Ljava/lang/Object;"⟩
abbrev cJx4a65c_add_72be8 : ByteArray := prog_42_method_24_code
def yJx4a65c_add_72be8 : MethodName := ⟨RJx4a65c, "add", "(Ljava/lang/Object;[Ljava/lang/Object;I)V"⟩
abbrev cJx4a65c_add_9ea2d : ByteArray := prog_42_method_25_code
def yJx4a65c_add_9ea2d : MethodName := ⟨RJx4a65c, "add", "(Ljava/lang/Object;)Z"⟩
abbrev cJx4a65c_remove_915e3 : ByteArray := prog_42_method_29_code
def yJx4a65c_remove_915e3 : MethodName := ⟨RJx4a65c, "remove", "(I)Ljava/lang/Object;"⟩
abbrev cJx4a65c_fastRemove_b59b0 : ByteArray := prog_42_method_39_code
def yJx4a65c_fastRemove_b59b0 : MethodName := ⟨RJx4a65c, "fastRemove", "([Ljava/lang/Object;I)V"⟩
abbrev cJx4a65c_clear_da8c8 : ByteArray := prog_42_method_40_code
def yJx4a65c_clear_da8c8 : MethodName := ⟨RJx4a65c, "clear", "()V"⟩
def RJ7 : String := "java/util/Arrays"
def TJ7 : u_T := fun k => match k with
  | _ => ("", "", "", false)
def tyJ7 : Nat → FieldType := fun k => match k with
  | _ => .int
abbrev wsJ70 : List Cond := u_ws RJ7 TJ7 0
theorem nmJ7 : ∀ a, a < 0 → ∀ b, b < 0 → a ≠ b → (TJ7 a).2.1 ≠ (TJ7 b).2.1 := by decide +kernel
theorem tyJ7_ok : ∀ k, k < 0 → parseFieldDescriptor (TJ7 k).2.2.1 = some (tyJ7 k) := by decide +kernel
abbrev cJ7_rangeCheck_23922 : ByteArray := prog_43_method_30_code
def yJ7_rangeCheck_23922 : MethodName := ⟨RJ7, "rangeCheck", "(III)V"⟩
abbrev cJ7_fill_eb02e : ByteArray := prog_43_method_110_code
def yJ7_fill_eb02e : MethodName := ⟨RJ7, "fill", "([BIIB)V"⟩
abbrev cJ7_copyOf_1904c : ByteArray := prog_43_method_119_code
def yJ7_copyOf_1904c : MethodName := ⟨RJ7, "copyOf", "([Ljava/lang/Object;I)[Ljava/lang/Object;"⟩
abbrev cJ7_copyOf_6403c : ByteArray := prog_43_method_120_code
def yJ7_copyOf_6403c : MethodName := ⟨RJ7, "copyOf", "([Ljava/lang/Object;ILjava/lang/Class;)[Ljava/lang/Object;"⟩
abbrev cJ7_copyOf_9075b : ByteArray := prog_43_method_121_code
def yJ7_copyOf_9075b : MethodName := ⟨RJ7, "copyOf", "([BI)[B"⟩
abbrev cJ7_checkLength_df160 : ByteArray := prog_43_method_131_code
def yJ7_checkLength_df160 : MethodName := ⟨RJ7, "checkLength", "(II)V"⟩
abbrev cJ7_copyOfRange_39247 : ByteArray := prog_43_method_132_code
def yJ7_copyOfRange_39247 : MethodName := ⟨RJ7, "copyOfRange", "([BII)[B"⟩
abbrev cJ7_copyOfRangeByte_39247 : ByteArray := prog_43_method_133_code
def yJ7_copyOfRangeByte_39247 : MethodName := ⟨RJ7, "copyOfRangeByte", "([BII)[B"⟩
def RJx5ef63 : String := "java/util/Collection"
def TJx5ef63 : u_T := fun k => match k with
  | _ => ("", "", "", false)
def tyJx5ef63 : Nat → FieldType := fun k => match k with
  | _ => .int
abbrev wsJx5ef630 : List Cond := u_ws RJx5ef63 TJx5ef63 0
theorem nmJx5ef63 : ∀ a, a < 0 → ∀ b, b < 0 → a ≠ b → (TJx5ef63 a).2.1 ≠ (TJx5ef63 b).2.1 := by decide +kernel
theorem tyJx5ef63_ok : ∀ k, k < 0 → parseFieldDescriptor (TJx5ef63 k).2.2.1 = some (tyJx5ef63 k) := by decide +kernel
def RJxbd725 : String := "java/util/List"
def TJxbd725 : u_T := fun k => match k with
  | _ => ("", "", "", false)
def tyJxbd725 : Nat → FieldType := fun k => match k with
  | _ => .int
abbrev wsJxbd7250 : List Cond := u_ws RJxbd725 TJxbd725 0
theorem nmJxbd725 : ∀ a, a < 0 → ∀ b, b < 0 → a ≠ b → (TJxbd725 a).2.1 ≠ (TJxbd725 b).2.1 := by decide +kernel
theorem tyJxbd725_ok : ∀ k, k < 0 → parseFieldDescriptor (TJxbd725 k).2.2.1 = some (tyJxbd725 k) := by decide +kernel
def RJ15 : String := "java/util/Objects"
def TJ15 : u_T := fun k => match k with
  | _ => ("", "", "", false)
def tyJ15 : Nat → FieldType := fun k => match k with
  | _ => .int
abbrev wsJ150 : List Cond := u_ws RJ15 TJ15 0
theorem nmJ15 : ∀ a, a < 0 → ∀ b, b < 0 → a ≠ b → (TJ15 a).2.1 ≠ (TJ15 b).2.1 := by decide +kernel
theorem tyJ15_ok : ∀ k, k < 0 → parseFieldDescriptor (TJ15 k).2.2.1 = some (tyJ15 k) := by decide +kernel
abbrev cJ15_checkIndex_7cf53 : ByteArray := prog_47_method_17_code
def yJ15_checkIndex_7cf53 : MethodName := ⟨RJ15, "checkIndex", "(II)I"⟩
def RJxf0a74 : String := "java/util/RandomAccess"
def TJxf0a74 : u_T := fun k => match k with
  | _ => ("", "", "", false)
def tyJxf0a74 : Nat → FieldType := fun k => match k with
  | _ => .int
abbrev wsJxf0a740 : List Cond := u_ws RJxf0a74 TJxf0a74 0
theorem nmJxf0a74 : ∀ a, a < 0 → ∀ b, b < 0 → a ≠ b → (TJxf0a74 a).2.1 ≠ (TJxf0a74 b).2.1 := by decide +kernel
theorem tyJxf0a74_ok : ∀ k, k < 0 → parseFieldDescriptor (TJxf0a74 k).2.2.1 = some (tyJxf0a74 k) := by decide +kernel
def RJxa66e6 : String := "java/util/SequencedCollection"
def TJxa66e6 : u_T := fun k => match k with
  | _ => ("", "", "", false)
def tyJxa66e6 : Nat → FieldType := fun k => match k with
  | _ => .int
abbrev wsJxa66e60 : List Cond := u_ws RJxa66e6 TJxa66e6 0
theorem nmJxa66e6 : ∀ a, a < 0 → ∀ b, b < 0 → a ≠ b → (TJxa66e6 a).2.1 ≠ (TJxa66e6 b).2.1 := by decide +kernel
theorem tyJxa66e6_ok : ∀ k, k < 0 → parseFieldDescriptor (TJxa66e6 k).2.2.1 = some (tyJxa66e6 k) := by decide +kernel
def RJ8 : String := "jdk/internal/util/ArraysSupport"
def TJ8 : u_T := fun k => match k with
  | _ => ("", "", "", false)
def tyJ8 : Nat → FieldType := fun k => match k with
  | _ => .int
abbrev wsJ80 : List Cond := u_ws RJ8 TJ8 0
theorem nmJ8 : ∀ a, a < 0 → ∀ b, b < 0 → a ≠ b → (TJ8 a).2.1 ≠ (TJ8 b).2.1 := by decide +kernel
theorem tyJ8_ok : ∀ k, k < 0 → parseFieldDescriptor (TJ8 k).2.2.1 = some (tyJ8 k) := by decide +kernel
abbrev cJ8_newLength_cabcc : ByteArray := prog_50_method_27_code
def yJ8_newLength_cabcc : MethodName := ⟨RJ8, "newLength", "(III)I"⟩
abbrev cJ8_hugeLength_7cf53 : ByteArray := prog_50_method_28_code
def yJ8_hugeLength_7cf53 : MethodName := ⟨RJ8, "hugeLength", "(II)I"⟩
def RJ3 : String := "jdk/internal/util/Preconditions"
def TJ3 : u_T := fun k => match k with
  | _ => ("", "", "", false)
def tyJ3 : Nat → FieldType := fun k => match k with
  | _ => .int
abbrev wsJ30 : List Cond := u_ws RJ3 TJ3 0
theorem nmJ3 : ∀ a, a < 0 → ∀ b, b < 0 → a ≠ b → (TJ3 a).2.1 ≠ (TJ3 b).2.1 := by decide +kernel
theorem tyJ3_ok : ∀ k, k < 0 → parseFieldDescriptor (TJ3 k).2.2.1 = some (tyJ3 k) := by decide +kernel
abbrev cJ3_checkIndex_8e157 : ByteArray := prog_51_method_11_code
def yJ3_checkIndex_8e157 : MethodName := ⟨RJ3, "checkIndex", "(IILjava/util/function/BiFunction;)I"⟩
abbrev cJ3_checkFromToIndex_8c36e : ByteArray := prog_51_method_12_code
def yJ3_checkFromToIndex_8c36e : MethodName := ⟨RJ3, "checkFromToIndex", "(IIILjava/util/function/BiFunction;)I"⟩
abbrev cJ3_checkFromIndexSize_8c36e : ByteArray := prog_51_method_13_code
def yJ3_checkFromIndexSize_8c36e : MethodName := ⟨RJ3, "checkFromIndexSize", "(IIILjava/util/function/BiFunction;)I"⟩
def RL : String := "MailOfficeLaw"
abbrev cL_law : ByteArray := code
def yL_law : MethodName := ⟨RL, "law", "([I)Z"⟩
set_option maxRecDepth 100000 in
theorem inX0 : ∀ w ∈ wsX00, w ∈ lw_tbl := by decide +kernel
set_option maxRecDepth 100000 in
theorem inX1 : ∀ w ∈ wsX10, w ∈ lw_tbl := by decide +kernel
set_option maxRecDepth 100000 in
theorem inX2 : ∀ w ∈ wsX20, w ∈ lw_tbl := by decide +kernel
set_option maxRecDepth 100000 in
theorem inX3 : ∀ w ∈ wsX30, w ∈ lw_tbl := by decide +kernel
set_option maxRecDepth 100000 in
theorem inX4 : ∀ w ∈ wsX40, w ∈ lw_tbl := by decide +kernel
set_option maxRecDepth 100000 in
theorem inX5 : ∀ w ∈ wsX50, w ∈ lw_tbl := by decide +kernel
set_option maxRecDepth 100000 in
theorem inX6 : ∀ w ∈ wsX60, w ∈ lw_tbl := by decide +kernel
set_option maxRecDepth 100000 in
theorem inX7 : ∀ w ∈ wsX70, w ∈ lw_tbl := by decide +kernel
set_option maxRecDepth 100000 in
theorem inX8 : ∀ w ∈ wsX80, w ∈ lw_tbl := by decide +kernel
set_option maxRecDepth 100000 in
theorem inX9 : ∀ w ∈ wsX90, w ∈ lw_tbl := by decide +kernel
set_option maxRecDepth 100000 in
theorem inJx145de : ∀ w ∈ wsJx145de0, w ∈ lw_tbl := by decide +kernel
set_option maxRecDepth 100000 in
theorem inJ5 : ∀ w ∈ wsJ50, w ∈ lw_tbl := by decide +kernel
set_option maxRecDepth 100000 in
theorem inJx2cfe8 : ∀ w ∈ wsJx2cfe80, w ∈ lw_tbl := by decide +kernel
set_option maxRecDepth 100000 in
theorem inJx00060 : ∀ w ∈ wsJx000600, w ∈ lw_tbl := by decide +kernel
set_option maxRecDepth 100000 in
theorem inJx9f9b0 : ∀ w ∈ wsJx9f9b00, w ∈ lw_tbl := by decide +kernel
set_option maxRecDepth 100000 in
theorem inJx8e188 : ∀ w ∈ wsJx8e1880, w ∈ lw_tbl := by decide +kernel
set_option maxRecDepth 100000 in
theorem inJxb160c : ∀ w ∈ wsJxb160c0, w ∈ lw_tbl := by decide +kernel
set_option maxRecDepth 100000 in
theorem inJx29ce0 : ∀ w ∈ wsJx29ce00, w ∈ lw_tbl := by decide +kernel
set_option maxRecDepth 100000 in
theorem inJ6 : ∀ w ∈ wsJ60, w ∈ lw_tbl := by decide +kernel
set_option maxRecDepth 100000 in
theorem inJxab1ab : ∀ w ∈ wsJxab1ab0, w ∈ lw_tbl := by decide +kernel
set_option maxRecDepth 100000 in
theorem inJ9 : ∀ w ∈ wsJ90, w ∈ lw_tbl := by decide +kernel
set_option maxRecDepth 100000 in
theorem inJxd2413 : ∀ w ∈ wsJxd24130, w ∈ lw_tbl := by decide +kernel
set_option maxRecDepth 100000 in
theorem inJ0 : ∀ w ∈ wsJ00, w ∈ lw_tbl := by decide +kernel
set_option maxRecDepth 100000 in
theorem inJ4 : ∀ w ∈ wsJ40, w ∈ lw_tbl := by decide +kernel
set_option maxRecDepth 100000 in
theorem inJx7c733 : ∀ w ∈ wsJx7c7330, w ∈ lw_tbl := by decide +kernel
set_option maxRecDepth 100000 in
theorem inJ1 : ∀ w ∈ wsJ10, w ∈ lw_tbl := by decide +kernel
set_option maxRecDepth 100000 in
theorem inJ2 : ∀ w ∈ wsJ20, w ∈ lw_tbl := by decide +kernel
set_option maxRecDepth 100000 in
theorem inJ10 : ∀ w ∈ wsJ100, w ∈ lw_tbl := by decide +kernel
set_option maxRecDepth 100000 in
theorem inJxfd54e : ∀ w ∈ wsJxfd54e0, w ∈ lw_tbl := by decide +kernel
set_option maxRecDepth 100000 in
theorem inJx3cf43 : ∀ w ∈ wsJx3cf430, w ∈ lw_tbl := by decide +kernel
set_option maxRecDepth 100000 in
theorem inJxa1e45 : ∀ w ∈ wsJxa1e450, w ∈ lw_tbl := by decide +kernel
set_option maxRecDepth 100000 in
theorem inJxc12de : ∀ w ∈ wsJxc12de0, w ∈ lw_tbl := by decide +kernel
set_option maxRecDepth 100000 in
theorem inJx4a65c : ∀ w ∈ wsJx4a65c0, w ∈ lw_tbl := by decide +kernel
set_option maxRecDepth 100000 in
theorem inJ7 : ∀ w ∈ wsJ70, w ∈ lw_tbl := by decide +kernel
set_option maxRecDepth 100000 in
theorem inJx5ef63 : ∀ w ∈ wsJx5ef630, w ∈ lw_tbl := by decide +kernel
set_option maxRecDepth 100000 in
theorem inJxbd725 : ∀ w ∈ wsJxbd7250, w ∈ lw_tbl := by decide +kernel
set_option maxRecDepth 100000 in
theorem inJ15 : ∀ w ∈ wsJ150, w ∈ lw_tbl := by decide +kernel
set_option maxRecDepth 100000 in
theorem inJxf0a74 : ∀ w ∈ wsJxf0a740, w ∈ lw_tbl := by decide +kernel
set_option maxRecDepth 100000 in
theorem inJxa66e6 : ∀ w ∈ wsJxa66e60, w ∈ lw_tbl := by decide +kernel
set_option maxRecDepth 100000 in
theorem inJ8 : ∀ w ∈ wsJ80, w ∈ lw_tbl := by decide +kernel
set_option maxRecDepth 100000 in
theorem inJ3 : ∀ w ∈ wsJ30, w ∈ lw_tbl := by decide +kernel
abbrev vwCl : List vw_C := [(RJ0, TJ0, 4), (RJ4, TJ4, 4), (RJx00060, TJx00060, 6), (RJx7c733, TJx7c733, 6), (RJx4a65c, TJx4a65c, 3), (RX1, TX1, 4), (RX3, TX3, 7), (RX4, TX4, 11), (RX5, TX5, 4), (RX6, TX6, 5), (RX7, TX7, 3), (RX8, TX8, 2), (RX9, TX9, 9)]
abbrev cL_cell : ByteArray := method_2_code
def yL_cell : MethodName := ⟨RL, "cell", "([II)I"⟩
abbrev cL_pick : ByteArray := method_3_code
def yL_pick : MethodName := ⟨RL, "pick", "([III)I"⟩
abbrev cL_plain : ByteArray := method_4_code
def yL_plain : MethodName := ⟨RL, "plain", "(LMailOffice;IIII)I"⟩
abbrev cL_deed : ByteArray := method_5_code
def yL_deed : MethodName := ⟨RL, "deed", "(LMailOffice;IIII)I"⟩
abbrev cL_told : ByteArray := method_6_code
def yL_told : MethodName := ⟨RL, "told", "(Z)I"⟩
abbrev cL_asked : ByteArray := method_7_code
def yL_asked : MethodName := ⟨RL, "asked", "(LMailOffice;III)I"⟩
abbrev cL_ask : ByteArray := method_8_code
def yL_ask : MethodName := ⟨RL, "ask", "(LMailOffice;III)I"⟩
abbrev cL_code : ByteArray := method_9_code
def yL_code : MethodName := ⟨RL, "code", "([II)I"⟩
abbrev cL_prefix : ByteArray := method_10_code
def yL_prefix : MethodName := ⟨RL, "prefix", "(LMailOffice;[II)I"⟩
abbrev cL_lay : ByteArray := method_11_code
def yL_lay : MethodName := ⟨RL, "lay", "(LMailOffice;[I)V"⟩
abbrev cL_id : ByteArray := method_12_code
def yL_id : MethodName := ⟨RL, "id", "(LMailOffice;I)I"⟩
abbrev cL_any : ByteArray := method_13_code
def yL_any : MethodName := ⟨RL, "any", "(LMailOffice;[II)I"⟩
abbrev cL_route : ByteArray := method_15_code
def yL_route : MethodName := ⟨RL, "route", "(LMailOffice;I)I"⟩
abbrev cL_bag : ByteArray := method_16_code
def yL_bag : MethodName := ⟨RL, "bag", "(LMailOffice;II)I"⟩
abbrev cL_put : ByteArray := method_17_code
def yL_put : MethodName := ⟨RL, "put", "(LMailOffice;II)I"⟩
abbrev cL_sorted : ByteArray := method_18_code
def yL_sorted : MethodName := ⟨RL, "sorted", "(LMailOffice;I)I"⟩
abbrev cL_longest : ByteArray := method_19_code
def yL_longest : MethodName := ⟨RL, "longest", "(LMailOffice;I)I"⟩
abbrev cL_areRoutesRight : ByteArray := method_20_code
def yL_areRoutesRight : MethodName := ⟨RL, "areRoutesRight", "(LMailOffice;[II)Z"⟩
abbrev cL_areCodesRight : ByteArray := method_21_code
def yL_areCodesRight : MethodName := ⟨RL, "areCodesRight", "(LMailOffice;)Z"⟩
abbrev cL_areBagsRight : ByteArray := method_22_code
def yL_areBagsRight : MethodName := ⟨RL, "areBagsRight", "(LMailOffice;)Z"⟩
abbrev cL_isLine : ByteArray := method_23_code
def yL_isLine : MethodName := ⟨RL, "isLine", "(LMailOffice;ILjava/lang/String;)Z"⟩
abbrev cL_isLetterRight : ByteArray := method_24_code
def yL_isLetterRight : MethodName := ⟨RL, "isLetterRight", "(LMailOffice;I)Z"⟩
abbrev cL_areLettersRight : ByteArray := method_25_code
def yL_areLettersRight : MethodName := ⟨RL, "areLettersRight", "(LMailOffice;)Z"⟩
abbrev cL_areRanksRight : ByteArray := method_26_code
def yL_areRanksRight : MethodName := ⟨RL, "areRanksRight", "(LMailOffice;)Z"⟩

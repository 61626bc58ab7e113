/-! THE PROGRAM AS DATA, printed by wip/gen/emit.py out of javap's listing -/
def RX0 : String := "NextAtBar$Guest"
def TX0 : u_T := fun k => match k with
  | 0 => ("NextAtBar$Guest", "manner", "I", false)
  | 1 => ("NextAtBar$Guest", "by", "I", false)
  | 2 => ("NextAtBar$Guest", "comes", "I", false)
  | 3 => ("NextAtBar$Guest", "place", "I", false)
  | 4 => ("NextAtBar$Guest", "patience", "I", false)
  | 5 => ("NextAtBar$Guest", "look", "I", false)
  | 6 => ("NextAtBar$Guest", "shelf", "I", false)
  | 7 => ("NextAtBar$Guest", "says", "I", false)
  | 8 => ("NextAtBar$Guest", "state", "I", false)
  | 9 => ("NextAtBar$Guest", "begun", "I", false)
  | 10 => ("NextAtBar$Guest", "has", "I", false)
  | 11 => ("NextAtBar$Guest", "until", "I", false)
  | 12 => ("NextAtBar$Guest", "server", "I", false)
  | 13 => ("NextAtBar$Guest", "passed", "I", false)
  | _ => ("NextAtBar$Guest", "pushed", "I", false)
def tyX0 : Nat → FieldType := fun k => match k with
  | 0 => .int
  | 1 => .int
  | 2 => .int
  | 3 => .int
  | 4 => .int
  | 5 => .int
  | 6 => .int
  | 7 => .int
  | 8 => .int
  | 9 => .int
  | 10 => .int
  | 11 => .int
  | 12 => .int
  | 13 => .int
  | _ => .int
theorem nmX0 : ∀ a, a < 15 → ∀ b, b < 15 → a ≠ b → (TX0 a).2.1 ≠ (TX0 b).2.1 := by decide +kernel
theorem tyX0_ok : ∀ k, k < 15 → parseFieldDescriptor (TX0 k).2.2.1 = some (tyX0 k) := by decide +kernel
abbrev cX0_init : ByteArray := prog_2_method_1_code
def yX0_init : MethodName := ⟨RX0, "<init>", "()V"⟩
abbrev cX0_take : ByteArray := prog_2_method_2_code
def yX0_take : MethodName := ⟨RX0, "take", "(LNextAtBar$Guest;)V"⟩
abbrev cX0_behave : ByteArray := prog_2_method_3_code
def yX0_behave : MethodName := ⟨RX0, "behave", "(II)V"⟩
abbrev cX0_isServed : ByteArray := prog_2_method_4_code
def yX0_isServed : MethodName := ⟨RX0, "isServed", "()Z"⟩
def RX1 : String := "NextAtBar$House"
def TX1 : u_T := fun k => match k with
  | 0 => ("NextAtBar$House", "takes", "[I", true)
  | 1 => ("NextAtBar$House", "then", "[I", true)
  | 2 => ("NextAtBar$House", "price", "[I", true)
  | 3 => ("NextAtBar$House", "glasses", "[[I", true)
  | 4 => ("NextAtBar$House", "guests", "[LNextAtBar$Guest;", true)
  | 5 => ("NextAtBar$House", "servers", "[LNextAtBar$Server;", true)
  | 6 => ("NextAtBar$House", "teller", "[I", true)
  | 7 => ("NextAtBar$House", "earlier", "[I", true)
  | 8 => ("NextAtBar$House", "later", "[I", true)
  | 9 => ("NextAtBar$House", "places", "I", false)
  | 10 => ("NextAtBar$House", "bell", "I", false)
  | 11 => ("NextAtBar$House", "drinks", "I", false)
  | 12 => ("NextAtBar$House", "staff", "I", false)
  | 13 => ("NextAtBar$House", "people", "I", false)
  | 14 => ("NextAtBar$House", "shelves", "I", false)
  | _ => ("NextAtBar$House", "tellings", "I", false)
def tyX1 : Nat → FieldType := fun k => match k with
  | 0 => .array .int
  | 1 => .array .int
  | 2 => .array .int
  | 3 => .array (.array .int)
  | 4 => .array (.object "NextAtBar$Guest")
  | 5 => .array (.object "NextAtBar$Server")
  | 6 => .array .int
  | 7 => .array .int
  | 8 => .array .int
  | 9 => .int
  | 10 => .int
  | 11 => .int
  | 12 => .int
  | 13 => .int
  | 14 => .int
  | _ => .int
theorem nmX1 : ∀ a, a < 16 → ∀ b, b < 16 → a ≠ b → (TX1 a).2.1 ≠ (TX1 b).2.1 := by decide +kernel
theorem tyX1_ok : ∀ k, k < 16 → parseFieldDescriptor (TX1 k).2.2.1 = some (tyX1 k) := by decide +kernel
abbrev cX1_init : ByteArray := prog_3_method_1_code
def yX1_init : MethodName := ⟨RX1, "<init>", "()V"⟩
abbrev cX1_empty : ByteArray := prog_3_method_2_code
def yX1_empty : MethodName := ⟨RX1, "empty", "()V"⟩
abbrev cX1_timeBehind : ByteArray := prog_3_method_3_code
def yX1_timeBehind : MethodName := ⟨RX1, "timeBehind", "(II)I"⟩
abbrev cX1_priceOf : ByteArray := prog_3_method_4_code
def yX1_priceOf : MethodName := ⟨RX1, "priceOf", "(I)I"⟩
abbrev cX1_cameAhead : ByteArray := prog_3_method_5_code
def yX1_cameAhead : MethodName := ⟨RX1, "cameAhead", "(II)Z"⟩
def RX2 : String := "NextAtBar$Reader"
def TX2 : u_T := fun k => match k with
  | 0 => ("NextAtBar$Reader", "tokens", "LNextAtBar$Tokens;", true)
  | 1 => ("NextAtBar$Reader", "names", "[J", true)
  | 2 => ("NextAtBar$Reader", "sorts", "[I", true)
  | 3 => ("NextAtBar$Reader", "numbers", "[I", true)
  | 4 => ("NextAtBar$Reader", "house", "LNextAtBar$House;", false)
  | 5 => ("NextAtBar$Reader", "nameCount", "I", false)
  | 6 => ("NextAtBar$Reader", "current", "I", false)
  | 7 => ("NextAtBar$Reader", "kind", "I", false)
  | 8 => ("NextAtBar$Reader", "value", "J", false)
  | 9 => ("NextAtBar$Reader", "fault", "I", false)
  | _ => ("NextAtBar$Reader", "place", "I", false)
def tyX2 : Nat → FieldType := fun k => match k with
  | 0 => .object "NextAtBar$Tokens"
  | 1 => .array .long
  | 2 => .array .int
  | 3 => .array .int
  | 4 => .object "NextAtBar$House"
  | 5 => .int
  | 6 => .int
  | 7 => .int
  | 8 => .long
  | 9 => .int
  | _ => .int
theorem nmX2 : ∀ a, a < 11 → ∀ b, b < 11 → a ≠ b → (TX2 a).2.1 ≠ (TX2 b).2.1 := by decide +kernel
theorem tyX2_ok : ∀ k, k < 11 → parseFieldDescriptor (TX2 k).2.2.1 = some (tyX2 k) := by decide +kernel
abbrev cX2_init : ByteArray := prog_4_method_1_code
def yX2_init : MethodName := ⟨RX2, "<init>", "(LNextAtBar$House;)V"⟩
abbrev cX2_reads : ByteArray := prog_4_method_2_code
def yX2_reads : MethodName := ⟨RX2, "reads", "([BILNextAtBar$House;)Z"⟩
abbrev cX2_step : ByteArray := prog_4_method_3_code
def yX2_step : MethodName := ⟨RX2, "step", "()V"⟩
abbrev cX2_fail : ByteArray := prog_4_method_4_code
def yX2_fail : MethodName := ⟨RX2, "fail", "(I)V"⟩
abbrev cX2_stands : ByteArray := prog_4_method_5_code
def yX2_stands : MethodName := ⟨RX2, "stands", "(Ljava/lang/String;)Z"⟩
abbrev cX2_readEnd : ByteArray := prog_4_method_6_code
def yX2_readEnd : MethodName := ⟨RX2, "readEnd", "()V"⟩
abbrev cX2_readLine : ByteArray := prog_4_method_7_code
def yX2_readLine : MethodName := ⟨RX2, "readLine", "()V"⟩
abbrev cX2_readHouse : ByteArray := prog_4_method_8_code
def yX2_readHouse : MethodName := ⟨RX2, "readHouse", "()V"⟩
abbrev cX2_readDrink : ByteArray := prog_4_method_9_code
def yX2_readDrink : MethodName := ⟨RX2, "readDrink", "()V"⟩
abbrev cX2_readStaff : ByteArray := prog_4_method_10_code
def yX2_readStaff : MethodName := ⟨RX2, "readStaff", "()V"⟩
abbrev cX2_readPerson : ByteArray := prog_4_method_11_code
def yX2_readPerson : MethodName := ⟨RX2, "readPerson", "()V"⟩
abbrev cX2_readOrders : ByteArray := prog_4_method_12_code
def yX2_readOrders : MethodName := ⟨RX2, "readOrders", "([I)V"⟩
abbrev cX2_readOrder : ByteArray := prog_4_method_13_code
def yX2_readOrder : MethodName := ⟨RX2, "readOrder", "([IZ)V"⟩
abbrev cX2_readShelf : ByteArray := prog_4_method_14_code
def yX2_readShelf : MethodName := ⟨RX2, "readShelf", "()V"⟩
abbrev cX2_readTelling : ByteArray := prog_4_method_15_code
def yX2_readTelling : MethodName := ⟨RX2, "readTelling", "()V"⟩
abbrev cX2_beginLine : ByteArray := prog_4_method_16_code
def yX2_beginLine : MethodName := ⟨RX2, "beginLine", "(II)V"⟩
abbrev cX2_tellName : ByteArray := prog_4_method_17_code
def yX2_tellName : MethodName := ⟨RX2, "tellName", "(II)V"⟩
abbrev cX2_find : ByteArray := prog_4_method_18_code
def yX2_find : MethodName := ⟨RX2, "find", "()I"⟩
abbrev cX2_known : ByteArray := prog_4_method_19_code
def yX2_known : MethodName := ⟨RX2, "known", "(I)I"⟩
abbrev cX2_expect : ByteArray := prog_4_method_20_code
def yX2_expect : MethodName := ⟨RX2, "expect", "(Ljava/lang/String;)V"⟩
abbrev cX2_number : ByteArray := prog_4_method_21_code
def yX2_number : MethodName := ⟨RX2, "number", "(Ljava/lang/String;II)I"⟩
abbrev cX2_whole : ByteArray := prog_4_method_22_code
def yX2_whole : MethodName := ⟨RX2, "whole", "(II)I"⟩
abbrev cX2_rule : ByteArray := prog_4_method_23_code
def yX2_rule : MethodName := ⟨RX2, "rule", "()I"⟩
abbrev cX2_manner : ByteArray := prog_4_method_24_code
def yX2_manner : MethodName := ⟨RX2, "manner", "()I"⟩
def RX3 : String := "NextAtBar$Rows"
def TX3 : u_T := fun k => match k with
  | 0 => ("NextAtBar$Rows", "who", "[I", true)
  | 1 => ("NextAtBar$Rows", "times", "[[I", true)
  | 2 => ("NextAtBar$Rows", "least", "[I", true)
  | _ => ("NextAtBar$Rows", "count", "I", false)
def tyX3 : Nat → FieldType := fun k => match k with
  | 0 => .array .int
  | 1 => .array (.array .int)
  | 2 => .array .int
  | _ => .int
theorem nmX3 : ∀ a, a < 4 → ∀ b, b < 4 → a ≠ b → (TX3 a).2.1 ≠ (TX3 b).2.1 := by decide +kernel
theorem tyX3_ok : ∀ k, k < 4 → parseFieldDescriptor (TX3 k).2.2.1 = some (tyX3 k) := by decide +kernel
abbrev cX3_init : ByteArray := prog_5_method_1_code
def yX3_init : MethodName := ⟨RX3, "<init>", "()V"⟩
abbrev cX3_settle : ByteArray := prog_5_method_2_code
def yX3_settle : MethodName := ⟨RX3, "settle", "(LNextAtBar$Scene;I)V"⟩
abbrev cX3_sumWith : ByteArray := prog_5_method_3_code
def yX3_sumWith : MethodName := ⟨RX3, "sumWith", "(III)I"⟩
abbrev cX3_firstOf : ByteArray := prog_5_method_4_code
def yX3_firstOf : MethodName := ⟨RX3, "firstOf", "(II)I"⟩
abbrev cX3_leastSum : ByteArray := prog_5_method_5_code
def yX3_leastSum : MethodName := ⟨RX3, "leastSum", "()I"⟩
abbrev cX3_inRow : ByteArray := prog_5_method_6_code
def yX3_inRow : MethodName := ⟨RX3, "inRow", "(I)I"⟩
def RX4 : String := "NextAtBar$Scene"
def TX4 : u_T := fun k => match k with
  | 0 => ("NextAtBar$Scene", "guests", "[LNextAtBar$Guest;", true)
  | 1 => ("NextAtBar$Scene", "servers", "[LNextAtBar$Server;", true)
  | 2 => ("NextAtBar$Scene", "row", "[I", true)
  | 3 => ("NextAtBar$Scene", "house", "LNextAtBar$House;", false)
  | 4 => ("NextAtBar$Scene", "people", "I", false)
  | 5 => ("NextAtBar$Scene", "staff", "I", false)
  | 6 => ("NextAtBar$Scene", "rowLength", "I", false)
  | 7 => ("NextAtBar$Scene", "now", "I", false)
  | _ => ("NextAtBar$Scene", "bell", "I", false)
def tyX4 : Nat → FieldType := fun k => match k with
  | 0 => .array (.object "NextAtBar$Guest")
  | 1 => .array (.object "NextAtBar$Server")
  | 2 => .array .int
  | 3 => .object "NextAtBar$House"
  | 4 => .int
  | 5 => .int
  | 6 => .int
  | 7 => .int
  | _ => .int
theorem nmX4 : ∀ a, a < 9 → ∀ b, b < 9 → a ≠ b → (TX4 a).2.1 ≠ (TX4 b).2.1 := by decide +kernel
theorem tyX4_ok : ∀ k, k < 9 → parseFieldDescriptor (TX4 k).2.2.1 = some (tyX4 k) := by decide +kernel
abbrev cX4_init : ByteArray := prog_6_method_1_code
def yX4_init : MethodName := ⟨RX4, "<init>", "(LNextAtBar$House;)V"⟩
abbrev cX4_open : ByteArray := prog_6_method_2_code
def yX4_open : MethodName := ⟨RX4, "open", "(LNextAtBar$House;)V"⟩
abbrev cX4_take : ByteArray := prog_6_method_3_code
def yX4_take : MethodName := ⟨RX4, "take", "(LNextAtBar$Scene;)V"⟩
abbrev cX4_addHand : ByteArray := prog_6_method_4_code
def yX4_addHand : MethodName := ⟨RX4, "addHand", "()V"⟩
abbrev cX4_runTo : ByteArray := prog_6_method_5_code
def yX4_runTo : MethodName := ⟨RX4, "runTo", "(I)V"⟩
abbrev cX4_nextStir : ByteArray := prog_6_method_6_code
def yX4_nextStir : MethodName := ⟨RX4, "nextStir", "(I)I"⟩
abbrev cX4_sooner : ByteArray := prog_6_method_7_code
def yX4_sooner : MethodName := ⟨RX4, "sooner", "(III)I"⟩
abbrev cX4_comeOrGo : ByteArray := prog_6_method_8_code
def yX4_comeOrGo : MethodName := ⟨RX4, "comeOrGo", "(LNextAtBar$Guest;I)V"⟩
abbrev cX4_serve : ByteArray := prog_6_method_9_code
def yX4_serve : MethodName := ⟨RX4, "serve", "(II)V"⟩
abbrev cX4_choice : ByteArray := prog_6_method_10_code
def yX4_choice : MethodName := ⟨RX4, "choice", "(I)I"⟩
abbrev cX4_begin : ByteArray := prog_6_method_11_code
def yX4_begin : MethodName := ⟨RX4, "begin", "(IIII)V"⟩
abbrev cX4_notePassed : ByteArray := prog_6_method_12_code
def yX4_notePassed : MethodName := ⟨RX4, "notePassed", "(I)V"⟩
abbrev cX4_countOf : ByteArray := prog_6_method_13_code
def yX4_countOf : MethodName := ⟨RX4, "countOf", "(I)I"⟩
abbrev cX4_waitOf : ByteArray := prog_6_method_14_code
def yX4_waitOf : MethodName := ⟨RX4, "waitOf", "(I)I"⟩
abbrev cX4_servedWait : ByteArray := prog_6_method_15_code
def yX4_servedWait : MethodName := ⟨RX4, "servedWait", "(I)I"⟩
abbrev cX4_total : ByteArray := prog_6_method_16_code
def yX4_total : MethodName := ⟨RX4, "total", "(I)I"⟩
abbrev cX4_added : ByteArray := prog_6_method_17_code
def yX4_added : MethodName := ⟨RX4, "added", "(I)I"⟩
abbrev cX4_waitsOfSet : ByteArray := prog_6_method_18_code
def yX4_waitsOfSet : MethodName := ⟨RX4, "waitsOfSet", "(I)I"⟩
abbrev cX4_waitingAsNumber : ByteArray := prog_6_method_19_code
def yX4_waitingAsNumber : MethodName := ⟨RX4, "waitingAsNumber", "(I)I"⟩
def RX5 : String := "NextAtBar$Server"
def TX5 : u_T := fun k => match k with
  | 0 => ("NextAtBar$Server", "free", "[I", true)
  | 1 => ("NextAtBar$Server", "rule", "I", false)
  | 2 => ("NextAtBar$Server", "place", "I", false)
  | 3 => ("NextAtBar$Server", "from", "I", false)
  | 4 => ("NextAtBar$Server", "to", "I", false)
  | 5 => ("NextAtBar$Server", "step", "I", false)
  | 6 => ("NextAtBar$Server", "hands", "I", false)
  | _ => ("NextAtBar$Server", "last", "I", false)
def tyX5 : Nat → FieldType := fun k => match k with
  | 0 => .array .int
  | 1 => .int
  | 2 => .int
  | 3 => .int
  | 4 => .int
  | 5 => .int
  | 6 => .int
  | _ => .int
theorem nmX5 : ∀ a, a < 8 → ∀ b, b < 8 → a ≠ b → (TX5 a).2.1 ≠ (TX5 b).2.1 := by decide +kernel
theorem tyX5_ok : ∀ k, k < 8 → parseFieldDescriptor (TX5 k).2.2.1 = some (tyX5 k) := by decide +kernel
abbrev cX5_init : ByteArray := prog_7_method_1_code
def yX5_init : MethodName := ⟨RX5, "<init>", "()V"⟩
abbrev cX5_beginAfresh : ByteArray := prog_7_method_2_code
def yX5_beginAfresh : MethodName := ⟨RX5, "beginAfresh", "()V"⟩
abbrev cX5_take : ByteArray := prog_7_method_3_code
def yX5_take : MethodName := ⟨RX5, "take", "(LNextAtBar$Server;)V"⟩
abbrev cX5_stretch : ByteArray := prog_7_method_4_code
def yX5_stretch : MethodName := ⟨RX5, "stretch", "(II)V"⟩
abbrev cX5_freeHand : ByteArray := prog_7_method_5_code
def yX5_freeHand : MethodName := ⟨RX5, "freeHand", "(I)I"⟩
abbrev cX5_busyHands : ByteArray := prog_7_method_6_code
def yX5_busyHands : MethodName := ⟨RX5, "busyHands", "(I)I"⟩
abbrev cX5_firstFree : ByteArray := prog_7_method_7_code
def yX5_firstFree : MethodName := ⟨RX5, "firstFree", "(I)I"⟩
abbrev cX5_rank : ByteArray := prog_7_method_8_code
def yX5_rank : MethodName := ⟨RX5, "rank", "(LNextAtBar$Guest;)I"⟩
def RX6 : String := "NextAtBar$Tellings"
def TX6 : u_T := fun k => match k with
  | _ => ("NextAtBar$Tellings", "behind", "[I", true)
def tyX6 : Nat → FieldType := fun k => match k with
  | _ => .array .int
theorem nmX6 : ∀ a, a < 1 → ∀ b, b < 1 → a ≠ b → (TX6 a).2.1 ≠ (TX6 b).2.1 := by decide +kernel
theorem tyX6_ok : ∀ k, k < 1 → parseFieldDescriptor (TX6 k).2.2.1 = some (tyX6 k) := by decide +kernel
abbrev cX6_init : ByteArray := prog_8_method_1_code
def yX6_init : MethodName := ⟨RX6, "<init>", "()V"⟩
abbrev cX6_fewestLiars : ByteArray := prog_8_method_2_code
def yX6_fewestLiars : MethodName := ⟨RX6, "fewestLiars", "(LNextAtBar$House;)I"⟩
abbrev cX6_follows : ByteArray := prog_8_method_3_code
def yX6_follows : MethodName := ⟨RX6, "follows", "(LNextAtBar$House;II)Z"⟩
abbrev cX6_agreeWithout : ByteArray := prog_8_method_4_code
def yX6_agreeWithout : MethodName := ⟨RX6, "agreeWithout", "(LNextAtBar$House;I)Z"⟩
def RX7 : String := "NextAtBar$Tokens"
def TX7 : u_T := fun k => match k with
  | 0 => ("NextAtBar$Tokens", "kinds", "[I", true)
  | 1 => ("NextAtBar$Tokens", "places", "[I", true)
  | 2 => ("NextAtBar$Tokens", "values", "[J", true)
  | _ => ("NextAtBar$Tokens", "count", "I", false)
def tyX7 : Nat → FieldType := fun k => match k with
  | 0 => .array .int
  | 1 => .array .int
  | 2 => .array .long
  | _ => .int
theorem nmX7 : ∀ a, a < 4 → ∀ b, b < 4 → a ≠ b → (TX7 a).2.1 ≠ (TX7 b).2.1 := by decide +kernel
theorem tyX7_ok : ∀ k, k < 4 → parseFieldDescriptor (TX7 k).2.2.1 = some (tyX7 k) := by decide +kernel
abbrev cX7_init : ByteArray := prog_9_method_1_code
def yX7_init : MethodName := ⟨RX7, "<init>", "()V"⟩
abbrev cX7_part : ByteArray := prog_9_method_2_code
def yX7_part : MethodName := ⟨RX7, "part", "([BI)V"⟩
abbrev cX7_isLetter : ByteArray := prog_9_method_3_code
def yX7_isLetter : MethodName := ⟨RX7, "isLetter", "(I)Z"⟩
abbrev cX7_isDigit : ByteArray := prog_9_method_4_code
def yX7_isDigit : MethodName := ⟨RX7, "isDigit", "(I)Z"⟩
abbrev cX7_endOfToken : ByteArray := prog_9_method_5_code
def yX7_endOfToken : MethodName := ⟨RX7, "endOfToken", "([BII)I"⟩
abbrev cX7_add : ByteArray := prog_9_method_6_code
def yX7_add : MethodName := ⟨RX7, "add", "([BII)V"⟩
abbrev cX7_addWord : ByteArray := prog_9_method_7_code
def yX7_addWord : MethodName := ⟨RX7, "addWord", "([BII)V"⟩
abbrev cX7_addWhole : ByteArray := prog_9_method_8_code
def yX7_addWhole : MethodName := ⟨RX7, "addWhole", "([BII)V"⟩
abbrev cX7_isLineWord : ByteArray := prog_9_method_9_code
def yX7_isLineWord : MethodName := ⟨RX7, "isLineWord", "(J)Z"⟩
abbrev cX7_letters : ByteArray := prog_9_method_10_code
def yX7_letters : MethodName := ⟨RX7, "letters", "(Ljava/lang/String;)J"⟩
def RX8 : String := "NextAtBar"
def TX8 : u_T := fun k => match k with
  | 0 => ("NextAtBar", "tape", "[B", true)
  | 1 => ("NextAtBar", "tapeLength", "I", false)
  | 2 => ("NextAtBar", "house", "LNextAtBar$House;", false)
  | 3 => ("NextAtBar", "spare", "LNextAtBar$House;", false)
  | 4 => ("NextAtBar", "reader", "LNextAtBar$Reader;", true)
  | 5 => ("NextAtBar", "scene", "LNextAtBar$Scene;", true)
  | 6 => ("NextAtBar", "stage", "LNextAtBar$Scene;", true)
  | 7 => ("NextAtBar", "before", "[LNextAtBar$Scene;", true)
  | 8 => ("NextAtBar", "oldest", "I", false)
  | 9 => ("NextAtBar", "kept", "I", false)
  | 10 => ("NextAtBar", "images", "[LNextAtBar$Scene;", true)
  | 11 => ("NextAtBar", "imageCount", "I", false)
  | 12 => ("NextAtBar", "rows", "LNextAtBar$Rows;", true)
  | 13 => ("NextAtBar", "tellings", "LNextAtBar$Tellings;", true)
  | 14 => ("NextAtBar", "waitsBySet", "[[I", true)
  | 15 => ("NextAtBar", "trouble", "I", false)
  | 16 => ("NextAtBar", "fault", "I", false)
  | _ => ("NextAtBar", "faultPlace", "I", false)
def tyX8 : Nat → FieldType := fun k => match k with
  | 0 => .array .byte
  | 1 => .int
  | 2 => .object "NextAtBar$House"
  | 3 => .object "NextAtBar$House"
  | 4 => .object "NextAtBar$Reader"
  | 5 => .object "NextAtBar$Scene"
  | 6 => .object "NextAtBar$Scene"
  | 7 => .array (.object "NextAtBar$Scene")
  | 8 => .int
  | 9 => .int
  | 10 => .array (.object "NextAtBar$Scene")
  | 11 => .int
  | 12 => .object "NextAtBar$Rows"
  | 13 => .object "NextAtBar$Tellings"
  | 14 => .array (.array .int)
  | 15 => .int
  | 16 => .int
  | _ => .int
theorem nmX8 : ∀ a, a < 18 → ∀ b, b < 18 → a ≠ b → (TX8 a).2.1 ≠ (TX8 b).2.1 := by decide +kernel
theorem tyX8_ok : ∀ k, k < 18 → parseFieldDescriptor (TX8 k).2.2.1 = some (tyX8 k) := by decide +kernel
abbrev cX8_init : ByteArray := prog_1_method_1_code
def yX8_init : MethodName := ⟨RX8, "<init>", "()V"⟩
abbrev cX8_feed : ByteArray := prog_1_method_2_code
def yX8_feed : MethodName := ⟨RX8, "feed", "(IIIII)I"⟩
abbrev cX8_putBytes : ByteArray := prog_1_method_3_code
def yX8_putBytes : MethodName := ⟨RX8, "putBytes", "(I)V"⟩
abbrev cX8_house : ByteArray := prog_1_method_4_code
def yX8_house : MethodName := ⟨RX8, "house", "(I)I"⟩
abbrev cX8_fault : ByteArray := prog_1_method_5_code
def yX8_fault : MethodName := ⟨RX8, "fault", "()I"⟩
abbrev cX8_where : ByteArray := prog_1_method_6_code
def yX8_where : MethodName := ⟨RX8, "where", "()I"⟩
abbrev cX8_granted : ByteArray := prog_1_method_7_code
def yX8_granted : MethodName := ⟨RX8, "granted", "(ZI)Z"⟩
abbrev cX8_isOpen : ByteArray := prog_1_method_8_code
def yX8_isOpen : MethodName := ⟨RX8, "isOpen", "()Z"⟩
abbrev cX8_isPerson : ByteArray := prog_1_method_9_code
def yX8_isPerson : MethodName := ⟨RX8, "isPerson", "(I)Z"⟩
abbrev cX8_areTwo : ByteArray := prog_1_method_10_code
def yX8_areTwo : MethodName := ⟨RX8, "areTwo", "(II)Z"⟩
abbrev cX8_isStaff : ByteArray := prog_1_method_11_code
def yX8_isStaff : MethodName := ⟨RX8, "isStaff", "(I)Z"⟩
abbrev cX8_isPlace : ByteArray := prog_1_method_12_code
def yX8_isPlace : MethodName := ⟨RX8, "isPlace", "(I)Z"⟩
abbrev cX8_isSum : ByteArray := prog_1_method_13_code
def yX8_isSum : MethodName := ⟨RX8, "isSum", "(I)Z"⟩
abbrev cX8_isWaiting : ByteArray := prog_1_method_14_code
def yX8_isWaiting : MethodName := ⟨RX8, "isWaiting", "(I)Z"⟩
abbrev cX8_isAway : ByteArray := prog_1_method_15_code
def yX8_isAway : MethodName := ⟨RX8, "isAway", "(I)Z"⟩
abbrev cX8_person : ByteArray := prog_1_method_16_code
def yX8_person : MethodName := ⟨RX8, "person", "(II)I"⟩
abbrev cX8_staff : ByteArray := prog_1_method_17_code
def yX8_staff : MethodName := ⟨RX8, "staff", "(II)I"⟩
abbrev cX8_elbows : ByteArray := prog_1_method_18_code
def yX8_elbows : MethodName := ⟨RX8, "elbows", "(I)I"⟩
abbrev cX8_waiting : ByteArray := prog_1_method_19_code
def yX8_waiting : MethodName := ⟨RX8, "waiting", "()I"⟩
abbrev cX8_next : ByteArray := prog_1_method_20_code
def yX8_next : MethodName := ⟨RX8, "next", "(I)I"⟩
abbrev cX8_time : ByteArray := prog_1_method_21_code
def yX8_time : MethodName := ⟨RX8, "time", "(II)I"⟩
abbrev cX8_costs : ByteArray := prog_1_method_22_code
def yX8_costs : MethodName := ⟨RX8, "costs", "(I)I"⟩
abbrev cX8_asNow : ByteArray := prog_1_method_23_code
def yX8_asNow : MethodName := ⟨RX8, "asNow", "()LNextAtBar$Scene;"⟩
abbrev cX8_evening : ByteArray := prog_1_method_24_code
def yX8_evening : MethodName := ⟨RX8, "evening", "()LNextAtBar$Scene;"⟩
abbrev cX8_fate : ByteArray := prog_1_method_25_code
def yX8_fate : MethodName := ⟨RX8, "fate", "(I)I"⟩
abbrev cX8_waits : ByteArray := prog_1_method_26_code
def yX8_waits : MethodName := ⟨RX8, "waits", "(I)I"⟩
abbrev cX8_whom : ByteArray := prog_1_method_27_code
def yX8_whom : MethodName := ⟨RX8, "whom", "(I)I"⟩
abbrev cX8_has : ByteArray := prog_1_method_28_code
def yX8_has : MethodName := ⟨RX8, "has", "(I)I"⟩
abbrev cX8_passed : ByteArray := prog_1_method_29_code
def yX8_passed : MethodName := ⟨RX8, "passed", "(I)I"⟩
abbrev cX8_pushed : ByteArray := prog_1_method_30_code
def yX8_pushed : MethodName := ⟨RX8, "pushed", "(I)I"⟩
abbrev cX8_sum : ByteArray := prog_1_method_31_code
def yX8_sum : MethodName := ⟨RX8, "sum", "(I)I"⟩
abbrev cX8_served : ByteArray := prog_1_method_32_code
def yX8_served : MethodName := ⟨RX8, "served", "(I)I"⟩
abbrev cX8_by : ByteArray := prog_1_method_33_code
def yX8_by : MethodName := ⟨RX8, "by", "(IZI)I"⟩
abbrev cX8_totalBy : ByteArray := prog_1_method_34_code
def yX8_totalBy : MethodName := ⟨RX8, "totalBy", "(IZI)I"⟩
abbrev cX8_bestRule : ByteArray := prog_1_method_35_code
def yX8_bestRule : MethodName := ⟨RX8, "bestRule", "(Z)I"⟩
abbrev cX8_hand : ByteArray := prog_1_method_36_code
def yX8_hand : MethodName := ⟨RX8, "hand", "()I"⟩
abbrev cX8_beforehand : ByteArray := prog_1_method_37_code
def yX8_beforehand : MethodName := ⟨RX8, "beforehand", "(I)I"⟩
abbrev cX8_mayStillChange : ByteArray := prog_1_method_38_code
def yX8_mayStillChange : MethodName := ⟨RX8, "mayStillChange", "(I)Z"⟩
abbrev cX8_bestPlace : ByteArray := prog_1_method_39_code
def yX8_bestPlace : MethodName := ⟨RX8, "bestPlace", "(I)I"⟩
abbrev cX8_bestManner : ByteArray := prog_1_method_40_code
def yX8_bestManner : MethodName := ⟨RX8, "bestManner", "(I)I"⟩
abbrev cX8_cut : ByteArray := prog_1_method_41_code
def yX8_cut : MethodName := ⟨RX8, "cut", "()I"⟩
abbrev cX8_cutWaits : ByteArray := prog_1_method_42_code
def yX8_cutWaits : MethodName := ⟨RX8, "cutWaits", "()I"⟩
abbrev cX8_mayCut : ByteArray := prog_1_method_43_code
def yX8_mayCut : MethodName := ⟨RX8, "mayCut", "()Z"⟩
abbrev cX8_bestCut : ByteArray := prog_1_method_44_code
def yX8_bestCut : MethodName := ⟨RX8, "bestCut", "()I"⟩
abbrev cX8_waitsByCut : ByteArray := prog_1_method_45_code
def yX8_waitsByCut : MethodName := ⟨RX8, "waitsByCut", "(I)I"⟩
abbrev cX8_leastLook : ByteArray := prog_1_method_46_code
def yX8_leastLook : MethodName := ⟨RX8, "leastLook", "(I)I"⟩
abbrev cX8_letCosts : ByteArray := prog_1_method_47_code
def yX8_letCosts : MethodName := ⟨RX8, "letCosts", "(II)I"⟩
abbrev cX8_mayLet : ByteArray := prog_1_method_48_code
def yX8_mayLet : MethodName := ⟨RX8, "mayLet", "(II)Z"⟩
abbrev cX8_letFirst : ByteArray := prog_1_method_49_code
def yX8_letFirst : MethodName := ⟨RX8, "letFirst", "(LNextAtBar$Scene;II)V"⟩
abbrev cX8_bell : ByteArray := prog_1_method_50_code
def yX8_bell : MethodName := ⟨RX8, "bell", "(II)I"⟩
abbrev cX8_waitingAt : ByteArray := prog_1_method_51_code
def yX8_waitingAt : MethodName := ⟨RX8, "waitingAt", "(I)I"⟩
abbrev cX8_honesty : ByteArray := prog_1_method_52_code
def yX8_honesty : MethodName := ⟨RX8, "honesty", "(IZ)I"⟩
abbrev cX8_isSet : ByteArray := prog_1_method_53_code
def yX8_isSet : MethodName := ⟨RX8, "isSet", "(I)Z"⟩
abbrev cX8_eveningOfLiars : ByteArray := prog_1_method_54_code
def yX8_eveningOfLiars : MethodName := ⟨RX8, "eveningOfLiars", "(I)LNextAtBar$Scene;"⟩
abbrev cX8_rest : ByteArray := prog_1_method_55_code
def yX8_rest : MethodName := ⟨RX8, "rest", "(I)I"⟩
abbrev cX8_rests : ByteArray := prog_1_method_56_code
def yX8_rests : MethodName := ⟨RX8, "rests", "()I"⟩
abbrev cX8_nobodyGains : ByteArray := prog_1_method_57_code
def yX8_nobodyGains : MethodName := ⟨RX8, "nobodyGains", "(I)Z"⟩
abbrev cX8_row : ByteArray := prog_1_method_58_code
def yX8_row : MethodName := ⟨RX8, "row", "(II)I"⟩
abbrev cX8_rowSum : ByteArray := prog_1_method_59_code
def yX8_rowSum : MethodName := ⟨RX8, "rowSum", "(I)I"⟩
abbrev cX8_liars : ByteArray := prog_1_method_60_code
def yX8_liars : MethodName := ⟨RX8, "liars", "()I"⟩
abbrev cX8_surely : ByteArray := prog_1_method_61_code
def yX8_surely : MethodName := ⟨RX8, "surely", "(II)I"⟩
abbrev cX8_so : ByteArray := prog_1_method_62_code
def yX8_so : MethodName := ⟨RX8, "so", "()I"⟩
abbrev cX8_keep : ByteArray := prog_1_method_63_code
def yX8_keep : MethodName := ⟨RX8, "keep", "()V"⟩
abbrev cX8_pass : ByteArray := prog_1_method_64_code
def yX8_pass : MethodName := ⟨RX8, "pass", "(I)I"⟩
abbrev cX8_moves : ByteArray := prog_1_method_65_code
def yX8_moves : MethodName := ⟨RX8, "moves", "(II)Z"⟩
abbrev cX8_lets : ByteArray := prog_1_method_66_code
def yX8_lets : MethodName := ⟨RX8, "lets", "(II)Z"⟩
abbrev cX8_calls : ByteArray := prog_1_method_67_code
def yX8_calls : MethodName := ⟨RX8, "calls", "(I)I"⟩
abbrev cX8_leaves : ByteArray := prog_1_method_68_code
def yX8_leaves : MethodName := ⟨RX8, "leaves", "(I)Z"⟩
abbrev cX8_isPersonWaiting : ByteArray := prog_1_method_69_code
def yX8_isPersonWaiting : MethodName := ⟨RX8, "isPersonWaiting", "(I)Z"⟩
abbrev cX8_undo : ByteArray := prog_1_method_70_code
def yX8_undo : MethodName := ⟨RX8, "undo", "()Z"⟩
abbrev cX8_image : ByteArray := prog_1_method_71_code
def yX8_image : MethodName := ⟨RX8, "image", "()I"⟩
abbrev cX8_back : ByteArray := prog_1_method_72_code
def yX8_back : MethodName := ⟨RX8, "back", "(I)Z"⟩
abbrev cX8_told : ByteArray := prog_1_method_73_code
def yX8_told : MethodName := ⟨RX8, "told", "(II)I"⟩
abbrev cX8_wants : ByteArray := prog_1_method_74_code
def yX8_wants : MethodName := ⟨RX8, "wants", "(II)I"⟩
abbrev cX8_led : ByteArray := prog_1_method_75_code
def yX8_led : MethodName := ⟨RX8, "led", "(I)I"⟩
abbrev cX8_size : ByteArray := prog_1_method_76_code
def yX8_size : MethodName := ⟨RX8, "size", "(I)I"⟩
abbrev cX8_trouble : ByteArray := prog_1_method_77_code
def yX8_trouble : MethodName := ⟨RX8, "trouble", "()I"⟩
def RX9 : String := "NextAtBarModel"
def TX9 : u_T := fun k => match k with
  | 0 => ("NextAtBarModel", "thrown", "I", false)
  | 1 => ("NextAtBarModel", "tape", "[I", true)
  | 2 => ("NextAtBarModel", "taped", "I", false)
  | 3 => ("NextAtBarModel", "size", "I", false)
  | 4 => ("NextAtBarModel", "at", "I", false)
  | 5 => ("NextAtBarModel", "end", "I", false)
  | 6 => ("NextAtBarModel", "token", "I", false)
  | 7 => ("NextAtBarModel", "whole", "I", false)
  | 8 => ("NextAtBarModel", "nameSize", "I", false)
  | 9 => ("NextAtBarModel", "fault", "I", false)
  | 10 => ("NextAtBarModel", "place", "I", false)
  | 11 => ("NextAtBarModel", "trouble", "I", false)
  | 12 => ("NextAtBarModel", "letters", "[I", true)
  | 13 => ("NextAtBarModel", "failed", "Z", false)
  | 14 => ("NextAtBarModel", "hasHouse", "Z", false)
  | 15 => ("NextAtBarModel", "\x72", "[I", true)
  | 16 => ("NextAtBarModel", "fresh", "[I", true)
  | 17 => ("NextAtBarModel", "st", "[I", true)
  | 18 => ("NextAtBarModel", "e", "[I", true)
  | 19 => ("NextAtBarModel", "undone", "[I", true)
  | 20 => ("NextAtBarModel", "kept", "[I", true)
  | 21 => ("NextAtBarModel", "undos", "I", false)
  | 22 => ("NextAtBarModel", "images", "I", false)
  | 23 => ("NextAtBarModel", "crew", "[I", true)
  | 24 => ("NextAtBarModel", "people", "[I", true)
  | 25 => ("NextAtBarModel", "crewMany", "I", false)
  | 26 => ("NextAtBarModel", "bell", "I", false)
  | 27 => ("NextAtBarModel", "cutPlace", "I", false)
  | 28 => ("NextAtBarModel", "cutLeast", "I", false)
  | 29 => ("NextAtBarModel", "saved", "[I", true)
  | 30 => ("NextAtBarModel", "waited", "[I", true)
  | 31 => ("NextAtBarModel", "order", "[I", true)
  | 32 => ("NextAtBarModel", "bestOrder", "[I", true)
  | 33 => ("NextAtBarModel", "bestSum", "I", false)
  | _ => ("NextAtBarModel", "ahead", "[Z", true)
def tyX9 : Nat → FieldType := fun k => match k with
  | 0 => .int
  | 1 => .array .int
  | 2 => .int
  | 3 => .int
  | 4 => .int
  | 5 => .int
  | 6 => .int
  | 7 => .int
  | 8 => .int
  | 9 => .int
  | 10 => .int
  | 11 => .int
  | 12 => .array .int
  | 13 => .boolean
  | 14 => .boolean
  | 15 => .array .int
  | 16 => .array .int
  | 17 => .array .int
  | 18 => .array .int
  | 19 => .array .int
  | 20 => .array .int
  | 21 => .int
  | 22 => .int
  | 23 => .array .int
  | 24 => .array .int
  | 25 => .int
  | 26 => .int
  | 27 => .int
  | 28 => .int
  | 29 => .array .int
  | 30 => .array .int
  | 31 => .array .int
  | 32 => .array .int
  | 33 => .int
  | _ => .array .boolean
theorem nmX9 : ∀ a, a < 35 → ∀ b, b < 35 → a ≠ b → (TX9 a).2.1 ≠ (TX9 b).2.1 := by decide +kernel
theorem tyX9_ok : ∀ k, k < 35 → parseFieldDescriptor (TX9 k).2.2.1 = some (tyX9 k) := by decide +kernel
abbrev cX9_init : ByteArray := prog_11_method_1_code
def yX9_init : MethodName := ⟨RX9, "<init>", "()V"⟩
abbrev cX9_thrown : ByteArray := prog_11_method_2_code
def yX9_thrown : MethodName := ⟨RX9, "thrown", "()I"⟩
abbrev cX9_good : ByteArray := prog_11_method_3_code
def yX9_good : MethodName := ⟨RX9, "good", "()V"⟩
abbrev cX9_no : ByteArray := prog_11_method_4_code
def yX9_no : MethodName := ⟨RX9, "no", "(I)I"⟩
abbrev cX9_noLess : ByteArray := prog_11_method_5_code
def yX9_noLess : MethodName := ⟨RX9, "noLess", "(I)I"⟩
abbrev cX9_isNot : ByteArray := prog_11_method_6_code
def yX9_isNot : MethodName := ⟨RX9, "isNot", "(I)Z"⟩
abbrev cX9_within : ByteArray := prog_11_method_7_code
def yX9_within : MethodName := ⟨RX9, "within", "(III)Z"⟩
abbrev cX9_hasBit : ByteArray := prog_11_method_8_code
def yX9_hasBit : MethodName := ⟨RX9, "hasBit", "(II)Z"⟩
abbrev cX9_ones : ByteArray := prog_11_method_9_code
def yX9_ones : MethodName := ⟨RX9, "ones", "(I)I"⟩
abbrev cX9_copy : ByteArray := prog_11_method_10_code
def yX9_copy : MethodName := ⟨RX9, "copy", "([II[III)V"⟩
abbrev cX9_feed : ByteArray := prog_11_method_11_code
def yX9_feed : MethodName := ⟨RX9, "feed", "(IIIII)I"⟩
abbrev cX9_seen : ByteArray := prog_11_method_12_code
def yX9_seen : MethodName := ⟨RX9, "seen", "(I)I"⟩
abbrev cX9_isSmall : ByteArray := prog_11_method_13_code
def yX9_isSmall : MethodName := ⟨RX9, "isSmall", "(I)Z"⟩
abbrev cX9_isDigit : ByteArray := prog_11_method_14_code
def yX9_isDigit : MethodName := ⟨RX9, "isDigit", "(I)Z"⟩
abbrev cX9_nextToken : ByteArray := prog_11_method_15_code
def yX9_nextToken : MethodName := ⟨RX9, "nextToken", "()V"⟩
abbrev cX9_wrong : ByteArray := prog_11_method_16_code
def yX9_wrong : MethodName := ⟨RX9, "wrong", "(II)V"⟩
abbrev cX9_isWord : ByteArray := prog_11_method_17_code
def yX9_isWord : MethodName := ⟨RX9, "isWord", "(Ljava/lang/String;)Z"⟩
abbrev cX9_takesWord : ByteArray := prog_11_method_18_code
def yX9_takesWord : MethodName := ⟨RX9, "takesWord", "(Ljava/lang/String;)Z"⟩
abbrev cX9_must : ByteArray := prog_11_method_19_code
def yX9_must : MethodName := ⟨RX9, "must", "(Ljava/lang/String;)V"⟩
abbrev cX9_mustName : ByteArray := prog_11_method_20_code
def yX9_mustName : MethodName := ⟨RX9, "mustName", "()V"⟩
abbrev cX9_find : ByteArray := prog_11_method_21_code
def yX9_find : MethodName := ⟨RX9, "find", "()I"⟩
abbrev cX9_newName : ByteArray := prog_11_method_22_code
def yX9_newName : MethodName := ⟨RX9, "newName", "(I)V"⟩
abbrev cX9_named : ByteArray := prog_11_method_23_code
def yX9_named : MethodName := ⟨RX9, "named", "(II)I"⟩
abbrev cX9_personHere : ByteArray := prog_11_method_24_code
def yX9_personHere : MethodName := ⟨RX9, "personHere", "()I"⟩
abbrev cX9_personPassed : ByteArray := prog_11_method_25_code
def yX9_personPassed : MethodName := ⟨RX9, "personPassed", "()I"⟩
abbrev cX9_number : ByteArray := prog_11_method_26_code
def yX9_number : MethodName := ⟨RX9, "number", "(II)I"⟩
abbrev cX9_after : ByteArray := prog_11_method_27_code
def yX9_after : MethodName := ⟨RX9, "after", "(Ljava/lang/String;II)I"⟩
abbrev cX9_comma : ByteArray := prog_11_method_28_code
def yX9_comma : MethodName := ⟨RX9, "comma", "()Z"⟩
abbrev cX9_house : ByteArray := prog_11_method_29_code
def yX9_house : MethodName := ⟨RX9, "house", "(I)I"⟩
abbrev cX9_begins : ByteArray := prog_11_method_30_code
def yX9_begins : MethodName := ⟨RX9, "begins", "(Ljava/lang/String;Z)Z"⟩
abbrev cX9_readLine : ByteArray := prog_11_method_31_code
def yX9_readLine : MethodName := ⟨RX9, "readLine", "()V"⟩
abbrev cX9_houseLine : ByteArray := prog_11_method_32_code
def yX9_houseLine : MethodName := ⟨RX9, "houseLine", "()V"⟩
abbrev cX9_drinkLine : ByteArray := prog_11_method_33_code
def yX9_drinkLine : MethodName := ⟨RX9, "drinkLine", "()V"⟩
abbrev cX9_staffLine : ByteArray := prog_11_method_34_code
def yX9_staffLine : MethodName := ⟨RX9, "staffLine", "()V"⟩
abbrev cX9_personLine : ByteArray := prog_11_method_35_code
def yX9_personLine : MethodName := ⟨RX9, "personLine", "()V"⟩
abbrev cX9_shelfLine : ByteArray := prog_11_method_36_code
def yX9_shelfLine : MethodName := ⟨RX9, "shelfLine", "()V"⟩
abbrev cX9_saysLine : ByteArray := prog_11_method_37_code
def yX9_saysLine : MethodName := ⟨RX9, "saysLine", "()V"⟩
abbrev cX9_fault : ByteArray := prog_11_method_38_code
def yX9_fault : MethodName := ⟨RX9, "fault", "()I"⟩
abbrev cX9_where : ByteArray := prog_11_method_39_code
def yX9_where : MethodName := ⟨RX9, "where", "()I"⟩
abbrev cX9_isPerson : ByteArray := prog_11_method_40_code
def yX9_isPerson : MethodName := ⟨RX9, "isPerson", "(I)Z"⟩
abbrev cX9_isStaff : ByteArray := prog_11_method_41_code
def yX9_isStaff : MethodName := ⟨RX9, "isStaff", "(I)Z"⟩
abbrev cX9_isSpot : ByteArray := prog_11_method_42_code
def yX9_isSpot : MethodName := ⟨RX9, "isSpot", "(I)Z"⟩
abbrev cX9_isDrink : ByteArray := prog_11_method_43_code
def yX9_isDrink : MethodName := ⟨RX9, "isDrink", "(I)Z"⟩
abbrev cX9_wantsOf : ByteArray := prog_11_method_44_code
def yX9_wantsOf : MethodName := ⟨RX9, "wantsOf", "(II)I"⟩
abbrev cX9_asTold : ByteArray := prog_11_method_45_code
def yX9_asTold : MethodName := ⟨RX9, "asTold", "()V"⟩
abbrev cX9_man : ByteArray := prog_11_method_46_code
def yX9_man : MethodName := ⟨RX9, "man", "(II)I"⟩
abbrev cX9_saysFirst : ByteArray := prog_11_method_47_code
def yX9_saysFirst : MethodName := ⟨RX9, "saysFirst", "(I)I"⟩
abbrev cX9_layFirst : ByteArray := prog_11_method_48_code
def yX9_layFirst : MethodName := ⟨RX9, "layFirst", "([I)V"⟩
abbrev cX9_its : ByteArray := prog_11_method_49_code
def yX9_its : MethodName := ⟨RX9, "its", "([III)I"⟩
abbrev cX9_isWaiting : ByteArray := prog_11_method_50_code
def yX9_isWaiting : MethodName := ⟨RX9, "isWaiting", "([II)Z"⟩
abbrev cX9_far : ByteArray := prog_11_method_51_code
def yX9_far : MethodName := ⟨RX9, "far", "(II)I"⟩
abbrev cX9_timeOf : ByteArray := prog_11_method_52_code
def yX9_timeOf : MethodName := ⟨RX9, "timeOf", "([III)I"⟩
abbrev cX9_timeBehind : ByteArray := prog_11_method_53_code
def yX9_timeBehind : MethodName := ⟨RX9, "timeBehind", "(II)I"⟩
abbrev cX9_turn : ByteArray := prog_11_method_54_code
def yX9_turn : MethodName := ⟨RX9, "turn", "([III)I"⟩
abbrev cX9_nextFor : ByteArray := prog_11_method_55_code
def yX9_nextFor : MethodName := ⟨RX9, "nextFor", "([II)I"⟩
abbrev cX9_second : ByteArray := prog_11_method_56_code
def yX9_second : MethodName := ⟨RX9, "second", "([I)V"⟩
abbrev cX9_begin : ByteArray := prog_11_method_57_code
def yX9_begin : MethodName := ⟨RX9, "begin", "([III)V"⟩
abbrev cX9_evening : ByteArray := prog_11_method_58_code
def yX9_evening : MethodName := ⟨RX9, "evening", "()V"⟩
abbrev cX9_fateOf : ByteArray := prog_11_method_59_code
def yX9_fateOf : MethodName := ⟨RX9, "fateOf", "(I)I"⟩
abbrev cX9_waitOf : ByteArray := prog_11_method_60_code
def yX9_waitOf : MethodName := ⟨RX9, "waitOf", "(I)I"⟩
abbrev cX9_isBehind : ByteArray := prog_11_method_61_code
def yX9_isBehind : MethodName := ⟨RX9, "isBehind", "(II)Z"⟩
abbrev cX9_passedOf : ByteArray := prog_11_method_62_code
def yX9_passedOf : MethodName := ⟨RX9, "passedOf", "(I)I"⟩
abbrev cX9_pushedOf : ByteArray := prog_11_method_63_code
def yX9_pushedOf : MethodName := ⟨RX9, "pushedOf", "(I)I"⟩
abbrev cX9_sumOf : ByteArray := prog_11_method_64_code
def yX9_sumOf : MethodName := ⟨RX9, "sumOf", "(I)I"⟩
abbrev cX9_costsOf : ByteArray := prog_11_method_65_code
def yX9_costsOf : MethodName := ⟨RX9, "costsOf", "(I)I"⟩
abbrev cX9_person : ByteArray := prog_11_method_66_code
def yX9_person : MethodName := ⟨RX9, "person", "(II)I"⟩
abbrev cX9_staff : ByteArray := prog_11_method_67_code
def yX9_staff : MethodName := ⟨RX9, "staff", "(II)I"⟩
abbrev cX9_elbows : ByteArray := prog_11_method_68_code
def yX9_elbows : MethodName := ⟨RX9, "elbows", "(I)I"⟩
abbrev cX9_manyWaiting : ByteArray := prog_11_method_69_code
def yX9_manyWaiting : MethodName := ⟨RX9, "manyWaiting", "([I)I"⟩
abbrev cX9_waiting : ByteArray := prog_11_method_70_code
def yX9_waiting : MethodName := ⟨RX9, "waiting", "()I"⟩
abbrev cX9_next : ByteArray := prog_11_method_71_code
def yX9_next : MethodName := ⟨RX9, "next", "(I)I"⟩
abbrev cX9_time : ByteArray := prog_11_method_72_code
def yX9_time : MethodName := ⟨RX9, "time", "(II)I"⟩
abbrev cX9_costs : ByteArray := prog_11_method_73_code
def yX9_costs : MethodName := ⟨RX9, "costs", "(I)I"⟩
abbrev cX9_tellEvening : ByteArray := prog_11_method_74_code
def yX9_tellEvening : MethodName := ⟨RX9, "tellEvening", "()V"⟩
abbrev cX9_fate : ByteArray := prog_11_method_75_code
def yX9_fate : MethodName := ⟨RX9, "fate", "(I)I"⟩
abbrev cX9_waits : ByteArray := prog_11_method_76_code
def yX9_waits : MethodName := ⟨RX9, "waits", "(I)I"⟩
abbrev cX9_whom : ByteArray := prog_11_method_77_code
def yX9_whom : MethodName := ⟨RX9, "whom", "(I)I"⟩
abbrev cX9_has : ByteArray := prog_11_method_78_code
def yX9_has : MethodName := ⟨RX9, "has", "(I)I"⟩
abbrev cX9_passed : ByteArray := prog_11_method_79_code
def yX9_passed : MethodName := ⟨RX9, "passed", "(I)I"⟩
abbrev cX9_pushed : ByteArray := prog_11_method_80_code
def yX9_pushed : MethodName := ⟨RX9, "pushed", "(I)I"⟩
abbrev cX9_sum : ByteArray := prog_11_method_81_code
def yX9_sum : MethodName := ⟨RX9, "sum", "(I)I"⟩
abbrev cX9_served : ByteArray := prog_11_method_82_code
def yX9_served : MethodName := ⟨RX9, "served", "(I)I"⟩
abbrev cX9_waitingAt : ByteArray := prog_11_method_83_code
def yX9_waitingAt : MethodName := ⟨RX9, "waitingAt", "(I)I"⟩
abbrev cX9_bell : ByteArray := prog_11_method_84_code
def yX9_bell : MethodName := ⟨RX9, "bell", "(II)I"⟩
abbrev cX9_layRule : ByteArray := prog_11_method_85_code
def yX9_layRule : MethodName := ⟨RX9, "layRule", "(IZ)V"⟩
abbrev cX9_by : ByteArray := prog_11_method_86_code
def yX9_by : MethodName := ⟨RX9, "by", "(IZI)I"⟩
abbrev cX9_bestRule : ByteArray := prog_11_method_87_code
def yX9_bestRule : MethodName := ⟨RX9, "bestRule", "(Z)I"⟩
abbrev cX9_hand : ByteArray := prog_11_method_88_code
def yX9_hand : MethodName := ⟨RX9, "hand", "()I"⟩
abbrev cX9_hasCome : ByteArray := prog_11_method_89_code
def yX9_hasCome : MethodName := ⟨RX9, "hasCome", "(I)Z"⟩
abbrev cX9_beforehand : ByteArray := prog_11_method_90_code
def yX9_beforehand : MethodName := ⟨RX9, "beforehand", "(I)I"⟩
abbrev cX9_waitIfHas : ByteArray := prog_11_method_91_code
def yX9_waitIfHas : MethodName := ⟨RX9, "waitIfHas", "(I)I"⟩
abbrev cX9_bestPlace : ByteArray := prog_11_method_92_code
def yX9_bestPlace : MethodName := ⟨RX9, "bestPlace", "(I)I"⟩
abbrev cX9_beOf : ByteArray := prog_11_method_93_code
def yX9_beOf : MethodName := ⟨RX9, "beOf", "(II)V"⟩
abbrev cX9_bestManner : ByteArray := prog_11_method_94_code
def yX9_bestManner : MethodName := ⟨RX9, "bestManner", "(I)I"⟩
abbrev cX9_leastLook : ByteArray := prog_11_method_95_code
def yX9_leastLook : MethodName := ⟨RX9, "leastLook", "(I)I"⟩
abbrev cX9_cutWhy : ByteArray := prog_11_method_96_code
def yX9_cutWhy : MethodName := ⟨RX9, "cutWhy", "()I"⟩
abbrev cX9_cut : ByteArray := prog_11_method_97_code
def yX9_cut : MethodName := ⟨RX9, "cut", "()I"⟩
abbrev cX9_cutWaits : ByteArray := prog_11_method_98_code
def yX9_cutWaits : MethodName := ⟨RX9, "cutWaits", "()I"⟩
abbrev cX9_canNotLet : ByteArray := prog_11_method_99_code
def yX9_canNotLet : MethodName := ⟨RX9, "canNotLet", "(II)Z"⟩
abbrev cX9_letCosts : ByteArray := prog_11_method_100_code
def yX9_letCosts : MethodName := ⟨RX9, "letCosts", "(II)I"⟩
abbrev cX9_layHonest : ByteArray := prog_11_method_101_code
def yX9_layHonest : MethodName := ⟨RX9, "layHonest", "(I)V"⟩
abbrev cX9_allPeople : ByteArray := prog_11_method_102_code
def yX9_allPeople : MethodName := ⟨RX9, "allPeople", "()I"⟩
abbrev cX9_setWhy : ByteArray := prog_11_method_103_code
def yX9_setWhy : MethodName := ⟨RX9, "setWhy", "(I)I"⟩
abbrev cX9_honesty : ByteArray := prog_11_method_104_code
def yX9_honesty : MethodName := ⟨RX9, "honesty", "(IZ)I"⟩
abbrev cX9_isAtRest : ByteArray := prog_11_method_105_code
def yX9_isAtRest : MethodName := ⟨RX9, "isAtRest", "(I)Z"⟩
abbrev cX9_rest : ByteArray := prog_11_method_106_code
def yX9_rest : MethodName := ⟨RX9, "rest", "(I)I"⟩
abbrev cX9_rests : ByteArray := prog_11_method_107_code
def yX9_rests : MethodName := ⟨RX9, "rests", "()I"⟩
abbrev cX9_rowFrom : ByteArray := prog_11_method_108_code
def yX9_rowFrom : MethodName := ⟨RX9, "rowFrom", "(IIIIII)V"⟩
abbrev cX9_rowWhy : ByteArray := prog_11_method_109_code
def yX9_rowWhy : MethodName := ⟨RX9, "rowWhy", "(I)I"⟩
abbrev cX9_row : ByteArray := prog_11_method_110_code
def yX9_row : MethodName := ⟨RX9, "row", "(II)I"⟩
abbrev cX9_rowSum : ByteArray := prog_11_method_111_code
def yX9_rowSum : MethodName := ⟨RX9, "rowSum", "(I)I"⟩
abbrev cX9_layTellings : ByteArray := prog_11_method_112_code
def yX9_layTellings : MethodName := ⟨RX9, "layTellings", "(I)Z"⟩
abbrev cX9_liarsOf : ByteArray := prog_11_method_113_code
def yX9_liarsOf : MethodName := ⟨RX9, "liarsOf", "()I"⟩
abbrev cX9_liars : ByteArray := prog_11_method_114_code
def yX9_liars : MethodName := ⟨RX9, "liars", "()I"⟩
abbrev cX9_surely : ByteArray := prog_11_method_115_code
def yX9_surely : MethodName := ⟨RX9, "surely", "(II)I"⟩
abbrev cX9_so : ByteArray := prog_11_method_116_code
def yX9_so : MethodName := ⟨RX9, "so", "()I"⟩
abbrev cX9_note : ByteArray := prog_11_method_117_code
def yX9_note : MethodName := ⟨RX9, "note", "()V"⟩
abbrev cX9_pass : ByteArray := prog_11_method_118_code
def yX9_pass : MethodName := ⟨RX9, "pass", "(I)I"⟩
abbrev cX9_moves : ByteArray := prog_11_method_119_code
def yX9_moves : MethodName := ⟨RX9, "moves", "(II)Z"⟩
abbrev cX9_lets : ByteArray := prog_11_method_120_code
def yX9_lets : MethodName := ⟨RX9, "lets", "(II)Z"⟩
abbrev cX9_calls : ByteArray := prog_11_method_121_code
def yX9_calls : MethodName := ⟨RX9, "calls", "(I)I"⟩
abbrev cX9_leaves : ByteArray := prog_11_method_122_code
def yX9_leaves : MethodName := ⟨RX9, "leaves", "(I)Z"⟩
abbrev cX9_undo : ByteArray := prog_11_method_123_code
def yX9_undo : MethodName := ⟨RX9, "undo", "()Z"⟩
abbrev cX9_image : ByteArray := prog_11_method_124_code
def yX9_image : MethodName := ⟨RX9, "image", "()I"⟩
abbrev cX9_back : ByteArray := prog_11_method_125_code
def yX9_back : MethodName := ⟨RX9, "back", "(I)Z"⟩
abbrev cX9_told : ByteArray := prog_11_method_126_code
def yX9_told : MethodName := ⟨RX9, "told", "(II)I"⟩
abbrev cX9_wants : ByteArray := prog_11_method_127_code
def yX9_wants : MethodName := ⟨RX9, "wants", "(II)I"⟩
abbrev cX9_led : ByteArray := prog_11_method_128_code
def yX9_led : MethodName := ⟨RX9, "led", "(I)I"⟩
abbrev cX9_size : ByteArray := prog_11_method_129_code
def yX9_size : MethodName := ⟨RX9, "size", "(I)I"⟩
abbrev cX9_trouble : ByteArray := prog_11_method_130_code
def yX9_trouble : MethodName := ⟨RX9, "trouble", "()I"⟩
def RJ6 : String := "java/lang/Integer"
abbrev cJ6_bitCount_0f7a4 : ByteArray := prog_16_method_49_code
def yJ6_bitCount_0f7a4 : MethodName := ⟨RJ6, "bitCount", "(I)I"⟩
def RJ9 : String := "java/lang/Math"
abbrev cJ9_abs_0f7a4 : ByteArray := prog_17_method_59_code
def yJ9_abs_0f7a4 : MethodName := ⟨RJ9, "abs", "(I)I"⟩
abbrev cJ9_max_7cf53 : ByteArray := prog_17_method_65_code
def yJ9_max_7cf53 : MethodName := ⟨RJ9, "max", "(II)I"⟩
abbrev cJ9_min_7cf53 : ByteArray := prog_17_method_69_code
def yJ9_min_7cf53 : MethodName := ⟨RJ9, "min", "(II)I"⟩
def RJ0 : String := "java/lang/String"
abbrev cJ0_length_8abf5 : ByteArray := prog_19_method_54_code
def yJ0_length_8abf5 : MethodName := ⟨RJ0, "length", "()I"⟩
abbrev cJ0_charAt_5068e : ByteArray := prog_19_method_56_code
def yJ0_charAt_5068e : MethodName := ⟨RJ0, "charAt", "(I)C"⟩
abbrev cJ0_coder_7d493 : ByteArray := prog_19_method_152_code
def yJ0_coder_7d493 : MethodName := ⟨RJ0, "coder", "()B"⟩
abbrev cJ0_isLatin1_aae02 : ByteArray := prog_19_method_154_code
def yJ0_isLatin1_aae02 : MethodName := ⟨RJ0, "isLatin1", "()Z"⟩
abbrev cJ0_checkIndex_df160 : ByteArray := prog_19_method_155_code
def yJ0_checkIndex_df160 : MethodName := ⟨RJ0, "checkIndex", "(II)V"⟩
def RJ1 : String := "java/lang/StringLatin1"
abbrev cJ1_charAt_3b067 : ByteArray := prog_20_method_2_code
def yJ1_charAt_3b067 : MethodName := ⟨RJ1, "charAt", "([BI)C"⟩
def RJ2 : String := "java/lang/StringUTF16"
abbrev cJ2_getChar_3b067 : ByteArray := prog_21_method_5_code
def yJ2_getChar_3b067 : MethodName := ⟨RJ2, "getChar", "([BI)C"⟩
abbrev cJ2_length_9d52b : ByteArray := prog_21_method_6_code
def yJ2_length_9d52b : MethodName := ⟨RJ2, "length", "([B)I"⟩
abbrev cJ2_charAt_3b067 : ByteArray := prog_21_method_83_code
def yJ2_charAt_3b067 : MethodName := ⟨RJ2, "charAt", "([BI)C"⟩
abbrev cJ2_checkIndex_2214a : ByteArray := prog_21_method_91_code
def yJ2_checkIndex_2214a : MethodName := ⟨RJ2, "checkIndex", "(I[B)V"⟩
def RJ10 : String := "java/lang/System"
def RJ7 : String := "java/util/Arrays"
abbrev cJ7_fill_53178 : ByteArray := prog_26_method_103_code
def yJ7_fill_53178 : MethodName := ⟨RJ7, "fill", "([II)V"⟩
def RJ3 : String := "jdk/internal/util/Preconditions"
abbrev cJ3_checkIndex_8e157 : ByteArray := prog_28_method_11_code
def yJ3_checkIndex_8e157 : MethodName := ⟨RJ3, "checkIndex", "(IILjava/util/function/BiFunction;)I"⟩
def RL : String := "NextAtBarLaw"
abbrev cL_led : ByteArray := method_3_code
def yL_led : MethodName := ⟨RL, "led", "(LNextAtBar;I[J)I"⟩
abbrev cL_law : ByteArray := code
def yL_law : MethodName := ⟨RL, "law", "([I)Z"⟩
abbrev vwCl : List vw_C := [(RX0, TX0, 15), (RX1, TX1, 16), (RX2, TX2, 11), (RX3, TX3, 4), (RX4, TX4, 9), (RX5, TX5, 8), (RX6, TX6, 1), (RX7, TX7, 4), (RX8, TX8, 18), (RX9, TX9, 35)]
def nb_onm (n : Nat) : String := ([RX0, RX1, RX2, RX3, RX4, RX5, RX6, RX7, RX8, RX9, RL, RJ6, RJ9, RJ7] : List String).getD n ""
/-- sc_waitingAsNumber -/
def nb_b0 : List nb_B := [
  (0, [(.iload_n 1, 1), (.istore_n 2, 1), (.iconst 0, 1), (.istore_n 3, 1)], .nop, 0, [1], 0),
  (4, [(.iload_n 3, 1), (.aload_n 0, 1), (.getfield 39, 3)], .if_icmp .ge 31, 3, [7, 2], 0),
  (12, [(.aload_n 0, 1), (.getfield 11, 3), (.iload_n 3, 1), (.aaload, 1), (.getfield 109, 3), (.iconst 1, 1)], .if_icmp .ne 12, 3, [6, 3], 0),
  (25, [(.iload_n 2, 1)], .ifCond .ne 5, 3, [5, 4], 0),
  (29, [(.iload_n 3, 1)], .ireturn, 1, [], 0),
  (31, [(.iinc 2 (-1), 3)], .nop, 0, [6], 0),
  (34, [(.iinc 3 1, 3)], .goto (-33), 3, [1], 0),
  (40, [(.iconst (-1), 1)], .ireturn, 1, [], 0)]
/-- c_init -/
def nb_b1 : List nb_B := [
  (0, [(.aload_n 0, 1)], .invokespecial 1, 3, [1], 900),
  (4, [(.aload_n 0, 1), (.sipush 1000, 3), (.newarray .byte, 2)], .nop, 0, [2], 0),
  (10, [(.putfield 9, 3)], .nop, 0, [3], 0),
  (13, [(.aload_n 0, 1), (.new 13, 3)], .nop, 0, [4], 0),
  (17, [(.dup, 1)], .invokespecial 15, 3, [5], 218),
  (21, [(.putfield 16, 3)], .nop, 0, [6], 0),
  (24, [(.aload_n 0, 1), (.new 13, 3)], .nop, 0, [7], 0),
  (28, [(.dup, 1)], .invokespecial 15, 3, [8], 218),
  (32, [(.putfield 20, 3)], .nop, 0, [9], 0),
  (35, [(.aload_n 0, 1), (.new 23, 3)], .nop, 0, [10], 0),
  (39, [(.dup, 1), (.aload_n 0, 1), (.getfield 20, 3)], .invokespecial 25, 3, [11], 223),
  (47, [(.putfield 28, 3)], .nop, 0, [12], 0),
  (50, [(.aload_n 0, 1), (.new 32, 3)], .nop, 0, [13], 0),
  (54, [(.dup, 1), (.aload_n 0, 1), (.getfield 16, 3)], .invokespecial 34, 3, [14], 253),
  (62, [(.putfield 35, 3)], .nop, 0, [15], 0),
  (65, [(.aload_n 0, 1), (.new 32, 3)], .nop, 0, [16], 0),
  (69, [(.dup, 1), (.aload_n 0, 1), (.getfield 16, 3)], .invokespecial 34, 3, [17], 253),
  (77, [(.putfield 39, 3)], .nop, 0, [18], 0),
  (80, [(.aload_n 0, 1), (.bipush 12, 2), (.anewarray 32, 3)], .nop, 0, [19], 0),
  (86, [(.putfield 42, 3)], .nop, 0, [20], 0),
  (89, [(.aload_n 0, 1), (.iconst 3, 1), (.anewarray 32, 3)], .nop, 0, [21], 0),
  (94, [(.putfield 46, 3)], .nop, 0, [22], 0),
  (97, [(.aload_n 0, 1), (.new 49, 3)], .nop, 0, [23], 0),
  (101, [(.dup, 1)], .invokespecial 51, 3, [24], 247),
  (105, [(.putfield 52, 3)], .nop, 0, [25], 0),
  (108, [(.aload_n 0, 1), (.new 56, 3)], .nop, 0, [26], 0),
  (112, [(.dup, 1)], .invokespecial 58, 3, [27], 279),
  (116, [(.putfield 59, 3)], .nop, 0, [28], 0),
  (119, [(.aload_n 0, 1), (.sipush 128, 3), (.bipush 7, 2), (.multianewarray 63 2, 4)], .nop, 0, [29], 0),
  (129, [(.putfield 65, 3)], .nop, 0, [30], 0),
  (132, [(.iconst 0, 1), (.istore_n 1, 1)], .nop, 0, [31], 0),
  (134, [(.iload_n 1, 1), (.bipush 12, 2)], .if_icmp .ge 26, 3, [36, 32], 0),
  (140, [(.aload_n 0, 1), (.getfield 42, 3), (.iload_n 1, 1), (.new 32, 3)], .nop, 0, [33], 0),
  (148, [(.dup, 1), (.aload_n 0, 1), (.getfield 16, 3)], .invokespecial 34, 3, [34], 253),
  (156, [(.aastore, 1)], .nop, 0, [35], 0),
  (157, [(.iinc 1 1, 3)], .goto (-26), 3, [31], 0),
  (163, [(.iconst 0, 1), (.istore_n 1, 1)], .nop, 0, [37], 0),
  (165, [(.iload_n 1, 1), (.iconst 3, 1)], .if_icmp .ge 26, 3, [42, 38], 0),
  (170, [(.aload_n 0, 1), (.getfield 46, 3), (.iload_n 1, 1), (.new 32, 3)], .nop, 0, [39], 0),
  (178, [(.dup, 1), (.aload_n 0, 1), (.getfield 16, 3)], .invokespecial 34, 3, [40], 253),
  (186, [(.aastore, 1)], .nop, 0, [41], 0),
  (187, [(.iinc 1 1, 3)], .goto (-25), 3, [37], 0),
  (193, [], .return_, 1, [], 0)]
/-- c_feed -/
def nb_b2 : List nb_B := [
  (0, [(.aload_n 0, 1), (.getfield 68, 3), (.bipush 20, 2), (.iadd, 1), (.sipush 1000, 3)], .if_icmp .le 5, 3, [2, 1], 0),
  (13, [(.iconst (-1), 1)], .ireturn, 1, [], 0),
  (15, [(.aload_n 0, 1), (.iload_n 1, 1)], .invokevirtual 72, 3, [3], 3),
  (20, [(.aload_n 0, 1), (.iload_n 2, 1)], .invokevirtual 72, 3, [4], 3),
  (25, [(.aload_n 0, 1), (.iload_n 3, 1)], .invokevirtual 72, 3, [5], 3),
  (30, [(.aload_n 0, 1), (.iload 4, 2)], .invokevirtual 72, 3, [6], 3),
  (36, [(.aload_n 0, 1), (.iload 5, 2)], .invokevirtual 72, 3, [7], 3),
  (42, [(.aload_n 0, 1), (.getfield 68, 3)], .ireturn, 1, [], 0)]
/-- c_putBytes -/
def nb_b3 : List nb_B := [
  (0, [(.bipush 24, 2), (.istore_n 2, 1)], .nop, 0, [1], 0),
  (3, [(.iload_n 2, 1)], .ifCond .lt 42, 3, [6, 2], 0),
  (7, [(.aload_n 0, 1), (.getfield 68, 3), (.sipush 1000, 3)], .if_icmp .ge 32, 3, [6, 3], 0),
  (17, [(.aload_n 0, 1), (.getfield 9, 3), (.aload_n 0, 1), (.getfield 68, 3), (.iload_n 1, 1), (.iload_n 2, 1), (.ishr, 1), (.i2b, 1), (.bastore, 1)], .nop, 0, [4], 0),
  (30, [(.aload_n 0, 1), (.dup, 1), (.getfield 68, 3), (.iconst 1, 1), (.iadd, 1), (.putfield 68, 3)], .nop, 0, [5], 0),
  (40, [(.iinc 2 (-8), 3)], .goto (-40), 3, [1], 0),
  (46, [], .return_, 1, [], 0)]
/-- c_house -/
def nb_b4 : List nb_B := [
  (0, [(.aload_n 0, 1), (.iload_n 1, 1)], .ifCond .lt 15, 3, [3, 1], 0),
  (5, [(.iload_n 1, 1), (.aload_n 0, 1), (.getfield 68, 3)], .if_icmp .gt 7, 3, [3, 2], 0),
  (13, [(.iconst 1, 1)], .goto 4, 3, [4], 0),
  (17, [(.iconst 0, 1)], .nop, 0, [4], 0),
  (18, [(.iconst 2, 1)], .invokevirtual 76, 3, [5], 7),
  (22, [], .ifCond .ne 5, 3, [7, 6], 0),
  (25, [(.iconst (-1), 1)], .ireturn, 1, [], 0),
  (27, [(.aload_n 0, 1), (.iconst 0, 1), (.putfield 68, 3)], .nop, 0, [8], 0),
  (32, [(.aload_n 0, 1), (.getfield 28, 3), (.aload_n 0, 1), (.getfield 9, 3), (.iload_n 1, 1), (.aload_n 0, 1), (.getfield 20, 3)], .invokevirtual 80, 3, [9], 224),
  (48, [(.istore_n 2, 1), (.aload_n 0, 1), (.aload_n 0, 1), (.getfield 28, 3), (.getfield 84, 3), (.putfield 87, 3)], .nop, 0, [10], 0),
  (60, [(.aload_n 0, 1), (.aload_n 0, 1), (.getfield 28, 3), (.getfield 88, 3), (.putfield 91, 3)], .nop, 0, [11], 0),
  (71, [(.aload_n 0, 1), (.iload_n 2, 1), (.iconst 4, 1)], .invokevirtual 76, 3, [12], 7),
  (77, [], .ifCond .ne 5, 3, [14, 13], 0),
  (80, [(.iconst (-1), 1)], .ireturn, 1, [], 0),
  (82, [(.aload_n 0, 1), (.getfield 16, 3), (.astore_n 3, 1), (.aload_n 0, 1), (.aload_n 0, 1), (.getfield 20, 3), (.putfield 16, 3)], .nop, 0, [15], 0),
  (95, [(.aload_n 0, 1), (.aload_n 3, 1), (.putfield 20, 3)], .nop, 0, [16], 0),
  (100, [(.aload_n 0, 1), (.getfield 35, 3), (.aload_n 0, 1), (.getfield 16, 3)], .invokevirtual 94, 3, [17], 254),
  (111, [(.aload_n 0, 1), (.iconst 0, 1), (.putfield 97, 3)], .nop, 0, [18], 0),
  (116, [(.aload_n 0, 1), (.iconst 0, 1), (.putfield 100, 3)], .nop, 0, [19], 0),
  (121, [(.aload_n 0, 1), (.getfield 16, 3), (.getfield 103, 3)], .ireturn, 1, [], 0)]
/-- c_fault -/
def nb_b5 : List nb_B := [
  (0, [(.aload_n 0, 1), (.getfield 87, 3)], .ireturn, 1, [], 0)]
/-- c_where -/
def nb_b6 : List nb_B := [
  (0, [(.aload_n 0, 1), (.getfield 106, 3), (.iconst 4, 1)], .if_icmp .ne 10, 3, [2, 1], 0),
  (8, [(.aload_n 0, 1), (.getfield 91, 3)], .goto 4, 3, [3], 0),
  (15, [(.iconst (-1), 1)], .nop, 0, [3], 0),
  (16, [], .ireturn, 1, [], 0)]
/-- c_granted -/
def nb_b7 : List nb_B := [
  (0, [(.aload_n 0, 1), (.iload_n 1, 1)], .ifCond .eq 7, 3, [2, 1], 0),
  (5, [(.iconst 0, 1)], .goto 4, 3, [3], 0),
  (9, [(.iload_n 2, 1)], .nop, 0, [3], 0),
  (10, [(.putfield 106, 3)], .nop, 0, [4], 0),
  (13, [(.iload_n 1, 1)], .ireturn, 1, [], 0)]
/-- c_isOpen -/
def nb_b8 : List nb_B := [
  (0, [(.aload_n 0, 1), (.getfield 16, 3), (.getfield 103, 3)], .ifCond .le 7, 3, [2, 1], 0),
  (10, [(.iconst 1, 1)], .goto 4, 3, [3], 0),
  (14, [(.iconst 0, 1)], .nop, 0, [3], 0),
  (15, [], .ireturn, 1, [], 0)]
/-- c_isPerson -/
def nb_b9 : List nb_B := [
  (0, [(.iload_n 1, 1)], .ifCond .lt 18, 3, [3, 1], 0),
  (4, [(.iload_n 1, 1), (.aload_n 0, 1), (.getfield 16, 3), (.getfield 103, 3)], .if_icmp .ge 7, 3, [3, 2], 0),
  (15, [(.iconst 1, 1)], .goto 4, 3, [4], 0),
  (19, [(.iconst 0, 1)], .nop, 0, [4], 0),
  (20, [], .ireturn, 1, [], 0)]
/-- c_areTwo -/
def nb_b10 : List nb_B := [
  (0, [(.aload_n 0, 1), (.iload_n 1, 1)], .invokevirtual 109, 3, [1], 9),
  (5, [], .ifCond .eq 20, 3, [6, 2], 0),
  (8, [(.aload_n 0, 1), (.iload_n 2, 1)], .invokevirtual 109, 3, [3], 9),
  (13, [], .ifCond .eq 12, 3, [6, 4], 0),
  (16, [(.iload_n 1, 1), (.iload_n 2, 1)], .if_icmp .eq 7, 3, [6, 5], 0),
  (21, [(.iconst 1, 1)], .goto 4, 3, [7], 0),
  (25, [(.iconst 0, 1)], .nop, 0, [7], 0),
  (26, [], .ireturn, 1, [], 0)]
/-- c_isStaff -/
def nb_b11 : List nb_B := [
  (0, [(.iload_n 1, 1)], .ifCond .lt 18, 3, [3, 1], 0),
  (4, [(.iload_n 1, 1), (.aload_n 0, 1), (.getfield 16, 3), (.getfield 113, 3)], .if_icmp .ge 7, 3, [3, 2], 0),
  (15, [(.iconst 1, 1)], .goto 4, 3, [4], 0),
  (19, [(.iconst 0, 1)], .nop, 0, [4], 0),
  (20, [], .ireturn, 1, [], 0)]
/-- c_isPlace -/
def nb_b12 : List nb_B := [
  (0, [(.iload_n 1, 1)], .ifCond .lt 18, 3, [3, 1], 0),
  (4, [(.iload_n 1, 1), (.aload_n 0, 1), (.getfield 16, 3), (.getfield 116, 3)], .if_icmp .ge 7, 3, [3, 2], 0),
  (15, [(.iconst 1, 1)], .goto 4, 3, [4], 0),
  (19, [(.iconst 0, 1)], .nop, 0, [4], 0),
  (20, [], .ireturn, 1, [], 0)]
/-- c_isSum -/
def nb_b13 : List nb_B := [
  (0, [(.aload_n 0, 1)], .invokevirtual 119, 3, [1], 8),
  (4, [], .ifCond .eq 17, 3, [5, 2], 0),
  (7, [(.iload_n 1, 1)], .ifCond .lt 13, 3, [5, 3], 0),
  (11, [(.iload_n 1, 1), (.bipush 6, 2)], .if_icmp .ge 7, 3, [5, 4], 0),
  (17, [(.iconst 1, 1)], .goto 4, 3, [6], 0),
  (21, [(.iconst 0, 1)], .nop, 0, [6], 0),
  (22, [], .ireturn, 1, [], 0)]
/-- c_isWaiting -/
def nb_b14 : List nb_B := [
  (0, [(.aload_n 0, 1), (.getfield 35, 3), (.getfield 123, 3), (.iload_n 1, 1), (.aaload, 1), (.getfield 127, 3), (.iconst 1, 1)], .if_icmp .ne 7, 3, [2, 1], 0),
  (16, [(.iconst 1, 1)], .goto 4, 3, [3], 0),
  (20, [(.iconst 0, 1)], .nop, 0, [3], 0),
  (21, [], .ireturn, 1, [], 0)]
/-- c_isAway -/
def nb_b15 : List nb_B := [
  (0, [(.aload_n 0, 1), (.getfield 35, 3), (.getfield 123, 3), (.iload_n 1, 1), (.aaload, 1), (.getfield 127, 3)], .ifCond .ne 7, 3, [2, 1], 0),
  (15, [(.iconst 1, 1)], .goto 4, 3, [3], 0),
  (19, [(.iconst 0, 1)], .nop, 0, [3], 0),
  (20, [], .ireturn, 1, [], 0)]
/-- c_person -/
def nb_b16 : List nb_B := [
  (0, [(.aload_n 0, 1), (.aload_n 0, 1), (.iload_n 1, 1)], .invokevirtual 109, 3, [1], 9),
  (6, [], .ifCond .eq 16, 3, [5, 2], 0),
  (9, [(.iload_n 2, 1)], .ifCond .lt 12, 3, [5, 3], 0),
  (13, [(.iload_n 2, 1), (.iconst 5, 1)], .if_icmp .gt 7, 3, [5, 4], 0),
  (18, [(.iconst 1, 1)], .goto 4, 3, [6], 0),
  (22, [(.iconst 0, 1)], .nop, 0, [6], 0),
  (23, [(.iconst 1, 1)], .invokevirtual 76, 3, [7], 7),
  (27, [], .ifCond .ne 5, 3, [9, 8], 0),
  (30, [(.iconst (-1), 1)], .ireturn, 1, [], 0),
  (32, [(.aload_n 0, 1), (.getfield 35, 3), (.getfield 123, 3), (.iload_n 1, 1), (.aaload, 1), (.astore_n 3, 1), (.iload_n 2, 1)], .tableswitch 84 0 4 #[33, 64, 69, 74, 79], 33, [19, 10, 15, 16, 17, 18], 0),
  (76, [(.aload_n 3, 1), (.getfield 127, 3), (.iconst 2, 1)], .if_icmp .ne 21, 3, [13, 11], 0),
  (84, [(.aload_n 3, 1), (.getfield 132, 3), (.aload_n 0, 1), (.getfield 35, 3), (.getfield 135, 3)], .if_icmp .gt 7, 3, [13, 12], 0),
  (98, [(.iconst 3, 1)], .goto 7, 3, [14], 0),
  (102, [(.aload_n 3, 1), (.getfield 127, 3)], .nop, 0, [14], 0),
  (106, [], .ireturn, 1, [], 0),
  (107, [(.aload_n 3, 1), (.getfield 138, 3)], .ireturn, 1, [], 0),
  (112, [(.aload_n 3, 1), (.getfield 139, 3)], .ireturn, 1, [], 0),
  (117, [(.aload_n 3, 1), (.getfield 142, 3)], .ireturn, 1, [], 0),
  (122, [(.aload_n 3, 1), (.getfield 145, 3)], .ireturn, 1, [], 0),
  (127, [(.aload_n 3, 1), (.getfield 132, 3)], .ireturn, 1, [], 0)]
/-- c_staff -/
def nb_b17 : List nb_B := [
  (0, [(.aload_n 0, 1), (.aload_n 0, 1), (.iload_n 1, 1)], .invokevirtual 148, 3, [1], 11),
  (6, [], .ifCond .eq 16, 3, [5, 2], 0),
  (9, [(.iload_n 2, 1)], .ifCond .lt 12, 3, [5, 3], 0),
  (13, [(.iload_n 2, 1), (.iconst 2, 1)], .if_icmp .gt 7, 3, [5, 4], 0),
  (18, [(.iconst 1, 1)], .goto 4, 3, [6], 0),
  (22, [(.iconst 0, 1)], .nop, 0, [6], 0),
  (23, [(.iconst 1, 1)], .invokevirtual 76, 3, [7], 7),
  (27, [], .ifCond .ne 5, 3, [9, 8], 0),
  (30, [(.iconst (-1), 1)], .ireturn, 1, [], 0),
  (32, [(.aload_n 0, 1), (.getfield 35, 3), (.getfield 151, 3), (.iload_n 1, 1), (.aaload, 1), (.astore_n 3, 1), (.iload_n 2, 1)], .lookupswitch 42 #[(0, 25), (1, 30)], 25, [13, 10, 11], 0),
  (68, [(.aload_n 3, 1), (.getfield 155, 3)], .ireturn, 1, [], 0),
  (73, [(.aload_n 3, 1), (.aload_n 0, 1), (.getfield 35, 3), (.getfield 135, 3)], .invokevirtual 158, 3, [12], 276),
  (84, [], .ireturn, 1, [], 0),
  (85, [(.aload_n 3, 1), (.aload_n 0, 1), (.getfield 35, 3), (.getfield 135, 3)], .invokevirtual 162, 3, [14], 277),
  (96, [], .ireturn, 1, [], 0)]
/-- c_elbows -/
def nb_b18 : List nb_B := [
  (0, [(.aload_n 0, 1), (.aload_n 0, 1), (.iload_n 1, 1)], .invokevirtual 165, 3, [1], 12),
  (6, [(.iconst 1, 1)], .invokevirtual 76, 3, [2], 7),
  (10, [], .ifCond .ne 5, 3, [4, 3], 0),
  (13, [(.iconst (-1), 1)], .ireturn, 1, [], 0),
  (15, [(.iconst 0, 1), (.istore_n 2, 1), (.iconst 0, 1), (.istore_n 3, 1)], .nop, 0, [5], 0),
  (19, [(.iload_n 3, 1), (.aload_n 0, 1), (.getfield 16, 3), (.getfield 103, 3)], .if_icmp .ge 36, 3, [11, 6], 0),
  (30, [(.aload_n 0, 1), (.iload_n 3, 1)], .invokevirtual 168, 3, [7], 14),
  (35, [], .ifCond .eq 22, 3, [10, 8], 0),
  (38, [(.aload_n 0, 1), (.getfield 35, 3), (.getfield 123, 3), (.iload_n 3, 1), (.aaload, 1), (.getfield 138, 3), (.iload_n 1, 1)], .if_icmp .ne 6, 3, [10, 9], 0),
  (54, [(.iinc 2 1, 3)], .nop, 0, [10], 0),
  (57, [(.iinc 3 1, 3)], .goto (-41), 3, [5], 0),
  (63, [(.iload_n 2, 1)], .ireturn, 1, [], 0)]
/-- c_waiting -/
def nb_b19 : List nb_B := [
  (0, [(.aload_n 0, 1), (.aload_n 0, 1)], .invokevirtual 119, 3, [1], 8),
  (5, [(.iconst 1, 1)], .invokevirtual 76, 3, [2], 7),
  (9, [], .ifCond .eq 14, 3, [5, 3], 0),
  (12, [(.aload_n 0, 1), (.getfield 35, 3), (.iconst 1, 1)], .invokevirtual 171, 3, [4], 265),
  (20, [], .goto 4, 3, [6], 0),
  (23, [(.iconst (-1), 1)], .nop, 0, [6], 0),
  (24, [], .ireturn, 1, [], 0)]
/-- c_next -/
def nb_b20 : List nb_B := [
  (0, [(.aload_n 0, 1), (.aload_n 0, 1), (.iload_n 1, 1)], .invokevirtual 148, 3, [1], 11),
  (6, [(.iconst 1, 1)], .invokevirtual 76, 3, [2], 7),
  (10, [], .ifCond .eq 14, 3, [5, 3], 0),
  (13, [(.aload_n 0, 1), (.getfield 35, 3), (.iload_n 1, 1)], .invokevirtual 174, 3, [4], 262),
  (21, [], .goto 4, 3, [6], 0),
  (24, [(.iconst (-1), 1)], .nop, 0, [6], 0),
  (25, [], .ireturn, 1, [], 0)]
/-- c_time -/
def nb_b21 : List nb_B := [
  (0, [(.aload_n 0, 1), (.aload_n 0, 1), (.iload_n 1, 1)], .invokevirtual 148, 3, [1], 11),
  (6, [], .ifCond .eq 15, 3, [5, 2], 0),
  (9, [(.aload_n 0, 1), (.iload_n 2, 1)], .invokevirtual 109, 3, [3], 9),
  (14, [], .ifCond .eq 7, 3, [5, 4], 0),
  (17, [(.iconst 1, 1)], .goto 4, 3, [6], 0),
  (21, [(.iconst 0, 1)], .nop, 0, [6], 0),
  (22, [(.iconst 1, 1)], .invokevirtual 76, 3, [7], 7),
  (26, [], .ifCond .ne 5, 3, [9, 8], 0),
  (29, [(.iconst (-1), 1)], .ireturn, 1, [], 0),
  (31, [(.aload_n 0, 1), (.getfield 16, 3), (.aload_n 0, 1), (.getfield 35, 3), (.getfield 151, 3), (.iload_n 1, 1), (.aaload, 1), (.getfield 177, 3), (.iload_n 2, 1)], .invokevirtual 180, 3, [10], 220),
  (51, [], .ireturn, 1, [], 0)]
/-- c_costs -/
def nb_b22 : List nb_B := [
  (0, [(.aload_n 0, 1), (.aload_n 0, 1), (.iload_n 1, 1)], .invokevirtual 109, 3, [1], 9),
  (6, [(.iconst 1, 1)], .invokevirtual 76, 3, [2], 7),
  (10, [], .ifCond .eq 14, 3, [5, 3], 0),
  (13, [(.aload_n 0, 1), (.getfield 16, 3), (.iload_n 1, 1)], .invokevirtual 184, 3, [4], 221),
  (21, [], .goto 4, 3, [6], 0),
  (24, [(.iconst (-1), 1)], .nop, 0, [6], 0),
  (25, [], .ireturn, 1, [], 0)]
/-- c_asNow -/
def nb_b23 : List nb_B := [
  (0, [(.aload_n 0, 1), (.getfield 39, 3), (.aload_n 0, 1), (.getfield 35, 3)], .invokevirtual 187, 3, [1], 255),
  (11, [(.aload_n 0, 1), (.getfield 39, 3)], .areturn, 1, [], 0)]
/-- c_evening -/
def nb_b24 : List nb_B := [
  (0, [(.aload_n 0, 1), (.getfield 39, 3), (.aload_n 0, 1), (.getfield 35, 3)], .invokevirtual 187, 3, [1], 255),
  (11, [(.aload_n 0, 1), (.getfield 39, 3), (.aload_n 0, 1), (.getfield 39, 3), (.getfield 191, 3)], .invokevirtual 194, 3, [2], 257),
  (25, [(.aload_n 0, 1), (.getfield 39, 3)], .areturn, 1, [], 0)]
/-- c_fate -/
def nb_b25 : List nb_B := [
  (0, [(.aload_n 0, 1), (.aload_n 0, 1), (.iload_n 1, 1)], .invokevirtual 109, 3, [1], 9),
  (6, [(.iconst 1, 1)], .invokevirtual 76, 3, [2], 7),
  (10, [], .ifCond .ne 5, 3, [4, 3], 0),
  (13, [(.iconst (-1), 1)], .ireturn, 1, [], 0),
  (15, [(.aload_n 0, 1)], .invokevirtual 197, 3, [5], 24),
  (19, [(.getfield 123, 3), (.iload_n 1, 1), (.aaload, 1), (.getfield 127, 3)], .tableswitch 37 2 5 #[29, 31, 33, 35], 29, [10, 6, 7, 8, 9], 0),
  (56, [(.iconst 0, 1)], .ireturn, 1, [], 0),
  (58, [(.iconst 1, 1)], .ireturn, 1, [], 0),
  (60, [(.iconst 2, 1)], .ireturn, 1, [], 0),
  (62, [(.iconst 4, 1)], .ireturn, 1, [], 0),
  (64, [(.iconst 3, 1)], .ireturn, 1, [], 0)]
/-- c_waits -/
def nb_b26 : List nb_B := [
  (0, [(.aload_n 0, 1), (.aload_n 0, 1), (.iload_n 1, 1)], .invokevirtual 109, 3, [1], 9),
  (6, [(.iconst 1, 1)], .invokevirtual 76, 3, [2], 7),
  (10, [], .ifCond .ne 5, 3, [4, 3], 0),
  (13, [(.iconst (-1), 1)], .ireturn, 1, [], 0),
  (15, [(.aload_n 0, 1), (.getfield 35, 3), (.getfield 123, 3), (.iload_n 1, 1), (.aaload, 1), (.getfield 127, 3), (.iconst 5, 1)], .if_icmp .ne 8, 3, [6, 5], 0),
  (31, [(.bipush (-2), 2)], .goto 11, 3, [8], 0),
  (36, [(.aload_n 0, 1)], .invokevirtual 197, 3, [7], 24),
  (40, [(.iload_n 1, 1)], .invokevirtual 201, 3, [8], 266),
  (44, [], .ireturn, 1, [], 0)]
/-- c_whom -/
def nb_b27 : List nb_B := [
  (0, [(.aload_n 0, 1), (.aload_n 0, 1), (.iload_n 1, 1)], .invokevirtual 109, 3, [1], 9),
  (6, [(.iconst 1, 1)], .invokevirtual 76, 3, [2], 7),
  (10, [], .ifCond .eq 18, 3, [5, 3], 0),
  (13, [(.aload_n 0, 1)], .invokevirtual 197, 3, [4], 24),
  (17, [(.getfield 123, 3), (.iload_n 1, 1), (.aaload, 1), (.getfield 204, 3)], .goto 4, 3, [6], 0),
  (28, [(.iconst (-1), 1)], .nop, 0, [6], 0),
  (29, [], .ireturn, 1, [], 0)]
/-- c_has -/
def nb_b28 : List nb_B := [
  (0, [(.aload_n 0, 1), (.aload_n 0, 1), (.iload_n 1, 1)], .invokevirtual 109, 3, [1], 9),
  (6, [(.iconst 1, 1)], .invokevirtual 76, 3, [2], 7),
  (10, [], .ifCond .eq 18, 3, [5, 3], 0),
  (13, [(.aload_n 0, 1)], .invokevirtual 197, 3, [4], 24),
  (17, [(.getfield 123, 3), (.iload_n 1, 1), (.aaload, 1), (.getfield 132, 3)], .goto 4, 3, [6], 0),
  (28, [(.iconst (-1), 1)], .nop, 0, [6], 0),
  (29, [], .ireturn, 1, [], 0)]
/-- c_passed -/
def nb_b29 : List nb_B := [
  (0, [(.aload_n 0, 1), (.aload_n 0, 1), (.iload_n 1, 1)], .invokevirtual 109, 3, [1], 9),
  (6, [(.iconst 1, 1)], .invokevirtual 76, 3, [2], 7),
  (10, [], .ifCond .eq 18, 3, [5, 3], 0),
  (13, [(.aload_n 0, 1)], .invokevirtual 197, 3, [4], 24),
  (17, [(.getfield 123, 3), (.iload_n 1, 1), (.aaload, 1), (.getfield 207, 3)], .goto 4, 3, [6], 0),
  (28, [(.iconst (-1), 1)], .nop, 0, [6], 0),
  (29, [], .ireturn, 1, [], 0)]
/-- c_pushed -/
def nb_b30 : List nb_B := [
  (0, [(.aload_n 0, 1), (.aload_n 0, 1), (.iload_n 1, 1)], .invokevirtual 109, 3, [1], 9),
  (6, [(.iconst 1, 1)], .invokevirtual 76, 3, [2], 7),
  (10, [], .ifCond .eq 18, 3, [5, 3], 0),
  (13, [(.aload_n 0, 1)], .invokevirtual 197, 3, [4], 24),
  (17, [(.getfield 123, 3), (.iload_n 1, 1), (.aaload, 1), (.getfield 210, 3)], .goto 4, 3, [6], 0),
  (28, [(.iconst (-1), 1)], .nop, 0, [6], 0),
  (29, [], .ireturn, 1, [], 0)]
/-- c_sum -/
def nb_b31 : List nb_B := [
  (0, [(.aload_n 0, 1), (.aload_n 0, 1), (.iload_n 1, 1)], .invokevirtual 213, 3, [1], 13),
  (6, [(.iconst 1, 1)], .invokevirtual 76, 3, [2], 7),
  (10, [], .ifCond .eq 14, 3, [6, 3], 0),
  (13, [(.aload_n 0, 1)], .invokevirtual 197, 3, [4], 24),
  (17, [(.iload_n 1, 1)], .invokevirtual 216, 3, [5], 268),
  (21, [], .goto 4, 3, [7], 0),
  (24, [(.iconst (-1), 1)], .nop, 0, [7], 0),
  (25, [], .ireturn, 1, [], 0)]
/-- c_served -/
def nb_b32 : List nb_B := [
  (0, [(.aload_n 0, 1)], .invokevirtual 197, 3, [1], 24),
  (4, [(.astore_n 2, 1), (.aload_n 0, 1), (.iload_n 1, 1)], .ifCond .lt 21, 3, [5, 2], 0),
  (10, [(.iload_n 1, 1), (.aload_n 2, 1), (.getfield 219, 3)], .if_icmp .ge 13, 3, [5, 3], 0),
  (18, [(.iload_n 1, 1), (.bipush 10, 2)], .if_icmp .ge 7, 3, [5, 4], 0),
  (24, [(.iconst 1, 1)], .goto 4, 3, [6], 0),
  (28, [(.iconst 0, 1)], .nop, 0, [6], 0),
  (29, [(.iconst 1, 1)], .invokevirtual 76, 3, [7], 7),
  (33, [], .ifCond .ne 5, 3, [9, 8], 0),
  (36, [(.iconst (-1), 1)], .ireturn, 1, [], 0),
  (38, [(.aload_n 2, 1), (.getfield 222, 3), (.iload_n 1, 1), (.iaload, 1)], .ireturn, 1, [], 0)]
/-- c_by -/
def nb_b33 : List nb_B := [
  (0, [(.aload_n 0, 1), (.aload_n 0, 1), (.iload_n 3, 1)], .invokevirtual 213, 3, [1], 13),
  (6, [], .ifCond .eq 16, 3, [5, 2], 0),
  (9, [(.iload_n 1, 1)], .ifCond .lt 12, 3, [5, 3], 0),
  (13, [(.iload_n 1, 1), (.iconst 5, 1)], .if_icmp .ge 7, 3, [5, 4], 0),
  (18, [(.iconst 1, 1)], .goto 4, 3, [6], 0),
  (22, [(.iconst 0, 1)], .nop, 0, [6], 0),
  (23, [(.iconst 1, 1)], .invokevirtual 76, 3, [7], 7),
  (27, [], .ifCond .ne 5, 3, [9, 8], 0),
  (30, [(.iconst (-1), 1)], .ireturn, 1, [], 0),
  (32, [(.aload_n 0, 1), (.iload_n 1, 1), (.iload_n 2, 1), (.iload_n 3, 1)], .invokevirtual 226, 3, [10], 34),
  (39, [], .ireturn, 1, [], 0)]
/-- c_totalBy -/
def nb_b34 : List nb_B := [
  (0, [(.aload_n 0, 1)], .invokevirtual 230, 3, [1], 23),
  (4, [(.astore 4, 2), (.iconst 0, 1), (.istore 5, 2)], .nop, 0, [2], 0),
  (9, [(.iload 5, 2), (.aload_n 0, 1), (.getfield 16, 3), (.getfield 113, 3)], .if_icmp .ge 46, 3, [7, 3], 0),
  (21, [(.aload 4, 2), (.getfield 151, 3), (.iload 5, 2), (.aaload, 1), (.iload_n 1, 1), (.putfield 233, 3)], .nop, 0, [4], 0),
  (33, [(.iload_n 2, 1)], .ifCond .eq 24, 3, [6, 5], 0),
  (37, [(.aload 4, 2), (.getfield 151, 3), (.iload 5, 2), (.aaload, 1), (.iconst 0, 1), (.aload_n 0, 1), (.getfield 16, 3), (.getfield 116, 3), (.iconst 1, 1), (.isub, 1)], .invokevirtual 236, 3, [6], 274),
  (58, [(.iinc 5 1, 3)], .goto (-52), 3, [2], 0),
  (64, [(.aload 4, 2), (.aload 4, 2), (.getfield 191, 3)], .invokevirtual 194, 3, [8], 257),
  (74, [(.aload 4, 2), (.iload_n 3, 1)], .invokevirtual 216, 3, [9], 268),
  (80, [], .ireturn, 1, [], 0)]
/-- c_bestRule -/
def nb_b35 : List nb_B := [
  (0, [(.aload_n 0, 1), (.aload_n 0, 1)], .invokevirtual 119, 3, [1], 8),
  (5, [(.iconst 1, 1)], .invokevirtual 76, 3, [2], 7),
  (9, [], .ifCond .ne 5, 3, [4, 3], 0),
  (12, [(.iconst (-1), 1)], .ireturn, 1, [], 0),
  (14, [(.iconst 0, 1), (.istore_n 2, 1), (.ldc 240, 2), (.istore_n 3, 1), (.iconst 0, 1), (.istore 4, 2)], .nop, 0, [5], 0),
  (22, [(.iload 4, 2), (.iconst 5, 1)], .if_icmp .ge 47, 3, [14, 6], 0),
  (28, [(.iload_n 1, 1)], .ifCond .eq 14, 3, [9, 7], 0),
  (32, [(.aload_n 0, 1), (.iload 4, 2), (.iconst 0, 1), (.iconst 4, 1)], .invokevirtual 226, 3, [8], 34),
  (40, [], .goto 12, 3, [11], 0),
  (43, [(.aload_n 0, 1), (.iload 4, 2), (.iconst 0, 1), (.iconst 0, 1)], .invokevirtual 226, 3, [10], 34),
  (51, [(.ineg, 1)], .nop, 0, [11], 0),
  (52, [(.istore 5, 2), (.iload 5, 2), (.iload_n 3, 1)], .if_icmp .ge 9, 3, [13, 12], 0),
  (60, [(.iload 5, 2), (.istore_n 3, 1), (.iload 4, 2), (.istore_n 2, 1)], .nop, 0, [13], 0),
  (66, [(.iinc 4 1, 3)], .goto (-47), 3, [5], 0),
  (72, [(.iload_n 2, 1)], .ireturn, 1, [], 0)]
/-- c_hand -/
def nb_b36 : List nb_B := [
  (0, [(.aload_n 0, 1), (.aload_n 0, 1)], .invokevirtual 119, 3, [1], 8),
  (5, [(.iconst 1, 1)], .invokevirtual 76, 3, [2], 7),
  (9, [], .ifCond .ne 6, 3, [4, 3], 0),
  (12, [(.bipush (-100), 2)], .ireturn, 1, [], 0),
  (15, [(.aload_n 0, 1)], .invokevirtual 197, 3, [5], 24),
  (19, [(.iconst 0, 1)], .invokevirtual 216, 3, [6], 268),
  (23, [(.istore_n 1, 1), (.aload_n 0, 1)], .invokevirtual 230, 3, [7], 23),
  (28, [(.astore_n 2, 1), (.aload_n 2, 1)], .invokevirtual 241, 3, [8], 256),
  (33, [(.aload_n 2, 1), (.aload_n 2, 1), (.getfield 191, 3)], .invokevirtual 194, 3, [9], 257),
  (41, [(.aload_n 2, 1), (.iconst 0, 1)], .invokevirtual 216, 3, [10], 268),
  (46, [(.iload_n 1, 1), (.isub, 1)], .ireturn, 1, [], 0)]
/-- c_beforehand -/
def nb_b37 : List nb_B := [
  (0, [(.aload_n 0, 1), (.iload_n 1, 1)], .invokevirtual 244, 3, [1], 38),
  (5, [], .ifCond .eq 33, 3, [7, 2], 0),
  (8, [(.aload_n 0, 1), (.aload_n 0, 1), (.getfield 35, 3), (.getfield 123, 3), (.iload_n 1, 1), (.aaload, 1), (.getfield 247, 3), (.bipush (-2), 2)], .if_icmp .ne 7, 3, [4, 3], 0),
  (26, [(.iconst 1, 1)], .goto 4, 3, [5], 0),
  (30, [(.iconst 0, 1)], .nop, 0, [5], 0),
  (31, [(.iconst 5, 1)], .invokevirtual 76, 3, [6], 7),
  (35, [], .ifCond .ne 7, 3, [8, 7], 0),
  (38, [(.sipush (-1000), 3)], .ireturn, 1, [], 0),
  (42, [(.aload_n 0, 1)], .invokevirtual 197, 3, [9], 24),
  (46, [(.iconst 3, 1)], .invokevirtual 216, 3, [10], 268),
  (50, [(.istore_n 2, 1), (.aload_n 0, 1)], .invokevirtual 230, 3, [11], 23),
  (55, [(.astore_n 3, 1), (.aload_n 3, 1), (.getfield 123, 3), (.iload_n 1, 1), (.aaload, 1), (.aload_n 3, 1), (.getfield 123, 3), (.iload_n 1, 1), (.aaload, 1), (.getfield 250, 3), (.putfield 247, 3)], .nop, 0, [12], 0),
  (74, [(.aload_n 3, 1), (.aload_n 3, 1), (.getfield 191, 3)], .invokevirtual 194, 3, [13], 257),
  (82, [(.iload_n 2, 1), (.aload_n 3, 1), (.iconst 3, 1)], .invokevirtual 216, 3, [14], 268),
  (88, [(.isub, 1)], .ireturn, 1, [], 0)]
/-- c_mayStillChange -/
def nb_b38 : List nb_B := [
  (0, [(.aload_n 0, 1), (.aload_n 0, 1), (.iload_n 1, 1)], .invokevirtual 109, 3, [1], 9),
  (6, [(.iconst 1, 1)], .invokevirtual 76, 3, [2], 7),
  (10, [], .ifCond .eq 20, 3, [7, 3], 0),
  (13, [(.aload_n 0, 1), (.aload_n 0, 1), (.iload_n 1, 1)], .invokevirtual 253, 3, [4], 15),
  (19, [(.iconst 5, 1)], .invokevirtual 76, 3, [5], 7),
  (23, [], .ifCond .eq 7, 3, [7, 6], 0),
  (26, [(.iconst 1, 1)], .goto 4, 3, [8], 0),
  (30, [(.iconst 0, 1)], .nop, 0, [8], 0),
  (31, [], .ireturn, 1, [], 0)]
/-- c_bestPlace -/
def nb_b39 : List nb_B := [
  (0, [(.aload_n 0, 1), (.iload_n 1, 1)], .invokevirtual 244, 3, [1], 38),
  (5, [], .ifCond .ne 5, 3, [3, 2], 0),
  (8, [(.iconst (-1), 1)], .ireturn, 1, [], 0),
  (10, [(.bipush (-2), 2), (.istore_n 2, 1), (.ldc 240, 2), (.istore_n 3, 1), (.iconst 0, 1), (.istore 4, 2)], .nop, 0, [4], 0),
  (19, [(.iload 4, 2), (.aload_n 0, 1), (.getfield 16, 3), (.getfield 116, 3)], .if_icmp .ge 57, 3, [13, 5], 0),
  (31, [(.aload_n 0, 1)], .invokevirtual 230, 3, [6], 23),
  (35, [(.astore 5, 2), (.aload 5, 2), (.getfield 123, 3), (.iload_n 1, 1), (.aaload, 1), (.iload 4, 2), (.putfield 138, 3)], .nop, 0, [7], 0),
  (49, [(.aload 5, 2), (.aload 5, 2), (.getfield 191, 3)], .invokevirtual 194, 3, [8], 257),
  (59, [(.aload 5, 2), (.iload_n 1, 1)], .invokevirtual 256, 3, [9], 267),
  (65, [(.iload_n 3, 1)], .if_icmp .ge 13, 3, [12, 10], 0),
  (69, [(.aload 5, 2), (.iload_n 1, 1)], .invokevirtual 256, 3, [11], 267),
  (75, [(.istore_n 3, 1), (.iload 4, 2), (.istore_n 2, 1)], .nop, 0, [12], 0),
  (79, [(.iinc 4 1, 3)], .goto (-63), 3, [4], 0),
  (85, [(.iload_n 2, 1)], .ireturn, 1, [], 0)]
/-- c_bestManner -/
def nb_b40 : List nb_B := [
  (0, [(.aload_n 0, 1), (.iload_n 1, 1)], .invokevirtual 244, 3, [1], 38),
  (5, [], .ifCond .ne 5, 3, [3, 2], 0),
  (8, [(.iconst (-1), 1)], .ireturn, 1, [], 0),
  (10, [(.bipush (-2), 2), (.istore_n 2, 1), (.ldc 240, 2), (.istore_n 3, 1), (.iconst 0, 1), (.istore 4, 2)], .nop, 0, [4], 0),
  (19, [(.iload 4, 2), (.iconst 4, 1)], .if_icmp .ge 59, 3, [13, 5], 0),
  (25, [(.aload_n 0, 1)], .invokevirtual 230, 3, [6], 23),
  (29, [(.astore 5, 2), (.aload 5, 2), (.getfield 123, 3), (.iload_n 1, 1), (.aaload, 1), (.iload 4, 2), (.bipush 30, 2)], .invokevirtual 259, 3, [7], 216),
  (45, [(.aload 5, 2), (.aload 5, 2), (.getfield 191, 3)], .invokevirtual 194, 3, [8], 257),
  (55, [(.aload 5, 2), (.iload_n 1, 1)], .invokevirtual 256, 3, [9], 267),
  (61, [(.iload_n 3, 1)], .if_icmp .ge 13, 3, [12, 10], 0),
  (65, [(.aload 5, 2), (.iload_n 1, 1)], .invokevirtual 256, 3, [11], 267),
  (71, [(.istore_n 3, 1), (.iload 4, 2), (.istore_n 2, 1)], .nop, 0, [12], 0),
  (75, [(.iinc 4 1, 3)], .goto (-59), 3, [4], 0),
  (81, [(.iload_n 2, 1)], .ireturn, 1, [], 0)]
/-- c_cut -/
def nb_b41 : List nb_B := [
  (0, [(.aload_n 0, 1)], .invokevirtual 262, 3, [1], 43),
  (4, [], .ifCond .eq 10, 3, [4, 2], 0),
  (7, [(.aload_n 0, 1)], .invokevirtual 265, 3, [3], 44),
  (11, [], .goto 4, 3, [5], 0),
  (14, [(.iconst (-1), 1)], .nop, 0, [5], 0),
  (15, [], .ireturn, 1, [], 0)]
/-- c_cutWaits -/
def nb_b42 : List nb_B := [
  (0, [(.aload_n 0, 1)], .invokevirtual 262, 3, [1], 43),
  (4, [], .ifCond .eq 14, 3, [5, 2], 0),
  (7, [(.aload_n 0, 1), (.aload_n 0, 1)], .invokevirtual 265, 3, [3], 44),
  (12, [], .invokevirtual 269, 3, [4], 45),
  (15, [], .goto 4, 3, [6], 0),
  (18, [(.iconst (-1), 1)], .nop, 0, [6], 0),
  (19, [], .ireturn, 1, [], 0)]
/-- c_mayCut -/
def nb_b43 : List nb_B := [
  (0, [(.aload_n 0, 1), (.aload_n 0, 1)], .invokevirtual 119, 3, [1], 8),
  (5, [(.iconst 1, 1)], .invokevirtual 76, 3, [2], 7),
  (9, [], .ifCond .eq 42, 3, [10, 3], 0),
  (12, [(.aload_n 0, 1), (.aload_n 0, 1), (.getfield 16, 3), (.getfield 113, 3), (.iconst 2, 1)], .if_icmp .lt 18, 3, [6, 4], 0),
  (24, [(.aload_n 0, 1), (.getfield 16, 3), (.getfield 116, 3), (.iconst 2, 1)], .if_icmp .lt 7, 3, [6, 5], 0),
  (35, [(.iconst 1, 1)], .goto 4, 3, [7], 0),
  (39, [(.iconst 0, 1)], .nop, 0, [7], 0),
  (40, [(.iconst 5, 1)], .invokevirtual 76, 3, [8], 7),
  (44, [], .ifCond .eq 7, 3, [10, 9], 0),
  (47, [(.iconst 1, 1)], .goto 4, 3, [11], 0),
  (51, [(.iconst 0, 1)], .nop, 0, [11], 0),
  (52, [], .ireturn, 1, [], 0)]
/-- c_bestCut -/
def nb_b44 : List nb_B := [
  (0, [(.iconst 0, 1), (.istore_n 1, 1), (.ldc 240, 2), (.istore_n 2, 1), (.iconst 0, 1), (.istore_n 3, 1)], .nop, 0, [1], 0),
  (7, [(.iload_n 3, 1), (.aload_n 0, 1), (.getfield 16, 3), (.getfield 116, 3), (.iconst 2, 1), (.isub, 1)], .if_icmp .gt 27, 3, [6, 2], 0),
  (20, [(.aload_n 0, 1), (.iload_n 3, 1)], .invokevirtual 269, 3, [3], 45),
  (25, [(.istore 4, 2), (.iload 4, 2), (.iload_n 2, 1)], .if_icmp .ge 8, 3, [5, 4], 0),
  (33, [(.iload 4, 2), (.istore_n 2, 1), (.iload_n 3, 1), (.istore_n 1, 1)], .nop, 0, [5], 0),
  (38, [(.iinc 3 1, 3)], .goto (-34), 3, [1], 0),
  (44, [(.iload_n 1, 1)], .ireturn, 1, [], 0)]
/-- c_waitsByCut -/
def nb_b45 : List nb_B := [
  (0, [(.aload_n 0, 1)], .invokevirtual 230, 3, [1], 23),
  (4, [(.astore_n 2, 1), (.aload_n 2, 1), (.getfield 151, 3), (.iconst 0, 1), (.aaload, 1), (.iconst 0, 1), (.iload_n 1, 1)], .invokevirtual 236, 3, [2], 274),
  (16, [(.aload_n 2, 1), (.getfield 151, 3), (.iconst 1, 1), (.aaload, 1), (.iload_n 1, 1), (.iconst 1, 1), (.iadd, 1), (.aload_n 0, 1), (.getfield 16, 3), (.getfield 116, 3), (.iconst 1, 1), (.isub, 1)], .invokevirtual 236, 3, [3], 274),
  (37, [(.aload_n 2, 1), (.aload_n 2, 1), (.getfield 191, 3)], .invokevirtual 194, 3, [4], 257),
  (45, [(.aload_n 2, 1), (.iconst 3, 1)], .invokevirtual 216, 3, [5], 268),
  (50, [], .ireturn, 1, [], 0)]
/-- c_leastLook -/
def nb_b46 : List nb_B := [
  (0, [(.aload_n 0, 1), (.iload_n 1, 1)], .invokevirtual 244, 3, [1], 38),
  (5, [], .ifCond .ne 5, 3, [3, 2], 0),
  (8, [(.iconst (-1), 1)], .ireturn, 1, [], 0),
  (10, [(.bipush (-2), 2), (.istore_n 2, 1), (.ldc 240, 2), (.istore_n 3, 1), (.iconst 0, 1), (.istore 4, 2)], .nop, 0, [4], 0),
  (19, [(.iload 4, 2), (.bipush 99, 2)], .if_icmp .gt 57, 3, [13, 5], 0),
  (26, [(.aload_n 0, 1)], .invokevirtual 230, 3, [6], 23),
  (30, [(.astore 5, 2), (.aload 5, 2), (.getfield 123, 3), (.iload_n 1, 1), (.aaload, 1), (.iload 4, 2), (.putfield 139, 3)], .nop, 0, [7], 0),
  (44, [(.aload 5, 2), (.aload 5, 2), (.getfield 191, 3)], .invokevirtual 194, 3, [8], 257),
  (54, [(.aload 5, 2), (.iload_n 1, 1)], .invokevirtual 256, 3, [9], 267),
  (60, [(.iload_n 3, 1)], .if_icmp .ge 13, 3, [12, 10], 0),
  (64, [(.aload 5, 2), (.iload_n 1, 1)], .invokevirtual 256, 3, [11], 267),
  (70, [(.istore_n 3, 1), (.iload 4, 2), (.istore_n 2, 1)], .nop, 0, [12], 0),
  (74, [(.iinc 4 1, 3)], .goto (-58), 3, [4], 0),
  (80, [(.iload_n 2, 1)], .ireturn, 1, [], 0)]
/-- c_letCosts -/
def nb_b47 : List nb_B := [
  (0, [(.aload_n 0, 1), (.iload_n 1, 1), (.iload_n 2, 1)], .invokevirtual 272, 3, [1], 48),
  (6, [], .ifCond .ne 7, 3, [3, 2], 0),
  (9, [(.sipush (-1000), 3)], .ireturn, 1, [], 0),
  (13, [(.aload_n 0, 1)], .invokevirtual 197, 3, [4], 24),
  (17, [(.iload_n 1, 1)], .invokevirtual 201, 3, [5], 266),
  (21, [(.istore_n 3, 1), (.aload_n 0, 1)], .invokevirtual 230, 3, [6], 23),
  (26, [(.astore 4, 2), (.aload 4, 2), (.iload_n 1, 1), (.iload_n 2, 1)], .invokestatic 276, 3, [7], 49),
  (35, [(.aload 4, 2), (.aload 4, 2), (.getfield 191, 3)], .invokevirtual 194, 3, [8], 257),
  (45, [(.aload 4, 2), (.iload_n 1, 1)], .invokevirtual 201, 3, [9], 266),
  (51, [(.iload_n 3, 1), (.isub, 1)], .ireturn, 1, [], 0)]
/-- c_mayLet -/
def nb_b48 : List nb_B := [
  (0, [(.aload_n 0, 1), (.aload_n 0, 1), (.iload_n 1, 1), (.iload_n 2, 1)], .invokevirtual 280, 3, [1], 10),
  (7, [(.iconst 1, 1)], .invokevirtual 76, 3, [2], 7),
  (11, [], .ifCond .eq 76, 3, [17, 3], 0),
  (14, [(.aload_n 0, 1), (.aload_n 0, 1), (.iload_n 1, 1)], .invokevirtual 168, 3, [4], 14),
  (20, [], .ifCond .eq 15, 3, [8, 5], 0),
  (23, [(.aload_n 0, 1), (.iload_n 2, 1)], .invokevirtual 168, 3, [6], 14),
  (28, [], .ifCond .eq 7, 3, [8, 7], 0),
  (31, [(.iconst 1, 1)], .goto 4, 3, [9], 0),
  (35, [(.iconst 0, 1)], .nop, 0, [9], 0),
  (36, [(.iconst 5, 1)], .invokevirtual 76, 3, [10], 7),
  (40, [], .ifCond .eq 47, 3, [17, 11], 0),
  (43, [(.aload_n 0, 1), (.aload_n 0, 1), (.getfield 35, 3), (.getfield 123, 3), (.iload_n 1, 1), (.aaload, 1), (.getfield 142, 3), (.aload_n 0, 1), (.getfield 35, 3), (.getfield 123, 3), (.iload_n 2, 1), (.aaload, 1), (.getfield 142, 3)], .if_icmp .gt 7, 3, [13, 12], 0),
  (71, [(.iconst 1, 1)], .goto 4, 3, [14], 0),
  (75, [(.iconst 0, 1)], .nop, 0, [14], 0),
  (76, [(.iconst 5, 1)], .invokevirtual 76, 3, [15], 7),
  (80, [], .ifCond .eq 7, 3, [17, 16], 0),
  (83, [(.iconst 1, 1)], .goto 4, 3, [18], 0),
  (87, [(.iconst 0, 1)], .nop, 0, [18], 0),
  (88, [], .ireturn, 1, [], 0)]
/-- c_letFirst -/
def nb_b49 : List nb_B := [
  (0, [(.aload_n 0, 1), (.getfield 123, 3), (.iload_n 1, 1), (.aaload, 1), (.aload_n 0, 1), (.getfield 123, 3), (.iload_n 2, 1), (.aaload, 1), (.getfield 142, 3), (.iconst 1, 1), (.iadd, 1), (.putfield 142, 3)], .nop, 0, [1], 0),
  (20, [], .return_, 1, [], 0)]
/-- c_bell -/
def nb_b50 : List nb_B := [
  (0, [(.aload_n 0, 1), (.aload_n 0, 1), (.iload_n 2, 1)], .invokevirtual 213, 3, [1], 13),
  (6, [(.iconst 1, 1)], .invokevirtual 76, 3, [2], 7),
  (10, [], .ifCond .eq 34, 3, [9, 3], 0),
  (13, [(.aload_n 0, 1), (.iload_n 1, 1), (.aload_n 0, 1), (.getfield 35, 3), (.getfield 135, 3)], .if_icmp .lt 14, 3, [6, 4], 0),
  (25, [(.iload_n 1, 1), (.sipush 900, 3)], .if_icmp .gt 7, 3, [6, 5], 0),
  (32, [(.iconst 1, 1)], .goto 4, 3, [7], 0),
  (36, [(.iconst 0, 1)], .nop, 0, [7], 0),
  (37, [(.iconst 2, 1)], .invokevirtual 76, 3, [8], 7),
  (41, [], .ifCond .ne 5, 3, [10, 9], 0),
  (44, [(.iconst (-1), 1)], .ireturn, 1, [], 0),
  (46, [(.aload_n 0, 1)], .invokevirtual 230, 3, [11], 23),
  (50, [(.astore_n 3, 1), (.aload_n 3, 1), (.iload_n 1, 1), (.putfield 191, 3)], .nop, 0, [12], 0),
  (56, [(.aload_n 3, 1), (.aload_n 3, 1), (.getfield 191, 3)], .invokevirtual 194, 3, [13], 257),
  (64, [(.aload_n 3, 1), (.iload_n 2, 1)], .invokevirtual 216, 3, [14], 268),
  (69, [], .ireturn, 1, [], 0)]
/-- c_waitingAt -/
def nb_b51 : List nb_B := [
  (0, [(.aload_n 0, 1), (.aload_n 0, 1)], .invokevirtual 119, 3, [1], 8),
  (5, [(.iconst 1, 1)], .invokevirtual 76, 3, [2], 7),
  (9, [], .ifCond .eq 38, 3, [9, 3], 0),
  (12, [(.aload_n 0, 1), (.iload_n 1, 1), (.aload_n 0, 1), (.getfield 35, 3), (.getfield 135, 3)], .if_icmp .lt 18, 3, [6, 4], 0),
  (24, [(.iload_n 1, 1), (.aload_n 0, 1), (.getfield 16, 3), (.getfield 283, 3)], .if_icmp .gt 7, 3, [6, 5], 0),
  (35, [(.iconst 1, 1)], .goto 4, 3, [7], 0),
  (39, [(.iconst 0, 1)], .nop, 0, [7], 0),
  (40, [(.iconst 2, 1)], .invokevirtual 76, 3, [8], 7),
  (44, [], .ifCond .ne 5, 3, [10, 9], 0),
  (47, [(.iconst (-1), 1)], .ireturn, 1, [], 0),
  (49, [(.aload_n 0, 1)], .invokevirtual 230, 3, [11], 23),
  (53, [(.astore_n 2, 1), (.aload_n 2, 1), (.iload_n 1, 1)], .invokevirtual 194, 3, [12], 257),
  (59, [(.aload_n 2, 1), (.iconst 1, 1)], .invokevirtual 171, 3, [13], 265),
  (64, [], .ireturn, 1, [], 0)]
/-- c_honesty -/
def nb_b52 : List nb_B := [
  (0, [(.aload_n 0, 1), (.iload_n 1, 1)], .invokevirtual 284, 3, [1], 53),
  (5, [], .ifCond .ne 5, 3, [3, 2], 0),
  (8, [(.iconst (-1), 1)], .ireturn, 1, [], 0),
  (10, [(.aload_n 0, 1), (.iload_n 1, 1)], .invokevirtual 287, 3, [4], 54),
  (15, [(.iload_n 2, 1)], .ifCond .eq 9, 3, [6, 5], 0),
  (19, [(.iload_n 1, 1), (.iconst (-1), 1), (.ixor, 1)], .goto 4, 3, [7], 0),
  (25, [(.iload_n 1, 1)], .nop, 0, [7], 0),
  (26, [], .invokevirtual 291, 3, [8], 270),
  (29, [], .ireturn, 1, [], 0)]
/-- c_isSet -/
def nb_b53 : List nb_B := [
  (0, [(.aload_n 0, 1), (.aload_n 0, 1)], .invokevirtual 119, 3, [1], 8),
  (5, [(.iconst 1, 1)], .invokevirtual 76, 3, [2], 7),
  (9, [], .ifCond .eq 37, 3, [10, 3], 0),
  (12, [(.aload_n 0, 1), (.iload_n 1, 1)], .ifCond .lt 20, 3, [6, 4], 0),
  (17, [(.iload_n 1, 1), (.iconst 1, 1), (.aload_n 0, 1), (.getfield 16, 3), (.getfield 103, 3), (.ishl, 1)], .if_icmp .ge 7, 3, [6, 5], 0),
  (30, [(.iconst 1, 1)], .goto 4, 3, [7], 0),
  (34, [(.iconst 0, 1)], .nop, 0, [7], 0),
  (35, [(.iconst 2, 1)], .invokevirtual 76, 3, [8], 7),
  (39, [], .ifCond .eq 7, 3, [10, 9], 0),
  (42, [(.iconst 1, 1)], .goto 4, 3, [11], 0),
  (46, [(.iconst 0, 1)], .nop, 0, [11], 0),
  (47, [], .ireturn, 1, [], 0)]
/-- c_eveningOfLiars -/
def nb_b54 : List nb_B := [
  (0, [(.aload_n 0, 1), (.getfield 39, 3), (.aload_n 0, 1), (.getfield 16, 3)], .invokevirtual 94, 3, [1], 254),
  (11, [(.iconst 0, 1), (.istore_n 2, 1)], .nop, 0, [2], 0),
  (13, [(.iload_n 2, 1), (.aload_n 0, 1), (.getfield 16, 3), (.getfield 103, 3)], .if_icmp .ge 37, 3, [8, 3], 0),
  (24, [(.aload_n 0, 1), (.getfield 39, 3), (.getfield 123, 3), (.iload_n 2, 1), (.aaload, 1), (.iload_n 1, 1), (.iload_n 2, 1), (.ishr, 1), (.iconst 1, 1), (.iand, 1), (.iconst 1, 1)], .if_icmp .ne 7, 3, [5, 4], 0),
  (42, [(.iconst 1, 1)], .goto 4, 3, [6], 0),
  (46, [(.iconst 0, 1)], .nop, 0, [6], 0),
  (47, [(.bipush 30, 2)], .invokevirtual 259, 3, [7], 216),
  (52, [(.iinc 2 1, 3)], .goto (-42), 3, [2], 0),
  (58, [(.aload_n 0, 1), (.getfield 39, 3), (.aload_n 0, 1), (.getfield 39, 3), (.getfield 191, 3)], .invokevirtual 194, 3, [9], 257),
  (72, [(.aload_n 0, 1), (.getfield 39, 3)], .areturn, 1, [], 0)]
/-- c_rest -/
def nb_b55 : List nb_B := [
  (0, [(.aload_n 0, 1), (.iload_n 1, 1)], .invokevirtual 284, 3, [1], 53),
  (5, [], .ifCond .ne 5, 3, [3, 2], 0),
  (8, [(.iconst (-1), 1)], .ireturn, 1, [], 0),
  (10, [(.iconst 0, 1), (.istore_n 2, 1)], .nop, 0, [4], 0),
  (12, [(.iload_n 2, 1), (.aload_n 0, 1), (.getfield 16, 3), (.getfield 103, 3)], .if_icmp .ge 38, 3, [12, 5], 0),
  (23, [(.aload_n 0, 1), (.iload_n 1, 1)], .invokevirtual 287, 3, [6], 54),
  (28, [(.iload_n 2, 1)], .invokevirtual 201, 3, [7], 266),
  (32, [(.istore_n 3, 1), (.aload_n 0, 1), (.iload_n 1, 1), (.iconst 1, 1), (.iload_n 2, 1), (.ishl, 1), (.ixor, 1)], .invokevirtual 287, 3, [8], 54),
  (42, [(.iload_n 2, 1)], .invokevirtual 201, 3, [9], 266),
  (46, [(.iload_n 3, 1)], .if_icmp .ge 5, 3, [11, 10], 0),
  (50, [(.iconst 0, 1)], .ireturn, 1, [], 0),
  (52, [(.iinc 2 1, 3)], .goto (-43), 3, [4], 0),
  (58, [(.iconst 1, 1)], .ireturn, 1, [], 0)]
/-- c_rests -/
def nb_b56 : List nb_B := [
  (0, [(.aload_n 0, 1), (.aload_n 0, 1)], .invokevirtual 119, 3, [1], 8),
  (5, [(.iconst 1, 1)], .invokevirtual 76, 3, [2], 7),
  (9, [], .ifCond .eq 28, 3, [8, 3], 0),
  (12, [(.aload_n 0, 1), (.aload_n 0, 1), (.getfield 16, 3), (.getfield 103, 3), (.bipush 7, 2)], .if_icmp .gt 7, 3, [5, 4], 0),
  (25, [(.iconst 1, 1)], .goto 4, 3, [6], 0),
  (29, [(.iconst 0, 1)], .nop, 0, [6], 0),
  (30, [(.iconst 3, 1)], .invokevirtual 76, 3, [7], 7),
  (34, [], .ifCond .ne 5, 3, [9, 8], 0),
  (37, [(.iconst (-1), 1)], .ireturn, 1, [], 0),
  (39, [(.iconst 0, 1), (.istore_n 1, 1)], .nop, 0, [10], 0),
  (41, [(.iload_n 1, 1), (.iconst 1, 1), (.aload_n 0, 1), (.getfield 16, 3), (.getfield 103, 3), (.ishl, 1)], .if_icmp .ge 47, 3, [18, 11], 0),
  (54, [(.aload_n 0, 1), (.iload_n 1, 1)], .invokevirtual 287, 3, [12], 54),
  (59, [(.astore_n 2, 1), (.iconst 0, 1), (.istore_n 3, 1)], .nop, 0, [13], 0),
  (62, [(.iload_n 3, 1), (.aload_n 0, 1), (.getfield 16, 3), (.getfield 103, 3)], .if_icmp .ge 22, 3, [17, 14], 0),
  (73, [(.aload_n 0, 1), (.getfield 65, 3), (.iload_n 1, 1), (.aaload, 1), (.iload_n 3, 1), (.aload_n 2, 1), (.iload_n 3, 1)], .invokevirtual 201, 3, [15], 266),
  (85, [(.iastore, 1)], .nop, 0, [16], 0),
  (86, [(.iinc 3 1, 3)], .goto (-27), 3, [13], 0),
  (92, [(.iinc 1 1, 3)], .goto (-54), 3, [10], 0),
  (98, [(.iconst 0, 1), (.istore_n 1, 1), (.iconst 0, 1), (.istore_n 2, 1)], .nop, 0, [19], 0),
  (102, [(.iload_n 2, 1), (.iconst 1, 1), (.aload_n 0, 1), (.getfield 16, 3), (.getfield 103, 3), (.ishl, 1)], .if_icmp .ge 20, 3, [24, 20], 0),
  (115, [(.aload_n 0, 1), (.iload_n 2, 1)], .invokevirtual 294, 3, [21], 57),
  (120, [], .ifCond .eq 6, 3, [23, 22], 0),
  (123, [(.iinc 1 1, 3)], .nop, 0, [23], 0),
  (126, [(.iinc 2 1, 3)], .goto (-27), 3, [19], 0),
  (132, [(.iload_n 1, 1)], .ireturn, 1, [], 0)]
/-- c_nobodyGains -/
def nb_b57 : List nb_B := [
  (0, [(.iconst 0, 1), (.istore_n 2, 1)], .nop, 0, [1], 0),
  (2, [(.iload_n 2, 1), (.aload_n 0, 1), (.getfield 16, 3), (.getfield 103, 3)], .if_icmp .ge 34, 3, [5, 2], 0),
  (13, [(.aload_n 0, 1), (.getfield 65, 3), (.iload_n 1, 1), (.iconst 1, 1), (.iload_n 2, 1), (.ishl, 1), (.ixor, 1), (.aaload, 1), (.iload_n 2, 1), (.iaload, 1), (.aload_n 0, 1), (.getfield 65, 3), (.iload_n 1, 1), (.aaload, 1), (.iload_n 2, 1), (.iaload, 1)], .if_icmp .ge 5, 3, [4, 3], 0),
  (36, [(.iconst 0, 1)], .ireturn, 1, [], 0),
  (38, [(.iinc 2 1, 3)], .goto (-39), 3, [1], 0),
  (44, [(.iconst 1, 1)], .ireturn, 1, [], 0)]
/-- c_row -/
def nb_b58 : List nb_B := [
  (0, [(.aload_n 0, 1), (.getfield 35, 3), (.iconst 1, 1)], .invokevirtual 171, 3, [1], 265),
  (8, [(.istore_n 3, 1), (.aload_n 0, 1), (.aload_n 0, 1), (.iload_n 1, 1)], .invokevirtual 148, 3, [2], 11),
  (15, [], .ifCond .eq 16, 3, [6, 3], 0),
  (18, [(.iload_n 2, 1)], .ifCond .lt 12, 3, [6, 4], 0),
  (22, [(.iload_n 2, 1), (.iload_n 3, 1)], .if_icmp .ge 7, 3, [6, 5], 0),
  (27, [(.iconst 1, 1)], .goto 4, 3, [7], 0),
  (31, [(.iconst 0, 1)], .nop, 0, [7], 0),
  (32, [(.iconst 1, 1)], .invokevirtual 76, 3, [8], 7),
  (36, [], .ifCond .eq 22, 3, [14, 9], 0),
  (39, [(.aload_n 0, 1), (.iload_n 3, 1), (.bipush 7, 2)], .if_icmp .gt 7, 3, [11, 10], 0),
  (46, [(.iconst 1, 1)], .goto 4, 3, [12], 0),
  (50, [(.iconst 0, 1)], .nop, 0, [12], 0),
  (51, [(.iconst 3, 1)], .invokevirtual 76, 3, [13], 7),
  (55, [], .ifCond .ne 5, 3, [15, 14], 0),
  (58, [(.iconst (-1), 1)], .ireturn, 1, [], 0),
  (60, [(.aload_n 0, 1), (.getfield 52, 3), (.aload_n 0, 1), (.getfield 35, 3), (.iload_n 1, 1)], .invokevirtual 297, 3, [16], 248),
  (72, [(.aload_n 0, 1), (.getfield 52, 3), (.iload_n 2, 1)], .invokevirtual 301, 3, [17], 252),
  (80, [], .ireturn, 1, [], 0)]
/-- c_rowSum -/
def nb_b59 : List nb_B := [
  (0, [(.aload_n 0, 1), (.aload_n 0, 1), (.iload_n 1, 1)], .invokevirtual 148, 3, [1], 11),
  (6, [(.iconst 1, 1)], .invokevirtual 76, 3, [2], 7),
  (10, [], .ifCond .eq 29, 3, [9, 3], 0),
  (13, [(.aload_n 0, 1), (.aload_n 0, 1), (.getfield 35, 3), (.iconst 1, 1)], .invokevirtual 171, 3, [4], 265),
  (22, [(.bipush 7, 2)], .if_icmp .gt 7, 3, [6, 5], 0),
  (27, [(.iconst 1, 1)], .goto 4, 3, [7], 0),
  (31, [(.iconst 0, 1)], .nop, 0, [7], 0),
  (32, [(.iconst 3, 1)], .invokevirtual 76, 3, [8], 7),
  (36, [], .ifCond .ne 5, 3, [10, 9], 0),
  (39, [(.iconst (-1), 1)], .ireturn, 1, [], 0),
  (41, [(.aload_n 0, 1), (.getfield 52, 3), (.aload_n 0, 1), (.getfield 35, 3), (.iload_n 1, 1)], .invokevirtual 297, 3, [11], 248),
  (53, [(.aload_n 0, 1), (.getfield 52, 3)], .invokevirtual 304, 3, [12], 251),
  (60, [], .ireturn, 1, [], 0)]
/-- c_liars -/
def nb_b60 : List nb_B := [
  (0, [(.aload_n 0, 1), (.aload_n 0, 1)], .invokevirtual 119, 3, [1], 8),
  (5, [(.iconst 1, 1)], .invokevirtual 76, 3, [2], 7),
  (9, [], .ifCond .eq 17, 3, [5, 3], 0),
  (12, [(.aload_n 0, 1), (.getfield 59, 3), (.aload_n 0, 1), (.getfield 16, 3)], .invokevirtual 307, 3, [4], 280),
  (23, [], .goto 4, 3, [6], 0),
  (26, [(.iconst (-1), 1)], .nop, 0, [6], 0),
  (27, [], .ireturn, 1, [], 0)]
/-- c_surely -/
def nb_b61 : List nb_B := [
  (0, [(.aload_n 0, 1), (.aload_n 0, 1), (.iload_n 1, 1), (.iload_n 2, 1)], .invokevirtual 280, 3, [1], 10),
  (7, [(.iconst 1, 1)], .invokevirtual 76, 3, [2], 7),
  (11, [], .ifCond .ne 5, 3, [4, 3], 0),
  (14, [(.iconst (-1), 1)], .ireturn, 1, [], 0),
  (16, [(.aload_n 0, 1), (.getfield 59, 3), (.aload_n 0, 1), (.getfield 16, 3), (.iload_n 1, 1), (.iload_n 2, 1)], .invokevirtual 311, 3, [5], 281),
  (29, [], .ifCond .eq 7, 3, [7, 6], 0),
  (32, [(.iconst 1, 1)], .goto 4, 3, [8], 0),
  (36, [(.iconst 0, 1)], .nop, 0, [8], 0),
  (37, [], .ireturn, 1, [], 0)]
/-- c_so -/
def nb_b62 : List nb_B := [
  (0, [(.aload_n 0, 1), (.aload_n 0, 1)], .invokevirtual 119, 3, [1], 8),
  (5, [(.iconst 1, 1)], .invokevirtual 76, 3, [2], 7),
  (9, [], .ifCond .ne 5, 3, [4, 3], 0),
  (12, [(.iconst (-1), 1)], .ireturn, 1, [], 0),
  (14, [(.iconst 0, 1), (.istore_n 1, 1), (.iconst 0, 1), (.istore_n 2, 1)], .nop, 0, [5], 0),
  (18, [(.iload_n 2, 1), (.aload_n 0, 1), (.getfield 16, 3), (.getfield 315, 3)], .if_icmp .ge 40, 3, [10, 6], 0),
  (29, [(.aload_n 0, 1), (.getfield 16, 3), (.aload_n 0, 1), (.getfield 16, 3), (.getfield 317, 3), (.iload_n 2, 1), (.iaload, 1), (.aload_n 0, 1), (.getfield 16, 3), (.getfield 320, 3), (.iload_n 2, 1), (.iaload, 1)], .invokevirtual 323, 3, [7], 222),
  (54, [], .ifCond .eq 6, 3, [9, 8], 0),
  (57, [(.iinc 1 1, 3)], .nop, 0, [9], 0),
  (60, [(.iinc 2 1, 3)], .goto (-45), 3, [5], 0),
  (66, [(.iload_n 1, 1)], .ireturn, 1, [], 0)]
/-- c_keep -/
def nb_b63 : List nb_B := [
  (0, [(.aload_n 0, 1), (.getfield 97, 3), (.bipush 12, 2)], .if_icmp .ne 26, 3, [3, 1], 0),
  (9, [(.aload_n 0, 1), (.aload_n 0, 1), (.getfield 326, 3), (.iconst 1, 1), (.iadd, 1), (.bipush 12, 2), (.irem, 1), (.putfield 326, 3)], .nop, 0, [2], 0),
  (22, [(.aload_n 0, 1), (.dup, 1), (.getfield 97, 3), (.iconst 1, 1), (.isub, 1), (.putfield 97, 3)], .nop, 0, [3], 0),
  (32, [(.aload_n 0, 1), (.getfield 42, 3), (.aload_n 0, 1), (.getfield 326, 3), (.aload_n 0, 1), (.getfield 97, 3), (.iadd, 1), (.bipush 12, 2), (.irem, 1), (.aaload, 1), (.aload_n 0, 1), (.getfield 35, 3)], .invokevirtual 187, 3, [4], 255),
  (56, [(.aload_n 0, 1), (.dup, 1), (.getfield 97, 3), (.iconst 1, 1), (.iadd, 1), (.putfield 97, 3)], .nop, 0, [5], 0),
  (66, [], .return_, 1, [], 0)]
/-- c_pass -/
def nb_b64 : List nb_B := [
  (0, [(.aload_n 0, 1), (.aload_n 0, 1)], .invokevirtual 119, 3, [1], 8),
  (5, [(.iconst 1, 1)], .invokevirtual 76, 3, [2], 7),
  (9, [], .ifCond .eq 62, 3, [14, 3], 0),
  (12, [(.aload_n 0, 1), (.iload_n 1, 1), (.iconst 1, 1)], .if_icmp .lt 14, 3, [6, 4], 0),
  (18, [(.iload_n 1, 1), (.sipush 200, 3)], .if_icmp .gt 7, 3, [6, 5], 0),
  (25, [(.iconst 1, 1)], .goto 4, 3, [7], 0),
  (29, [(.iconst 0, 1)], .nop, 0, [7], 0),
  (30, [(.iconst 2, 1)], .invokevirtual 76, 3, [8], 7),
  (34, [], .ifCond .eq 37, 3, [14, 9], 0),
  (37, [(.aload_n 0, 1), (.aload_n 0, 1), (.getfield 35, 3), (.getfield 135, 3), (.iload_n 1, 1), (.iadd, 1), (.iconst 1, 1), (.isub, 1), (.aload_n 0, 1), (.getfield 16, 3), (.getfield 283, 3)], .if_icmp .gt 7, 3, [11, 10], 0),
  (59, [(.iconst 1, 1)], .goto 4, 3, [12], 0),
  (63, [(.iconst 0, 1)], .nop, 0, [12], 0),
  (64, [(.iconst 3, 1)], .invokevirtual 76, 3, [13], 7),
  (68, [], .ifCond .ne 5, 3, [15, 14], 0),
  (71, [(.iconst (-1), 1)], .ireturn, 1, [], 0),
  (73, [(.aload_n 0, 1)], .invokevirtual 329, 3, [16], 63),
  (77, [(.aload_n 0, 1), (.getfield 35, 3), (.aload_n 0, 1), (.getfield 35, 3), (.getfield 135, 3), (.iload_n 1, 1), (.iadd, 1), (.iconst 1, 1), (.isub, 1)], .invokevirtual 194, 3, [17], 257),
  (95, [(.aload_n 0, 1), (.getfield 35, 3), (.getfield 135, 3)], .ireturn, 1, [], 0)]
/-- c_moves -/
def nb_b65 : List nb_B := [
  (0, [(.aload_n 0, 1), (.aload_n 0, 1), (.iload_n 1, 1)], .invokevirtual 109, 3, [1], 9),
  (6, [], .ifCond .eq 15, 3, [5, 2], 0),
  (9, [(.aload_n 0, 1), (.iload_n 2, 1)], .invokevirtual 165, 3, [3], 12),
  (14, [], .ifCond .eq 7, 3, [5, 4], 0),
  (17, [(.iconst 1, 1)], .goto 4, 3, [6], 0),
  (21, [(.iconst 0, 1)], .nop, 0, [6], 0),
  (22, [(.iconst 1, 1)], .invokevirtual 76, 3, [7], 7),
  (26, [], .ifCond .eq 40, 3, [15, 8], 0),
  (29, [(.aload_n 0, 1), (.aload_n 0, 1), (.iload_n 1, 1)], .invokevirtual 168, 3, [9], 14),
  (35, [], .ifCond .eq 23, 3, [12, 10], 0),
  (38, [(.aload_n 0, 1), (.getfield 35, 3), (.getfield 123, 3), (.iload_n 1, 1), (.aaload, 1), (.getfield 138, 3), (.iload_n 2, 1)], .if_icmp .eq 7, 3, [12, 11], 0),
  (54, [(.iconst 1, 1)], .goto 4, 3, [13], 0),
  (58, [(.iconst 0, 1)], .nop, 0, [13], 0),
  (59, [(.iconst 5, 1)], .invokevirtual 76, 3, [14], 7),
  (63, [], .ifCond .ne 5, 3, [16, 15], 0),
  (66, [(.iconst 0, 1)], .ireturn, 1, [], 0),
  (68, [(.aload_n 0, 1)], .invokevirtual 329, 3, [17], 63),
  (72, [(.aload_n 0, 1), (.getfield 35, 3), (.getfield 123, 3), (.iload_n 1, 1), (.aaload, 1), (.iload_n 2, 1), (.putfield 138, 3)], .nop, 0, [18], 0),
  (85, [(.iconst 1, 1)], .ireturn, 1, [], 0)]
/-- c_lets -/
def nb_b66 : List nb_B := [
  (0, [(.aload_n 0, 1), (.iload_n 1, 1), (.iload_n 2, 1)], .invokevirtual 272, 3, [1], 48),
  (6, [], .ifCond .ne 5, 3, [3, 2], 0),
  (9, [(.iconst 0, 1)], .ireturn, 1, [], 0),
  (11, [(.aload_n 0, 1)], .invokevirtual 329, 3, [4], 63),
  (15, [(.aload_n 0, 1), (.getfield 35, 3), (.iload_n 1, 1), (.iload_n 2, 1)], .invokestatic 276, 3, [5], 49),
  (24, [(.iconst 1, 1)], .ireturn, 1, [], 0)]
/-- c_calls -/
def nb_b67 : List nb_B := [
  (0, [(.aload_n 0, 1), (.iload_n 1, 1)], .invokevirtual 332, 3, [1], 69),
  (5, [], .ifCond .ne 5, 3, [3, 2], 0),
  (8, [(.iconst (-1), 1)], .ireturn, 1, [], 0),
  (10, [(.aload_n 0, 1)], .invokevirtual 329, 3, [4], 63),
  (14, [(.aload_n 0, 1), (.getfield 35, 3), (.getfield 123, 3), (.iload_n 1, 1), (.aaload, 1), (.astore_n 2, 1), (.aload_n 2, 1), (.bipush 99, 2), (.aload_n 2, 1), (.getfield 139, 3), (.iconst 5, 1), (.iadd, 1)], .invokestatic 335, 3, [5], 906),
  (36, [(.putfield 139, 3)], .nop, 0, [6], 0),
  (39, [(.aload_n 2, 1), (.getfield 139, 3)], .ireturn, 1, [], 0)]
/-- c_leaves -/
def nb_b68 : List nb_B := [
  (0, [(.aload_n 0, 1), (.iload_n 1, 1)], .invokevirtual 332, 3, [1], 69),
  (5, [], .ifCond .ne 5, 3, [3, 2], 0),
  (8, [(.iconst 0, 1)], .ireturn, 1, [], 0),
  (10, [(.aload_n 0, 1)], .invokevirtual 329, 3, [4], 63),
  (14, [(.aload_n 0, 1), (.getfield 35, 3), (.getfield 123, 3), (.iload_n 1, 1), (.aaload, 1), (.iconst 5, 1), (.putfield 127, 3)], .nop, 0, [5], 0),
  (27, [(.iconst 1, 1)], .ireturn, 1, [], 0)]
/-- c_isPersonWaiting -/
def nb_b69 : List nb_B := [
  (0, [(.aload_n 0, 1), (.aload_n 0, 1), (.iload_n 1, 1)], .invokevirtual 109, 3, [1], 9),
  (6, [(.iconst 1, 1)], .invokevirtual 76, 3, [2], 7),
  (10, [], .ifCond .eq 20, 3, [7, 3], 0),
  (13, [(.aload_n 0, 1), (.aload_n 0, 1), (.iload_n 1, 1)], .invokevirtual 168, 3, [4], 14),
  (19, [(.iconst 5, 1)], .invokevirtual 76, 3, [5], 7),
  (23, [], .ifCond .eq 7, 3, [7, 6], 0),
  (26, [(.iconst 1, 1)], .goto 4, 3, [8], 0),
  (30, [(.iconst 0, 1)], .nop, 0, [8], 0),
  (31, [], .ireturn, 1, [], 0)]
/-- c_undo -/
def nb_b70 : List nb_B := [
  (0, [(.aload_n 0, 1), (.aload_n 0, 1), (.getfield 97, 3)], .ifCond .le 7, 3, [2, 1], 0),
  (8, [(.iconst 1, 1)], .goto 4, 3, [3], 0),
  (12, [(.iconst 0, 1)], .nop, 0, [3], 0),
  (13, [(.bipush 6, 2)], .invokevirtual 76, 3, [4], 7),
  (18, [], .ifCond .ne 5, 3, [6, 5], 0),
  (21, [(.iconst 0, 1)], .ireturn, 1, [], 0),
  (23, [(.aload_n 0, 1), (.dup, 1), (.getfield 97, 3), (.iconst 1, 1), (.isub, 1), (.putfield 97, 3)], .nop, 0, [7], 0),
  (33, [(.aload_n 0, 1), (.getfield 35, 3), (.aload_n 0, 1), (.getfield 42, 3), (.aload_n 0, 1), (.getfield 326, 3), (.aload_n 0, 1), (.getfield 97, 3), (.iadd, 1), (.bipush 12, 2), (.irem, 1), (.aaload, 1)], .invokevirtual 187, 3, [8], 255),
  (57, [(.iconst 1, 1)], .ireturn, 1, [], 0)]
/-- c_image -/
def nb_b71 : List nb_B := [
  (0, [(.aload_n 0, 1), (.aload_n 0, 1)], .invokevirtual 119, 3, [1], 8),
  (5, [(.iconst 1, 1)], .invokevirtual 76, 3, [2], 7),
  (9, [], .ifCond .eq 24, 3, [8, 3], 0),
  (12, [(.aload_n 0, 1), (.aload_n 0, 1), (.getfield 100, 3), (.iconst 3, 1)], .if_icmp .ge 7, 3, [5, 4], 0),
  (21, [(.iconst 1, 1)], .goto 4, 3, [6], 0),
  (25, [(.iconst 0, 1)], .nop, 0, [6], 0),
  (26, [(.iconst 3, 1)], .invokevirtual 76, 3, [7], 7),
  (30, [], .ifCond .ne 5, 3, [9, 8], 0),
  (33, [(.iconst (-1), 1)], .ireturn, 1, [], 0),
  (35, [(.aload_n 0, 1), (.getfield 46, 3), (.aload_n 0, 1), (.getfield 100, 3), (.aaload, 1), (.aload_n 0, 1), (.getfield 35, 3)], .invokevirtual 187, 3, [10], 255),
  (51, [(.aload_n 0, 1), (.dup, 1), (.getfield 100, 3), (.iconst 1, 1), (.iadd, 1), (.putfield 100, 3)], .nop, 0, [11], 0),
  (61, [(.aload_n 0, 1), (.getfield 100, 3), (.iconst 1, 1), (.isub, 1)], .ireturn, 1, [], 0)]
/-- c_back -/
def nb_b72 : List nb_B := [
  (0, [(.aload_n 0, 1), (.iload_n 1, 1)], .ifCond .lt 15, 3, [3, 1], 0),
  (5, [(.iload_n 1, 1), (.aload_n 0, 1), (.getfield 100, 3)], .if_icmp .ge 7, 3, [3, 2], 0),
  (13, [(.iconst 1, 1)], .goto 4, 3, [4], 0),
  (17, [(.iconst 0, 1)], .nop, 0, [4], 0),
  (18, [(.iconst 1, 1)], .invokevirtual 76, 3, [5], 7),
  (22, [], .ifCond .ne 5, 3, [7, 6], 0),
  (25, [(.iconst 0, 1)], .ireturn, 1, [], 0),
  (27, [(.aload_n 0, 1), (.getfield 35, 3), (.aload_n 0, 1), (.getfield 46, 3), (.iload_n 1, 1), (.aaload, 1)], .invokevirtual 187, 3, [8], 255),
  (40, [(.aload_n 0, 1), (.iconst 0, 1), (.putfield 97, 3)], .nop, 0, [9], 0),
  (45, [(.iconst 1, 1)], .ireturn, 1, [], 0)]
/-- c_told -/
def nb_b73 : List nb_B := [
  (0, [(.aload_n 0, 1), (.aload_n 0, 1), (.iload_n 1, 1)], .invokevirtual 109, 3, [1], 9),
  (6, [], .ifCond .eq 17, 3, [5, 2], 0),
  (9, [(.iload_n 2, 1)], .ifCond .lt 13, 3, [5, 3], 0),
  (13, [(.iload_n 2, 1), (.bipush 6, 2)], .if_icmp .gt 7, 3, [5, 4], 0),
  (19, [(.iconst 1, 1)], .goto 4, 3, [6], 0),
  (23, [(.iconst 0, 1)], .nop, 0, [6], 0),
  (24, [(.iconst 1, 1)], .invokevirtual 76, 3, [7], 7),
  (28, [], .ifCond .ne 5, 3, [9, 8], 0),
  (31, [(.iconst (-1), 1)], .ireturn, 1, [], 0),
  (33, [(.aload_n 0, 1), (.getfield 16, 3), (.getfield 340, 3), (.iload_n 1, 1), (.aaload, 1), (.astore_n 3, 1), (.iload_n 2, 1)], .tableswitch 70 0 5 #[40, 45, 50, 55, 60, 65], 40, [16, 10, 11, 12, 13, 14, 15], 0),
  (84, [(.aload_n 3, 1), (.getfield 341, 3)], .ireturn, 1, [], 0),
  (89, [(.aload_n 3, 1), (.getfield 344, 3)], .ireturn, 1, [], 0),
  (94, [(.aload_n 3, 1), (.getfield 250, 3)], .ireturn, 1, [], 0),
  (99, [(.aload_n 3, 1), (.getfield 138, 3)], .ireturn, 1, [], 0),
  (104, [(.aload_n 3, 1), (.getfield 347, 3)], .ireturn, 1, [], 0),
  (109, [(.aload_n 3, 1), (.getfield 139, 3)], .ireturn, 1, [], 0),
  (114, [(.aload_n 3, 1), (.getfield 247, 3)], .ireturn, 1, [], 0)]
/-- c_wants -/
def nb_b74 : List nb_B := [
  (0, [(.aload_n 0, 1), (.aload_n 0, 1), (.iload_n 1, 1)], .invokevirtual 109, 3, [1], 9),
  (6, [], .ifCond .eq 22, 3, [5, 2], 0),
  (9, [(.iload_n 2, 1)], .ifCond .lt 18, 3, [5, 3], 0),
  (13, [(.iload_n 2, 1), (.aload_n 0, 1), (.getfield 16, 3), (.getfield 350, 3)], .if_icmp .ge 7, 3, [5, 4], 0),
  (24, [(.iconst 1, 1)], .goto 4, 3, [6], 0),
  (28, [(.iconst 0, 1)], .nop, 0, [6], 0),
  (29, [(.iconst 1, 1)], .invokevirtual 76, 3, [7], 7),
  (33, [], .ifCond .ne 5, 3, [9, 8], 0),
  (36, [(.iconst (-1), 1)], .ireturn, 1, [], 0),
  (38, [(.aload_n 0, 1), (.getfield 16, 3), (.getfield 353, 3), (.iload_n 1, 1), (.aaload, 1), (.iload_n 2, 1), (.iaload, 1)], .ireturn, 1, [], 0)]
/-- c_size -/
def nb_b75 : List nb_B := [
  (0, [(.iload_n 1, 1)], .tableswitch 138 0 10 #[59, 67, 75, 83, 91, 99, 107, 115, 123, 128, 133], 59, [12, 1, 2, 3, 4, 5, 6, 7, 8, 9, 10, 11], 0),
  (60, [(.aload_n 0, 1), (.getfield 16, 3), (.getfield 116, 3)], .ireturn, 1, [], 0),
  (68, [(.aload_n 0, 1), (.getfield 16, 3), (.getfield 283, 3)], .ireturn, 1, [], 0),
  (76, [(.aload_n 0, 1), (.getfield 16, 3), (.getfield 350, 3)], .ireturn, 1, [], 0),
  (84, [(.aload_n 0, 1), (.getfield 16, 3), (.getfield 113, 3)], .ireturn, 1, [], 0),
  (92, [(.aload_n 0, 1), (.getfield 16, 3), (.getfield 103, 3)], .ireturn, 1, [], 0),
  (100, [(.aload_n 0, 1), (.getfield 16, 3), (.getfield 362, 3)], .ireturn, 1, [], 0),
  (108, [(.aload_n 0, 1), (.getfield 16, 3), (.getfield 315, 3)], .ireturn, 1, [], 0),
  (116, [(.aload_n 0, 1), (.getfield 35, 3), (.getfield 135, 3)], .ireturn, 1, [], 0),
  (124, [(.aload_n 0, 1), (.getfield 97, 3)], .ireturn, 1, [], 0),
  (129, [(.aload_n 0, 1), (.getfield 100, 3)], .ireturn, 1, [], 0),
  (134, [(.aload_n 0, 1), (.getfield 68, 3)], .ireturn, 1, [], 0),
  (139, [(.iconst (-1), 1)], .ireturn, 1, [], 0)]
/-- c_trouble -/
def nb_b76 : List nb_B := [
  (0, [(.aload_n 0, 1), (.getfield 106, 3)], .ireturn, 1, [], 0)]
/-- m_init -/
def nb_b77 : List nb_B := [
  (0, [(.aload_n 0, 1)], .invokespecial 1, 3, [1], 900),
  (4, [(.aload_n 0, 1), (.sipush 1000, 3), (.newarray .int, 2)], .nop, 0, [2], 0),
  (10, [(.putfield 7, 3)], .nop, 0, [3], 0),
  (13, [(.aload_n 0, 1), (.iconst (-1), 1), (.putfield 13, 3)], .nop, 0, [4], 0),
  (18, [(.aload_n 0, 1), (.bipush 8, 2), (.newarray .int, 2)], .nop, 0, [5], 0),
  (23, [(.putfield 17, 3)], .nop, 0, [6], 0),
  (26, [(.aload_n 0, 1), (.sipush 347, 3), (.newarray .int, 2)], .nop, 0, [7], 0),
  (32, [(.putfield 20, 3)], .nop, 0, [8], 0),
  (35, [(.aload_n 0, 1), (.sipush 347, 3), (.newarray .int, 2)], .nop, 0, [9], 0),
  (41, [(.putfield 23, 3)], .nop, 0, [10], 0),
  (44, [(.aload_n 0, 1), (.bipush 108, 2), (.newarray .int, 2)], .nop, 0, [11], 0),
  (49, [(.putfield 26, 3)], .nop, 0, [12], 0),
  (52, [(.aload_n 0, 1), (.bipush 108, 2), (.newarray .int, 2)], .nop, 0, [13], 0),
  (57, [(.putfield 29, 3)], .nop, 0, [14], 0),
  (60, [(.aload_n 0, 1), (.sipush 1296, 3), (.newarray .int, 2)], .nop, 0, [15], 0),
  (66, [(.putfield 32, 3)], .nop, 0, [16], 0),
  (69, [(.aload_n 0, 1), (.sipush 324, 3), (.newarray .int, 2)], .nop, 0, [17], 0),
  (75, [(.putfield 35, 3)], .nop, 0, [18], 0),
  (78, [(.aload_n 0, 1), (.bipush 24, 2), (.newarray .int, 2)], .nop, 0, [19], 0),
  (83, [(.putfield 38, 3)], .nop, 0, [20], 0),
  (86, [(.aload_n 0, 1), (.bipush 70, 2), (.newarray .int, 2)], .nop, 0, [21], 0),
  (91, [(.putfield 41, 3)], .nop, 0, [22], 0),
  (94, [(.aload_n 0, 1), (.bipush 108, 2), (.newarray .int, 2)], .nop, 0, [23], 0),
  (99, [(.putfield 44, 3)], .nop, 0, [24], 0),
  (102, [(.aload_n 0, 1), (.bipush 10, 2), (.newarray .int, 2)], .nop, 0, [25], 0),
  (107, [(.putfield 47, 3)], .nop, 0, [26], 0),
  (110, [(.aload_n 0, 1), (.bipush 7, 2), (.newarray .int, 2)], .nop, 0, [27], 0),
  (115, [(.putfield 50, 3)], .nop, 0, [28], 0),
  (118, [(.aload_n 0, 1), (.bipush 7, 2), (.newarray .int, 2)], .nop, 0, [29], 0),
  (123, [(.putfield 53, 3)], .nop, 0, [30], 0),
  (126, [(.aload_n 0, 1), (.bipush 100, 2), (.newarray .boolean, 2)], .nop, 0, [31], 0),
  (131, [(.putfield 56, 3)], .nop, 0, [32], 0),
  (134, [], .return_, 1, [], 0)]
/-- m_thrown -/
def nb_b78 : List nb_B := [
  (0, [(.aload_n 0, 1), (.getfield 60, 3)], .ireturn, 1, [], 0)]
/-- m_good -/
def nb_b79 : List nb_B := [
  (0, [(.aload_n 0, 1), (.iconst 0, 1), (.putfield 60, 3)], .nop, 0, [1], 0),
  (5, [(.aload_n 0, 1), (.iconst 0, 1), (.putfield 63, 3)], .nop, 0, [2], 0),
  (10, [], .return_, 1, [], 0)]
/-- m_no -/
def nb_b80 : List nb_B := [
  (0, [(.aload_n 0, 1), (.iload_n 1, 1), (.putfield 63, 3)], .nop, 0, [1], 0),
  (5, [(.iconst (-1), 1)], .ireturn, 1, [], 0)]
/-- m_noLess -/
def nb_b81 : List nb_B := [
  (0, [(.aload_n 0, 1), (.iconst 1, 1), (.putfield 63, 3)], .nop, 0, [1], 0),
  (5, [(.iload_n 1, 1)], .ireturn, 1, [], 0)]
/-- m_isNot -/
def nb_b82 : List nb_B := [
  (0, [(.aload_n 0, 1), (.iload_n 1, 1), (.putfield 63, 3)], .nop, 0, [1], 0),
  (5, [(.iconst 0, 1)], .ireturn, 1, [], 0)]
/-- m_within -/
def nb_b83 : List nb_B := [
  (0, [(.iload_n 0, 1), (.iload_n 1, 1)], .if_icmp .lt 12, 3, [3, 1], 0),
  (5, [(.iload_n 0, 1), (.iload_n 2, 1)], .if_icmp .gt 7, 3, [3, 2], 0),
  (10, [(.iconst 1, 1)], .goto 4, 3, [4], 0),
  (14, [(.iconst 0, 1)], .nop, 0, [4], 0),
  (15, [], .ireturn, 1, [], 0)]
/-- m_hasBit -/
def nb_b84 : List nb_B := [
  (0, [(.iload_n 0, 1), (.iload_n 1, 1), (.ishr, 1), (.iconst 1, 1), (.iand, 1), (.iconst 1, 1)], .if_icmp .ne 7, 3, [2, 1], 0),
  (9, [(.iconst 1, 1)], .goto 4, 3, [3], 0),
  (13, [(.iconst 0, 1)], .nop, 0, [3], 0),
  (14, [], .ireturn, 1, [], 0)]
/-- m_ones -/
def nb_b85 : List nb_B := [
  (0, [(.iconst 0, 1), (.istore_n 1, 1), (.iconst 0, 1), (.istore_n 2, 1)], .nop, 0, [1], 0),
  (4, [(.iload_n 2, 1), (.bipush 10, 2)], .if_icmp .ge 17, 3, [3, 2], 0),
  (10, [(.iload_n 1, 1), (.iload_n 0, 1), (.iload_n 2, 1), (.ishr, 1), (.iconst 1, 1), (.iand, 1), (.iadd, 1), (.istore_n 1, 1), (.iinc 2 1, 3)], .goto (-17), 3, [1], 0),
  (24, [(.iload_n 1, 1)], .ireturn, 1, [], 0)]
/-- m_copy -/
def nb_b86 : List nb_B := [
  (0, [(.iconst 0, 1), (.istore 5, 2)], .nop, 0, [1], 0),
  (3, [(.iload 5, 2), (.iload 4, 2)], .if_icmp .ge 21, 3, [4, 2], 0),
  (10, [(.aload_n 2, 1), (.iload_n 3, 1), (.iload 5, 2), (.iadd, 1), (.aload_n 0, 1), (.iload_n 1, 1), (.iload 5, 2), (.iadd, 1), (.iaload, 1), (.iastore, 1)], .nop, 0, [3], 0),
  (22, [(.iinc 5 1, 3)], .goto (-22), 3, [1], 0),
  (28, [], .return_, 1, [], 0)]
/-- m_feed -/
def nb_b87 : List nb_B := [
  (0, [(.aload_n 0, 1), (.iconst 0, 1), (.putfield 60, 3)], .nop, 0, [1], 0),
  (5, [(.aload_n 0, 1), (.getfield 66, 3), (.bipush 20, 2), (.iadd, 1), (.sipush 1000, 3)], .if_icmp .le 5, 3, [3, 2], 0),
  (18, [(.iconst (-1), 1)], .ireturn, 1, [], 0),
  (20, [(.iconst 0, 1), (.istore 6, 2)], .nop, 0, [4], 0),
  (23, [(.iload 6, 2), (.bipush 20, 2)], .if_icmp .ge 93, 3, [17, 5], 0),
  (30, [(.iload 6, 2), (.iconst 4, 1)], .if_icmp .ge 7, 3, [7, 6], 0),
  (36, [(.iload_n 1, 1)], .goto 39, 3, [14], 0),
  (40, [(.iload 6, 2), (.bipush 8, 2)], .if_icmp .ge 7, 3, [9, 8], 0),
  (47, [(.iload_n 2, 1)], .goto 28, 3, [14], 0),
  (51, [(.iload 6, 2), (.bipush 12, 2)], .if_icmp .ge 7, 3, [11, 10], 0),
  (58, [(.iload_n 3, 1)], .goto 17, 3, [14], 0),
  (62, [(.iload 6, 2), (.bipush 16, 2)], .if_icmp .ge 8, 3, [13, 12], 0),
  (69, [(.iload 4, 2)], .goto 5, 3, [14], 0),
  (74, [(.iload 5, 2)], .nop, 0, [14], 0),
  (76, [(.istore 7, 2), (.aload_n 0, 1), (.getfield 7, 3), (.aload_n 0, 1), (.getfield 66, 3), (.iload 7, 2), (.bipush 24, 2), (.bipush 8, 2), (.iload 6, 2), (.iconst 4, 1), (.irem, 1), (.imul, 1), (.isub, 1), (.ishr, 1), (.sipush 255, 3), (.iand, 1), (.iastore, 1)], .nop, 0, [15], 0),
  (104, [(.aload_n 0, 1), (.dup, 1), (.getfield 66, 3), (.iconst 1, 1), (.iadd, 1), (.putfield 66, 3)], .nop, 0, [16], 0),
  (114, [(.iinc 6 1, 3)], .goto (-94), 3, [4], 0),
  (120, [(.aload_n 0, 1), (.getfield 66, 3)], .ireturn, 1, [], 0)]
/-- m_seen -/
def nb_b88 : List nb_B := [
  (0, [(.iload_n 1, 1), (.aload_n 0, 1), (.getfield 69, 3)], .if_icmp .ge 12, 3, [2, 1], 0),
  (8, [(.aload_n 0, 1), (.getfield 7, 3), (.iload_n 1, 1), (.iaload, 1)], .goto 4, 3, [3], 0),
  (17, [(.iconst (-1), 1)], .nop, 0, [3], 0),
  (18, [], .ireturn, 1, [], 0)]
/-- m_isSmall -/
def nb_b89 : List nb_B := [
  (0, [(.iload_n 0, 1), (.bipush 97, 2)], .if_icmp .lt 13, 3, [3, 1], 0),
  (6, [(.iload_n 0, 1), (.bipush 122, 2)], .if_icmp .gt 7, 3, [3, 2], 0),
  (12, [(.iconst 1, 1)], .goto 4, 3, [4], 0),
  (16, [(.iconst 0, 1)], .nop, 0, [4], 0),
  (17, [], .ireturn, 1, [], 0)]
/-- m_isDigit -/
def nb_b90 : List nb_B := [
  (0, [(.iload_n 0, 1), (.bipush 48, 2)], .if_icmp .lt 13, 3, [3, 1], 0),
  (6, [(.iload_n 0, 1), (.bipush 57, 2)], .if_icmp .gt 7, 3, [3, 2], 0),
  (12, [(.iconst 1, 1)], .goto 4, 3, [4], 0),
  (16, [(.iconst 0, 1)], .nop, 0, [4], 0),
  (17, [], .ireturn, 1, [], 0)]
/-- m_nextToken -/
def nb_b91 : List nb_B := [
  (0, [(.aload_n 0, 1), (.getfield 72, 3), (.istore_n 1, 1)], .nop, 0, [1], 0),
  (5, [(.aload_n 0, 1), (.iload_n 1, 1)], .invokevirtual 75, 3, [2], 88),
  (10, [(.bipush 32, 2)], .if_icmp .ne 9, 3, [4, 3], 0),
  (15, [(.iinc 1 1, 3)], .goto (-13), 3, [1], 0),
  (21, [(.aload_n 0, 1), (.iload_n 1, 1), (.putfield 79, 3)], .nop, 0, [5], 0),
  (26, [(.aload_n 0, 1), (.iload_n 1, 1)], .invokevirtual 75, 3, [6], 88),
  (31, [(.istore_n 2, 1), (.aload_n 0, 1), (.iconst 0, 1), (.putfield 82, 3)], .nop, 0, [7], 0),
  (37, [(.aload_n 0, 1), (.iconst 0, 1), (.putfield 85, 3)], .nop, 0, [8], 0),
  (42, [(.iload_n 2, 1), (.iconst (-1), 1)], .if_icmp .ne 16, 3, [12, 9], 0),
  (47, [(.aload_n 0, 1), (.iconst 0, 1), (.putfield 88, 3)], .nop, 0, [10], 0),
  (52, [(.aload_n 0, 1), (.iload_n 1, 1), (.putfield 72, 3)], .nop, 0, [11], 0),
  (57, [], .goto 190, 3, [50], 0),
  (60, [(.iload_n 2, 1)], .invokestatic 91, 3, [13], 89),
  (64, [], .ifCond .eq 79, 3, [28, 14], 0),
  (67, [(.aload_n 0, 1), (.iload_n 1, 1)], .invokevirtual 75, 3, [15], 88),
  (72, [], .invokestatic 91, 3, [16], 89),
  (75, [], .ifCond .eq 42, 3, [22, 17], 0),
  (78, [(.aload_n 0, 1), (.getfield 82, 3), (.bipush 8, 2)], .if_icmp .ge 17, 3, [20, 18], 0),
  (87, [(.aload_n 0, 1), (.getfield 17, 3), (.aload_n 0, 1), (.getfield 82, 3), (.aload_n 0, 1), (.iload_n 1, 1)], .invokevirtual 75, 3, [19], 88),
  (100, [(.iastore, 1)], .nop, 0, [20], 0),
  (101, [(.aload_n 0, 1), (.dup, 1), (.getfield 82, 3), (.iconst 1, 1), (.iadd, 1), (.putfield 82, 3)], .nop, 0, [21], 0),
  (111, [(.iinc 1 1, 3)], .goto (-47), 3, [14], 0),
  (117, [(.aload_n 0, 1), (.iload_n 1, 1), (.putfield 72, 3)], .nop, 0, [23], 0),
  (122, [(.aload_n 0, 1), (.aload_n 0, 1), (.getfield 82, 3), (.bipush 8, 2)], .if_icmp .le 7, 3, [25, 24], 0),
  (132, [(.iconst 1, 1)], .goto 4, 3, [26], 0),
  (136, [(.iconst 2, 1)], .nop, 0, [26], 0),
  (137, [(.putfield 88, 3)], .nop, 0, [27], 0),
  (140, [], .goto 107, 3, [50], 0),
  (143, [(.iload_n 2, 1)], .invokestatic 95, 3, [29], 90),
  (147, [], .ifCond .eq 72, 3, [44, 30], 0),
  (150, [(.iconst 0, 1), (.istore_n 3, 1)], .nop, 0, [31], 0),
  (152, [(.aload_n 0, 1), (.iload_n 1, 1)], .invokevirtual 75, 3, [32], 88),
  (157, [], .invokestatic 95, 3, [33], 90),
  (160, [], .ifCond .eq 37, 3, [38, 34], 0),
  (163, [(.iload_n 3, 1), (.iconst 3, 1)], .if_icmp .ge 23, 3, [37, 35], 0),
  (168, [(.aload_n 0, 1), (.bipush 10, 2), (.aload_n 0, 1), (.getfield 85, 3), (.imul, 1), (.aload_n 0, 1), (.iload_n 1, 1)], .invokevirtual 75, 3, [36], 88),
  (181, [(.iadd, 1), (.bipush 48, 2), (.isub, 1), (.putfield 85, 3)], .nop, 0, [37], 0),
  (188, [(.iinc 3 1, 3), (.iinc 1 1, 3)], .goto (-42), 3, [31], 0),
  (197, [(.aload_n 0, 1), (.iload_n 1, 1), (.putfield 72, 3)], .nop, 0, [39], 0),
  (202, [(.aload_n 0, 1), (.iload_n 3, 1), (.iconst 3, 1)], .if_icmp .le 7, 3, [41, 40], 0),
  (208, [(.iconst 1, 1)], .goto 4, 3, [42], 0),
  (212, [(.iconst 3, 1)], .nop, 0, [42], 0),
  (213, [(.putfield 88, 3)], .nop, 0, [43], 0),
  (216, [], .goto 31, 3, [50], 0),
  (219, [(.aload_n 0, 1), (.iload_n 1, 1), (.iconst 1, 1), (.iadd, 1), (.putfield 72, 3)], .nop, 0, [45], 0),
  (226, [(.aload_n 0, 1), (.iload_n 2, 1), (.bipush 59, 2)], .if_icmp .eq 9, 3, [47, 46], 0),
  (233, [(.iload_n 2, 1), (.bipush 44, 2)], .if_icmp .ne 7, 3, [48, 47], 0),
  (239, [(.iload_n 2, 1)], .goto 4, 3, [49], 0),
  (243, [(.iconst 1, 1)], .nop, 0, [49], 0),
  (244, [(.putfield 88, 3)], .nop, 0, [50], 0),
  (247, [], .return_, 1, [], 0)]
/-- m_wrong -/
def nb_b92 : List nb_B := [
  (0, [(.aload_n 0, 1), (.getfield 98, 3)], .ifCond .eq 4, 3, [2, 1], 0),
  (7, [], .return_, 1, [], 0),
  (8, [(.aload_n 0, 1), (.iconst 1, 1), (.putfield 98, 3)], .nop, 0, [3], 0),
  (13, [(.aload_n 0, 1), (.iload_n 1, 1), (.putfield 102, 3)], .nop, 0, [4], 0),
  (18, [(.aload_n 0, 1), (.iload_n 2, 1), (.putfield 13, 3)], .nop, 0, [5], 0),
  (23, [], .return_, 1, [], 0)]
/-- m_isWord -/
def nb_b93 : List nb_B := [
  (0, [(.aload_n 0, 1), (.getfield 98, 3)], .ifCond .ne 22, 3, [4, 1], 0),
  (7, [(.aload_n 0, 1), (.getfield 88, 3), (.iconst 2, 1)], .if_icmp .ne 14, 3, [4, 2], 0),
  (15, [(.aload_n 0, 1), (.getfield 82, 3), (.aload_n 1, 1)], .invokevirtual 105, 3, [3], 901),
  (23, [], .if_icmp .eq 5, 3, [5, 4], 0),
  (26, [(.iconst 0, 1)], .ireturn, 1, [], 0),
  (28, [(.iconst 1, 1), (.istore_n 2, 1), (.iconst 0, 1), (.istore_n 3, 1)], .nop, 0, [6], 0),
  (32, [(.iload_n 3, 1), (.aload_n 0, 1), (.getfield 82, 3)], .if_icmp .ge 33, 3, [13, 7], 0),
  (40, [(.iload_n 2, 1)], .ifCond .eq 21, 3, [11, 8], 0),
  (44, [(.aload_n 0, 1), (.getfield 17, 3), (.iload_n 3, 1), (.iaload, 1), (.aload_n 1, 1), (.iload_n 3, 1)], .invokevirtual 111, 3, [9], 902),
  (55, [], .if_icmp .ne 7, 3, [11, 10], 0),
  (58, [(.iconst 1, 1)], .goto 4, 3, [12], 0),
  (62, [(.iconst 0, 1)], .nop, 0, [12], 0),
  (63, [(.istore_n 2, 1), (.iinc 3 1, 3)], .goto (-35), 3, [6], 0),
  (70, [(.iload_n 2, 1)], .ireturn, 1, [], 0)]
/-- m_takesWord -/
def nb_b94 : List nb_B := [
  (0, [(.aload_n 0, 1), (.aload_n 1, 1)], .invokevirtual 115, 3, [1], 93),
  (5, [], .ifCond .ne 5, 3, [3, 2], 0),
  (8, [(.iconst 0, 1)], .ireturn, 1, [], 0),
  (10, [(.aload_n 0, 1)], .invokevirtual 119, 3, [4], 91),
  (14, [(.iconst 1, 1)], .ireturn, 1, [], 0)]
/-- m_must -/
def nb_b95 : List nb_B := [
  (0, [(.aload_n 0, 1), (.getfield 98, 3)], .ifCond .ne 20, 3, [4, 1], 0),
  (7, [(.aload_n 0, 1), (.aload_n 1, 1)], .invokevirtual 122, 3, [2], 94),
  (12, [], .ifCond .ne 12, 3, [4, 3], 0),
  (15, [(.aload_n 0, 1), (.iconst 1, 1), (.aload_n 0, 1), (.getfield 79, 3)], .invokevirtual 125, 3, [4], 92),
  (24, [], .return_, 1, [], 0)]
/-- m_mustName -/
def nb_b96 : List nb_B := [
  (0, [(.aload_n 0, 1), (.ldc 129, 2)], .invokevirtual 115, 3, [1], 93),
  (6, [], .ifCond .ne 48, 3, [12, 2], 0),
  (9, [(.aload_n 0, 1), (.ldc 131, 2)], .invokevirtual 115, 3, [3], 93),
  (15, [], .ifCond .ne 39, 3, [12, 4], 0),
  (18, [(.aload_n 0, 1), (.ldc 133, 2)], .invokevirtual 115, 3, [5], 93),
  (24, [], .ifCond .ne 30, 3, [12, 6], 0),
  (27, [(.aload_n 0, 1), (.ldc 135, 2)], .invokevirtual 115, 3, [7], 93),
  (33, [], .ifCond .ne 21, 3, [12, 8], 0),
  (36, [(.aload_n 0, 1), (.ldc 137, 2)], .invokevirtual 115, 3, [9], 93),
  (42, [], .ifCond .ne 12, 3, [12, 10], 0),
  (45, [(.aload_n 0, 1), (.ldc 139, 2)], .invokevirtual 115, 3, [11], 93),
  (51, [], .ifCond .eq 7, 3, [13, 12], 0),
  (54, [(.iconst 1, 1)], .goto 4, 3, [14], 0),
  (58, [(.iconst 0, 1)], .nop, 0, [14], 0),
  (59, [(.istore_n 1, 1), (.aload_n 0, 1), (.getfield 88, 3), (.iconst 2, 1)], .if_icmp .ne 7, 3, [16, 15], 0),
  (68, [(.iload_n 1, 1)], .ifCond .eq 12, 3, [17, 16], 0),
  (72, [(.aload_n 0, 1), (.iconst 1, 1), (.aload_n 0, 1), (.getfield 79, 3)], .invokevirtual 125, 3, [17], 92),
  (81, [], .return_, 1, [], 0)]
/-- m_find -/
def nb_b97 : List nb_B := [
  (0, [(.iconst 0, 1), (.istore_n 1, 1)], .nop, 0, [1], 0),
  (2, [(.iload_n 1, 1), (.bipush 18, 2)], .if_icmp .ge 101, 3, [16, 2], 0),
  (8, [(.aload_n 0, 1), (.getfield 23, 3), (.sipush 185, 3), (.iload_n 1, 1), (.iadd, 1), (.iaload, 1)], .ifCond .le 24, 3, [5, 3], 0),
  (21, [(.aload_n 0, 1), (.getfield 23, 3), (.sipush 185, 3), (.iload_n 1, 1), (.iadd, 1), (.iaload, 1), (.aload_n 0, 1), (.getfield 82, 3)], .if_icmp .ne 7, 3, [5, 4], 0),
  (38, [(.iconst 1, 1)], .goto 4, 3, [6], 0),
  (42, [(.iconst 0, 1)], .nop, 0, [6], 0),
  (43, [(.istore_n 2, 1), (.iconst 0, 1), (.istore_n 3, 1)], .nop, 0, [7], 0),
  (46, [(.iload_n 3, 1), (.aload_n 0, 1), (.getfield 82, 3)], .if_icmp .ge 43, 3, [13, 8], 0),
  (54, [(.iload_n 2, 1)], .ifCond .eq 39, 3, [13, 9], 0),
  (58, [(.aload_n 0, 1), (.getfield 23, 3), (.sipush 203, 3), (.bipush 8, 2), (.iload_n 1, 1), (.imul, 1), (.iadd, 1), (.iload_n 3, 1), (.iadd, 1), (.iaload, 1), (.aload_n 0, 1), (.getfield 17, 3), (.iload_n 3, 1), (.iaload, 1)], .if_icmp .ne 7, 3, [11, 10], 0),
  (82, [(.iconst 1, 1)], .goto 4, 3, [12], 0),
  (86, [(.iconst 0, 1)], .nop, 0, [12], 0),
  (87, [(.istore_n 2, 1), (.iinc 3 1, 3)], .goto (-45), 3, [7], 0),
  (94, [(.iload_n 2, 1)], .ifCond .eq 5, 3, [15, 14], 0),
  (98, [(.iload_n 1, 1)], .ireturn, 1, [], 0),
  (100, [(.iinc 1 1, 3)], .goto (-101), 3, [1], 0),
  (106, [(.iconst (-1), 1)], .ireturn, 1, [], 0)]
/-- m_newName -/
def nb_b98 : List nb_B := [
  (0, [(.aload_n 0, 1), (.getfield 98, 3)], .ifCond .eq 4, 3, [2, 1], 0),
  (7, [], .return_, 1, [], 0),
  (8, [(.aload_n 0, 1)], .invokevirtual 141, 3, [3], 96),
  (12, [(.aload_n 0, 1), (.getfield 98, 3)], .ifCond .ne 19, 3, [7, 4], 0),
  (19, [(.aload_n 0, 1)], .invokevirtual 144, 3, [5], 97),
  (23, [], .ifCond .lt 12, 3, [7, 6], 0),
  (26, [(.aload_n 0, 1), (.iconst 3, 1), (.aload_n 0, 1), (.getfield 79, 3)], .invokevirtual 125, 3, [7], 92),
  (35, [(.aload_n 0, 1), (.getfield 98, 3)], .ifCond .eq 4, 3, [9, 8], 0),
  (42, [], .return_, 1, [], 0),
  (43, [(.iconst 0, 1), (.istore_n 2, 1)], .nop, 0, [10], 0),
  (45, [(.iload_n 2, 1), (.aload_n 0, 1), (.getfield 82, 3)], .if_icmp .ge 30, 3, [13, 11], 0),
  (53, [(.aload_n 0, 1), (.getfield 23, 3), (.sipush 203, 3), (.bipush 8, 2), (.iload_n 1, 1), (.imul, 1), (.iadd, 1), (.iload_n 2, 1), (.iadd, 1), (.aload_n 0, 1), (.getfield 17, 3), (.iload_n 2, 1), (.iaload, 1), (.iastore, 1)], .nop, 0, [12], 0),
  (74, [(.iinc 2 1, 3)], .goto (-32), 3, [10], 0),
  (80, [(.aload_n 0, 1), (.getfield 23, 3), (.sipush 185, 3), (.iload_n 1, 1), (.iadd, 1), (.aload_n 0, 1), (.getfield 82, 3), (.iastore, 1)], .nop, 0, [14], 0),
  (94, [(.aload_n 0, 1)], .invokevirtual 119, 3, [15], 91),
  (98, [], .return_, 1, [], 0)]
/-- m_named -/
def nb_b99 : List nb_B := [
  (0, [(.aload_n 0, 1), (.getfield 98, 3)], .ifCond .eq 5, 3, [2, 1], 0),
  (7, [(.iload_n 1, 1)], .ireturn, 1, [], 0),
  (9, [(.aload_n 0, 1)], .invokevirtual 141, 3, [3], 96),
  (13, [(.aload_n 0, 1), (.getfield 98, 3)], .ifCond .eq 5, 3, [5, 4], 0),
  (20, [(.iload_n 1, 1)], .ireturn, 1, [], 0),
  (22, [(.aload_n 0, 1)], .invokevirtual 144, 3, [6], 97),
  (26, [(.istore_n 3, 1), (.iload_n 3, 1), (.iload_n 1, 1), (.iload_n 2, 1)], .invokestatic 147, 3, [7], 83),
  (33, [], .ifCond .ne 12, 3, [9, 8], 0),
  (36, [(.aload_n 0, 1), (.iconst 2, 1), (.aload_n 0, 1), (.getfield 79, 3)], .invokevirtual 125, 3, [9], 92),
  (45, [(.aload_n 0, 1), (.getfield 98, 3)], .ifCond .eq 7, 3, [11, 10], 0),
  (52, [(.iload_n 1, 1)], .goto 4, 3, [12], 0),
  (56, [(.iload_n 3, 1)], .nop, 0, [12], 0),
  (57, [], .ireturn, 1, [], 0)]
/-- m_personHere -/
def nb_b100 : List nb_B := [
  (0, [(.aload_n 0, 1), (.bipush 8, 2), (.bipush 17, 2)], .invokevirtual 151, 3, [1], 99),
  (8, [(.iconst 5, 1), (.isub, 1), (.iconst 3, 1), (.isub, 1)], .ireturn, 1, [], 0)]
/-- m_personPassed -/
def nb_b101 : List nb_B := [
  (0, [(.aload_n 0, 1)], .invokevirtual 155, 3, [1], 100),
  (4, [(.istore_n 1, 1), (.aload_n 0, 1), (.getfield 98, 3)], .ifCond .ne 7, 3, [3, 2], 0),
  (12, [(.aload_n 0, 1)], .invokevirtual 119, 3, [3], 91),
  (16, [(.iload_n 1, 1)], .ireturn, 1, [], 0)]
/-- m_number -/
def nb_b102 : List nb_B := [
  (0, [(.aload_n 0, 1), (.getfield 98, 3)], .ifCond .eq 5, 3, [2, 1], 0),
  (7, [(.iload_n 1, 1)], .ireturn, 1, [], 0),
  (9, [(.aload_n 0, 1), (.getfield 88, 3), (.iconst 3, 1)], .if_icmp .eq 14, 3, [5, 3], 0),
  (17, [(.aload_n 0, 1), (.iconst 1, 1), (.aload_n 0, 1), (.getfield 79, 3)], .invokevirtual 125, 3, [4], 92),
  (26, [(.iload_n 1, 1)], .ireturn, 1, [], 0),
  (28, [(.aload_n 0, 1), (.getfield 85, 3), (.istore_n 3, 1), (.iload_n 3, 1), (.iload_n 1, 1), (.iload_n 2, 1)], .invokestatic 147, 3, [6], 83),
  (39, [], .ifCond .ne 14, 3, [9, 7], 0),
  (42, [(.aload_n 0, 1), (.iconst 4, 1), (.aload_n 0, 1), (.getfield 79, 3)], .invokevirtual 125, 3, [8], 92),
  (51, [(.iload_n 1, 1)], .ireturn, 1, [], 0),
  (53, [(.aload_n 0, 1)], .invokevirtual 119, 3, [10], 91),
  (57, [(.iload_n 3, 1)], .ireturn, 1, [], 0)]
/-- m_after -/
def nb_b103 : List nb_B := [
  (0, [(.aload_n 0, 1), (.aload_n 1, 1)], .invokevirtual 158, 3, [1], 95),
  (5, [(.aload_n 0, 1), (.iload_n 2, 1), (.iload_n 3, 1)], .invokevirtual 162, 3, [2], 102),
  (11, [], .ireturn, 1, [], 0)]
/-- m_comma -/
def nb_b104 : List nb_B := [
  (0, [(.aload_n 0, 1), (.getfield 98, 3)], .ifCond .ne 12, 3, [2, 1], 0),
  (7, [(.aload_n 0, 1), (.getfield 88, 3), (.bipush 44, 2)], .if_icmp .eq 5, 3, [3, 2], 0),
  (16, [(.iconst 0, 1)], .ireturn, 1, [], 0),
  (18, [(.aload_n 0, 1)], .invokevirtual 119, 3, [4], 91),
  (22, [(.iconst 1, 1)], .ireturn, 1, [], 0)]
/-- m_house -/
def nb_b105 : List nb_B := [
  (0, [(.aload_n 0, 1)], .invokevirtual 165, 3, [1], 79),
  (4, [(.iload_n 1, 1), (.iconst 0, 1), (.aload_n 0, 1), (.getfield 66, 3)], .invokestatic 147, 3, [2], 83),
  (13, [], .ifCond .ne 9, 3, [5, 3], 0),
  (16, [(.aload_n 0, 1), (.iconst 2, 1)], .invokevirtual 168, 3, [4], 80),
  (21, [], .ireturn, 1, [], 0),
  (22, [(.aload_n 0, 1), (.iconst 0, 1), (.putfield 66, 3)], .nop, 0, [6], 0),
  (27, [(.aload_n 0, 1), (.iconst 0, 1), (.putfield 102, 3)], .nop, 0, [7], 0),
  (32, [(.aload_n 0, 1), (.iconst 0, 1), (.putfield 98, 3)], .nop, 0, [8], 0),
  (37, [(.iconst 0, 1), (.istore_n 2, 1)], .nop, 0, [9], 0),
  (39, [(.iload_n 2, 1), (.sipush 347, 3)], .if_icmp .ge 16, 3, [12, 10], 0),
  (46, [(.aload_n 0, 1), (.getfield 23, 3), (.iload_n 2, 1), (.iconst 0, 1), (.iastore, 1)], .nop, 0, [11], 0),
  (53, [(.iinc 2 1, 3)], .goto (-17), 3, [9], 0),
  (59, [(.aload_n 0, 1), (.iload_n 1, 1), (.putfield 69, 3)], .nop, 0, [13], 0),
  (64, [(.aload_n 0, 1), (.iconst 0, 1), (.putfield 72, 3)], .nop, 0, [14], 0),
  (69, [(.aload_n 0, 1)], .invokevirtual 119, 3, [15], 91),
  (73, [(.aload_n 0, 1)], .invokevirtual 171, 3, [16], 107),
  (77, [(.aload_n 0, 1), (.getfield 98, 3)], .ifCond .ne 23, 3, [21, 17], 0),
  (84, [(.aload_n 0, 1), (.getfield 88, 3), (.bipush 59, 2)], .if_icmp .ne 14, 3, [21, 18], 0),
  (93, [(.aload_n 0, 1)], .invokevirtual 119, 3, [19], 91),
  (97, [(.aload_n 0, 1)], .invokevirtual 171, 3, [20], 107),
  (101, [], .goto (-24), 3, [16], 0),
  (104, [(.aload_n 0, 1), (.getfield 98, 3)], .ifCond .ne 19, 3, [24, 22], 0),
  (111, [(.aload_n 0, 1), (.getfield 88, 3)], .ifCond .eq 12, 3, [24, 23], 0),
  (118, [(.aload_n 0, 1), (.iconst 1, 1), (.aload_n 0, 1), (.getfield 79, 3)], .invokevirtual 125, 3, [24], 92),
  (127, [(.aload_n 0, 1), (.getfield 98, 3)], .ifCond .ne 49, 3, [30, 25], 0),
  (134, [(.aload_n 0, 1), (.getfield 23, 3), (.iconst 0, 1), (.iaload, 1)], .ifCond .eq 30, 3, [29, 26], 0),
  (143, [(.aload_n 0, 1), (.getfield 23, 3), (.iconst 3, 1), (.iaload, 1)], .ifCond .eq 21, 3, [29, 27], 0),
  (152, [(.aload_n 0, 1), (.getfield 23, 3), (.iconst 4, 1), (.iaload, 1)], .ifCond .eq 12, 3, [29, 28], 0),
  (161, [(.aload_n 0, 1), (.getfield 23, 3), (.iconst 5, 1), (.iaload, 1)], .ifCond .ne 13, 3, [30, 29], 0),
  (170, [(.aload_n 0, 1), (.bipush 6, 2), (.aload_n 0, 1), (.getfield 79, 3)], .invokevirtual 125, 3, [30], 92),
  (180, [(.aload_n 0, 1), (.getfield 98, 3)], .ifCond .eq 9, 3, [33, 31], 0),
  (187, [(.aload_n 0, 1), (.iconst 4, 1)], .invokevirtual 168, 3, [32], 80),
  (192, [], .ireturn, 1, [], 0),
  (193, [(.aload_n 0, 1), (.getfield 23, 3), (.iconst 0, 1), (.aload_n 0, 1), (.getfield 20, 3), (.iconst 0, 1), (.sipush 347, 3)], .invokestatic 174, 3, [34], 86),
  (209, [(.aload_n 0, 1), (.iconst 1, 1), (.putfield 178, 3)], .nop, 0, [35], 0),
  (214, [(.aload_n 0, 1), (.iconst 0, 1), (.putfield 181, 3)], .nop, 0, [36], 0),
  (219, [(.aload_n 0, 1), (.iconst 0, 1), (.putfield 184, 3)], .nop, 0, [37], 0),
  (224, [(.aload_n 0, 1)], .invokevirtual 187, 3, [38], 121),
  (228, [(.aload_n 0, 1), (.aload_n 0, 1), (.getfield 26, 3)], .invokevirtual 190, 3, [39], 124),
  (236, [(.aload_n 0, 1), (.getfield 20, 3), (.iconst 5, 1), (.iaload, 1)], .ireturn, 1, [], 0)]
/-- m_begins -/
def nb_b106 : List nb_B := [
  (0, [(.aload_n 0, 1), (.aload_n 1, 1)], .invokevirtual 115, 3, [1], 93),
  (5, [], .ifCond .ne 5, 3, [3, 2], 0),
  (8, [(.iconst 0, 1)], .ireturn, 1, [], 0),
  (10, [(.iload_n 2, 1)], .ifCond .ne 12, 3, [5, 4], 0),
  (14, [(.aload_n 0, 1), (.iconst 5, 1), (.aload_n 0, 1), (.getfield 79, 3)], .invokevirtual 125, 3, [5], 92),
  (23, [(.aload_n 0, 1), (.getfield 23, 3), (.iconst 0, 1), (.iaload, 1)], .ifCond .ne 13, 3, [7, 6], 0),
  (32, [(.aload_n 0, 1), (.bipush 6, 2), (.aload_n 0, 1), (.getfield 79, 3)], .invokevirtual 125, 3, [7], 92),
  (42, [(.aload_n 0, 1), (.getfield 98, 3)], .ifCond .ne 7, 3, [9, 8], 0),
  (49, [(.aload_n 0, 1)], .invokevirtual 119, 3, [9], 91),
  (53, [(.iconst 1, 1)], .ireturn, 1, [], 0)]
/-- m_readLine -/
def nb_b107 : List nb_B := [
  (0, [(.aload_n 0, 1), (.ldc 129, 2)], .invokevirtual 115, 3, [1], 93),
  (6, [], .ifCond .eq 10, 3, [4, 2], 0),
  (9, [(.aload_n 0, 1)], .invokevirtual 194, 3, [3], 108),
  (13, [], .goto 156, 3, [37], 0),
  (16, [(.aload_n 0, 1), (.ldc 131, 2), (.aload_n 0, 1), (.getfield 23, 3), (.iconst 3, 1), (.iaload, 1), (.iconst 5, 1)], .if_icmp .ge 7, 3, [6, 5], 0),
  (29, [(.iconst 1, 1)], .goto 4, 3, [7], 0),
  (33, [(.iconst 0, 1)], .nop, 0, [7], 0),
  (34, [], .invokevirtual 197, 3, [8], 106),
  (37, [], .ifCond .eq 10, 3, [11, 9], 0),
  (40, [(.aload_n 0, 1)], .invokevirtual 201, 3, [10], 109),
  (44, [], .goto 125, 3, [37], 0),
  (47, [(.aload_n 0, 1), (.ldc 133, 2), (.aload_n 0, 1), (.getfield 23, 3), (.iconst 4, 1), (.iaload, 1), (.iconst 3, 1)], .if_icmp .ge 7, 3, [13, 12], 0),
  (60, [(.iconst 1, 1)], .goto 4, 3, [14], 0),
  (64, [(.iconst 0, 1)], .nop, 0, [14], 0),
  (65, [], .invokevirtual 197, 3, [15], 106),
  (68, [], .ifCond .eq 10, 3, [18, 16], 0),
  (71, [(.aload_n 0, 1)], .invokevirtual 204, 3, [17], 110),
  (75, [], .goto 94, 3, [37], 0),
  (78, [(.aload_n 0, 1), (.ldc 135, 2), (.aload_n 0, 1), (.getfield 23, 3), (.iconst 5, 1), (.iaload, 1), (.bipush 10, 2)], .if_icmp .ge 7, 3, [20, 19], 0),
  (92, [(.iconst 1, 1)], .goto 4, 3, [21], 0),
  (96, [(.iconst 0, 1)], .nop, 0, [21], 0),
  (97, [], .invokevirtual 197, 3, [22], 106),
  (100, [], .ifCond .eq 10, 3, [25, 23], 0),
  (103, [(.aload_n 0, 1)], .invokevirtual 207, 3, [24], 111),
  (107, [], .goto 62, 3, [37], 0),
  (110, [(.aload_n 0, 1), (.ldc 137, 2), (.iconst 1, 1)], .invokevirtual 197, 3, [26], 106),
  (117, [], .ifCond .eq 10, 3, [29, 27], 0),
  (120, [(.aload_n 0, 1)], .invokevirtual 210, 3, [28], 112),
  (124, [], .goto 45, 3, [37], 0),
  (127, [(.aload_n 0, 1), (.ldc 139, 2), (.aload_n 0, 1), (.getfield 23, 3), (.bipush 7, 2), (.iaload, 1), (.bipush 8, 2)], .if_icmp .ge 7, 3, [31, 30], 0),
  (142, [(.iconst 1, 1)], .goto 4, 3, [32], 0),
  (146, [(.iconst 0, 1)], .nop, 0, [32], 0),
  (147, [], .invokevirtual 197, 3, [33], 106),
  (150, [], .ifCond .eq 10, 3, [36, 34], 0),
  (153, [(.aload_n 0, 1)], .invokevirtual 213, 3, [35], 113),
  (157, [], .goto 12, 3, [37], 0),
  (160, [(.aload_n 0, 1), (.iconst 1, 1), (.aload_n 0, 1), (.getfield 79, 3)], .invokevirtual 125, 3, [37], 92),
  (169, [], .return_, 1, [], 0)]
/-- m_houseLine -/
def nb_b108 : List nb_B := [
  (0, [(.aload_n 0, 1), (.getfield 23, 3), (.iconst 0, 1), (.iaload, 1), (.iconst 1, 1)], .if_icmp .ne 12, 3, [2, 1], 0),
  (10, [(.aload_n 0, 1), (.iconst 3, 1), (.aload_n 0, 1), (.getfield 79, 3)], .invokevirtual 125, 3, [2], 92),
  (19, [(.aload_n 0, 1), (.getfield 98, 3)], .ifCond .eq 4, 3, [4, 3], 0),
  (26, [], .return_, 1, [], 0),
  (27, [(.aload_n 0, 1)], .invokevirtual 119, 3, [5], 91),
  (31, [(.aload_n 0, 1), (.getfield 23, 3), (.iconst 1, 1), (.aload_n 0, 1), (.ldc 216, 2), (.iconst 1, 1), (.bipush 20, 2)], .invokevirtual 218, 3, [6], 103),
  (45, [(.iastore, 1)], .nop, 0, [7], 0),
  (46, [(.aload_n 0, 1), (.getfield 23, 3), (.iconst 2, 1), (.aload_n 0, 1), (.ldc 222, 2), (.iconst 1, 1), (.sipush 600, 3)], .invokevirtual 218, 3, [8], 103),
  (61, [(.iastore, 1)], .nop, 0, [9], 0),
  (62, [(.aload_n 0, 1), (.getfield 98, 3)], .ifCond .ne 10, 3, [11, 10], 0),
  (69, [(.aload_n 0, 1), (.getfield 23, 3), (.iconst 0, 1), (.iconst 1, 1), (.iastore, 1)], .nop, 0, [11], 0),
  (76, [], .return_, 1, [], 0)]
/-- m_drinkLine -/
def nb_b109 : List nb_B := [
  (0, [(.aload_n 0, 1), (.getfield 98, 3)], .ifCond .eq 4, 3, [2, 1], 0),
  (7, [], .return_, 1, [], 0),
  (8, [(.bipush 8, 2), (.iconst 3, 1), (.aload_n 0, 1), (.getfield 23, 3), (.iconst 3, 1), (.iaload, 1), (.imul, 1), (.iadd, 1), (.istore_n 1, 1), (.aload_n 0, 1), (.aload_n 0, 1), (.getfield 23, 3), (.iconst 3, 1), (.iaload, 1)], .invokevirtual 224, 3, [3], 98),
  (30, [(.aload_n 0, 1), (.getfield 23, 3), (.iload_n 1, 1), (.aload_n 0, 1), (.ldc 228, 2), (.iconst 1, 1), (.bipush 90, 2)], .invokevirtual 218, 3, [4], 103),
  (44, [(.iastore, 1)], .nop, 0, [5], 0),
  (45, [(.aload_n 0, 1), (.getfield 23, 3), (.iload_n 1, 1), (.iconst 1, 1), (.iadd, 1), (.aload_n 0, 1), (.ldc 230, 2), (.iconst 0, 1), (.aload_n 0, 1), (.getfield 23, 3), (.iload_n 1, 1), (.iaload, 1)], .invokevirtual 218, 3, [6], 103),
  (65, [(.iastore, 1)], .nop, 0, [7], 0),
  (66, [(.aload_n 0, 1), (.getfield 23, 3), (.iload_n 1, 1), (.iconst 2, 1), (.iadd, 1), (.aload_n 0, 1), (.ldc 232, 2), (.iconst 0, 1), (.bipush 99, 2)], .invokevirtual 218, 3, [8], 103),
  (82, [(.iastore, 1)], .nop, 0, [9], 0),
  (83, [(.aload_n 0, 1), (.getfield 98, 3)], .ifCond .ne 13, 3, [11, 10], 0),
  (90, [(.aload_n 0, 1), (.getfield 23, 3), (.iconst 3, 1), (.dup2, 1), (.iaload, 1), (.iconst 1, 1), (.iadd, 1), (.iastore, 1)], .nop, 0, [11], 0),
  (100, [], .return_, 1, [], 0)]
/-- m_staffLine -/
def nb_b110 : List nb_B := [
  (0, [(.aload_n 0, 1), (.getfield 98, 3)], .ifCond .eq 4, 3, [2, 1], 0),
  (7, [], .return_, 1, [], 0),
  (8, [(.bipush 23, 2), (.bipush 6, 2), (.aload_n 0, 1), (.getfield 23, 3), (.iconst 4, 1), (.iaload, 1), (.imul, 1), (.iadd, 1), (.istore_n 1, 1), (.aload_n 0, 1), (.iconst 5, 1), (.aload_n 0, 1), (.getfield 23, 3), (.iconst 4, 1), (.iaload, 1), (.iadd, 1)], .invokevirtual 224, 3, [3], 98),
  (33, [(.aload_n 0, 1), (.ldc 234, 2)], .invokevirtual 115, 3, [4], 93),
  (39, [], .ifCond .eq 7, 3, [6, 5], 0),
  (42, [(.iconst 0, 1)], .goto 56, 3, [19], 0),
  (46, [(.aload_n 0, 1), (.ldc 236, 2)], .invokevirtual 115, 3, [7], 93),
  (52, [], .ifCond .eq 7, 3, [9, 8], 0),
  (55, [(.iconst 1, 1)], .goto 43, 3, [19], 0),
  (59, [(.aload_n 0, 1), (.ldc 238, 2)], .invokevirtual 115, 3, [10], 93),
  (65, [], .ifCond .eq 7, 3, [12, 11], 0),
  (68, [(.iconst 2, 1)], .goto 30, 3, [19], 0),
  (72, [(.aload_n 0, 1), (.ldc 240, 2)], .invokevirtual 115, 3, [13], 93),
  (78, [], .ifCond .eq 7, 3, [15, 14], 0),
  (81, [(.iconst 3, 1)], .goto 17, 3, [19], 0),
  (85, [(.aload_n 0, 1), (.ldc 242, 2)], .invokevirtual 115, 3, [16], 93),
  (91, [], .ifCond .eq 7, 3, [18, 17], 0),
  (94, [(.iconst 4, 1)], .goto 4, 3, [19], 0),
  (98, [(.iconst (-1), 1)], .nop, 0, [19], 0),
  (99, [(.istore_n 2, 1), (.iload_n 2, 1)], .ifCond .ge 12, 3, [21, 20], 0),
  (104, [(.aload_n 0, 1), (.iconst 1, 1), (.aload_n 0, 1), (.getfield 79, 3)], .invokevirtual 125, 3, [21], 92),
  (113, [(.aload_n 0, 1), (.getfield 98, 3)], .ifCond .eq 4, 3, [23, 22], 0),
  (120, [], .return_, 1, [], 0),
  (121, [(.aload_n 0, 1)], .invokevirtual 119, 3, [24], 91),
  (125, [(.aload_n 0, 1), (.getfield 23, 3), (.iload_n 1, 1), (.iconst 0, 1), (.iadd, 1), (.iload_n 2, 1), (.iastore, 1)], .nop, 0, [25], 0),
  (134, [(.aload_n 0, 1), (.getfield 23, 3), (.iload_n 1, 1), (.iconst 1, 1), (.iadd, 1), (.aload_n 0, 1), (.ldc 244, 2), (.iconst 0, 1), (.aload_n 0, 1), (.getfield 23, 3), (.iconst 1, 1), (.iaload, 1), (.iconst 1, 1), (.isub, 1)], .invokevirtual 218, 3, [26], 103),
  (156, [(.iastore, 1)], .nop, 0, [27], 0),
  (157, [(.aload_n 0, 1), (.getfield 23, 3), (.iload_n 1, 1), (.iconst 2, 1), (.iadd, 1), (.aload_n 0, 1), (.ldc 245, 2), (.iconst 0, 1), (.aload_n 0, 1), (.getfield 23, 3), (.iconst 1, 1), (.iaload, 1), (.iconst 1, 1), (.isub, 1)], .invokevirtual 218, 3, [28], 103),
  (179, [(.iastore, 1)], .nop, 0, [29], 0),
  (180, [(.aload_n 0, 1), (.getfield 23, 3), (.iload_n 1, 1), (.iconst 3, 1), (.iadd, 1), (.aload_n 0, 1), (.ldc 247, 2), (.aload_n 0, 1), (.getfield 23, 3), (.iload_n 1, 1), (.iconst 2, 1), (.iadd, 1), (.iaload, 1), (.aload_n 0, 1), (.getfield 23, 3), (.iconst 1, 1), (.iaload, 1), (.iconst 1, 1), (.isub, 1)], .invokevirtual 218, 3, [30], 103),
  (209, [(.iastore, 1)], .nop, 0, [31], 0),
  (210, [(.aload_n 0, 1), (.getfield 23, 3), (.iload_n 1, 1), (.iconst 4, 1), (.iadd, 1), (.aload_n 0, 1), (.ldc 249, 2), (.iconst 0, 1), (.bipush 9, 2)], .invokevirtual 218, 3, [32], 103),
  (226, [(.iastore, 1)], .nop, 0, [33], 0),
  (227, [(.aload_n 0, 1), (.getfield 23, 3), (.iload_n 1, 1), (.iconst 5, 1), (.iadd, 1), (.aload_n 0, 1), (.ldc 251, 2), (.iconst 1, 1), (.iconst 2, 1)], .invokevirtual 218, 3, [34], 103),
  (242, [(.iastore, 1)], .nop, 0, [35], 0),
  (243, [(.aload_n 0, 1), (.getfield 98, 3)], .ifCond .ne 13, 3, [37, 36], 0),
  (250, [(.aload_n 0, 1), (.getfield 23, 3), (.iconst 4, 1), (.dup2, 1), (.iaload, 1), (.iconst 1, 1), (.iadd, 1), (.iastore, 1)], .nop, 0, [37], 0),
  (260, [], .return_, 1, [], 0)]
/-- m_personLine -/
def nb_b111 : List nb_B := [
  (0, [(.aload_n 0, 1), (.getfield 98, 3)], .ifCond .eq 4, 3, [2, 1], 0),
  (7, [], .return_, 1, [], 0),
  (8, [(.aload_n 0, 1), (.getfield 23, 3), (.iconst 5, 1), (.iaload, 1), (.istore_n 1, 1), (.bipush 41, 2), (.bipush 7, 2), (.iload_n 1, 1), (.imul, 1), (.iadd, 1), (.istore_n 2, 1), (.aload_n 0, 1), (.bipush 8, 2), (.iload_n 1, 1), (.iadd, 1)], .invokevirtual 224, 3, [3], 98),
  (31, [(.aload_n 0, 1), (.ldc 253, 2)], .invokevirtual 115, 3, [4], 93),
  (37, [], .ifCond .eq 7, 3, [6, 5], 0),
  (40, [(.iconst 0, 1)], .goto 44, 3, [16], 0),
  (44, [(.aload_n 0, 1), (.ldc 255, 2)], .invokevirtual 115, 3, [7], 93),
  (50, [], .ifCond .eq 7, 3, [9, 8], 0),
  (53, [(.iconst 1, 1)], .goto 31, 3, [16], 0),
  (57, [(.aload_n 0, 1), (.ldc_w 257, 3)], .invokevirtual 115, 3, [10], 93),
  (64, [], .ifCond .eq 7, 3, [12, 11], 0),
  (67, [(.iconst 2, 1)], .goto 17, 3, [16], 0),
  (71, [(.aload_n 0, 1), (.ldc 242, 2)], .invokevirtual 115, 3, [13], 93),
  (77, [], .ifCond .eq 7, 3, [15, 14], 0),
  (80, [(.iconst 3, 1)], .goto 4, 3, [16], 0),
  (84, [(.iconst (-1), 1)], .nop, 0, [16], 0),
  (85, [(.istore_n 3, 1), (.iload_n 3, 1)], .ifCond .ge 12, 3, [18, 17], 0),
  (90, [(.aload_n 0, 1), (.iconst 1, 1), (.aload_n 0, 1), (.getfield 79, 3)], .invokevirtual 125, 3, [18], 92),
  (99, [(.aload_n 0, 1), (.getfield 98, 3)], .ifCond .eq 4, 3, [20, 19], 0),
  (106, [], .return_, 1, [], 0),
  (107, [(.aload_n 0, 1)], .invokevirtual 119, 3, [21], 91),
  (111, [(.aload_n 0, 1), (.getfield 23, 3), (.iload_n 2, 1), (.iconst 0, 1), (.iadd, 1), (.iload_n 3, 1), (.iastore, 1)], .nop, 0, [22], 0),
  (120, [(.aload_n 0, 1), (.getfield 23, 3), (.iload_n 2, 1), (.iconst 1, 1), (.iadd, 1), (.iload_n 3, 1), (.iconst 1, 1)], .if_icmp .eq 8, 3, [24, 23], 0),
  (132, [(.iload_n 3, 1), (.iconst 2, 1)], .if_icmp .ne 13, 3, [26, 24], 0),
  (137, [(.aload_n 0, 1), (.iconst 1, 1), (.bipush 99, 2)], .invokevirtual 162, 3, [25], 102),
  (144, [], .goto 4, 3, [27], 0),
  (147, [(.iconst 0, 1)], .nop, 0, [27], 0),
  (148, [(.iastore, 1)], .nop, 0, [28], 0),
  (149, [(.aload_n 0, 1), (.getfield 23, 3), (.iload_n 2, 1), (.iconst 2, 1), (.iadd, 1), (.aload_n 0, 1), (.ldc_w 259, 3), (.iconst 0, 1), (.aload_n 0, 1), (.getfield 23, 3), (.iconst 2, 1), (.iaload, 1)], .invokevirtual 218, 3, [29], 103),
  (170, [(.iastore, 1)], .nop, 0, [30], 0),
  (171, [(.aload_n 0, 1), (.getfield 23, 3), (.iload_n 2, 1), (.iconst 3, 1), (.iadd, 1), (.aload_n 0, 1), (.ldc 244, 2), (.iconst 0, 1), (.aload_n 0, 1), (.getfield 23, 3), (.iconst 1, 1), (.iaload, 1), (.iconst 1, 1), (.isub, 1)], .invokevirtual 218, 3, [31], 103),
  (193, [(.iastore, 1)], .nop, 0, [32], 0),
  (194, [(.aload_n 0, 1), (.getfield 23, 3), (.iload_n 2, 1), (.iconst 4, 1), (.iadd, 1), (.aload_n 0, 1), (.ldc_w 261, 3), (.iconst 0, 1), (.sipush 600, 3)], .invokevirtual 218, 3, [33], 103),
  (212, [(.iastore, 1)], .nop, 0, [34], 0),
  (213, [(.aload_n 0, 1), (.getfield 23, 3), (.iload_n 2, 1), (.iconst 5, 1), (.iadd, 1), (.aload_n 0, 1), (.ldc_w 263, 3), (.iconst 0, 1), (.bipush 99, 2)], .invokevirtual 218, 3, [35], 103),
  (230, [(.iastore, 1)], .nop, 0, [36], 0),
  (231, [(.aload_n 0, 1), (.getfield 23, 3), (.iload_n 2, 1), (.bipush 6, 2), (.iadd, 1), (.iconst 0, 1), (.iastore, 1)], .nop, 0, [37], 0),
  (241, [(.iconst 0, 1), (.istore 4, 2)], .nop, 0, [38], 0),
  (244, [(.iload 4, 2), (.iconst 5, 1)], .if_icmp .ge 24, 3, [41, 39], 0),
  (250, [(.aload_n 0, 1), (.getfield 23, 3), (.bipush 111, 2), (.iconst 5, 1), (.iload_n 1, 1), (.imul, 1), (.iadd, 1), (.iload 4, 2), (.iadd, 1), (.iconst 0, 1), (.iastore, 1)], .nop, 0, [40], 0),
  (265, [(.iinc 4 1, 3)], .goto (-24), 3, [38], 0),
  (271, [(.aload_n 0, 1), (.ldc_w 265, 3)], .invokevirtual 158, 3, [42], 95),
  (278, [(.iconst 0, 1), (.istore 4, 2), (.aload_n 0, 1), (.getfield 98, 3)], .ifCond .ne 7, 3, [44, 43], 0),
  (288, [(.iconst 1, 1)], .goto 4, 3, [45], 0),
  (292, [(.iconst 0, 1)], .nop, 0, [45], 0),
  (293, [(.istore 5, 2)], .nop, 0, [46], 0),
  (295, [(.iload 5, 2)], .ifCond .eq 111, 3, [61, 47], 0),
  (300, [(.aload_n 0, 1), (.iconst 0, 1), (.iconst 4, 1)], .invokevirtual 151, 3, [48], 99),
  (306, [(.istore 6, 2), (.aload_n 0, 1), (.getfield 98, 3)], .ifCond .ne 29, 3, [51, 49], 0),
  (315, [(.aload_n 0, 1), (.getfield 23, 3), (.bipush 111, 2), (.iconst 5, 1), (.iload_n 1, 1), (.imul, 1), (.iadd, 1), (.iload 6, 2), (.iadd, 1), (.iaload, 1)], .ifCond .le 12, 3, [51, 50], 0),
  (332, [(.aload_n 0, 1), (.iconst 3, 1), (.aload_n 0, 1), (.getfield 79, 3)], .invokevirtual 125, 3, [51], 92),
  (341, [(.aload_n 0, 1), (.getfield 98, 3)], .ifCond .ne 18, 3, [54, 52], 0),
  (348, [(.iload 4, 2), (.iconst 3, 1)], .if_icmp .ne 12, 3, [54, 53], 0),
  (354, [(.aload_n 0, 1), (.iconst 5, 1), (.aload_n 0, 1), (.getfield 79, 3)], .invokevirtual 125, 3, [54], 92),
  (363, [(.aload_n 0, 1), (.getfield 98, 3)], .ifCond .eq 4, 3, [56, 55], 0),
  (370, [], .return_, 1, [], 0),
  (371, [(.aload_n 0, 1)], .invokevirtual 119, 3, [57], 91),
  (375, [(.aload_n 0, 1), (.getfield 23, 3), (.bipush 111, 2), (.iconst 5, 1), (.iload_n 1, 1), (.imul, 1), (.iadd, 1), (.iload 6, 2), (.iadd, 1), (.aload_n 0, 1), (.iconst 1, 1), (.bipush 9, 2)], .invokevirtual 162, 3, [58], 102),
  (395, [(.iastore, 1)], .nop, 0, [59], 0),
  (396, [(.iinc 4 1, 3), (.aload_n 0, 1)], .invokevirtual 267, 3, [60], 104),
  (403, [(.istore 5, 2)], .goto (-110), 3, [46], 0),
  (408, [(.aload_n 0, 1), (.getfield 98, 3)], .ifCond .ne 13, 3, [63, 62], 0),
  (415, [(.aload_n 0, 1), (.getfield 23, 3), (.iconst 5, 1), (.dup2, 1), (.iaload, 1), (.iconst 1, 1), (.iadd, 1), (.iastore, 1)], .nop, 0, [63], 0),
  (425, [], .return_, 1, [], 0)]
/-- m_shelfLine -/
def nb_b112 : List nb_B := [
  (0, [(.aload_n 0, 1), (.getfield 98, 3)], .ifCond .eq 4, 3, [2, 1], 0),
  (7, [], .return_, 1, [], 0),
  (8, [(.aload_n 0, 1)], .invokevirtual 155, 3, [3], 100),
  (12, [(.istore_n 1, 1), (.aload_n 0, 1), (.getfield 98, 3)], .ifCond .ne 30, 3, [6, 4], 0),
  (20, [(.aload_n 0, 1), (.getfield 23, 3), (.bipush 41, 2), (.bipush 7, 2), (.iload_n 1, 1), (.imul, 1), (.iadd, 1), (.bipush 6, 2), (.iadd, 1), (.iaload, 1)], .ifCond .le 12, 3, [6, 5], 0),
  (38, [(.aload_n 0, 1), (.iconst 3, 1), (.aload_n 0, 1), (.getfield 79, 3)], .invokevirtual 125, 3, [6], 92),
  (47, [(.aload_n 0, 1), (.getfield 98, 3)], .ifCond .eq 4, 3, [8, 7], 0),
  (54, [], .return_, 1, [], 0),
  (55, [(.aload_n 0, 1)], .invokevirtual 119, 3, [9], 91),
  (59, [(.aload_n 0, 1), (.ldc_w 271, 3), (.iconst 0, 1), (.aload_n 0, 1), (.getfield 23, 3), (.iconst 2, 1), (.iaload, 1)], .invokevirtual 218, 3, [10], 103),
  (73, [(.istore_n 2, 1), (.aload_n 0, 1), (.getfield 98, 3)], .ifCond .eq 4, 3, [12, 11], 0),
  (81, [], .return_, 1, [], 0),
  (82, [(.aload_n 0, 1), (.getfield 23, 3), (.bipush 41, 2), (.bipush 7, 2), (.iload_n 1, 1), (.imul, 1), (.iadd, 1), (.bipush 6, 2), (.iadd, 1), (.iload_n 2, 1), (.iconst 1, 1), (.iadd, 1), (.iastore, 1)], .nop, 0, [13], 0),
  (100, [(.aload_n 0, 1), (.getfield 23, 3), (.bipush 6, 2), (.dup2, 1), (.iaload, 1), (.iconst 1, 1), (.iadd, 1), (.iastore, 1)], .nop, 0, [14], 0),
  (111, [], .return_, 1, [], 0)]
/-- m_saysLine -/
def nb_b113 : List nb_B := [
  (0, [(.aload_n 0, 1), (.getfield 98, 3)], .ifCond .eq 4, 3, [2, 1], 0),
  (7, [], .return_, 1, [], 0),
  (8, [(.sipush 161, 3), (.iconst 3, 1), (.aload_n 0, 1), (.getfield 23, 3), (.bipush 7, 2), (.iaload, 1), (.imul, 1), (.iadd, 1), (.istore_n 1, 1), (.aload_n 0, 1), (.getfield 23, 3), (.iload_n 1, 1), (.aload_n 0, 1)], .invokevirtual 273, 3, [3], 101),
  (31, [(.iastore, 1)], .nop, 0, [4], 0),
  (32, [(.aload_n 0, 1), (.getfield 23, 3), (.iload_n 1, 1), (.iconst 1, 1), (.iadd, 1), (.aload_n 0, 1)], .invokevirtual 273, 3, [5], 101),
  (43, [(.iastore, 1)], .nop, 0, [6], 0),
  (44, [(.aload_n 0, 1), (.ldc_w 276, 3)], .invokevirtual 158, 3, [7], 95),
  (51, [(.aload_n 0, 1)], .invokevirtual 155, 3, [8], 100),
  (55, [(.istore_n 2, 1), (.aload_n 0, 1), (.getfield 98, 3)], .ifCond .ne 24, 3, [11, 9], 0),
  (63, [(.iload_n 2, 1), (.aload_n 0, 1), (.getfield 23, 3), (.iload_n 1, 1), (.iconst 1, 1), (.iadd, 1), (.iaload, 1)], .if_icmp .ne 12, 3, [11, 10], 0),
  (75, [(.aload_n 0, 1), (.iconst 3, 1), (.aload_n 0, 1), (.getfield 79, 3)], .invokevirtual 125, 3, [11], 92),
  (84, [(.aload_n 0, 1), (.getfield 98, 3)], .ifCond .eq 4, 3, [13, 12], 0),
  (91, [], .return_, 1, [], 0),
  (92, [(.aload_n 0, 1)], .invokevirtual 119, 3, [14], 91),
  (96, [(.aload_n 0, 1), (.getfield 23, 3), (.iload_n 1, 1), (.iconst 2, 1), (.iadd, 1), (.iload_n 2, 1), (.iastore, 1)], .nop, 0, [15], 0),
  (105, [(.aload_n 0, 1), (.getfield 23, 3), (.bipush 7, 2), (.dup2, 1), (.iaload, 1), (.iconst 1, 1), (.iadd, 1), (.iastore, 1)], .nop, 0, [16], 0),
  (116, [], .return_, 1, [], 0)]
/-- m_fault -/
def nb_b114 : List nb_B := [
  (0, [(.aload_n 0, 1), (.iconst 0, 1), (.putfield 60, 3)], .nop, 0, [1], 0),
  (5, [(.aload_n 0, 1), (.getfield 102, 3)], .ireturn, 1, [], 0)]
/-- m_where -/
def nb_b115 : List nb_B := [
  (0, [(.aload_n 0, 1), (.iconst 0, 1), (.putfield 60, 3)], .nop, 0, [1], 0),
  (5, [(.aload_n 0, 1), (.getfield 63, 3), (.iconst 4, 1)], .if_icmp .ne 10, 3, [3, 2], 0),
  (13, [(.aload_n 0, 1), (.getfield 13, 3)], .goto 4, 3, [4], 0),
  (20, [(.iconst (-1), 1)], .nop, 0, [4], 0),
  (21, [], .ireturn, 1, [], 0)]
/-- m_isPerson -/
def nb_b116 : List nb_B := [
  (0, [(.aload_n 0, 1), (.getfield 178, 3)], .ifCond .eq 23, 3, [4, 1], 0),
  (7, [(.iload_n 1, 1), (.iconst 0, 1), (.aload_n 0, 1), (.getfield 20, 3), (.iconst 5, 1), (.iaload, 1), (.iconst 1, 1), (.isub, 1)], .invokestatic 147, 3, [2], 83),
  (20, [], .ifCond .eq 7, 3, [4, 3], 0),
  (23, [(.iconst 1, 1)], .goto 4, 3, [5], 0),
  (27, [(.iconst 0, 1)], .nop, 0, [5], 0),
  (28, [], .ireturn, 1, [], 0)]
/-- m_isStaff -/
def nb_b117 : List nb_B := [
  (0, [(.aload_n 0, 1), (.getfield 178, 3)], .ifCond .eq 23, 3, [4, 1], 0),
  (7, [(.iload_n 1, 1), (.iconst 0, 1), (.aload_n 0, 1), (.getfield 20, 3), (.iconst 4, 1), (.iaload, 1), (.iconst 1, 1), (.isub, 1)], .invokestatic 147, 3, [2], 83),
  (20, [], .ifCond .eq 7, 3, [4, 3], 0),
  (23, [(.iconst 1, 1)], .goto 4, 3, [5], 0),
  (27, [(.iconst 0, 1)], .nop, 0, [5], 0),
  (28, [], .ireturn, 1, [], 0)]
/-- m_isSpot -/
def nb_b118 : List nb_B := [
  (0, [(.aload_n 0, 1), (.getfield 178, 3)], .ifCond .eq 23, 3, [4, 1], 0),
  (7, [(.iload_n 1, 1), (.iconst 0, 1), (.aload_n 0, 1), (.getfield 20, 3), (.iconst 1, 1), (.iaload, 1), (.iconst 1, 1), (.isub, 1)], .invokestatic 147, 3, [2], 83),
  (20, [], .ifCond .eq 7, 3, [4, 3], 0),
  (23, [(.iconst 1, 1)], .goto 4, 3, [5], 0),
  (27, [(.iconst 0, 1)], .nop, 0, [5], 0),
  (28, [], .ireturn, 1, [], 0)]
/-- m_isDrink -/
def nb_b119 : List nb_B := [
  (0, [(.aload_n 0, 1), (.getfield 178, 3)], .ifCond .eq 23, 3, [4, 1], 0),
  (7, [(.iload_n 1, 1), (.iconst 0, 1), (.aload_n 0, 1), (.getfield 20, 3), (.iconst 3, 1), (.iaload, 1), (.iconst 1, 1), (.isub, 1)], .invokestatic 147, 3, [2], 83),
  (20, [], .ifCond .eq 7, 3, [4, 3], 0),
  (23, [(.iconst 1, 1)], .goto 4, 3, [5], 0),
  (27, [(.iconst 0, 1)], .nop, 0, [5], 0),
  (28, [], .ireturn, 1, [], 0)]
/-- m_wantsOf -/
def nb_b120 : List nb_B := [
  (0, [(.aload_n 0, 1), (.getfield 20, 3), (.bipush 111, 2), (.iconst 5, 1), (.iload_n 1, 1), (.imul, 1), (.iadd, 1), (.iload_n 2, 1), (.iadd, 1), (.iaload, 1)], .ireturn, 1, [], 0)]
/-- m_asTold -/
def nb_b121 : List nb_B := [
  (0, [(.aload_n 0, 1), (.aload_n 0, 1), (.getfield 20, 3), (.iconst 4, 1), (.iaload, 1), (.putfield 278, 3)], .nop, 0, [1], 0),
  (10, [(.aload_n 0, 1), (.getfield 20, 3), (.bipush 23, 2), (.aload_n 0, 1), (.getfield 38, 3), (.iconst 0, 1), (.bipush 18, 2)], .invokestatic 174, 3, [2], 86),
  (26, [(.aload_n 0, 1), (.getfield 20, 3), (.bipush 41, 2), (.aload_n 0, 1), (.getfield 41, 3), (.iconst 0, 1), (.bipush 70, 2)], .invokestatic 174, 3, [3], 86),
  (42, [], .return_, 1, [], 0)]
/-- m_man -/
def nb_b122 : List nb_B := [
  (0, [(.aload_n 0, 1), (.getfield 41, 3), (.bipush 7, 2), (.iload_n 1, 1), (.imul, 1), (.iload_n 2, 1), (.iadd, 1), (.iaload, 1)], .ireturn, 1, [], 0)]
/-- m_saysFirst -/
def nb_b123 : List nb_B := [
  (0, [(.aload_n 0, 1), (.iload_n 1, 1), (.iconst 0, 1)], .invokevirtual 281, 3, [1], 122),
  (6, [(.istore_n 2, 1), (.aload_n 0, 1), (.iload_n 1, 1), (.iconst 2, 1)], .invokevirtual 281, 3, [2], 122),
  (13, [(.iload_n 2, 1), (.iconst 1, 1)], .if_icmp .ne 13, 3, [5, 3], 0),
  (18, [(.aload_n 0, 1), (.iload_n 1, 1), (.iconst 1, 1)], .invokevirtual 281, 3, [4], 122),
  (24, [(.ineg, 1)], .goto 18, 3, [9], 0),
  (28, [(.iload_n 2, 1), (.iconst 2, 1)], .if_icmp .ne 12, 3, [8, 6], 0),
  (33, [(.aload_n 0, 1), (.iload_n 1, 1), (.iconst 1, 1)], .invokevirtual 281, 3, [7], 122),
  (39, [], .goto 4, 3, [9], 0),
  (42, [(.iconst 0, 1)], .nop, 0, [9], 0),
  (43, [(.iadd, 1)], .ireturn, 1, [], 0)]
/-- m_layFirst -/
def nb_b124 : List nb_B := [
  (0, [(.iconst 0, 1), (.istore_n 2, 1)], .nop, 0, [1], 0),
  (2, [(.iload_n 2, 1), (.bipush 108, 2)], .if_icmp .ge 13, 3, [4, 2], 0),
  (8, [(.aload_n 1, 1), (.iload_n 2, 1), (.iconst 0, 1), (.iastore, 1)], .nop, 0, [3], 0),
  (12, [(.iinc 2 1, 3)], .goto (-13), 3, [1], 0),
  (18, [(.iconst 0, 1), (.istore_n 2, 1)], .nop, 0, [5], 0),
  (20, [(.iload_n 2, 1), (.aload_n 0, 1), (.getfield 20, 3), (.iconst 5, 1), (.iaload, 1)], .if_icmp .ge 79, 3, [17, 6], 0),
  (30, [(.bipush 12, 2), (.bipush 8, 2), (.iload_n 2, 1), (.imul, 1), (.iadd, 1), (.istore_n 3, 1), (.aload_n 1, 1), (.iload_n 3, 1), (.iconst 1, 1), (.iadd, 1), (.aload_n 0, 1), (.iload_n 2, 1), (.iconst 3, 1)], .invokevirtual 281, 3, [7], 122),
  (48, [(.iastore, 1)], .nop, 0, [8], 0),
  (49, [(.aload_n 1, 1), (.iload_n 3, 1), (.iconst 2, 1), (.iadd, 1), (.aload_n 0, 1), (.iload_n 2, 1), (.iconst 5, 1)], .invokevirtual 281, 3, [9], 122),
  (59, [(.iastore, 1)], .nop, 0, [10], 0),
  (60, [(.aload_n 1, 1), (.iload_n 3, 1), (.iconst 3, 1), (.iadd, 1), (.aload_n 0, 1), (.iload_n 2, 1)], .invokevirtual 284, 3, [11], 123),
  (69, [(.iastore, 1)], .nop, 0, [12], 0),
  (70, [(.aload_n 1, 1), (.iload_n 3, 1), (.iconst 4, 1), (.iadd, 1), (.bipush (-2), 2), (.iastore, 1)], .nop, 0, [13], 0),
  (77, [(.aload_n 1, 1), (.iload_n 3, 1), (.iconst 5, 1), (.iadd, 1), (.bipush (-2), 2), (.iastore, 1)], .nop, 0, [14], 0),
  (84, [(.aload_n 1, 1), (.iload_n 3, 1), (.bipush 6, 2), (.iadd, 1), (.bipush (-2), 2), (.iastore, 1)], .nop, 0, [15], 0),
  (92, [(.aload_n 1, 1), (.iload_n 3, 1), (.bipush 7, 2), (.iadd, 1), (.bipush (-2), 2), (.iastore, 1)], .nop, 0, [16], 0),
  (100, [(.iinc 2 1, 3)], .goto (-83), 3, [5], 0),
  (106, [(.iconst 0, 1), (.istore_n 2, 1)], .nop, 0, [18], 0),
  (108, [(.iload_n 2, 1), (.aload_n 0, 1), (.getfield 278, 3)], .if_icmp .ge 28, 3, [21, 19], 0),
  (116, [(.aload_n 1, 1), (.bipush 92, 2), (.iconst 4, 1), (.iload_n 2, 1), (.imul, 1), (.iadd, 1), (.aload_n 0, 1), (.getfield 38, 3), (.bipush 6, 2), (.iload_n 2, 1), (.imul, 1), (.iconst 1, 1), (.iadd, 1), (.iaload, 1), (.iastore, 1)], .nop, 0, [20], 0),
  (135, [(.iinc 2 1, 3)], .goto (-30), 3, [18], 0),
  (141, [], .return_, 1, [], 0)]
/-- m_its -/
def nb_b125 : List nb_B := [
  (0, [(.aload_n 0, 1), (.bipush 12, 2), (.bipush 8, 2), (.iload_n 1, 1), (.imul, 1), (.iadd, 1), (.iload_n 2, 1), (.iadd, 1), (.iaload, 1)], .ireturn, 1, [], 0)]
/-- m_isWaiting -/
def nb_b126 : List nb_B := [
  (0, [(.aload_n 0, 1), (.iload_n 1, 1), (.iconst 0, 1)], .invokestatic 287, 3, [1], 125),
  (6, [(.iconst 1, 1)], .if_icmp .ne 7, 3, [3, 2], 0),
  (10, [(.iconst 1, 1)], .goto 4, 3, [4], 0),
  (14, [(.iconst 0, 1)], .nop, 0, [4], 0),
  (15, [], .ireturn, 1, [], 0)]
/-- m_far -/
def nb_b127 : List nb_B := [
  (0, [(.iload_n 0, 1), (.iload_n 1, 1)], .if_icmp .ge 9, 3, [2, 1], 0),
  (5, [(.iload_n 1, 1), (.iload_n 0, 1), (.isub, 1)], .goto 6, 3, [3], 0),
  (11, [(.iload_n 0, 1), (.iload_n 1, 1), (.isub, 1)], .nop, 0, [3], 0),
  (14, [], .ireturn, 1, [], 0)]
/-- m_timeOf -/
def nb_b128 : List nb_B := [
  (0, [(.aload_n 1, 1), (.bipush 92, 2), (.iconst 4, 1), (.iload_n 2, 1), (.imul, 1), (.iadd, 1), (.iconst 3, 1), (.iadd, 1), (.iaload, 1), (.iconst 1, 1), (.isub, 1), (.istore 4, 2), (.aload_n 0, 1), (.iload 4, 2), (.iload_n 3, 1)], .invokevirtual 291, 3, [1], 129),
  (21, [], .ireturn, 1, [], 0)]
/-- m_timeBehind -/
def nb_b129 : List nb_B := [
  (0, [(.iconst 0, 1), (.istore_n 3, 1), (.iconst 0, 1), (.istore 4, 2)], .nop, 0, [1], 0),
  (5, [(.iload 4, 2), (.iconst 5, 1)], .if_icmp .ge 82, 3, [10, 2], 0),
  (11, [(.aload_n 0, 1), (.iload_n 2, 1), (.iload 4, 2)], .invokevirtual 294, 3, [3], 120),
  (18, [(.istore 5, 2), (.iload 5, 2)], .ifCond .ne 6, 3, [5, 4], 0),
  (25, [], .goto 59, 3, [9], 0),
  (28, [(.aload_n 0, 1), (.getfield 20, 3), (.bipush 8, 2), (.iconst 3, 1), (.iload 4, 2), (.imul, 1), (.iadd, 1), (.iconst 1, 1), (.iadd, 1), (.iaload, 1), (.istore 6, 2), (.iload_n 3, 1), (.iload 5, 2), (.iload 6, 2), (.imul, 1), (.iadd, 1), (.istore_n 3, 1), (.iload_n 1, 1)], .ifCond .lt 13, 3, [8, 6], 0),
  (56, [(.aload_n 0, 1), (.iload_n 1, 1), (.iload 4, 2)], .invokevirtual 294, 3, [7], 120),
  (63, [], .ifCond .ne 21, 3, [9, 8], 0),
  (66, [(.iload_n 3, 1), (.aload_n 0, 1), (.getfield 20, 3), (.bipush 8, 2), (.iconst 3, 1), (.iload 4, 2), (.imul, 1), (.iadd, 1), (.iaload, 1), (.iload 6, 2), (.isub, 1), (.iadd, 1), (.istore_n 3, 1)], .nop, 0, [9], 0),
  (84, [(.iinc 4 1, 3)], .goto (-82), 3, [1], 0),
  (90, [(.iload_n 3, 1)], .ireturn, 1, [], 0)]
/-- m_turn -/
def nb_b130 : List nb_B := [
  (0, [(.aload_n 1, 1), (.bipush 92, 2), (.iconst 4, 1), (.iload_n 2, 1), (.imul, 1), (.iadd, 1), (.iaload, 1), (.istore 4, 2), (.aload_n 1, 1), (.iload_n 3, 1), (.iconst 1, 1)], .invokestatic 287, 3, [1], 125),
  (16, [(.istore 5, 2), (.aload_n 0, 1), (.getfield 38, 3), (.bipush 6, 2), (.iload_n 2, 1), (.imul, 1), (.iconst 0, 1), (.iadd, 1), (.iaload, 1)], .tableswitch 91 0 3 #[31, 53, 76, 84], 31, [15, 2, 6, 11, 13], 0),
  (60, [(.iload 5, 2), (.iload 4, 2)], .if_icmp .lt 11, 3, [4, 3], 0),
  (67, [(.iload 5, 2), (.iload 4, 2), (.isub, 1)], .goto 9, 3, [5], 0),
  (75, [(.ldc_w 297, 3), (.iload 5, 2), (.iadd, 1)], .nop, 0, [5], 0),
  (81, [], .ireturn, 1, [], 0),
  (82, [(.iconst 2, 1), (.iload 5, 2), (.iload 4, 2)], .invokestatic 298, 3, [7], 127),
  (90, [(.imul, 1), (.iload 5, 2), (.iload 4, 2)], .if_icmp .le 7, 3, [9, 8], 0),
  (98, [(.iconst 1, 1)], .goto 4, 3, [10], 0),
  (102, [(.iconst 0, 1)], .nop, 0, [10], 0),
  (103, [(.iadd, 1)], .ireturn, 1, [], 0),
  (105, [(.aload_n 1, 1), (.iload_n 3, 1), (.iconst 2, 1)], .invokestatic 287, 3, [12], 125),
  (111, [(.ineg, 1)], .ireturn, 1, [], 0),
  (113, [(.aload_n 1, 1), (.iload_n 3, 1), (.iconst 3, 1)], .invokestatic 287, 3, [14], 125),
  (119, [], .ireturn, 1, [], 0),
  (120, [(.aload_n 0, 1), (.iload_n 3, 1), (.iconst 0, 1)], .invokevirtual 281, 3, [16], 122),
  (126, [(.iconst 3, 1)], .if_icmp .ne 7, 3, [18, 17], 0),
  (130, [(.iconst 0, 1)], .goto 4, 3, [19], 0),
  (134, [(.iconst 1, 1)], .nop, 0, [19], 0),
  (135, [], .ireturn, 1, [], 0)]
/-- m_nextFor -/
def nb_b131 : List nb_B := [
  (0, [(.bipush (-2), 2), (.istore_n 3, 1), (.iconst 0, 1), (.istore 4, 2)], .nop, 0, [1], 0),
  (6, [(.iload 4, 2), (.aload_n 0, 1), (.getfield 20, 3), (.iconst 5, 1), (.iaload, 1)], .if_icmp .ge 120, 3, [19, 2], 0),
  (17, [(.aload_n 1, 1), (.iload 4, 2)], .invokestatic 301, 3, [3], 126),
  (23, [], .ifCond .eq 105, 3, [18, 4], 0),
  (26, [(.aload_n 1, 1), (.iload 4, 2), (.iconst 1, 1)], .invokestatic 287, 3, [5], 125),
  (33, [(.aload_n 0, 1), (.getfield 38, 3), (.bipush 6, 2), (.iload_n 2, 1), (.imul, 1), (.iconst 2, 1), (.iadd, 1), (.iaload, 1), (.aload_n 0, 1), (.getfield 38, 3), (.bipush 6, 2), (.iload_n 2, 1), (.imul, 1), (.iconst 3, 1), (.iadd, 1), (.iaload, 1)], .invokestatic 147, 3, [6], 83),
  (58, [], .ifCond .ne 6, 3, [8, 7], 0),
  (61, [], .goto 67, 3, [18], 0),
  (64, [(.iload_n 3, 1), (.bipush (-2), 2)], .if_icmp .ne 9, 3, [10, 9], 0),
  (70, [(.iload 4, 2), (.istore_n 3, 1)], .goto 55, 3, [18], 0),
  (76, [(.aload_n 0, 1), (.aload_n 1, 1), (.iload_n 2, 1), (.iload 4, 2)], .invokevirtual 305, 3, [11], 130),
  (84, [(.istore 5, 2), (.aload_n 0, 1), (.aload_n 1, 1), (.iload_n 2, 1), (.iload_n 3, 1)], .invokevirtual 305, 3, [12], 130),
  (93, [(.istore 6, 2), (.iload 5, 2), (.iload 6, 2)], .if_icmp .lt 26, 3, [17, 13], 0),
  (102, [(.iload 5, 2), (.iload 6, 2)], .if_icmp .ne 22, 3, [18, 14], 0),
  (109, [(.aload_n 0, 1), (.iload 4, 2), (.iconst 2, 1)], .invokevirtual 281, 3, [15], 122),
  (116, [(.aload_n 0, 1), (.iload_n 3, 1), (.iconst 2, 1)], .invokevirtual 281, 3, [16], 122),
  (122, [], .if_icmp .ge 6, 3, [18, 17], 0),
  (125, [(.iload 4, 2), (.istore_n 3, 1)], .nop, 0, [18], 0),
  (128, [(.iinc 4 1, 3)], .goto (-125), 3, [1], 0),
  (134, [(.iload_n 3, 1)], .ireturn, 1, [], 0)]
/-- m_second -/
def nb_b132 : List nb_B := [
  (0, [(.aload_n 1, 1), (.iconst 0, 1), (.iaload, 1), (.istore_n 2, 1), (.iconst 0, 1), (.istore_n 3, 1)], .nop, 0, [1], 0),
  (6, [(.iload_n 3, 1), (.aload_n 0, 1), (.getfield 20, 3), (.iconst 5, 1), (.iaload, 1)], .if_icmp .ge 136, 3, [21, 2], 0),
  (16, [(.bipush 12, 2), (.bipush 8, 2), (.iload_n 3, 1), (.imul, 1), (.iadd, 1), (.istore 4, 2), (.aload_n 1, 1), (.iload 4, 2), (.iconst 0, 1), (.iadd, 1), (.iaload, 1)], .ifCond .ne 20, 3, [6, 3], 0),
  (34, [(.aload_n 0, 1), (.iload_n 3, 1), (.iconst 2, 1)], .invokevirtual 281, 3, [4], 122),
  (40, [(.iload_n 2, 1)], .if_icmp .ne 10, 3, [6, 5], 0),
  (44, [(.aload_n 1, 1), (.iload 4, 2), (.iconst 0, 1), (.iadd, 1), (.iconst 1, 1), (.iastore, 1)], .nop, 0, [6], 0),
  (51, [(.aload_n 1, 1), (.iload 4, 2), (.iconst 0, 1), (.iadd, 1), (.iaload, 1), (.iconst 1, 1)], .if_icmp .eq 6, 3, [8, 7], 0),
  (61, [], .goto 82, 3, [20], 0),
  (64, [(.aload_n 0, 1), (.iload_n 3, 1), (.bipush 6, 2)], .invokevirtual 281, 3, [9], 122),
  (71, [(.iconst 1, 1), (.isub, 1), (.istore 5, 2), (.iload 5, 2)], .ifCond .lt 34, 3, [15, 10], 0),
  (80, [(.iload 5, 2), (.iload_n 2, 1)], .if_icmp .gt 28, 3, [15, 11], 0),
  (86, [(.aload_n 1, 1), (.iload 4, 2), (.iconst 0, 1), (.iadd, 1), (.iconst 3, 1), (.iastore, 1)], .nop, 0, [12], 0),
  (93, [(.aload_n 1, 1), (.iload 4, 2), (.iconst 5, 1), (.iadd, 1), (.iload_n 2, 1), (.iastore, 1)], .nop, 0, [13], 0),
  (100, [(.aload_n 1, 1), (.iload 4, 2), (.bipush 7, 2), (.iadd, 1), (.iload_n 2, 1), (.iastore, 1)], .nop, 0, [14], 0),
  (108, [], .goto 35, 3, [20], 0),
  (111, [(.iload_n 2, 1), (.aload_n 0, 1), (.iload_n 3, 1), (.iconst 2, 1)], .invokevirtual 281, 3, [16], 122),
  (118, [(.isub, 1), (.aload_n 0, 1), (.iload_n 3, 1), (.iconst 4, 1)], .invokevirtual 281, 3, [17], 122),
  (125, [], .if_icmp .lt 18, 3, [20, 18], 0),
  (128, [(.aload_n 1, 1), (.iload 4, 2), (.iconst 0, 1), (.iadd, 1), (.iconst 4, 1), (.iastore, 1)], .nop, 0, [19], 0),
  (135, [(.aload_n 1, 1), (.iload 4, 2), (.bipush 7, 2), (.iadd, 1), (.iload_n 2, 1), (.iastore, 1)], .nop, 0, [20], 0),
  (143, [(.iinc 3 1, 3)], .goto (-140), 3, [1], 0),
  (149, [(.iconst 0, 1), (.istore_n 3, 1)], .nop, 0, [22], 0),
  (151, [(.iload_n 3, 1), (.aload_n 0, 1), (.getfield 278, 3)], .if_icmp .ge 57, 3, [29, 23], 0),
  (159, [(.iconst 1, 1), (.istore 4, 2)], .nop, 0, [24], 0),
  (162, [(.iload 4, 2), (.aload_n 0, 1), (.getfield 38, 3), (.bipush 6, 2), (.iload_n 3, 1), (.imul, 1), (.iconst 5, 1), (.iadd, 1), (.iaload, 1)], .if_icmp .gt 32, 3, [28, 25], 0),
  (178, [(.aload_n 1, 1), (.bipush 92, 2), (.iconst 4, 1), (.iload_n 3, 1), (.imul, 1), (.iadd, 1), (.iload 4, 2), (.iadd, 1), (.iaload, 1), (.iload_n 2, 1)], .if_icmp .gt 11, 3, [27, 26], 0),
  (193, [(.aload_n 0, 1), (.aload_n 1, 1), (.iload_n 3, 1), (.iload 4, 2)], .invokevirtual 308, 3, [27], 133),
  (201, [(.iinc 4 1, 3)], .goto (-42), 3, [24], 0),
  (207, [(.iinc 3 1, 3)], .goto (-59), 3, [22], 0),
  (213, [(.aload_n 1, 1), (.iconst 0, 1), (.dup2, 1), (.iaload, 1), (.iconst 1, 1), (.iadd, 1), (.iastore, 1)], .nop, 0, [30], 0),
  (220, [], .return_, 1, [], 0)]
/-- m_begin -/
def nb_b133 : List nb_B := [
  (0, [(.aload_n 1, 1), (.iconst 0, 1), (.iaload, 1), (.istore 4, 2), (.aload_n 0, 1), (.aload_n 1, 1), (.iload_n 2, 1)], .invokevirtual 312, 3, [1], 131),
  (11, [(.istore 5, 2)], .nop, 0, [2], 0),
  (13, [(.iload 5, 2), (.bipush (-2), 2)], .if_icmp .eq 158, 3, [19, 3], 0),
  (20, [(.bipush 12, 2), (.bipush 8, 2), (.iload 5, 2), (.imul, 1), (.iadd, 1), (.istore 6, 2), (.bipush 92, 2), (.iconst 4, 1), (.iload_n 2, 1), (.imul, 1), (.iadd, 1), (.istore 7, 2), (.iload 4, 2), (.aload_n 0, 1), (.getfield 38, 3), (.bipush 6, 2), (.iload_n 2, 1), (.imul, 1), (.iconst 4, 1), (.iadd, 1), (.iaload, 1), (.aload_n 1, 1), (.iload 7, 2), (.iaload, 1), (.aload_n 1, 1), (.iload 6, 2), (.iconst 1, 1), (.iadd, 1), (.iaload, 1)], .invokestatic 298, 3, [4], 127),
  (64, [(.imul, 1), (.iadd, 1), (.aload_n 0, 1), (.aload_n 1, 1), (.iload_n 2, 1), (.iload 5, 2)], .invokevirtual 316, 3, [5], 128),
  (74, [(.iadd, 1), (.istore 8, 2), (.aload_n 1, 1), (.iload 6, 2), (.iconst 0, 1), (.iadd, 1), (.iconst 2, 1), (.iastore, 1)], .nop, 0, [6], 0),
  (84, [(.aload_n 1, 1), (.iload 6, 2), (.iconst 4, 1), (.iadd, 1), (.iload 4, 2), (.iastore, 1)], .nop, 0, [7], 0),
  (92, [(.aload_n 1, 1), (.iload 6, 2), (.iconst 5, 1), (.iadd, 1), (.iload 8, 2), (.iastore, 1)], .nop, 0, [8], 0),
  (100, [(.aload_n 1, 1), (.iload 6, 2), (.bipush 6, 2), (.iadd, 1), (.iload_n 2, 1), (.iastore, 1)], .nop, 0, [9], 0),
  (108, [(.aload_n 1, 1), (.iload 7, 2), (.aload_n 1, 1), (.iload 6, 2), (.iconst 1, 1), (.iadd, 1), (.iaload, 1), (.iastore, 1)], .nop, 0, [10], 0),
  (118, [(.aload_n 1, 1), (.iload 7, 2), (.iload_n 3, 1), (.iadd, 1), (.iload 8, 2), (.iastore, 1)], .nop, 0, [11], 0),
  (126, [(.aload_n 1, 1), (.iload 7, 2), (.iconst 3, 1), (.iadd, 1), (.iload 5, 2), (.iconst 1, 1), (.iadd, 1), (.iastore, 1)], .nop, 0, [12], 0),
  (136, [(.aload_n 1, 1), (.iconst 2, 1), (.aload_n 1, 1), (.iconst 1, 1), (.iaload, 1), (.iadd, 1), (.iload 5, 2), (.iastore, 1)], .nop, 0, [13], 0),
  (145, [(.aload_n 1, 1), (.iconst 1, 1), (.dup2, 1), (.iaload, 1), (.iconst 1, 1), (.iadd, 1), (.iastore, 1)], .nop, 0, [14], 0),
  (152, [(.iload 8, 2), (.iload 4, 2)], .if_icmp .gt 12, 3, [17, 15], 0),
  (159, [(.aload_n 0, 1), (.aload_n 1, 1), (.iload_n 2, 1)], .invokevirtual 312, 3, [16], 131),
  (165, [], .goto 5, 3, [18], 0),
  (168, [(.bipush (-2), 2)], .nop, 0, [18], 0),
  (170, [(.istore 5, 2)], .goto (-159), 3, [2], 0),
  (175, [], .return_, 1, [], 0)]
/-- m_evening -/
def nb_b134 : List nb_B := [
  (0, [(.aload_n 0, 1), (.getfield 26, 3), (.iconst 0, 1), (.aload_n 0, 1), (.getfield 29, 3), (.iconst 0, 1), (.bipush 108, 2)], .invokestatic 174, 3, [1], 86),
  (15, [(.aload_n 0, 1), (.getfield 29, 3), (.iconst 0, 1), (.iaload, 1), (.aload_n 0, 1), (.getfield 319, 3)], .if_icmp .gt 14, 3, [4, 2], 0),
  (28, [(.aload_n 0, 1), (.aload_n 0, 1), (.getfield 29, 3)], .invokevirtual 321, 3, [3], 132),
  (36, [], .goto (-21), 3, [1], 0),
  (39, [], .return_, 1, [], 0)]
/-- m_fateOf -/
def nb_b135 : List nb_B := [
  (0, [(.aload_n 0, 1), (.getfield 29, 3), (.iload_n 1, 1), (.iconst 0, 1)], .invokestatic 287, 3, [1], 125),
  (9, [], .tableswitch 57 2 5 #[31, 33, 53, 55], 31, [10, 2, 3, 8, 9], 0),
  (40, [(.iconst 0, 1)], .ireturn, 1, [], 0),
  (42, [(.aload_n 0, 1), (.getfield 29, 3), (.iload_n 1, 1), (.iconst 4, 1)], .invokestatic 287, 3, [4], 125),
  (51, [(.bipush (-2), 2)], .if_icmp .ne 7, 3, [6, 5], 0),
  (56, [(.iconst 1, 1)], .goto 4, 3, [7], 0),
  (60, [(.iconst 0, 1)], .nop, 0, [7], 0),
  (61, [], .ireturn, 1, [], 0),
  (62, [(.iconst 2, 1)], .ireturn, 1, [], 0),
  (64, [(.iconst 4, 1)], .ireturn, 1, [], 0),
  (66, [(.iconst 3, 1)], .ireturn, 1, [], 0)]
/-- m_waitOf -/
def nb_b136 : List nb_B := [
  (0, [(.aload_n 0, 1), (.iload_n 1, 1)], .invokevirtual 324, 3, [1], 135),
  (5, [(.iconst 4, 1)], .if_icmp .ne 6, 3, [3, 2], 0),
  (9, [(.bipush (-2), 2)], .ireturn, 1, [], 0),
  (12, [(.aload_n 0, 1), (.getfield 29, 3), (.iload_n 1, 1), (.iconst 4, 1)], .invokestatic 287, 3, [4], 125),
  (21, [(.bipush (-2), 2)], .if_icmp .eq 15, 3, [7, 5], 0),
  (26, [(.aload_n 0, 1), (.getfield 29, 3), (.iload_n 1, 1), (.iconst 4, 1)], .invokestatic 287, 3, [6], 125),
  (35, [], .goto 35, 3, [12], 0),
  (38, [(.aload_n 0, 1), (.getfield 29, 3), (.iload_n 1, 1), (.bipush 7, 2)], .invokestatic 287, 3, [8], 125),
  (48, [(.bipush (-2), 2)], .if_icmp .eq 16, 3, [11, 9], 0),
  (53, [(.aload_n 0, 1), (.getfield 29, 3), (.iload_n 1, 1), (.bipush 7, 2)], .invokestatic 287, 3, [10], 125),
  (63, [], .goto 7, 3, [12], 0),
  (66, [(.aload_n 0, 1), (.getfield 319, 3)], .nop, 0, [12], 0),
  (70, [(.istore_n 2, 1), (.iload_n 2, 1), (.aload_n 0, 1), (.iload_n 1, 1), (.iconst 2, 1)], .invokevirtual 281, 3, [13], 122),
  (78, [(.isub, 1)], .ireturn, 1, [], 0)]
/-- m_isBehind -/
def nb_b137 : List nb_B := [
  (0, [(.aload_n 0, 1), (.iload_n 1, 1), (.iconst 2, 1)], .invokevirtual 281, 3, [1], 122),
  (6, [(.aload_n 0, 1), (.iload_n 2, 1), (.iconst 2, 1)], .invokevirtual 281, 3, [2], 122),
  (12, [], .if_icmp .gt 23, 3, [7, 3], 0),
  (15, [(.aload_n 0, 1), (.iload_n 1, 1), (.iconst 2, 1)], .invokevirtual 281, 3, [4], 122),
  (21, [(.aload_n 0, 1), (.iload_n 2, 1), (.iconst 2, 1)], .invokevirtual 281, 3, [5], 122),
  (27, [], .if_icmp .ne 12, 3, [8, 6], 0),
  (30, [(.iload_n 1, 1), (.iload_n 2, 1)], .if_icmp .le 7, 3, [8, 7], 0),
  (35, [(.iconst 1, 1)], .goto 4, 3, [9], 0),
  (39, [(.iconst 0, 1)], .nop, 0, [9], 0),
  (40, [], .ireturn, 1, [], 0)]
/-- m_passedOf -/
def nb_b138 : List nb_B := [
  (0, [(.iconst 0, 1), (.istore_n 2, 1), (.iconst 0, 1), (.istore_n 3, 1)], .nop, 0, [1], 0),
  (4, [(.iload_n 3, 1), (.aload_n 0, 1), (.getfield 29, 3), (.iconst 1, 1), (.iaload, 1)], .if_icmp .ge 109, 3, [18, 2], 0),
  (14, [(.aload_n 0, 1), (.getfield 29, 3), (.iconst 2, 1), (.iload_n 3, 1), (.iadd, 1), (.iaload, 1), (.istore 4, 2), (.iload 4, 2), (.iload_n 1, 1)], .if_icmp .ne 5, 3, [4, 3], 0),
  (30, [(.iload_n 2, 1)], .ireturn, 1, [], 0),
  (32, [(.aload_n 0, 1), (.getfield 29, 3), (.iload 4, 2), (.iconst 4, 1)], .invokestatic 287, 3, [5], 125),
  (42, [(.istore 5, 2), (.aload_n 0, 1), (.getfield 29, 3), (.iload_n 1, 1), (.bipush 7, 2)], .invokestatic 287, 3, [6], 125),
  (54, [(.bipush (-2), 2)], .if_icmp .eq 22, 3, [10, 7], 0),
  (59, [(.iload 5, 2), (.aload_n 0, 1), (.getfield 29, 3), (.iload_n 1, 1), (.bipush 7, 2)], .invokestatic 287, 3, [8], 125),
  (71, [], .if_icmp .lt 7, 3, [10, 9], 0),
  (74, [(.iconst 1, 1)], .goto 4, 3, [11], 0),
  (78, [(.iconst 0, 1)], .nop, 0, [11], 0),
  (79, [(.istore 6, 2), (.aload_n 0, 1), (.iload 4, 2), (.iload_n 1, 1)], .invokevirtual 327, 3, [12], 137),
  (88, [], .ifCond .eq 26, 3, [17, 13], 0),
  (91, [(.iload 5, 2), (.aload_n 0, 1), (.iload_n 1, 1), (.iconst 2, 1)], .invokevirtual 281, 3, [14], 122),
  (99, [], .if_icmp .lt 15, 3, [17, 15], 0),
  (102, [(.iload 6, 2)], .ifCond .ne 10, 3, [17, 16], 0),
  (107, [(.iload_n 2, 1), (.iconst 1, 1), (.iload 4, 2), (.ishl, 1), (.ior, 1), (.istore_n 2, 1)], .nop, 0, [17], 0),
  (114, [(.iinc 3 1, 3)], .goto (-113), 3, [1], 0),
  (120, [(.iload_n 2, 1)], .ireturn, 1, [], 0)]
/-- m_pushedOf -/
def nb_b139 : List nb_B := [
  (0, [(.iconst 0, 1), (.istore_n 2, 1), (.aload_n 0, 1), (.getfield 29, 3), (.iload_n 1, 1), (.iconst 4, 1)], .invokestatic 287, 3, [1], 125),
  (11, [(.bipush (-2), 2)], .if_icmp .ne 5, 3, [3, 2], 0),
  (16, [(.iconst 0, 1)], .ireturn, 1, [], 0),
  (18, [(.iconst 0, 1), (.istore_n 3, 1)], .nop, 0, [4], 0),
  (20, [(.iload_n 3, 1), (.aload_n 0, 1), (.getfield 20, 3), (.iconst 5, 1), (.iaload, 1)], .if_icmp .ge 41, 3, [13, 5], 0),
  (30, [(.iload_n 3, 1), (.iload_n 1, 1)], .if_icmp .eq 30, 3, [12, 6], 0),
  (35, [(.aload_n 0, 1), (.iload_n 1, 1), (.iload_n 3, 1)], .invokevirtual 327, 3, [7], 137),
  (41, [], .ifCond .eq 21, 3, [12, 8], 0),
  (44, [(.aload_n 0, 1), (.iload_n 3, 1)], .invokevirtual 331, 3, [9], 138),
  (49, [(.iload_n 1, 1)], .invokestatic 334, 3, [10], 84),
  (53, [], .ifCond .eq 9, 3, [12, 11], 0),
  (56, [(.iload_n 2, 1), (.iconst 1, 1), (.iload_n 3, 1), (.ishl, 1), (.ior, 1), (.istore_n 2, 1)], .nop, 0, [12], 0),
  (62, [(.iinc 3 1, 3)], .goto (-45), 3, [4], 0),
  (68, [(.iload_n 2, 1)], .ireturn, 1, [], 0)]
/-- m_sumOf -/
def nb_b140 : List nb_B := [
  (0, [(.iconst 0, 1), (.istore_n 2, 1), (.iconst 0, 1), (.istore_n 3, 1)], .nop, 0, [1], 0),
  (4, [(.iload_n 3, 1), (.aload_n 0, 1), (.getfield 20, 3), (.iconst 5, 1), (.iaload, 1)], .if_icmp .ge 171, 3, [32, 2], 0),
  (14, [(.aload_n 0, 1), (.iload_n 3, 1)], .invokevirtual 324, 3, [3], 135),
  (19, [(.istore 4, 2), (.aload_n 0, 1), (.getfield 29, 3), (.iload_n 3, 1), (.iconst 0, 1)], .invokestatic 287, 3, [4], 125),
  (30, [], .ifCond .ne 6, 3, [6, 5], 0),
  (33, [], .goto 143, 3, [31], 0),
  (36, [(.iload_n 1, 1)], .tableswitch 121 0 4 #[35, 52, 69, 86, 107], 35, [26, 7, 11, 15, 19, 23], 0),
  (72, [(.iload_n 2, 1), (.iload 4, 2), (.iconst 2, 1)], .if_icmp .ge 7, 3, [9, 8], 0),
  (79, [(.iconst 1, 1)], .goto 4, 3, [10], 0),
  (83, [(.iconst 0, 1)], .nop, 0, [10], 0),
  (84, [(.iadd, 1), (.istore_n 2, 1)], .goto 90, 3, [31], 0),
  (89, [(.iload_n 2, 1), (.iload 4, 2), (.iconst 2, 1)], .if_icmp .ne 7, 3, [13, 12], 0),
  (96, [(.iconst 1, 1)], .goto 4, 3, [14], 0),
  (100, [(.iconst 0, 1)], .nop, 0, [14], 0),
  (101, [(.iadd, 1), (.istore_n 2, 1)], .goto 73, 3, [31], 0),
  (106, [(.iload_n 2, 1), (.iload 4, 2), (.iconst 3, 1)], .if_icmp .ne 7, 3, [17, 16], 0),
  (113, [(.iconst 1, 1)], .goto 4, 3, [18], 0),
  (117, [(.iconst 0, 1)], .nop, 0, [18], 0),
  (118, [(.iadd, 1), (.istore_n 2, 1)], .goto 56, 3, [31], 0),
  (123, [(.iload_n 2, 1), (.iload 4, 2), (.iconst 4, 1)], .if_icmp .ne 7, 3, [21, 20], 0),
  (130, [(.iconst 0, 1)], .goto 8, 3, [22], 0),
  (134, [(.aload_n 0, 1), (.iload_n 3, 1)], .invokevirtual 337, 3, [22], 136),
  (139, [(.iadd, 1), (.istore_n 2, 1)], .goto 35, 3, [31], 0),
  (144, [(.iload_n 2, 1), (.aload_n 0, 1), (.iload_n 3, 1)], .invokevirtual 331, 3, [24], 138),
  (150, [], .invokestatic 340, 3, [25], 85),
  (153, [(.iadd, 1), (.istore_n 2, 1)], .goto 21, 3, [31], 0),
  (158, [(.iload_n 2, 1), (.iload 4, 2), (.iconst 2, 1)], .if_icmp .ge 11, 3, [29, 27], 0),
  (165, [(.aload_n 0, 1), (.iload_n 3, 1)], .invokevirtual 343, 3, [28], 141),
  (170, [], .goto 4, 3, [30], 0),
  (173, [(.iconst 0, 1)], .nop, 0, [30], 0),
  (174, [(.iadd, 1), (.istore_n 2, 1)], .nop, 0, [31], 0),
  (176, [(.iinc 3 1, 3)], .goto (-175), 3, [1], 0),
  (182, [(.iload_n 2, 1)], .ireturn, 1, [], 0)]
/-- m_costsOf -/
def nb_b141 : List nb_B := [
  (0, [(.iconst 0, 1), (.istore_n 2, 1), (.iconst 0, 1), (.istore_n 3, 1)], .nop, 0, [1], 0),
  (4, [(.iload_n 3, 1), (.iconst 5, 1)], .if_icmp .ge 32, 3, [4, 2], 0),
  (9, [(.iload_n 2, 1), (.aload_n 0, 1), (.iload_n 1, 1), (.iload_n 3, 1)], .invokevirtual 294, 3, [3], 120),
  (16, [(.aload_n 0, 1), (.getfield 20, 3), (.bipush 8, 2), (.iconst 3, 1), (.iload_n 3, 1), (.imul, 1), (.iadd, 1), (.iconst 2, 1), (.iadd, 1), (.iaload, 1), (.imul, 1), (.iadd, 1), (.istore_n 2, 1), (.iinc 3 1, 3)], .goto (-31), 3, [1], 0),
  (38, [(.iload_n 2, 1)], .ireturn, 1, [], 0)]
/-- m_person -/
def nb_b142 : List nb_B := [
  (0, [(.aload_n 0, 1)], .invokevirtual 165, 3, [1], 79),
  (4, [(.aload_n 0, 1), (.iload_n 1, 1)], .invokevirtual 346, 3, [2], 116),
  (9, [], .ifCond .ne 9, 3, [5, 3], 0),
  (12, [(.aload_n 0, 1), (.iconst 1, 1)], .invokevirtual 168, 3, [4], 80),
  (17, [], .ireturn, 1, [], 0),
  (18, [(.bipush 12, 2), (.bipush 8, 2), (.iload_n 1, 1), (.imul, 1), (.iadd, 1), (.istore_n 3, 1), (.iload_n 2, 1)], .tableswitch 124 0 5 #[37, 79, 88, 97, 106, 115], 37, [16, 6, 11, 12, 13, 14, 15], 0),
  (64, [(.aload_n 0, 1), (.getfield 26, 3), (.iload_n 3, 1), (.iconst 0, 1), (.iadd, 1), (.iaload, 1), (.iconst 2, 1)], .if_icmp .ne 24, 3, [9, 7], 0),
  (76, [(.aload_n 0, 1), (.getfield 26, 3), (.iload_n 3, 1), (.iconst 5, 1), (.iadd, 1), (.iaload, 1), (.aload_n 0, 1), (.getfield 26, 3), (.iconst 0, 1), (.iaload, 1)], .if_icmp .gt 7, 3, [9, 8], 0),
  (93, [(.iconst 3, 1)], .goto 11, 3, [10], 0),
  (97, [(.aload_n 0, 1), (.getfield 26, 3), (.iload_n 3, 1), (.iconst 0, 1), (.iadd, 1), (.iaload, 1)], .nop, 0, [10], 0),
  (105, [], .ireturn, 1, [], 0),
  (106, [(.aload_n 0, 1), (.getfield 26, 3), (.iload_n 3, 1), (.iconst 1, 1), (.iadd, 1), (.iaload, 1)], .ireturn, 1, [], 0),
  (115, [(.aload_n 0, 1), (.getfield 26, 3), (.iload_n 3, 1), (.iconst 2, 1), (.iadd, 1), (.iaload, 1)], .ireturn, 1, [], 0),
  (124, [(.aload_n 0, 1), (.getfield 26, 3), (.iload_n 3, 1), (.iconst 3, 1), (.iadd, 1), (.iaload, 1)], .ireturn, 1, [], 0),
  (133, [(.aload_n 0, 1), (.getfield 26, 3), (.iload_n 3, 1), (.iconst 4, 1), (.iadd, 1), (.iaload, 1)], .ireturn, 1, [], 0),
  (142, [(.aload_n 0, 1), (.getfield 26, 3), (.iload_n 3, 1), (.iconst 5, 1), (.iadd, 1), (.iaload, 1)], .ireturn, 1, [], 0),
  (151, [(.aload_n 0, 1), (.iconst 1, 1)], .invokevirtual 168, 3, [17], 80),
  (156, [], .ireturn, 1, [], 0)]
/-- m_staff -/
def nb_b143 : List nb_B := [
  (0, [(.aload_n 0, 1)], .invokevirtual 165, 3, [1], 79),
  (4, [(.aload_n 0, 1), (.iload_n 1, 1)], .invokevirtual 349, 3, [2], 117),
  (9, [], .ifCond .eq 12, 3, [5, 3], 0),
  (12, [(.iload_n 2, 1), (.iconst 0, 1), (.iconst 2, 1)], .invokestatic 147, 3, [4], 83),
  (18, [], .ifCond .ne 9, 3, [7, 5], 0),
  (21, [(.aload_n 0, 1), (.iconst 1, 1)], .invokevirtual 168, 3, [6], 80),
  (26, [], .ireturn, 1, [], 0),
  (27, [(.aload_n 0, 1)], .invokevirtual 187, 3, [8], 121),
  (31, [(.bipush 92, 2), (.iconst 4, 1), (.iload_n 1, 1), (.imul, 1), (.iadd, 1), (.istore_n 3, 1), (.iconst 0, 1), (.istore 4, 2), (.ldc_w 297, 3), (.istore 5, 2), (.iconst 1, 1), (.istore 6, 2)], .nop, 0, [9], 0),
  (49, [(.iload 6, 2), (.aload_n 0, 1), (.getfield 38, 3), (.bipush 6, 2), (.iload_n 1, 1), (.imul, 1), (.iconst 5, 1), (.iadd, 1), (.iaload, 1)], .if_icmp .gt 67, 3, [17, 10], 0),
  (65, [(.iload 4, 2), (.aload_n 0, 1), (.getfield 26, 3), (.iload_n 3, 1), (.iload 6, 2), (.iadd, 1), (.iaload, 1), (.aload_n 0, 1), (.getfield 26, 3), (.iconst 0, 1), (.iaload, 1)], .if_icmp .le 7, 3, [12, 11], 0),
  (85, [(.iconst 1, 1)], .goto 4, 3, [13], 0),
  (89, [(.iconst 0, 1)], .nop, 0, [13], 0),
  (90, [(.iadd, 1), (.istore 4, 2), (.aload_n 0, 1), (.getfield 26, 3), (.iload_n 3, 1), (.iload 6, 2), (.iadd, 1), (.iaload, 1), (.iload 5, 2)], .if_icmp .ge 15, 3, [15, 14], 0),
  (107, [(.aload_n 0, 1), (.getfield 26, 3), (.iload_n 3, 1), (.iload 6, 2), (.iadd, 1), (.iaload, 1)], .goto 5, 3, [16], 0),
  (119, [(.iload 5, 2)], .nop, 0, [16], 0),
  (121, [(.istore 5, 2), (.iinc 6 1, 3)], .goto (-77), 3, [9], 0),
  (129, [(.iload_n 2, 1)], .ifCond .ne 12, 3, [19, 18], 0),
  (133, [(.aload_n 0, 1), (.getfield 26, 3), (.iload_n 3, 1), (.iaload, 1)], .goto 35, 3, [24], 0),
  (142, [(.iload_n 2, 1), (.iconst 1, 1)], .if_icmp .ne 8, 3, [21, 20], 0),
  (147, [(.iload 4, 2)], .goto 25, 3, [24], 0),
  (152, [(.iload 5, 2), (.aload_n 0, 1), (.getfield 26, 3), (.iconst 0, 1), (.iaload, 1)], .if_icmp .le 8, 3, [23, 22], 0),
  (163, [(.iload 5, 2)], .goto 9, 3, [24], 0),
  (168, [(.aload_n 0, 1), (.getfield 26, 3), (.iconst 0, 1), (.iaload, 1)], .nop, 0, [24], 0),
  (174, [], .ireturn, 1, [], 0)]
/-- m_elbows -/
def nb_b144 : List nb_B := [
  (0, [(.aload_n 0, 1)], .invokevirtual 165, 3, [1], 79),
  (4, [(.aload_n 0, 1), (.iload_n 1, 1)], .invokevirtual 352, 3, [2], 118),
  (9, [], .ifCond .ne 9, 3, [5, 3], 0),
  (12, [(.aload_n 0, 1), (.iconst 1, 1)], .invokevirtual 168, 3, [4], 80),
  (17, [], .ireturn, 1, [], 0),
  (18, [(.iconst 0, 1), (.istore_n 2, 1), (.iconst 0, 1), (.istore_n 3, 1)], .nop, 0, [6], 0),
  (22, [(.iload_n 3, 1), (.aload_n 0, 1), (.getfield 20, 3), (.iconst 5, 1), (.iaload, 1)], .if_icmp .ge 41, 3, [14, 7], 0),
  (32, [(.iload_n 2, 1), (.aload_n 0, 1), (.getfield 26, 3), (.iload_n 3, 1)], .invokestatic 301, 3, [8], 126),
  (41, [], .ifCond .eq 20, 3, [12, 9], 0),
  (44, [(.aload_n 0, 1), (.getfield 26, 3), (.iload_n 3, 1), (.iconst 1, 1)], .invokestatic 287, 3, [10], 125),
  (53, [(.iload_n 1, 1)], .if_icmp .ne 7, 3, [12, 11], 0),
  (57, [(.iconst 1, 1)], .goto 4, 3, [13], 0),
  (61, [(.iconst 0, 1)], .nop, 0, [13], 0),
  (62, [(.iadd, 1), (.istore_n 2, 1), (.iinc 3 1, 3)], .goto (-45), 3, [6], 0),
  (70, [(.iload_n 2, 1)], .ireturn, 1, [], 0)]
/-- m_manyWaiting -/
def nb_b145 : List nb_B := [
  (0, [(.iconst 0, 1), (.istore_n 2, 1), (.iconst 0, 1), (.istore_n 3, 1)], .nop, 0, [1], 0),
  (4, [(.iload_n 3, 1), (.aload_n 0, 1), (.getfield 20, 3), (.iconst 5, 1), (.iaload, 1)], .if_icmp .ge 25, 3, [7, 2], 0),
  (14, [(.iload_n 2, 1), (.aload_n 1, 1), (.iload_n 3, 1)], .invokestatic 301, 3, [3], 126),
  (20, [], .ifCond .eq 7, 3, [5, 4], 0),
  (23, [(.iconst 1, 1)], .goto 4, 3, [6], 0),
  (27, [(.iconst 0, 1)], .nop, 0, [6], 0),
  (28, [(.iadd, 1), (.istore_n 2, 1), (.iinc 3 1, 3)], .goto (-29), 3, [1], 0),
  (36, [(.iload_n 2, 1)], .ireturn, 1, [], 0)]
/-- m_waiting -/
def nb_b146 : List nb_B := [
  (0, [(.aload_n 0, 1)], .invokevirtual 165, 3, [1], 79),
  (4, [(.aload_n 0, 1), (.getfield 178, 3)], .ifCond .eq 14, 3, [4, 2], 0),
  (11, [(.aload_n 0, 1), (.aload_n 0, 1), (.getfield 26, 3)], .invokevirtual 355, 3, [3], 145),
  (19, [], .goto 8, 3, [5], 0),
  (22, [(.aload_n 0, 1), (.iconst 1, 1)], .invokevirtual 168, 3, [5], 80),
  (27, [], .ireturn, 1, [], 0)]
/-- m_next -/
def nb_b147 : List nb_B := [
  (0, [(.aload_n 0, 1)], .invokevirtual 165, 3, [1], 79),
  (4, [(.aload_n 0, 1), (.iload_n 1, 1)], .invokevirtual 349, 3, [2], 117),
  (9, [], .ifCond .ne 9, 3, [5, 3], 0),
  (12, [(.aload_n 0, 1), (.iconst 1, 1)], .invokevirtual 168, 3, [4], 80),
  (17, [], .ireturn, 1, [], 0),
  (18, [(.aload_n 0, 1)], .invokevirtual 187, 3, [6], 121),
  (22, [(.aload_n 0, 1), (.aload_n 0, 1), (.getfield 26, 3), (.iload_n 1, 1)], .invokevirtual 312, 3, [7], 131),
  (31, [], .ireturn, 1, [], 0)]
/-- m_time -/
def nb_b148 : List nb_B := [
  (0, [(.aload_n 0, 1)], .invokevirtual 165, 3, [1], 79),
  (4, [(.aload_n 0, 1), (.iload_n 1, 1)], .invokevirtual 349, 3, [2], 117),
  (9, [], .ifCond .eq 24, 3, [7, 3], 0),
  (12, [(.aload_n 0, 1), (.iload_n 2, 1)], .invokevirtual 346, 3, [4], 116),
  (17, [], .ifCond .eq 16, 3, [7, 5], 0),
  (20, [(.aload_n 0, 1), (.aload_n 0, 1), (.getfield 26, 3), (.iload_n 1, 1), (.iload_n 2, 1)], .invokevirtual 316, 3, [6], 128),
  (30, [], .goto 8, 3, [8], 0),
  (33, [(.aload_n 0, 1), (.iconst 1, 1)], .invokevirtual 168, 3, [8], 80),
  (38, [], .ireturn, 1, [], 0)]
/-- m_costs -/
def nb_b149 : List nb_B := [
  (0, [(.aload_n 0, 1)], .invokevirtual 165, 3, [1], 79),
  (4, [(.aload_n 0, 1), (.iload_n 1, 1)], .invokevirtual 346, 3, [2], 116),
  (9, [], .ifCond .eq 11, 3, [5, 3], 0),
  (12, [(.aload_n 0, 1), (.iload_n 1, 1)], .invokevirtual 343, 3, [4], 141),
  (17, [], .goto 8, 3, [6], 0),
  (20, [(.aload_n 0, 1), (.iconst 1, 1)], .invokevirtual 168, 3, [6], 80),
  (25, [], .ireturn, 1, [], 0)]
/-- m_tellEvening -/
def nb_b150 : List nb_B := [
  (0, [(.aload_n 0, 1)], .invokevirtual 187, 3, [1], 121),
  (4, [(.aload_n 0, 1), (.aload_n 0, 1), (.getfield 20, 3), (.iconst 2, 1), (.iaload, 1), (.putfield 319, 3)], .nop, 0, [2], 0),
  (14, [(.aload_n 0, 1)], .invokevirtual 359, 3, [3], 134),
  (18, [], .return_, 1, [], 0)]
/-- m_fate -/
def nb_b151 : List nb_B := [
  (0, [(.aload_n 0, 1)], .invokevirtual 165, 3, [1], 79),
  (4, [(.aload_n 0, 1), (.iload_n 1, 1)], .invokevirtual 346, 3, [2], 116),
  (9, [], .ifCond .ne 9, 3, [5, 3], 0),
  (12, [(.aload_n 0, 1), (.iconst 1, 1)], .invokevirtual 168, 3, [4], 80),
  (17, [], .ireturn, 1, [], 0),
  (18, [(.aload_n 0, 1)], .invokevirtual 362, 3, [6], 150),
  (22, [(.aload_n 0, 1), (.iload_n 1, 1)], .invokevirtual 324, 3, [7], 135),
  (27, [], .ireturn, 1, [], 0)]
/-- m_waits -/
def nb_b152 : List nb_B := [
  (0, [(.aload_n 0, 1)], .invokevirtual 165, 3, [1], 79),
  (4, [(.aload_n 0, 1), (.iload_n 1, 1)], .invokevirtual 346, 3, [2], 116),
  (9, [], .ifCond .ne 9, 3, [5, 3], 0),
  (12, [(.aload_n 0, 1), (.iconst 1, 1)], .invokevirtual 168, 3, [4], 80),
  (17, [], .ireturn, 1, [], 0),
  (18, [(.aload_n 0, 1)], .invokevirtual 362, 3, [6], 150),
  (22, [(.aload_n 0, 1), (.iload_n 1, 1)], .invokevirtual 337, 3, [7], 136),
  (27, [], .ireturn, 1, [], 0)]
/-- m_whom -/
def nb_b153 : List nb_B := [
  (0, [(.aload_n 0, 1)], .invokevirtual 165, 3, [1], 79),
  (4, [(.aload_n 0, 1), (.iload_n 1, 1)], .invokevirtual 346, 3, [2], 116),
  (9, [], .ifCond .ne 9, 3, [5, 3], 0),
  (12, [(.aload_n 0, 1), (.iconst 1, 1)], .invokevirtual 168, 3, [4], 80),
  (17, [], .ireturn, 1, [], 0),
  (18, [(.aload_n 0, 1)], .invokevirtual 362, 3, [6], 150),
  (22, [(.aload_n 0, 1), (.getfield 29, 3), (.iload_n 1, 1), (.bipush 6, 2)], .invokestatic 287, 3, [7], 125),
  (32, [], .ireturn, 1, [], 0)]
/-- m_has -/
def nb_b154 : List nb_B := [
  (0, [(.aload_n 0, 1)], .invokevirtual 165, 3, [1], 79),
  (4, [(.aload_n 0, 1), (.iload_n 1, 1)], .invokevirtual 346, 3, [2], 116),
  (9, [], .ifCond .ne 9, 3, [5, 3], 0),
  (12, [(.aload_n 0, 1), (.iconst 1, 1)], .invokevirtual 168, 3, [4], 80),
  (17, [], .ireturn, 1, [], 0),
  (18, [(.aload_n 0, 1)], .invokevirtual 362, 3, [6], 150),
  (22, [(.aload_n 0, 1), (.getfield 29, 3), (.iload_n 1, 1), (.iconst 5, 1)], .invokestatic 287, 3, [7], 125),
  (31, [], .ireturn, 1, [], 0)]
/-- m_passed -/
def nb_b155 : List nb_B := [
  (0, [(.aload_n 0, 1)], .invokevirtual 165, 3, [1], 79),
  (4, [(.aload_n 0, 1), (.iload_n 1, 1)], .invokevirtual 346, 3, [2], 116),
  (9, [], .ifCond .ne 9, 3, [5, 3], 0),
  (12, [(.aload_n 0, 1), (.iconst 1, 1)], .invokevirtual 168, 3, [4], 80),
  (17, [], .ireturn, 1, [], 0),
  (18, [(.aload_n 0, 1)], .invokevirtual 362, 3, [6], 150),
  (22, [(.aload_n 0, 1), (.iload_n 1, 1)], .invokevirtual 331, 3, [7], 138),
  (27, [], .ireturn, 1, [], 0)]
/-- m_pushed -/
def nb_b156 : List nb_B := [
  (0, [(.aload_n 0, 1)], .invokevirtual 165, 3, [1], 79),
  (4, [(.aload_n 0, 1), (.iload_n 1, 1)], .invokevirtual 346, 3, [2], 116),
  (9, [], .ifCond .ne 9, 3, [5, 3], 0),
  (12, [(.aload_n 0, 1), (.iconst 1, 1)], .invokevirtual 168, 3, [4], 80),
  (17, [], .ireturn, 1, [], 0),
  (18, [(.aload_n 0, 1)], .invokevirtual 362, 3, [6], 150),
  (22, [(.aload_n 0, 1), (.iload_n 1, 1)], .invokevirtual 365, 3, [7], 139),
  (27, [], .ireturn, 1, [], 0)]
/-- m_sum -/
def nb_b157 : List nb_B := [
  (0, [(.aload_n 0, 1)], .invokevirtual 165, 3, [1], 79),
  (4, [(.aload_n 0, 1), (.getfield 178, 3)], .ifCond .eq 12, 3, [4, 2], 0),
  (11, [(.iload_n 1, 1), (.iconst 0, 1), (.iconst 5, 1)], .invokestatic 147, 3, [3], 83),
  (17, [], .ifCond .ne 9, 3, [6, 4], 0),
  (20, [(.aload_n 0, 1), (.iconst 1, 1)], .invokevirtual 168, 3, [5], 80),
  (25, [], .ireturn, 1, [], 0),
  (26, [(.aload_n 0, 1)], .invokevirtual 362, 3, [7], 150),
  (30, [(.aload_n 0, 1), (.iload_n 1, 1)], .invokevirtual 368, 3, [8], 140),
  (35, [], .ireturn, 1, [], 0)]
/-- m_served -/
def nb_b158 : List nb_B := [
  (0, [(.aload_n 0, 1)], .invokevirtual 165, 3, [1], 79),
  (4, [(.aload_n 0, 1), (.getfield 178, 3)], .ifCond .eq 7, 3, [3, 2], 0),
  (11, [(.iload_n 1, 1)], .ifCond .ge 9, 3, [5, 3], 0),
  (15, [(.aload_n 0, 1), (.iconst 1, 1)], .invokevirtual 168, 3, [4], 80),
  (20, [], .ireturn, 1, [], 0),
  (21, [(.aload_n 0, 1)], .invokevirtual 362, 3, [6], 150),
  (25, [(.iload_n 1, 1), (.aload_n 0, 1), (.getfield 29, 3), (.iconst 1, 1), (.iaload, 1)], .if_icmp .ge 14, 3, [8, 7], 0),
  (35, [(.aload_n 0, 1), (.getfield 29, 3), (.iconst 2, 1), (.iload_n 1, 1), (.iadd, 1), (.iaload, 1)], .goto 8, 3, [9], 0),
  (46, [(.aload_n 0, 1), (.iconst 1, 1)], .invokevirtual 168, 3, [9], 80),
  (51, [], .ireturn, 1, [], 0)]
/-- m_waitingAt -/
def nb_b159 : List nb_B := [
  (0, [(.aload_n 0, 1)], .invokevirtual 165, 3, [1], 79),
  (4, [(.aload_n 0, 1), (.getfield 178, 3)], .ifCond .ne 9, 3, [4, 2], 0),
  (11, [(.aload_n 0, 1), (.iconst 1, 1)], .invokevirtual 168, 3, [3], 80),
  (16, [], .ireturn, 1, [], 0),
  (17, [(.iload_n 1, 1), (.aload_n 0, 1), (.getfield 26, 3), (.iconst 0, 1), (.iaload, 1), (.aload_n 0, 1), (.getfield 20, 3), (.iconst 2, 1), (.iaload, 1)], .invokestatic 147, 3, [5], 83),
  (33, [], .ifCond .ne 9, 3, [8, 6], 0),
  (36, [(.aload_n 0, 1), (.iconst 2, 1)], .invokevirtual 168, 3, [7], 80),
  (41, [], .ireturn, 1, [], 0),
  (42, [(.aload_n 0, 1)], .invokevirtual 187, 3, [9], 121),
  (46, [(.aload_n 0, 1), (.iload_n 1, 1), (.putfield 319, 3)], .nop, 0, [10], 0),
  (51, [(.aload_n 0, 1)], .invokevirtual 359, 3, [11], 134),
  (55, [(.aload_n 0, 1), (.aload_n 0, 1), (.getfield 29, 3)], .invokevirtual 355, 3, [12], 145),
  (63, [], .ireturn, 1, [], 0)]
/-- m_bell -/
def nb_b160 : List nb_B := [
  (0, [(.aload_n 0, 1)], .invokevirtual 165, 3, [1], 79),
  (4, [(.aload_n 0, 1), (.getfield 178, 3)], .ifCond .eq 12, 3, [4, 2], 0),
  (11, [(.iload_n 2, 1), (.iconst 0, 1), (.iconst 5, 1)], .invokestatic 147, 3, [3], 83),
  (17, [], .ifCond .ne 9, 3, [6, 4], 0),
  (20, [(.aload_n 0, 1), (.iconst 1, 1)], .invokevirtual 168, 3, [5], 80),
  (25, [], .ireturn, 1, [], 0),
  (26, [(.iload_n 1, 1), (.aload_n 0, 1), (.getfield 26, 3), (.iconst 0, 1), (.iaload, 1), (.sipush 900, 3)], .invokestatic 147, 3, [7], 83),
  (39, [], .ifCond .ne 9, 3, [10, 8], 0),
  (42, [(.aload_n 0, 1), (.iconst 2, 1)], .invokevirtual 168, 3, [9], 80),
  (47, [], .ireturn, 1, [], 0),
  (48, [(.aload_n 0, 1)], .invokevirtual 187, 3, [11], 121),
  (52, [(.aload_n 0, 1), (.iload_n 1, 1), (.putfield 319, 3)], .nop, 0, [12], 0),
  (57, [(.aload_n 0, 1)], .invokevirtual 359, 3, [13], 134),
  (61, [(.aload_n 0, 1), (.iload_n 2, 1)], .invokevirtual 368, 3, [14], 140),
  (66, [], .ireturn, 1, [], 0)]
/-- m_layRule -/
def nb_b161 : List nb_B := [
  (0, [(.aload_n 0, 1)], .invokevirtual 187, 3, [1], 121),
  (4, [(.aload_n 0, 1), (.aload_n 0, 1), (.getfield 20, 3), (.iconst 2, 1), (.iaload, 1), (.putfield 319, 3)], .nop, 0, [2], 0),
  (14, [(.iconst 0, 1), (.istore_n 3, 1)], .nop, 0, [3], 0),
  (16, [(.iload_n 3, 1), (.aload_n 0, 1), (.getfield 278, 3)], .if_icmp .ge 59, 3, [10, 4], 0),
  (24, [(.aload_n 0, 1), (.getfield 38, 3), (.bipush 6, 2), (.iload_n 3, 1), (.imul, 1), (.iconst 0, 1), (.iadd, 1), (.iload_n 1, 1), (.iastore, 1)], .nop, 0, [5], 0),
  (36, [(.iload_n 2, 1)], .ifCond .ne 6, 3, [7, 6], 0),
  (40, [], .goto 34, 3, [9], 0),
  (43, [(.aload_n 0, 1), (.getfield 38, 3), (.bipush 6, 2), (.iload_n 3, 1), (.imul, 1), (.iconst 2, 1), (.iadd, 1), (.iconst 0, 1), (.iastore, 1)], .nop, 0, [8], 0),
  (55, [(.aload_n 0, 1), (.getfield 38, 3), (.bipush 6, 2), (.iload_n 3, 1), (.imul, 1), (.iconst 3, 1), (.iadd, 1), (.aload_n 0, 1), (.getfield 20, 3), (.iconst 1, 1), (.iaload, 1), (.iconst 1, 1), (.isub, 1), (.iastore, 1)], .nop, 0, [9], 0),
  (74, [(.iinc 3 1, 3)], .goto (-61), 3, [3], 0),
  (80, [(.aload_n 0, 1)], .invokevirtual 359, 3, [11], 134),
  (84, [], .return_, 1, [], 0)]
/-- m_by -/
def nb_b162 : List nb_B := [
  (0, [(.aload_n 0, 1)], .invokevirtual 165, 3, [1], 79),
  (4, [(.aload_n 0, 1), (.getfield 178, 3)], .ifCond .eq 21, 3, [6, 2], 0),
  (11, [(.iload_n 1, 1), (.iconst 0, 1), (.iconst 4, 1)], .invokestatic 147, 3, [3], 83),
  (17, [], .ifCond .eq 12, 3, [6, 4], 0),
  (20, [(.iload_n 3, 1), (.iconst 0, 1), (.iconst 5, 1)], .invokestatic 147, 3, [5], 83),
  (26, [], .ifCond .ne 9, 3, [8, 6], 0),
  (29, [(.aload_n 0, 1), (.iconst 1, 1)], .invokevirtual 168, 3, [7], 80),
  (34, [], .ireturn, 1, [], 0),
  (35, [(.aload_n 0, 1), (.iload_n 1, 1), (.iload_n 2, 1)], .invokevirtual 371, 3, [9], 161),
  (41, [(.aload_n 0, 1), (.iload_n 3, 1)], .invokevirtual 368, 3, [10], 140),
  (46, [], .ireturn, 1, [], 0)]
/-- m_bestRule -/
def nb_b163 : List nb_B := [
  (0, [(.aload_n 0, 1)], .invokevirtual 165, 3, [1], 79),
  (4, [(.aload_n 0, 1), (.getfield 178, 3)], .ifCond .ne 9, 3, [4, 2], 0),
  (11, [(.aload_n 0, 1), (.iconst 1, 1)], .invokevirtual 168, 3, [3], 80),
  (16, [], .ireturn, 1, [], 0),
  (17, [(.iconst 0, 1), (.istore_n 2, 1), (.ldc_w 297, 3), (.istore_n 3, 1), (.iconst 0, 1), (.istore 4, 2)], .nop, 0, [5], 0),
  (26, [(.iload 4, 2), (.iconst 5, 1)], .if_icmp .ge 51, 3, [16, 6], 0),
  (32, [(.aload_n 0, 1), (.iload 4, 2), (.iconst 0, 1)], .invokevirtual 371, 3, [7], 161),
  (39, [(.iload_n 1, 1)], .ifCond .eq 11, 3, [10, 8], 0),
  (43, [(.aload_n 0, 1), (.iconst 4, 1)], .invokevirtual 368, 3, [9], 140),
  (48, [], .goto 9, 3, [12], 0),
  (51, [(.aload_n 0, 1), (.iconst 0, 1)], .invokevirtual 368, 3, [11], 140),
  (56, [(.ineg, 1)], .nop, 0, [12], 0),
  (57, [(.istore 5, 2), (.iload 5, 2), (.iload_n 3, 1)], .if_icmp .lt 6, 3, [14, 13], 0),
  (65, [], .goto 9, 3, [15], 0),
  (68, [(.iload 4, 2), (.istore_n 2, 1), (.iload 5, 2), (.istore_n 3, 1)], .nop, 0, [15], 0),
  (74, [(.iinc 4 1, 3)], .goto (-51), 3, [5], 0),
  (80, [(.iload_n 2, 1)], .ireturn, 1, [], 0)]
/-- m_hand -/
def nb_b164 : List nb_B := [
  (0, [(.aload_n 0, 1)], .invokevirtual 165, 3, [1], 79),
  (4, [(.aload_n 0, 1), (.getfield 178, 3)], .ifCond .ne 10, 3, [4, 2], 0),
  (11, [(.aload_n 0, 1), (.bipush (-100), 2)], .invokevirtual 375, 3, [3], 81),
  (17, [], .ireturn, 1, [], 0),
  (18, [(.aload_n 0, 1)], .invokevirtual 362, 3, [5], 150),
  (22, [(.aload_n 0, 1), (.iconst 0, 1)], .invokevirtual 368, 3, [6], 140),
  (27, [(.istore_n 1, 1), (.bipush 6, 2), (.aload_n 0, 1), (.getfield 278, 3), (.imul, 1), (.istore_n 2, 1), (.aload_n 0, 1), (.getfield 38, 3), (.iload_n 2, 1), (.iconst 0, 1), (.iadd, 1), (.iconst 3, 1), (.iastore, 1)], .nop, 0, [7], 0),
  (45, [(.aload_n 0, 1), (.getfield 38, 3), (.iload_n 2, 1), (.iconst 1, 1), (.iadd, 1), (.aload_n 0, 1), (.getfield 20, 3), (.iconst 1, 1), (.iaload, 1), (.iconst 2, 1), (.idiv, 1), (.iastore, 1)], .nop, 0, [8], 0),
  (61, [(.aload_n 0, 1), (.getfield 38, 3), (.iload_n 2, 1), (.iconst 2, 1), (.iadd, 1), (.iconst 0, 1), (.iastore, 1)], .nop, 0, [9], 0),
  (70, [(.aload_n 0, 1), (.getfield 38, 3), (.iload_n 2, 1), (.iconst 3, 1), (.iadd, 1), (.aload_n 0, 1), (.getfield 20, 3), (.iconst 1, 1), (.iaload, 1), (.iconst 1, 1), (.isub, 1), (.iastore, 1)], .nop, 0, [10], 0),
  (86, [(.aload_n 0, 1), (.getfield 38, 3), (.iload_n 2, 1), (.iconst 4, 1), (.iadd, 1), (.iconst 1, 1), (.iastore, 1)], .nop, 0, [11], 0),
  (95, [(.aload_n 0, 1), (.getfield 38, 3), (.iload_n 2, 1), (.iconst 5, 1), (.iadd, 1), (.iconst 1, 1), (.iastore, 1)], .nop, 0, [12], 0),
  (104, [(.bipush 92, 2), (.iconst 4, 1), (.aload_n 0, 1), (.getfield 278, 3), (.imul, 1), (.iadd, 1), (.istore_n 3, 1), (.aload_n 0, 1), (.getfield 26, 3), (.iload_n 3, 1), (.aload_n 0, 1), (.getfield 38, 3), (.iload_n 2, 1), (.iconst 1, 1), (.iadd, 1), (.iaload, 1), (.iastore, 1)], .nop, 0, [13], 0),
  (128, [(.iconst 1, 1), (.istore 4, 2)], .nop, 0, [14], 0),
  (131, [(.iload 4, 2), (.iconst 4, 1)], .if_icmp .ge 19, 3, [17, 15], 0),
  (137, [(.aload_n 0, 1), (.getfield 26, 3), (.iload_n 3, 1), (.iload 4, 2), (.iadd, 1), (.iconst 0, 1), (.iastore, 1)], .nop, 0, [16], 0),
  (147, [(.iinc 4 1, 3)], .goto (-19), 3, [14], 0),
  (153, [(.aload_n 0, 1), (.dup, 1), (.getfield 278, 3), (.iconst 1, 1), (.iadd, 1), (.putfield 278, 3)], .nop, 0, [18], 0),
  (163, [(.aload_n 0, 1)], .invokevirtual 359, 3, [19], 134),
  (167, [(.iconst 0, 1), (.istore 4, 2)], .nop, 0, [20], 0),
  (170, [(.iload 4, 2), (.iconst 4, 1)], .if_icmp .ge 19, 3, [23, 21], 0),
  (176, [(.aload_n 0, 1), (.getfield 26, 3), (.iload_n 3, 1), (.iload 4, 2), (.iadd, 1), (.iconst 0, 1), (.iastore, 1)], .nop, 0, [22], 0),
  (186, [(.iinc 4 1, 3)], .goto (-19), 3, [20], 0),
  (192, [(.aload_n 0, 1), (.iconst 0, 1)], .invokevirtual 368, 3, [24], 140),
  (197, [(.iload_n 1, 1), (.isub, 1)], .ireturn, 1, [], 0)]
/-- m_hasCome -/
def nb_b165 : List nb_B := [
  (0, [(.aload_n 0, 1), (.getfield 26, 3), (.iload_n 1, 1), (.iconst 0, 1)], .invokestatic 287, 3, [1], 125),
  (9, [], .ifCond .eq 7, 3, [3, 2], 0),
  (12, [(.iconst 1, 1)], .goto 4, 3, [4], 0),
  (16, [(.iconst 0, 1)], .nop, 0, [4], 0),
  (17, [], .ireturn, 1, [], 0)]
/-- m_beforehand -/
def nb_b166 : List nb_B := [
  (0, [(.aload_n 0, 1)], .invokevirtual 165, 3, [1], 79),
  (4, [(.aload_n 0, 1), (.iload_n 1, 1)], .invokevirtual 346, 3, [2], 116),
  (9, [], .ifCond .ne 11, 3, [5, 3], 0),
  (12, [(.aload_n 0, 1), (.sipush (-1000), 3)], .invokevirtual 375, 3, [4], 81),
  (19, [], .ireturn, 1, [], 0),
  (20, [(.aload_n 0, 1), (.iload_n 1, 1)], .invokevirtual 378, 3, [6], 165),
  (25, [], .ifCond .ne 21, 3, [8, 7], 0),
  (28, [(.aload_n 0, 1), (.getfield 20, 3), (.bipush 41, 2), (.bipush 7, 2), (.iload_n 1, 1), (.imul, 1), (.iadd, 1), (.bipush 6, 2), (.iadd, 1), (.iaload, 1)], .ifCond .le 12, 3, [10, 8], 0),
  (46, [(.aload_n 0, 1), (.iconst 5, 1), (.putfield 63, 3)], .nop, 0, [9], 0),
  (51, [(.sipush (-1000), 3)], .ireturn, 1, [], 0),
  (55, [(.aload_n 0, 1)], .invokevirtual 362, 3, [11], 150),
  (59, [(.aload_n 0, 1), (.iconst 3, 1)], .invokevirtual 368, 3, [12], 140),
  (64, [(.istore_n 2, 1), (.aload_n 0, 1), (.getfield 41, 3), (.bipush 7, 2), (.iload_n 1, 1), (.imul, 1), (.bipush 6, 2), (.iadd, 1), (.aload_n 0, 1), (.iload_n 1, 1), (.iconst 2, 1)], .invokevirtual 281, 3, [13], 122),
  (82, [(.iconst 1, 1), (.iadd, 1), (.iastore, 1)], .nop, 0, [14], 0),
  (85, [(.aload_n 0, 1)], .invokevirtual 359, 3, [15], 134),
  (89, [(.iload_n 2, 1), (.aload_n 0, 1), (.iconst 3, 1)], .invokevirtual 368, 3, [16], 140),
  (95, [(.isub, 1)], .ireturn, 1, [], 0)]
/-- m_waitIfHas -/
def nb_b167 : List nb_B := [
  (0, [(.aload_n 0, 1)], .invokevirtual 359, 3, [1], 134),
  (4, [(.aload_n 0, 1), (.iload_n 1, 1)], .invokevirtual 324, 3, [2], 135),
  (9, [(.iconst 2, 1)], .if_icmp .ge 11, 3, [5, 3], 0),
  (13, [(.aload_n 0, 1), (.iload_n 1, 1)], .invokevirtual 337, 3, [4], 136),
  (18, [], .goto 6, 3, [6], 0),
  (21, [(.ldc_w 297, 3)], .nop, 0, [6], 0),
  (24, [], .ireturn, 1, [], 0)]
/-- m_bestPlace -/
def nb_b168 : List nb_B := [
  (0, [(.aload_n 0, 1)], .invokevirtual 165, 3, [1], 79),
  (4, [(.aload_n 0, 1), (.iload_n 1, 1)], .invokevirtual 346, 3, [2], 116),
  (9, [], .ifCond .ne 9, 3, [5, 3], 0),
  (12, [(.aload_n 0, 1), (.iconst 1, 1)], .invokevirtual 168, 3, [4], 80),
  (17, [], .ireturn, 1, [], 0),
  (18, [(.aload_n 0, 1), (.iload_n 1, 1)], .invokevirtual 378, 3, [6], 165),
  (23, [], .ifCond .eq 9, 3, [9, 7], 0),
  (26, [(.aload_n 0, 1), (.iconst 5, 1)], .invokevirtual 168, 3, [8], 80),
  (31, [], .ireturn, 1, [], 0),
  (32, [(.aload_n 0, 1)], .invokevirtual 187, 3, [10], 121),
  (36, [(.aload_n 0, 1), (.aload_n 0, 1), (.getfield 20, 3), (.iconst 2, 1), (.iaload, 1), (.putfield 319, 3)], .nop, 0, [11], 0),
  (46, [(.bipush 12, 2), (.bipush 8, 2), (.iload_n 1, 1), (.imul, 1), (.iadd, 1), (.iconst 1, 1), (.iadd, 1), (.istore_n 2, 1), (.aload_n 0, 1), (.getfield 26, 3), (.iload_n 2, 1), (.iaload, 1), (.istore_n 3, 1), (.bipush (-2), 2), (.istore 4, 2), (.ldc_w 297, 3), (.istore 5, 2), (.iconst 0, 1), (.istore 6, 2)], .nop, 0, [12], 0),
  (75, [(.iload 6, 2), (.aload_n 0, 1), (.getfield 20, 3), (.iconst 1, 1), (.iaload, 1)], .if_icmp .ge 42, 3, [19, 13], 0),
  (86, [(.aload_n 0, 1), (.getfield 26, 3), (.iload_n 2, 1), (.iload 6, 2), (.iastore, 1)], .nop, 0, [14], 0),
  (94, [(.aload_n 0, 1), (.iload_n 1, 1)], .invokevirtual 381, 3, [15], 167),
  (99, [(.istore 7, 2), (.iload 7, 2), (.iload 5, 2)], .if_icmp .lt 6, 3, [17, 16], 0),
  (108, [], .goto 11, 3, [18], 0),
  (111, [(.iload 6, 2), (.istore 4, 2), (.iload 7, 2), (.istore 5, 2)], .nop, 0, [18], 0),
  (119, [(.iinc 6 1, 3)], .goto (-47), 3, [12], 0),
  (125, [(.aload_n 0, 1), (.getfield 26, 3), (.iload_n 2, 1), (.iload_n 3, 1), (.iastore, 1)], .nop, 0, [20], 0),
  (132, [(.iload 4, 2)], .ireturn, 1, [], 0)]
/-- m_beOf -/
def nb_b169 : List nb_B := [
  (0, [(.aload_n 0, 1), (.getfield 41, 3), (.bipush 7, 2), (.iload_n 1, 1), (.imul, 1), (.iconst 0, 1), (.iadd, 1), (.iload_n 2, 1), (.iastore, 1)], .nop, 0, [1], 0),
  (12, [(.aload_n 0, 1), (.getfield 41, 3), (.bipush 7, 2), (.iload_n 1, 1), (.imul, 1), (.iconst 1, 1), (.iadd, 1), (.iload_n 2, 1), (.iconst 1, 1)], .if_icmp .eq 8, 3, [3, 2], 0),
  (27, [(.iload_n 2, 1), (.iconst 2, 1)], .if_icmp .ne 8, 3, [4, 3], 0),
  (32, [(.bipush 30, 2)], .goto 4, 3, [5], 0),
  (37, [(.iconst 0, 1)], .nop, 0, [5], 0),
  (38, [(.iastore, 1)], .nop, 0, [6], 0),
  (39, [], .return_, 1, [], 0)]
/-- m_bestManner -/
def nb_b170 : List nb_B := [
  (0, [(.aload_n 0, 1)], .invokevirtual 165, 3, [1], 79),
  (4, [(.aload_n 0, 1), (.iload_n 1, 1)], .invokevirtual 346, 3, [2], 116),
  (9, [], .ifCond .ne 9, 3, [5, 3], 0),
  (12, [(.aload_n 0, 1), (.iconst 1, 1)], .invokevirtual 168, 3, [4], 80),
  (17, [], .ireturn, 1, [], 0),
  (18, [(.aload_n 0, 1), (.iload_n 1, 1)], .invokevirtual 378, 3, [6], 165),
  (23, [], .ifCond .eq 9, 3, [9, 7], 0),
  (26, [(.aload_n 0, 1), (.iconst 5, 1)], .invokevirtual 168, 3, [8], 80),
  (31, [], .ireturn, 1, [], 0),
  (32, [(.aload_n 0, 1)], .invokevirtual 187, 3, [10], 121),
  (36, [(.aload_n 0, 1), (.aload_n 0, 1), (.getfield 20, 3), (.iconst 2, 1), (.iaload, 1), (.putfield 319, 3)], .nop, 0, [11], 0),
  (46, [(.bipush 12, 2), (.bipush 8, 2), (.iload_n 1, 1), (.imul, 1), (.iadd, 1), (.iconst 3, 1), (.iadd, 1), (.istore_n 2, 1), (.aload_n 0, 1), (.getfield 26, 3), (.iload_n 2, 1), (.iaload, 1), (.istore_n 3, 1), (.bipush (-2), 2), (.istore 4, 2), (.ldc_w 297, 3), (.istore 5, 2), (.iconst 0, 1), (.istore 6, 2)], .nop, 0, [12], 0),
  (75, [(.iload 6, 2), (.iconst 4, 1)], .if_icmp .ge 52, 3, [21, 13], 0),
  (81, [(.aload_n 0, 1), (.iload_n 1, 1), (.iload 6, 2)], .invokevirtual 384, 3, [14], 169),
  (88, [(.aload_n 0, 1), (.getfield 26, 3), (.iload_n 2, 1), (.aload_n 0, 1), (.iload_n 1, 1)], .invokevirtual 284, 3, [15], 123),
  (98, [(.iastore, 1)], .nop, 0, [16], 0),
  (99, [(.aload_n 0, 1), (.iload_n 1, 1)], .invokevirtual 381, 3, [17], 167),
  (104, [(.istore 7, 2), (.iload 7, 2), (.iload 5, 2)], .if_icmp .lt 6, 3, [19, 18], 0),
  (113, [], .goto 11, 3, [20], 0),
  (116, [(.iload 6, 2), (.istore 4, 2), (.iload 7, 2), (.istore 5, 2)], .nop, 0, [20], 0),
  (124, [(.iinc 6 1, 3)], .goto (-52), 3, [12], 0),
  (130, [(.aload_n 0, 1), (.getfield 26, 3), (.iload_n 2, 1), (.iload_n 3, 1), (.iastore, 1)], .nop, 0, [22], 0),
  (137, [(.iload 4, 2)], .ireturn, 1, [], 0)]
/-- m_leastLook -/
def nb_b171 : List nb_B := [
  (0, [(.aload_n 0, 1)], .invokevirtual 165, 3, [1], 79),
  (4, [(.aload_n 0, 1), (.iload_n 1, 1)], .invokevirtual 346, 3, [2], 116),
  (9, [], .ifCond .ne 9, 3, [5, 3], 0),
  (12, [(.aload_n 0, 1), (.iconst 1, 1)], .invokevirtual 168, 3, [4], 80),
  (17, [], .ireturn, 1, [], 0),
  (18, [(.aload_n 0, 1), (.iload_n 1, 1)], .invokevirtual 378, 3, [6], 165),
  (23, [], .ifCond .eq 9, 3, [9, 7], 0),
  (26, [(.aload_n 0, 1), (.iconst 5, 1)], .invokevirtual 168, 3, [8], 80),
  (31, [], .ireturn, 1, [], 0),
  (32, [(.aload_n 0, 1)], .invokevirtual 187, 3, [10], 121),
  (36, [(.aload_n 0, 1), (.aload_n 0, 1), (.getfield 20, 3), (.iconst 2, 1), (.iaload, 1), (.putfield 319, 3)], .nop, 0, [11], 0),
  (46, [(.bipush 12, 2), (.bipush 8, 2), (.iload_n 1, 1), (.imul, 1), (.iadd, 1), (.iconst 2, 1), (.iadd, 1), (.istore_n 2, 1), (.aload_n 0, 1), (.getfield 26, 3), (.iload_n 2, 1), (.iaload, 1), (.istore_n 3, 1), (.bipush (-2), 2), (.istore 4, 2), (.ldc_w 297, 3), (.istore 5, 2), (.iconst 0, 1), (.istore 6, 2)], .nop, 0, [12], 0),
  (75, [(.iload 6, 2), (.bipush 100, 2)], .if_icmp .ge 42, 3, [19, 13], 0),
  (82, [(.aload_n 0, 1), (.getfield 26, 3), (.iload_n 2, 1), (.iload 6, 2), (.iastore, 1)], .nop, 0, [14], 0),
  (90, [(.aload_n 0, 1), (.iload_n 1, 1)], .invokevirtual 381, 3, [15], 167),
  (95, [(.istore 7, 2), (.iload 7, 2), (.iload 5, 2)], .if_icmp .lt 6, 3, [17, 16], 0),
  (104, [], .goto 11, 3, [18], 0),
  (107, [(.iload 6, 2), (.istore 4, 2), (.iload 7, 2), (.istore 5, 2)], .nop, 0, [18], 0),
  (115, [(.iinc 6 1, 3)], .goto (-43), 3, [12], 0),
  (121, [(.aload_n 0, 1), (.getfield 26, 3), (.iload_n 2, 1), (.iload_n 3, 1), (.iastore, 1)], .nop, 0, [20], 0),
  (128, [(.iload 4, 2)], .ireturn, 1, [], 0)]
/-- m_cutWhy -/
def nb_b172 : List nb_B := [
  (0, [(.aload_n 0, 1), (.getfield 178, 3)], .ifCond .ne 5, 3, [2, 1], 0),
  (7, [(.iconst 1, 1)], .ireturn, 1, [], 0),
  (9, [(.aload_n 0, 1), (.getfield 20, 3), (.iconst 4, 1), (.iaload, 1), (.iconst 2, 1)], .if_icmp .lt 13, 3, [4, 3], 0),
  (19, [(.aload_n 0, 1), (.getfield 20, 3), (.iconst 1, 1), (.iaload, 1), (.iconst 2, 1)], .if_icmp .ge 5, 3, [5, 4], 0),
  (29, [(.iconst 5, 1)], .ireturn, 1, [], 0),
  (31, [(.aload_n 0, 1), (.ldc_w 297, 3), (.putfield 387, 3)], .nop, 0, [6], 0),
  (38, [(.iconst 0, 1), (.istore_n 1, 1)], .nop, 0, [7], 0),
  (40, [(.iload_n 1, 1), (.aload_n 0, 1), (.getfield 20, 3), (.iconst 1, 1), (.iaload, 1), (.iconst 1, 1), (.isub, 1)], .if_icmp .ge 93, 3, [21, 8], 0),
  (52, [(.aload_n 0, 1)], .invokevirtual 187, 3, [9], 121),
  (56, [(.aload_n 0, 1), (.aload_n 0, 1), (.getfield 20, 3), (.iconst 2, 1), (.iaload, 1), (.putfield 319, 3)], .nop, 0, [10], 0),
  (66, [(.aload_n 0, 1), (.getfield 38, 3), (.iconst 2, 1), (.iconst 0, 1), (.iastore, 1)], .nop, 0, [11], 0),
  (73, [(.aload_n 0, 1), (.getfield 38, 3), (.iconst 3, 1), (.iload_n 1, 1), (.iastore, 1)], .nop, 0, [12], 0),
  (80, [(.aload_n 0, 1), (.getfield 38, 3), (.bipush 8, 2), (.iload_n 1, 1), (.iconst 1, 1), (.iadd, 1), (.iastore, 1)], .nop, 0, [13], 0),
  (90, [(.aload_n 0, 1), (.getfield 38, 3), (.bipush 9, 2), (.aload_n 0, 1), (.getfield 20, 3), (.iconst 1, 1), (.iaload, 1), (.iconst 1, 1), (.isub, 1), (.iastore, 1)], .nop, 0, [14], 0),
  (105, [(.aload_n 0, 1)], .invokevirtual 359, 3, [15], 134),
  (109, [(.aload_n 0, 1), (.iconst 3, 1)], .invokevirtual 368, 3, [16], 140),
  (114, [(.istore_n 2, 1), (.iload_n 2, 1), (.aload_n 0, 1), (.getfield 387, 3)], .if_icmp .lt 6, 3, [18, 17], 0),
  (123, [], .goto 13, 3, [20], 0),
  (126, [(.aload_n 0, 1), (.iload_n 2, 1), (.putfield 387, 3)], .nop, 0, [19], 0),
  (131, [(.aload_n 0, 1), (.iload_n 1, 1), (.putfield 390, 3)], .nop, 0, [20], 0),
  (136, [(.iinc 1 1, 3)], .goto (-99), 3, [7], 0),
  (142, [(.iconst 0, 1)], .ireturn, 1, [], 0)]
/-- m_cut -/
def nb_b173 : List nb_B := [
  (0, [(.aload_n 0, 1)], .invokevirtual 165, 3, [1], 79),
  (4, [(.aload_n 0, 1)], .invokevirtual 393, 3, [2], 172),
  (8, [(.istore_n 1, 1), (.iload_n 1, 1)], .ifCond .eq 11, 3, [5, 3], 0),
  (13, [(.aload_n 0, 1), (.iload_n 1, 1)], .invokevirtual 168, 3, [4], 80),
  (18, [], .goto 7, 3, [6], 0),
  (21, [(.aload_n 0, 1), (.getfield 390, 3)], .nop, 0, [6], 0),
  (25, [], .ireturn, 1, [], 0)]
/-- m_cutWaits -/
def nb_b174 : List nb_B := [
  (0, [(.aload_n 0, 1)], .invokevirtual 165, 3, [1], 79),
  (4, [(.aload_n 0, 1)], .invokevirtual 393, 3, [2], 172),
  (8, [(.istore_n 1, 1), (.iload_n 1, 1)], .ifCond .eq 11, 3, [5, 3], 0),
  (13, [(.aload_n 0, 1), (.iload_n 1, 1)], .invokevirtual 168, 3, [4], 80),
  (18, [], .goto 7, 3, [6], 0),
  (21, [(.aload_n 0, 1), (.getfield 387, 3)], .nop, 0, [6], 0),
  (25, [], .ireturn, 1, [], 0)]
/-- m_canNotLet -/
def nb_b175 : List nb_B := [
  (0, [(.aload_n 0, 1), (.getfield 26, 3), (.iload_n 1, 1)], .invokestatic 301, 3, [1], 126),
  (8, [], .ifCond .eq 35, 3, [7, 2], 0),
  (11, [(.aload_n 0, 1), (.getfield 26, 3), (.iload_n 2, 1)], .invokestatic 301, 3, [3], 126),
  (19, [], .ifCond .eq 24, 3, [7, 4], 0),
  (22, [(.aload_n 0, 1), (.getfield 26, 3), (.iload_n 1, 1), (.iconst 3, 1)], .invokestatic 287, 3, [5], 125),
  (31, [(.aload_n 0, 1), (.getfield 26, 3), (.iload_n 2, 1), (.iconst 3, 1)], .invokestatic 287, 3, [6], 125),
  (40, [], .if_icmp .le 7, 3, [8, 7], 0),
  (43, [(.iconst 1, 1)], .goto 4, 3, [9], 0),
  (47, [(.iconst 0, 1)], .nop, 0, [9], 0),
  (48, [], .ireturn, 1, [], 0)]
/-- m_letCosts -/
def nb_b176 : List nb_B := [
  (0, [(.aload_n 0, 1)], .invokevirtual 165, 3, [1], 79),
  (4, [(.aload_n 0, 1), (.iload_n 1, 1)], .invokevirtual 346, 3, [2], 116),
  (9, [], .ifCond .eq 16, 3, [6, 3], 0),
  (12, [(.aload_n 0, 1), (.iload_n 2, 1)], .invokevirtual 346, 3, [4], 116),
  (17, [], .ifCond .eq 8, 3, [6, 5], 0),
  (20, [(.iload_n 1, 1), (.iload_n 2, 1)], .if_icmp .ne 11, 3, [8, 6], 0),
  (25, [(.aload_n 0, 1), (.sipush (-1000), 3)], .invokevirtual 375, 3, [7], 81),
  (32, [], .ireturn, 1, [], 0),
  (33, [(.aload_n 0, 1), (.iload_n 1, 1), (.iload_n 2, 1)], .invokevirtual 396, 3, [9], 175),
  (39, [], .ifCond .eq 12, 3, [12, 10], 0),
  (42, [(.aload_n 0, 1), (.iconst 5, 1), (.putfield 63, 3)], .nop, 0, [11], 0),
  (47, [(.sipush (-1000), 3)], .ireturn, 1, [], 0),
  (51, [(.aload_n 0, 1)], .invokevirtual 362, 3, [13], 150),
  (55, [(.aload_n 0, 1), (.iload_n 1, 1)], .invokevirtual 337, 3, [14], 136),
  (60, [(.istore_n 3, 1), (.bipush 12, 2), (.bipush 8, 2), (.iload_n 1, 1), (.imul, 1), (.iadd, 1), (.iconst 3, 1), (.iadd, 1), (.istore 4, 2), (.aload_n 0, 1), (.getfield 26, 3), (.iload 4, 2), (.iaload, 1), (.istore 5, 2), (.aload_n 0, 1), (.getfield 26, 3), (.iload 4, 2), (.aload_n 0, 1), (.getfield 26, 3), (.iload_n 2, 1), (.iconst 3, 1)], .invokestatic 287, 3, [15], 125),
  (96, [(.iconst 1, 1), (.iadd, 1), (.iastore, 1)], .nop, 0, [16], 0),
  (99, [(.aload_n 0, 1)], .invokevirtual 359, 3, [17], 134),
  (103, [(.aload_n 0, 1), (.getfield 26, 3), (.iload 4, 2), (.iload 5, 2), (.iastore, 1)], .nop, 0, [18], 0),
  (112, [(.aload_n 0, 1), (.iload_n 1, 1)], .invokevirtual 337, 3, [19], 136),
  (117, [(.iload_n 3, 1), (.isub, 1)], .ireturn, 1, [], 0)]
/-- m_layHonest -/
def nb_b177 : List nb_B := [
  (0, [(.aload_n 0, 1)], .invokevirtual 187, 3, [1], 121),
  (4, [(.aload_n 0, 1), (.aload_n 0, 1), (.getfield 20, 3), (.iconst 2, 1), (.iaload, 1), (.putfield 319, 3)], .nop, 0, [2], 0),
  (14, [(.iconst 0, 1), (.istore_n 2, 1)], .nop, 0, [3], 0),
  (16, [(.iload_n 2, 1), (.aload_n 0, 1), (.getfield 20, 3), (.iconst 5, 1), (.iaload, 1)], .if_icmp .ge 27, 3, [10, 4], 0),
  (26, [(.aload_n 0, 1), (.iload_n 2, 1), (.iload_n 1, 1), (.iload_n 2, 1)], .invokestatic 334, 3, [5], 84),
  (33, [], .ifCond .eq 7, 3, [7, 6], 0),
  (36, [(.iconst 1, 1)], .goto 4, 3, [8], 0),
  (40, [(.iconst 0, 1)], .nop, 0, [8], 0),
  (41, [], .invokevirtual 384, 3, [9], 169),
  (44, [(.iinc 2 1, 3)], .goto (-31), 3, [3], 0),
  (50, [(.aload_n 0, 1), (.getfield 26, 3), (.iconst 0, 1), (.aload_n 0, 1), (.getfield 44, 3), (.iconst 0, 1), (.bipush 108, 2)], .invokestatic 174, 3, [11], 86),
  (65, [(.aload_n 0, 1), (.aload_n 0, 1), (.getfield 26, 3)], .invokevirtual 190, 3, [12], 124),
  (73, [(.aload_n 0, 1)], .invokevirtual 359, 3, [13], 134),
  (77, [(.aload_n 0, 1), (.getfield 44, 3), (.iconst 0, 1), (.aload_n 0, 1), (.getfield 26, 3), (.iconst 0, 1), (.bipush 108, 2)], .invokestatic 174, 3, [14], 86),
  (92, [], .return_, 1, [], 0)]
/-- m_allPeople -/
def nb_b178 : List nb_B := [
  (0, [(.iconst 1, 1), (.aload_n 0, 1), (.getfield 20, 3), (.iconst 5, 1), (.iaload, 1), (.ishl, 1), (.iconst 1, 1), (.isub, 1)], .ireturn, 1, [], 0)]
/-- m_setWhy -/
def nb_b179 : List nb_B := [
  (0, [(.aload_n 0, 1), (.getfield 178, 3)], .ifCond .ne 7, 3, [2, 1], 0),
  (7, [(.iconst 1, 1)], .goto 20, 3, [7], 0),
  (11, [(.iload_n 1, 1), (.iconst 0, 1), (.aload_n 0, 1)], .invokevirtual 399, 3, [3], 178),
  (17, [], .invokestatic 147, 3, [4], 83),
  (20, [], .ifCond .eq 7, 3, [6, 5], 0),
  (23, [(.iconst 0, 1)], .goto 4, 3, [7], 0),
  (27, [(.iconst 2, 1)], .nop, 0, [7], 0),
  (28, [], .ireturn, 1, [], 0)]
/-- m_honesty -/
def nb_b180 : List nb_B := [
  (0, [(.aload_n 0, 1)], .invokevirtual 165, 3, [1], 79),
  (4, [(.aload_n 0, 1), (.iload_n 1, 1)], .invokevirtual 402, 3, [2], 179),
  (9, [(.istore_n 3, 1), (.iload_n 3, 1)], .ifCond .eq 9, 3, [5, 3], 0),
  (14, [(.aload_n 0, 1), (.iload_n 3, 1)], .invokevirtual 168, 3, [4], 80),
  (19, [], .ireturn, 1, [], 0),
  (20, [(.aload_n 0, 1), (.iload_n 1, 1)], .invokevirtual 405, 3, [6], 177),
  (25, [(.iconst 0, 1), (.istore 4, 2), (.iconst 0, 1), (.istore 5, 2)], .nop, 0, [7], 0),
  (31, [(.iload 5, 2), (.aload_n 0, 1), (.getfield 20, 3), (.iconst 5, 1), (.iaload, 1)], .if_icmp .ge 34, 3, [14, 8], 0),
  (42, [(.iload 4, 2), (.iload_n 1, 1), (.iload 5, 2)], .invokestatic 334, 3, [9], 84),
  (50, [(.iload_n 2, 1)], .if_icmp .eq 12, 3, [12, 10], 0),
  (54, [(.aload_n 0, 1), (.iload 5, 2)], .invokevirtual 337, 3, [11], 136),
  (60, [], .goto 4, 3, [13], 0),
  (63, [(.iconst 0, 1)], .nop, 0, [13], 0),
  (64, [(.iadd, 1), (.istore 4, 2), (.iinc 5 1, 3)], .goto (-39), 3, [7], 0),
  (73, [(.iload 4, 2)], .ireturn, 1, [], 0)]
/-- m_isAtRest -/
def nb_b181 : List nb_B := [
  (0, [(.aload_n 0, 1), (.iload_n 1, 1)], .invokevirtual 405, 3, [1], 177),
  (5, [(.iconst 0, 1), (.istore_n 2, 1)], .nop, 0, [2], 0),
  (7, [(.iload_n 2, 1), (.aload_n 0, 1), (.getfield 20, 3), (.iconst 5, 1), (.iaload, 1)], .if_icmp .ge 20, 3, [6, 3], 0),
  (17, [(.aload_n 0, 1), (.getfield 47, 3), (.iload_n 2, 1), (.aload_n 0, 1), (.iload_n 2, 1)], .invokevirtual 337, 3, [4], 136),
  (27, [(.iastore, 1)], .nop, 0, [5], 0),
  (28, [(.iinc 2 1, 3)], .goto (-24), 3, [2], 0),
  (34, [(.iconst 0, 1), (.istore_n 2, 1)], .nop, 0, [7], 0),
  (36, [(.iload_n 2, 1), (.aload_n 0, 1), (.getfield 20, 3), (.iconst 5, 1), (.iaload, 1)], .if_icmp .ge 34, 3, [13, 8], 0),
  (46, [(.aload_n 0, 1), (.iload_n 1, 1), (.iconst 1, 1), (.iload_n 2, 1), (.ishl, 1), (.ixor, 1)], .invokevirtual 405, 3, [9], 177),
  (55, [(.aload_n 0, 1), (.iload_n 2, 1)], .invokevirtual 337, 3, [10], 136),
  (60, [(.aload_n 0, 1), (.getfield 47, 3), (.iload_n 2, 1), (.iaload, 1)], .if_icmp .ge 5, 3, [12, 11], 0),
  (69, [(.iconst 0, 1)], .ireturn, 1, [], 0),
  (71, [(.iinc 2 1, 3)], .goto (-38), 3, [7], 0),
  (77, [(.iconst 1, 1)], .ireturn, 1, [], 0)]
/-- m_rest -/
def nb_b182 : List nb_B := [
  (0, [(.aload_n 0, 1)], .invokevirtual 165, 3, [1], 79),
  (4, [(.aload_n 0, 1), (.iload_n 1, 1)], .invokevirtual 402, 3, [2], 179),
  (9, [(.istore_n 2, 1), (.iload_n 2, 1)], .ifCond .eq 11, 3, [5, 3], 0),
  (14, [(.aload_n 0, 1), (.iload_n 2, 1)], .invokevirtual 168, 3, [4], 80),
  (19, [], .goto 16, 3, [9], 0),
  (22, [(.aload_n 0, 1), (.iload_n 1, 1)], .invokevirtual 408, 3, [6], 181),
  (27, [], .ifCond .eq 7, 3, [8, 7], 0),
  (30, [(.iconst 1, 1)], .goto 4, 3, [9], 0),
  (34, [(.iconst 0, 1)], .nop, 0, [9], 0),
  (35, [], .ireturn, 1, [], 0)]
/-- m_rests -/
def nb_b183 : List nb_B := [
  (0, [(.aload_n 0, 1)], .invokevirtual 165, 3, [1], 79),
  (4, [(.aload_n 0, 1), (.getfield 178, 3)], .ifCond .ne 9, 3, [4, 2], 0),
  (11, [(.aload_n 0, 1), (.iconst 1, 1)], .invokevirtual 168, 3, [3], 80),
  (16, [], .ireturn, 1, [], 0),
  (17, [(.aload_n 0, 1), (.getfield 20, 3), (.iconst 5, 1), (.iaload, 1), (.bipush 7, 2)], .if_icmp .le 9, 3, [7, 5], 0),
  (28, [(.aload_n 0, 1), (.iconst 3, 1)], .invokevirtual 168, 3, [6], 80),
  (33, [], .ireturn, 1, [], 0),
  (34, [(.iconst 0, 1), (.istore_n 1, 1), (.iconst 0, 1), (.istore_n 2, 1)], .nop, 0, [8], 0),
  (38, [(.iload_n 2, 1), (.aload_n 0, 1)], .invokevirtual 399, 3, [9], 178),
  (43, [], .if_icmp .gt 25, 3, [15, 10], 0),
  (46, [(.iload_n 1, 1), (.aload_n 0, 1), (.iload_n 2, 1)], .invokevirtual 408, 3, [11], 181),
  (52, [], .ifCond .eq 7, 3, [13, 12], 0),
  (55, [(.iconst 1, 1)], .goto 4, 3, [14], 0),
  (59, [(.iconst 0, 1)], .nop, 0, [14], 0),
  (60, [(.iadd, 1), (.istore_n 1, 1), (.iinc 2 1, 3)], .goto (-27), 3, [8], 0),
  (68, [(.iload_n 1, 1)], .ireturn, 1, [], 0)]
/-- m_rowFrom0 -/
def nb_b184 : List nb_B := [
  (0, [(.iload 6, 2), (.aload_n 0, 1), (.getfield 411, 3)], .if_icmp .lt 4, 3, [2, 1], 0),
  (9, [], .return_, 1, [], 0),
  (10, [(.iload_n 1, 1), (.iload_n 2, 1)], .if_icmp .ne 24, 3, [6, 3], 0),
  (15, [(.aload_n 0, 1), (.iload 6, 2), (.putfield 411, 3)], .nop, 0, [4], 0),
  (21, [(.aload_n 0, 1), (.getfield 50, 3), (.iconst 0, 1), (.aload_n 0, 1), (.getfield 53, 3), (.iconst 0, 1), (.iload_n 2, 1)], .invokestatic 174, 3, [5], 86),
  (35, [], .return_, 1, [], 0),
  (36, [(.iconst 0, 1), (.istore 7, 2)], .nop, 0, [7], 0),
  (39, [(.iload 7, 2), (.aload_n 0, 1), (.getfield 20, 3), (.iconst 5, 1), (.iaload, 1)], .if_icmp .ge 77, 3, [17, 8], 0),
  (50, [(.iload_n 3, 1), (.iload 7, 2)], .invokestatic 334, 3, [9], 84),
  (56, [], .ifCond .ne 62, 3, [16, 10], 0),
  (59, [(.aload_n 0, 1), (.getfield 26, 3), (.iload 7, 2)], .invokestatic 301, 3, [11], 126),
  (68, [], .ifCond .ne 6, 3, [13, 12], 0),
  (71, [], .goto 47, 3, [16], 0),
  (74, [(.iload 5, 2), (.aload_n 0, 1), (.iload 4, 2), (.iload 7, 2)], .invokevirtual 291, 3, [14], 129),
  (84, [(.iadd, 1), (.istore 8, 2), (.aload_n 0, 1), (.getfield 50, 3), (.iload_n 1, 1), (.iload 7, 2), (.iastore, 1)], .nop, 0, [15], 0),
  (95, [(.aload_n 0, 1), (.iload_n 1, 1), (.iconst 1, 1), (.iadd, 1), (.iload_n 2, 1), (.iload_n 3, 1), (.iconst 1, 1), (.iload 7, 2), (.ishl, 1), (.ior, 1), (.iload 7, 2), (.iload 8, 2), (.iload 6, 2), (.iload 8, 2), (.iadd, 1)], .invokevirtual 414, 3, [16], 185),
  (118, [(.iinc 7 1, 3)], .goto (-82), 3, [7], 0),
  (124, [], .return_, 1, [], 0)]
/-- m_rowFrom1 -/
def nb_b185 : List nb_B := [
  (0, [(.iload 6, 2), (.aload_n 0, 1), (.getfield 411, 3)], .if_icmp .lt 4, 3, [2, 1], 0),
  (9, [], .return_, 1, [], 0),
  (10, [(.iload_n 1, 1), (.iload_n 2, 1)], .if_icmp .ne 24, 3, [6, 3], 0),
  (15, [(.aload_n 0, 1), (.iload 6, 2), (.putfield 411, 3)], .nop, 0, [4], 0),
  (21, [(.aload_n 0, 1), (.getfield 50, 3), (.iconst 0, 1), (.aload_n 0, 1), (.getfield 53, 3), (.iconst 0, 1), (.iload_n 2, 1)], .invokestatic 174, 3, [5], 86),
  (35, [], .return_, 1, [], 0),
  (36, [(.iconst 0, 1), (.istore 7, 2)], .nop, 0, [7], 0),
  (39, [(.iload 7, 2), (.aload_n 0, 1), (.getfield 20, 3), (.iconst 5, 1), (.iaload, 1)], .if_icmp .ge 77, 3, [17, 8], 0),
  (50, [(.iload_n 3, 1), (.iload 7, 2)], .invokestatic 334, 3, [9], 84),
  (56, [], .ifCond .ne 62, 3, [16, 10], 0),
  (59, [(.aload_n 0, 1), (.getfield 26, 3), (.iload 7, 2)], .invokestatic 301, 3, [11], 126),
  (68, [], .ifCond .ne 6, 3, [13, 12], 0),
  (71, [], .goto 47, 3, [16], 0),
  (74, [(.iload 5, 2), (.aload_n 0, 1), (.iload 4, 2), (.iload 7, 2)], .invokevirtual 291, 3, [14], 129),
  (84, [(.iadd, 1), (.istore 8, 2), (.aload_n 0, 1), (.getfield 50, 3), (.iload_n 1, 1), (.iload 7, 2), (.iastore, 1)], .nop, 0, [15], 0),
  (95, [(.aload_n 0, 1), (.iload_n 1, 1), (.iconst 1, 1), (.iadd, 1), (.iload_n 2, 1), (.iload_n 3, 1), (.iconst 1, 1), (.iload 7, 2), (.ishl, 1), (.ior, 1), (.iload 7, 2), (.iload 8, 2), (.iload 6, 2), (.iload 8, 2), (.iadd, 1)], .invokevirtual 414, 3, [16], 186),
  (118, [(.iinc 7 1, 3)], .goto (-82), 3, [7], 0),
  (124, [], .return_, 1, [], 0)]
/-- m_rowFrom2 -/
def nb_b186 : List nb_B := [
  (0, [(.iload 6, 2), (.aload_n 0, 1), (.getfield 411, 3)], .if_icmp .lt 4, 3, [2, 1], 0),
  (9, [], .return_, 1, [], 0),
  (10, [(.iload_n 1, 1), (.iload_n 2, 1)], .if_icmp .ne 24, 3, [6, 3], 0),
  (15, [(.aload_n 0, 1), (.iload 6, 2), (.putfield 411, 3)], .nop, 0, [4], 0),
  (21, [(.aload_n 0, 1), (.getfield 50, 3), (.iconst 0, 1), (.aload_n 0, 1), (.getfield 53, 3), (.iconst 0, 1), (.iload_n 2, 1)], .invokestatic 174, 3, [5], 86),
  (35, [], .return_, 1, [], 0),
  (36, [(.iconst 0, 1), (.istore 7, 2)], .nop, 0, [7], 0),
  (39, [(.iload 7, 2), (.aload_n 0, 1), (.getfield 20, 3), (.iconst 5, 1), (.iaload, 1)], .if_icmp .ge 77, 3, [17, 8], 0),
  (50, [(.iload_n 3, 1), (.iload 7, 2)], .invokestatic 334, 3, [9], 84),
  (56, [], .ifCond .ne 62, 3, [16, 10], 0),
  (59, [(.aload_n 0, 1), (.getfield 26, 3), (.iload 7, 2)], .invokestatic 301, 3, [11], 126),
  (68, [], .ifCond .ne 6, 3, [13, 12], 0),
  (71, [], .goto 47, 3, [16], 0),
  (74, [(.iload 5, 2), (.aload_n 0, 1), (.iload 4, 2), (.iload 7, 2)], .invokevirtual 291, 3, [14], 129),
  (84, [(.iadd, 1), (.istore 8, 2), (.aload_n 0, 1), (.getfield 50, 3), (.iload_n 1, 1), (.iload 7, 2), (.iastore, 1)], .nop, 0, [15], 0),
  (95, [(.aload_n 0, 1), (.iload_n 1, 1), (.iconst 1, 1), (.iadd, 1), (.iload_n 2, 1), (.iload_n 3, 1), (.iconst 1, 1), (.iload 7, 2), (.ishl, 1), (.ior, 1), (.iload 7, 2), (.iload 8, 2), (.iload 6, 2), (.iload 8, 2), (.iadd, 1)], .invokevirtual 414, 3, [16], 187),
  (118, [(.iinc 7 1, 3)], .goto (-82), 3, [7], 0),
  (124, [], .return_, 1, [], 0)]
/-- m_rowFrom3 -/
def nb_b187 : List nb_B := [
  (0, [(.iload 6, 2), (.aload_n 0, 1), (.getfield 411, 3)], .if_icmp .lt 4, 3, [2, 1], 0),
  (9, [], .return_, 1, [], 0),
  (10, [(.iload_n 1, 1), (.iload_n 2, 1)], .if_icmp .ne 24, 3, [6, 3], 0),
  (15, [(.aload_n 0, 1), (.iload 6, 2), (.putfield 411, 3)], .nop, 0, [4], 0),
  (21, [(.aload_n 0, 1), (.getfield 50, 3), (.iconst 0, 1), (.aload_n 0, 1), (.getfield 53, 3), (.iconst 0, 1), (.iload_n 2, 1)], .invokestatic 174, 3, [5], 86),
  (35, [], .return_, 1, [], 0),
  (36, [(.iconst 0, 1), (.istore 7, 2)], .nop, 0, [7], 0),
  (39, [(.iload 7, 2), (.aload_n 0, 1), (.getfield 20, 3), (.iconst 5, 1), (.iaload, 1)], .if_icmp .ge 77, 3, [17, 8], 0),
  (50, [(.iload_n 3, 1), (.iload 7, 2)], .invokestatic 334, 3, [9], 84),
  (56, [], .ifCond .ne 62, 3, [16, 10], 0),
  (59, [(.aload_n 0, 1), (.getfield 26, 3), (.iload 7, 2)], .invokestatic 301, 3, [11], 126),
  (68, [], .ifCond .ne 6, 3, [13, 12], 0),
  (71, [], .goto 47, 3, [16], 0),
  (74, [(.iload 5, 2), (.aload_n 0, 1), (.iload 4, 2), (.iload 7, 2)], .invokevirtual 291, 3, [14], 129),
  (84, [(.iadd, 1), (.istore 8, 2), (.aload_n 0, 1), (.getfield 50, 3), (.iload_n 1, 1), (.iload 7, 2), (.iastore, 1)], .nop, 0, [15], 0),
  (95, [(.aload_n 0, 1), (.iload_n 1, 1), (.iconst 1, 1), (.iadd, 1), (.iload_n 2, 1), (.iload_n 3, 1), (.iconst 1, 1), (.iload 7, 2), (.ishl, 1), (.ior, 1), (.iload 7, 2), (.iload 8, 2), (.iload 6, 2), (.iload 8, 2), (.iadd, 1)], .invokevirtual 414, 3, [16], 188),
  (118, [(.iinc 7 1, 3)], .goto (-82), 3, [7], 0),
  (124, [], .return_, 1, [], 0)]
/-- m_rowFrom4 -/
def nb_b188 : List nb_B := [
  (0, [(.iload 6, 2), (.aload_n 0, 1), (.getfield 411, 3)], .if_icmp .lt 4, 3, [2, 1], 0),
  (9, [], .return_, 1, [], 0),
  (10, [(.iload_n 1, 1), (.iload_n 2, 1)], .if_icmp .ne 24, 3, [6, 3], 0),
  (15, [(.aload_n 0, 1), (.iload 6, 2), (.putfield 411, 3)], .nop, 0, [4], 0),
  (21, [(.aload_n 0, 1), (.getfield 50, 3), (.iconst 0, 1), (.aload_n 0, 1), (.getfield 53, 3), (.iconst 0, 1), (.iload_n 2, 1)], .invokestatic 174, 3, [5], 86),
  (35, [], .return_, 1, [], 0),
  (36, [(.iconst 0, 1), (.istore 7, 2)], .nop, 0, [7], 0),
  (39, [(.iload 7, 2), (.aload_n 0, 1), (.getfield 20, 3), (.iconst 5, 1), (.iaload, 1)], .if_icmp .ge 77, 3, [17, 8], 0),
  (50, [(.iload_n 3, 1), (.iload 7, 2)], .invokestatic 334, 3, [9], 84),
  (56, [], .ifCond .ne 62, 3, [16, 10], 0),
  (59, [(.aload_n 0, 1), (.getfield 26, 3), (.iload 7, 2)], .invokestatic 301, 3, [11], 126),
  (68, [], .ifCond .ne 6, 3, [13, 12], 0),
  (71, [], .goto 47, 3, [16], 0),
  (74, [(.iload 5, 2), (.aload_n 0, 1), (.iload 4, 2), (.iload 7, 2)], .invokevirtual 291, 3, [14], 129),
  (84, [(.iadd, 1), (.istore 8, 2), (.aload_n 0, 1), (.getfield 50, 3), (.iload_n 1, 1), (.iload 7, 2), (.iastore, 1)], .nop, 0, [15], 0),
  (95, [(.aload_n 0, 1), (.iload_n 1, 1), (.iconst 1, 1), (.iadd, 1), (.iload_n 2, 1), (.iload_n 3, 1), (.iconst 1, 1), (.iload 7, 2), (.ishl, 1), (.ior, 1), (.iload 7, 2), (.iload 8, 2), (.iload 6, 2), (.iload 8, 2), (.iadd, 1)], .invokevirtual 414, 3, [16], 189),
  (118, [(.iinc 7 1, 3)], .goto (-82), 3, [7], 0),
  (124, [], .return_, 1, [], 0)]
/-- m_rowFrom5 -/
def nb_b189 : List nb_B := [
  (0, [(.iload 6, 2), (.aload_n 0, 1), (.getfield 411, 3)], .if_icmp .lt 4, 3, [2, 1], 0),
  (9, [], .return_, 1, [], 0),
  (10, [(.iload_n 1, 1), (.iload_n 2, 1)], .if_icmp .ne 24, 3, [6, 3], 0),
  (15, [(.aload_n 0, 1), (.iload 6, 2), (.putfield 411, 3)], .nop, 0, [4], 0),
  (21, [(.aload_n 0, 1), (.getfield 50, 3), (.iconst 0, 1), (.aload_n 0, 1), (.getfield 53, 3), (.iconst 0, 1), (.iload_n 2, 1)], .invokestatic 174, 3, [5], 86),
  (35, [], .return_, 1, [], 0),
  (36, [(.iconst 0, 1), (.istore 7, 2)], .nop, 0, [7], 0),
  (39, [(.iload 7, 2), (.aload_n 0, 1), (.getfield 20, 3), (.iconst 5, 1), (.iaload, 1)], .if_icmp .ge 77, 3, [17, 8], 0),
  (50, [(.iload_n 3, 1), (.iload 7, 2)], .invokestatic 334, 3, [9], 84),
  (56, [], .ifCond .ne 62, 3, [16, 10], 0),
  (59, [(.aload_n 0, 1), (.getfield 26, 3), (.iload 7, 2)], .invokestatic 301, 3, [11], 126),
  (68, [], .ifCond .ne 6, 3, [13, 12], 0),
  (71, [], .goto 47, 3, [16], 0),
  (74, [(.iload 5, 2), (.aload_n 0, 1), (.iload 4, 2), (.iload 7, 2)], .invokevirtual 291, 3, [14], 129),
  (84, [(.iadd, 1), (.istore 8, 2), (.aload_n 0, 1), (.getfield 50, 3), (.iload_n 1, 1), (.iload 7, 2), (.iastore, 1)], .nop, 0, [15], 0),
  (95, [(.aload_n 0, 1), (.iload_n 1, 1), (.iconst 1, 1), (.iadd, 1), (.iload_n 2, 1), (.iload_n 3, 1), (.iconst 1, 1), (.iload 7, 2), (.ishl, 1), (.ior, 1), (.iload 7, 2), (.iload 8, 2), (.iload 6, 2), (.iload 8, 2), (.iadd, 1)], .invokevirtual 414, 3, [16], 190),
  (118, [(.iinc 7 1, 3)], .goto (-82), 3, [7], 0),
  (124, [], .return_, 1, [], 0)]
/-- m_rowFrom6 -/
def nb_b190 : List nb_B := [
  (0, [(.iload 6, 2), (.aload_n 0, 1), (.getfield 411, 3)], .if_icmp .lt 4, 3, [2, 1], 0),
  (9, [], .return_, 1, [], 0),
  (10, [(.iload_n 1, 1), (.iload_n 2, 1)], .if_icmp .ne 24, 3, [6, 3], 0),
  (15, [(.aload_n 0, 1), (.iload 6, 2), (.putfield 411, 3)], .nop, 0, [4], 0),
  (21, [(.aload_n 0, 1), (.getfield 50, 3), (.iconst 0, 1), (.aload_n 0, 1), (.getfield 53, 3), (.iconst 0, 1), (.iload_n 2, 1)], .invokestatic 174, 3, [5], 86),
  (35, [], .return_, 1, [], 0),
  (36, [(.iconst 0, 1), (.istore 7, 2)], .nop, 0, [7], 0),
  (39, [(.iload 7, 2), (.aload_n 0, 1), (.getfield 20, 3), (.iconst 5, 1), (.iaload, 1)], .if_icmp .ge 77, 3, [17, 8], 0),
  (50, [(.iload_n 3, 1), (.iload 7, 2)], .invokestatic 334, 3, [9], 84),
  (56, [], .ifCond .ne 62, 3, [16, 10], 0),
  (59, [(.aload_n 0, 1), (.getfield 26, 3), (.iload 7, 2)], .invokestatic 301, 3, [11], 126),
  (68, [], .ifCond .ne 6, 3, [13, 12], 0),
  (71, [], .goto 47, 3, [16], 0),
  (74, [(.iload 5, 2), (.aload_n 0, 1), (.iload 4, 2), (.iload 7, 2)], .invokevirtual 291, 3, [14], 129),
  (84, [(.iadd, 1), (.istore 8, 2), (.aload_n 0, 1), (.getfield 50, 3), (.iload_n 1, 1), (.iload 7, 2), (.iastore, 1)], .nop, 0, [15], 0),
  (95, [(.aload_n 0, 1), (.iload_n 1, 1), (.iconst 1, 1), (.iadd, 1), (.iload_n 2, 1), (.iload_n 3, 1), (.iconst 1, 1), (.iload 7, 2), (.ishl, 1), (.ior, 1), (.iload 7, 2), (.iload 8, 2), (.iload 6, 2), (.iload 8, 2), (.iadd, 1)], .invokevirtual 414, 3, [16], 191),
  (118, [(.iinc 7 1, 3)], .goto (-82), 3, [7], 0),
  (124, [], .return_, 1, [], 0)]
/-- m_rowFrom7 -/
def nb_b191 : List nb_B := [
  (0, [(.iload 6, 2), (.aload_n 0, 1), (.getfield 411, 3)], .if_icmp .lt 4, 3, [2, 1], 0),
  (9, [], .return_, 1, [], 0),
  (10, [(.iload_n 1, 1), (.iload_n 2, 1)], .if_icmp .ne 24, 3, [6, 3], 0),
  (15, [(.aload_n 0, 1), (.iload 6, 2), (.putfield 411, 3)], .nop, 0, [4], 0),
  (21, [(.aload_n 0, 1), (.getfield 50, 3), (.iconst 0, 1), (.aload_n 0, 1), (.getfield 53, 3), (.iconst 0, 1), (.iload_n 2, 1)], .invokestatic 174, 3, [5], 86),
  (35, [], .return_, 1, [], 0),
  (36, [(.iconst 0, 1), (.istore 7, 2)], .nop, 0, [7], 0),
  (39, [(.iload 7, 2), (.aload_n 0, 1), (.getfield 20, 3), (.iconst 5, 1), (.iaload, 1)], .if_icmp .ge 77, 3, [17, 8], 0),
  (50, [(.iload_n 3, 1), (.iload 7, 2)], .invokestatic 334, 3, [9], 84),
  (56, [], .ifCond .ne 62, 3, [16, 10], 0),
  (59, [(.aload_n 0, 1), (.getfield 26, 3), (.iload 7, 2)], .invokestatic 301, 3, [11], 126),
  (68, [], .ifCond .ne 6, 3, [13, 12], 0),
  (71, [], .goto 47, 3, [16], 0),
  (74, [(.iload 5, 2), (.aload_n 0, 1), (.iload 4, 2), (.iload 7, 2)], .invokevirtual 291, 3, [14], 129),
  (84, [(.iadd, 1), (.istore 8, 2), (.aload_n 0, 1), (.getfield 50, 3), (.iload_n 1, 1), (.iload 7, 2), (.iastore, 1)], .nop, 0, [15], 0),
  (95, [(.aload_n 0, 1), (.iload_n 1, 1), (.iconst 1, 1), (.iadd, 1), (.iload_n 2, 1), (.iload_n 3, 1), (.iconst 1, 1), (.iload 7, 2), (.ishl, 1), (.ior, 1), (.iload 7, 2), (.iload 8, 2), (.iload 6, 2), (.iload 8, 2), (.iadd, 1)], .invokevirtual 414, 3, [16], 999),
  (118, [(.iinc 7 1, 3)], .goto (-82), 3, [7], 0),
  (124, [], .return_, 1, [], 0)]
/-- m_rowWhy -/
def nb_b192 : List nb_B := [
  (0, [(.aload_n 0, 1), (.iload_n 1, 1)], .invokevirtual 349, 3, [1], 117),
  (5, [], .ifCond .ne 5, 3, [3, 2], 0),
  (8, [(.iconst 1, 1)], .ireturn, 1, [], 0),
  (10, [(.aload_n 0, 1), (.aload_n 0, 1), (.getfield 26, 3)], .invokevirtual 355, 3, [4], 145),
  (18, [(.istore_n 2, 1), (.iload_n 2, 1), (.bipush 7, 2)], .if_icmp .le 5, 3, [6, 5], 0),
  (25, [(.iconst 3, 1)], .ireturn, 1, [], 0),
  (27, [(.aload_n 0, 1), (.ldc_w 297, 3), (.putfield 411, 3)], .nop, 0, [7], 0),
  (34, [(.aload_n 0, 1), (.iconst 0, 1), (.iload_n 2, 1), (.iconst 0, 1), (.aload_n 0, 1), (.getfield 26, 3), (.bipush 92, 2), (.iconst 4, 1), (.iload_n 1, 1), (.imul, 1), (.iadd, 1), (.iconst 3, 1), (.iadd, 1), (.iaload, 1), (.iconst 1, 1), (.isub, 1), (.iconst 0, 1), (.iconst 0, 1)], .invokevirtual 414, 3, [8], 184),
  (58, [(.iconst 0, 1)], .ireturn, 1, [], 0)]
/-- m_row -/
def nb_b193 : List nb_B := [
  (0, [(.aload_n 0, 1)], .invokevirtual 165, 3, [1], 79),
  (4, [(.aload_n 0, 1), (.iload_n 1, 1)], .invokevirtual 349, 3, [2], 117),
  (9, [], .ifCond .eq 21, 3, [6, 3], 0),
  (12, [(.iload_n 2, 1), (.iconst 0, 1), (.aload_n 0, 1), (.aload_n 0, 1), (.getfield 26, 3)], .invokevirtual 355, 3, [4], 145),
  (22, [(.iconst 1, 1), (.isub, 1)], .invokestatic 147, 3, [5], 83),
  (27, [], .ifCond .ne 9, 3, [8, 6], 0),
  (30, [(.aload_n 0, 1), (.iconst 1, 1)], .invokevirtual 168, 3, [7], 80),
  (35, [], .ireturn, 1, [], 0),
  (36, [(.aload_n 0, 1), (.iload_n 1, 1)], .invokevirtual 418, 3, [9], 192),
  (41, [(.istore_n 3, 1), (.iload_n 3, 1)], .ifCond .eq 11, 3, [12, 10], 0),
  (46, [(.aload_n 0, 1), (.iload_n 3, 1)], .invokevirtual 168, 3, [11], 80),
  (51, [], .goto 9, 3, [13], 0),
  (54, [(.aload_n 0, 1), (.getfield 53, 3), (.iload_n 2, 1), (.iaload, 1)], .nop, 0, [13], 0),
  (60, [], .ireturn, 1, [], 0)]
/-- m_rowSum -/
def nb_b194 : List nb_B := [
  (0, [(.aload_n 0, 1)], .invokevirtual 165, 3, [1], 79),
  (4, [(.aload_n 0, 1), (.iload_n 1, 1)], .invokevirtual 418, 3, [2], 192),
  (9, [(.istore_n 2, 1), (.iload_n 2, 1)], .ifCond .eq 11, 3, [5, 3], 0),
  (14, [(.aload_n 0, 1), (.iload_n 2, 1)], .invokevirtual 168, 3, [4], 80),
  (19, [], .goto 7, 3, [6], 0),
  (22, [(.aload_n 0, 1), (.getfield 411, 3)], .nop, 0, [6], 0),
  (26, [], .ireturn, 1, [], 0)]
/-- m_layTellings -/
def nb_b195 : List nb_B := [
  (0, [(.iconst 0, 1), (.istore_n 2, 1)], .nop, 0, [1], 0),
  (2, [(.iload_n 2, 1), (.bipush 100, 2)], .if_icmp .ge 16, 3, [4, 2], 0),
  (8, [(.aload_n 0, 1), (.getfield 56, 3), (.iload_n 2, 1), (.iconst 0, 1), (.bastore, 1)], .nop, 0, [3], 0),
  (15, [(.iinc 2 1, 3)], .goto (-16), 3, [1], 0),
  (21, [(.iconst 0, 1), (.istore_n 2, 1)], .nop, 0, [5], 0),
  (23, [(.iload_n 2, 1), (.aload_n 0, 1), (.getfield 20, 3), (.bipush 7, 2), (.iaload, 1)], .if_icmp .ge 66, 3, [10, 6], 0),
  (34, [(.iload_n 1, 1), (.aload_n 0, 1), (.getfield 20, 3), (.sipush 161, 3), (.iconst 3, 1), (.iload_n 2, 1), (.imul, 1), (.iadd, 1), (.iaload, 1)], .invokestatic 334, 3, [7], 84),
  (50, [], .ifCond .ne 41, 3, [9, 8], 0),
  (53, [(.aload_n 0, 1), (.getfield 56, 3), (.bipush 10, 2), (.aload_n 0, 1), (.getfield 20, 3), (.sipush 161, 3), (.iconst 3, 1), (.iload_n 2, 1), (.imul, 1), (.iadd, 1), (.iconst 1, 1), (.iadd, 1), (.iaload, 1), (.imul, 1), (.aload_n 0, 1), (.getfield 20, 3), (.sipush 161, 3), (.iconst 3, 1), (.iload_n 2, 1), (.imul, 1), (.iadd, 1), (.iconst 2, 1), (.iadd, 1), (.iaload, 1), (.iadd, 1), (.iconst 1, 1), (.bastore, 1)], .nop, 0, [9], 0),
  (91, [(.iinc 2 1, 3)], .goto (-71), 3, [5], 0),
  (97, [(.iconst 0, 1), (.istore_n 2, 1)], .nop, 0, [11], 0),
  (99, [(.iload_n 2, 1), (.bipush 10, 2)], .if_icmp .ge 100, 3, [25, 12], 0),
  (105, [(.iconst 0, 1), (.istore_n 3, 1)], .nop, 0, [13], 0),
  (107, [(.iload_n 3, 1), (.bipush 10, 2)], .if_icmp .ge 86, 3, [24, 14], 0),
  (113, [(.iconst 0, 1), (.istore 4, 2)], .nop, 0, [15], 0),
  (116, [(.iload 4, 2), (.bipush 10, 2)], .if_icmp .ge 70, 3, [23, 16], 0),
  (123, [(.aload_n 0, 1), (.getfield 56, 3), (.bipush 10, 2), (.iload_n 3, 1), (.imul, 1), (.iload 4, 2), (.iadd, 1), (.aload_n 0, 1), (.getfield 56, 3), (.bipush 10, 2), (.iload_n 3, 1), (.imul, 1), (.iload 4, 2), (.iadd, 1), (.baload, 1)], .ifCond .ne 32, 3, [19, 17], 0),
  (149, [(.aload_n 0, 1), (.getfield 56, 3), (.bipush 10, 2), (.iload_n 3, 1), (.imul, 1), (.iload_n 2, 1), (.iadd, 1), (.baload, 1)], .ifCond .eq 22, 3, [20, 18], 0),
  (163, [(.aload_n 0, 1), (.getfield 56, 3), (.bipush 10, 2), (.iload_n 2, 1), (.imul, 1), (.iload 4, 2), (.iadd, 1), (.baload, 1)], .ifCond .eq 7, 3, [20, 19], 0),
  (178, [(.iconst 1, 1)], .goto 4, 3, [21], 0),
  (182, [(.iconst 0, 1)], .nop, 0, [21], 0),
  (183, [(.bastore, 1)], .nop, 0, [22], 0),
  (184, [(.iinc 4 1, 3)], .goto (-71), 3, [15], 0),
  (190, [(.iinc 3 1, 3)], .goto (-86), 3, [13], 0),
  (196, [(.iinc 2 1, 3)], .goto (-100), 3, [11], 0),
  (202, [(.iconst 1, 1), (.istore_n 2, 1), (.iconst 0, 1), (.istore_n 3, 1)], .nop, 0, [26], 0),
  (206, [(.iload_n 3, 1), (.bipush 10, 2)], .if_icmp .ge 31, 3, [32, 27], 0),
  (212, [(.iload_n 2, 1)], .ifCond .eq 19, 3, [30, 28], 0),
  (216, [(.aload_n 0, 1), (.getfield 56, 3), (.bipush 11, 2), (.iload_n 3, 1), (.imul, 1), (.baload, 1)], .ifCond .ne 7, 3, [30, 29], 0),
  (228, [(.iconst 1, 1)], .goto 4, 3, [31], 0),
  (232, [(.iconst 0, 1)], .nop, 0, [31], 0),
  (233, [(.istore_n 2, 1), (.iinc 3 1, 3)], .goto (-31), 3, [26], 0),
  (240, [(.iload_n 2, 1)], .ireturn, 1, [], 0)]
/-- m_liarsOf -/
def nb_b196 : List nb_B := [
  (0, [(.aload_n 0, 1)], .invokevirtual 399, 3, [1], 178),
  (4, [(.istore_n 1, 1), (.iconst 0, 1), (.istore_n 2, 1)], .nop, 0, [2], 0),
  (7, [(.iload_n 2, 1), (.aload_n 0, 1)], .invokevirtual 399, 3, [3], 178),
  (12, [], .if_icmp .gt 30, 3, [11, 4], 0),
  (15, [(.iload_n 2, 1)], .invokestatic 340, 3, [5], 85),
  (19, [(.iload_n 1, 1)], .invokestatic 340, 3, [6], 85),
  (23, [], .if_icmp .ge 13, 3, [10, 7], 0),
  (26, [(.aload_n 0, 1), (.iload_n 2, 1)], .invokevirtual 421, 3, [8], 195),
  (31, [], .ifCond .eq 5, 3, [10, 9], 0),
  (34, [(.iload_n 2, 1), (.istore_n 1, 1)], .nop, 0, [10], 0),
  (36, [(.iinc 2 1, 3)], .goto (-32), 3, [2], 0),
  (42, [(.iload_n 1, 1)], .ireturn, 1, [], 0)]
/-- m_liars -/
def nb_b197 : List nb_B := [
  (0, [(.aload_n 0, 1)], .invokevirtual 165, 3, [1], 79),
  (4, [(.aload_n 0, 1), (.getfield 178, 3)], .ifCond .eq 10, 3, [4, 2], 0),
  (11, [(.aload_n 0, 1)], .invokevirtual 424, 3, [3], 196),
  (15, [], .goto 8, 3, [5], 0),
  (18, [(.aload_n 0, 1), (.iconst 1, 1)], .invokevirtual 168, 3, [5], 80),
  (23, [], .ireturn, 1, [], 0)]
/-- m_surely -/
def nb_b198 : List nb_B := [
  (0, [(.aload_n 0, 1)], .invokevirtual 165, 3, [1], 79),
  (4, [(.aload_n 0, 1), (.iload_n 1, 1)], .invokevirtual 346, 3, [2], 116),
  (9, [], .ifCond .eq 16, 3, [6, 3], 0),
  (12, [(.aload_n 0, 1), (.iload_n 2, 1)], .invokevirtual 346, 3, [4], 116),
  (17, [], .ifCond .eq 8, 3, [6, 5], 0),
  (20, [(.iload_n 1, 1), (.iload_n 2, 1)], .if_icmp .ne 9, 3, [8, 6], 0),
  (25, [(.aload_n 0, 1), (.iconst 1, 1)], .invokevirtual 168, 3, [7], 80),
  (30, [], .ireturn, 1, [], 0),
  (31, [(.aload_n 0, 1), (.aload_n 0, 1)], .invokevirtual 424, 3, [9], 196),
  (36, [], .invokevirtual 421, 3, [10], 195),
  (39, [(.pop, 1), (.aload_n 0, 1), (.getfield 56, 3), (.bipush 10, 2), (.iload_n 1, 1), (.imul, 1), (.iload_n 2, 1), (.iadd, 1), (.baload, 1)], .ifCond .eq 7, 3, [12, 11], 0),
  (54, [(.iconst 1, 1)], .goto 4, 3, [13], 0),
  (58, [(.iconst 0, 1)], .nop, 0, [13], 0),
  (59, [], .ireturn, 1, [], 0)]
/-- m_so -/
def nb_b199 : List nb_B := [
  (0, [(.aload_n 0, 1)], .invokevirtual 165, 3, [1], 79),
  (4, [(.aload_n 0, 1), (.getfield 178, 3)], .ifCond .ne 9, 3, [4, 2], 0),
  (11, [(.aload_n 0, 1), (.iconst 1, 1)], .invokevirtual 168, 3, [3], 80),
  (16, [], .ireturn, 1, [], 0),
  (17, [(.aload_n 0, 1)], .invokevirtual 187, 3, [5], 121),
  (21, [(.iconst 0, 1), (.istore_n 1, 1), (.iconst 0, 1), (.istore_n 2, 1)], .nop, 0, [6], 0),
  (25, [(.iload_n 2, 1), (.aload_n 0, 1), (.getfield 20, 3), (.bipush 7, 2), (.iaload, 1)], .if_icmp .ge 52, 3, [12, 7], 0),
  (36, [(.iload_n 1, 1), (.aload_n 0, 1), (.aload_n 0, 1), (.getfield 20, 3), (.sipush 161, 3), (.iconst 3, 1), (.iload_n 2, 1), (.imul, 1), (.iadd, 1), (.iconst 2, 1), (.iadd, 1), (.iaload, 1), (.aload_n 0, 1), (.getfield 20, 3), (.sipush 161, 3), (.iconst 3, 1), (.iload_n 2, 1), (.imul, 1), (.iadd, 1), (.iconst 1, 1), (.iadd, 1), (.iaload, 1)], .invokevirtual 327, 3, [8], 137),
  (69, [], .ifCond .eq 7, 3, [10, 9], 0),
  (72, [(.iconst 1, 1)], .goto 4, 3, [11], 0),
  (76, [(.iconst 0, 1)], .nop, 0, [11], 0),
  (77, [(.iadd, 1), (.istore_n 1, 1), (.iinc 2 1, 3)], .goto (-57), 3, [6], 0),
  (85, [(.iload_n 1, 1)], .ireturn, 1, [], 0)]
/-- m_note -/
def nb_b200 : List nb_B := [
  (0, [(.aload_n 0, 1), (.getfield 181, 3), (.bipush 12, 2)], .if_icmp .ne 43, 3, [6, 1], 0),
  (9, [(.iconst 0, 1), (.istore_n 1, 1)], .nop, 0, [2], 0),
  (11, [(.iload_n 1, 1), (.sipush 1188, 3)], .if_icmp .ge 24, 3, [5, 3], 0),
  (18, [(.aload_n 0, 1), (.getfield 32, 3), (.iload_n 1, 1), (.aload_n 0, 1), (.getfield 32, 3), (.iload_n 1, 1), (.bipush 108, 2), (.iadd, 1), (.iaload, 1), (.iastore, 1)], .nop, 0, [4], 0),
  (33, [(.iinc 1 1, 3)], .goto (-25), 3, [2], 0),
  (39, [(.aload_n 0, 1), (.dup, 1), (.getfield 181, 3), (.iconst 1, 1), (.isub, 1), (.putfield 181, 3)], .nop, 0, [6], 0),
  (49, [(.aload_n 0, 1), (.getfield 26, 3), (.iconst 0, 1), (.aload_n 0, 1), (.getfield 32, 3), (.bipush 108, 2), (.aload_n 0, 1), (.getfield 181, 3), (.imul, 1), (.bipush 108, 2)], .invokestatic 174, 3, [7], 86),
  (70, [(.aload_n 0, 1), (.dup, 1), (.getfield 181, 3), (.iconst 1, 1), (.iadd, 1), (.putfield 181, 3)], .nop, 0, [8], 0),
  (80, [], .return_, 1, [], 0)]
/-- m_pass -/
def nb_b201 : List nb_B := [
  (0, [(.aload_n 0, 1)], .invokevirtual 165, 3, [1], 79),
  (4, [(.aload_n 0, 1), (.getfield 178, 3)], .ifCond .ne 9, 3, [4, 2], 0),
  (11, [(.aload_n 0, 1), (.iconst 1, 1)], .invokevirtual 168, 3, [3], 80),
  (16, [], .ireturn, 1, [], 0),
  (17, [(.iload_n 1, 1), (.iconst 1, 1), (.sipush 200, 3)], .invokestatic 147, 3, [5], 83),
  (25, [], .ifCond .ne 9, 3, [8, 6], 0),
  (28, [(.aload_n 0, 1), (.iconst 2, 1)], .invokevirtual 168, 3, [7], 80),
  (33, [], .ireturn, 1, [], 0),
  (34, [(.aload_n 0, 1), (.getfield 26, 3), (.iconst 0, 1), (.iaload, 1), (.iload_n 1, 1), (.iadd, 1), (.aload_n 0, 1), (.getfield 20, 3), (.iconst 2, 1), (.iaload, 1), (.iconst 1, 1), (.iadd, 1)], .if_icmp .le 9, 3, [11, 9], 0),
  (53, [(.aload_n 0, 1), (.iconst 3, 1)], .invokevirtual 168, 3, [10], 80),
  (58, [], .ireturn, 1, [], 0),
  (59, [(.aload_n 0, 1)], .invokevirtual 427, 3, [12], 200),
  (63, [(.aload_n 0, 1)], .invokevirtual 187, 3, [13], 121),
  (67, [(.iconst 0, 1), (.istore_n 2, 1)], .nop, 0, [14], 0),
  (69, [(.iload_n 2, 1), (.iload_n 1, 1)], .if_icmp .ge 17, 3, [17, 15], 0),
  (74, [(.aload_n 0, 1), (.aload_n 0, 1), (.getfield 26, 3)], .invokevirtual 321, 3, [16], 132),
  (82, [(.iinc 2 1, 3)], .goto (-16), 3, [14], 0),
  (88, [(.aload_n 0, 1), (.getfield 26, 3), (.iconst 0, 1), (.iaload, 1)], .ireturn, 1, [], 0)]
/-- m_moves -/
def nb_b202 : List nb_B := [
  (0, [(.aload_n 0, 1)], .invokevirtual 165, 3, [1], 79),
  (4, [(.aload_n 0, 1), (.iload_n 1, 1)], .invokevirtual 346, 3, [2], 116),
  (9, [], .ifCond .eq 11, 3, [5, 3], 0),
  (12, [(.aload_n 0, 1), (.iload_n 2, 1)], .invokevirtual 352, 3, [4], 118),
  (17, [], .ifCond .ne 9, 3, [7, 5], 0),
  (20, [(.aload_n 0, 1), (.iconst 1, 1)], .invokevirtual 430, 3, [6], 82),
  (25, [], .ireturn, 1, [], 0),
  (26, [(.aload_n 0, 1), (.getfield 26, 3), (.iload_n 1, 1)], .invokestatic 301, 3, [8], 126),
  (34, [], .ifCond .eq 16, 3, [11, 9], 0),
  (37, [(.aload_n 0, 1), (.getfield 26, 3), (.iload_n 1, 1), (.iconst 1, 1)], .invokestatic 287, 3, [10], 125),
  (46, [(.iload_n 2, 1)], .if_icmp .ne 9, 3, [13, 11], 0),
  (50, [(.aload_n 0, 1), (.iconst 5, 1)], .invokevirtual 430, 3, [12], 82),
  (55, [], .ireturn, 1, [], 0),
  (56, [(.aload_n 0, 1)], .invokevirtual 427, 3, [14], 200),
  (60, [(.aload_n 0, 1), (.getfield 26, 3), (.bipush 12, 2), (.bipush 8, 2), (.iload_n 1, 1), (.imul, 1), (.iadd, 1), (.iconst 1, 1), (.iadd, 1), (.iload_n 2, 1), (.iastore, 1)], .nop, 0, [15], 0),
  (75, [(.iconst 1, 1)], .ireturn, 1, [], 0)]
/-- m_lets -/
def nb_b203 : List nb_B := [
  (0, [(.aload_n 0, 1)], .invokevirtual 165, 3, [1], 79),
  (4, [(.aload_n 0, 1), (.iload_n 1, 1)], .invokevirtual 346, 3, [2], 116),
  (9, [], .ifCond .eq 16, 3, [6, 3], 0),
  (12, [(.aload_n 0, 1), (.iload_n 2, 1)], .invokevirtual 346, 3, [4], 116),
  (17, [], .ifCond .eq 8, 3, [6, 5], 0),
  (20, [(.iload_n 1, 1), (.iload_n 2, 1)], .if_icmp .ne 9, 3, [8, 6], 0),
  (25, [(.aload_n 0, 1), (.iconst 1, 1)], .invokevirtual 430, 3, [7], 82),
  (30, [], .ireturn, 1, [], 0),
  (31, [(.aload_n 0, 1), (.iload_n 1, 1), (.iload_n 2, 1)], .invokevirtual 396, 3, [9], 175),
  (37, [], .ifCond .eq 9, 3, [12, 10], 0),
  (40, [(.aload_n 0, 1), (.iconst 5, 1)], .invokevirtual 430, 3, [11], 82),
  (45, [], .ireturn, 1, [], 0),
  (46, [(.aload_n 0, 1)], .invokevirtual 427, 3, [13], 200),
  (50, [(.aload_n 0, 1), (.getfield 26, 3), (.bipush 12, 2), (.bipush 8, 2), (.iload_n 1, 1), (.imul, 1), (.iadd, 1), (.iconst 3, 1), (.iadd, 1), (.aload_n 0, 1), (.getfield 26, 3), (.iload_n 2, 1), (.iconst 3, 1)], .invokestatic 287, 3, [14], 125),
  (72, [(.iconst 1, 1), (.iadd, 1), (.iastore, 1)], .nop, 0, [15], 0),
  (75, [(.iconst 1, 1)], .ireturn, 1, [], 0)]
/-- m_calls -/
def nb_b204 : List nb_B := [
  (0, [(.aload_n 0, 1)], .invokevirtual 165, 3, [1], 79),
  (4, [(.aload_n 0, 1), (.iload_n 1, 1)], .invokevirtual 346, 3, [2], 116),
  (9, [], .ifCond .ne 9, 3, [5, 3], 0),
  (12, [(.aload_n 0, 1), (.iconst 1, 1)], .invokevirtual 168, 3, [4], 80),
  (17, [], .ireturn, 1, [], 0),
  (18, [(.aload_n 0, 1), (.getfield 26, 3), (.iload_n 1, 1)], .invokestatic 301, 3, [6], 126),
  (26, [], .ifCond .ne 9, 3, [9, 7], 0),
  (29, [(.aload_n 0, 1), (.iconst 5, 1)], .invokevirtual 168, 3, [8], 80),
  (34, [], .ireturn, 1, [], 0),
  (35, [(.aload_n 0, 1)], .invokevirtual 427, 3, [10], 200),
  (39, [(.bipush 12, 2), (.bipush 8, 2), (.iload_n 1, 1), (.imul, 1), (.iadd, 1), (.iconst 2, 1), (.iadd, 1), (.istore_n 2, 1), (.aload_n 0, 1), (.getfield 26, 3), (.iload_n 2, 1), (.aload_n 0, 1), (.getfield 26, 3), (.iload_n 2, 1), (.iaload, 1), (.iconst 5, 1), (.iadd, 1), (.bipush 99, 2)], .if_icmp .le 8, 3, [12, 11], 0),
  (67, [(.bipush 99, 2)], .goto 11, 3, [13], 0),
  (72, [(.aload_n 0, 1), (.getfield 26, 3), (.iload_n 2, 1), (.iaload, 1), (.iconst 5, 1), (.iadd, 1)], .nop, 0, [13], 0),
  (80, [(.iastore, 1)], .nop, 0, [14], 0),
  (81, [(.aload_n 0, 1), (.getfield 26, 3), (.iload_n 2, 1), (.iaload, 1)], .ireturn, 1, [], 0)]
/-- m_leaves -/
def nb_b205 : List nb_B := [
  (0, [(.aload_n 0, 1)], .invokevirtual 165, 3, [1], 79),
  (4, [(.aload_n 0, 1), (.iload_n 1, 1)], .invokevirtual 346, 3, [2], 116),
  (9, [], .ifCond .ne 9, 3, [5, 3], 0),
  (12, [(.aload_n 0, 1), (.iconst 1, 1)], .invokevirtual 430, 3, [4], 82),
  (17, [], .ireturn, 1, [], 0),
  (18, [(.aload_n 0, 1), (.getfield 26, 3), (.iload_n 1, 1)], .invokestatic 301, 3, [6], 126),
  (26, [], .ifCond .ne 9, 3, [9, 7], 0),
  (29, [(.aload_n 0, 1), (.iconst 5, 1)], .invokevirtual 430, 3, [8], 82),
  (34, [], .ireturn, 1, [], 0),
  (35, [(.aload_n 0, 1)], .invokevirtual 427, 3, [10], 200),
  (39, [(.aload_n 0, 1), (.getfield 26, 3), (.bipush 12, 2), (.bipush 8, 2), (.iload_n 1, 1), (.imul, 1), (.iadd, 1), (.iconst 0, 1), (.iadd, 1), (.iconst 5, 1), (.iastore, 1)], .nop, 0, [11], 0),
  (54, [(.aload_n 0, 1), (.getfield 26, 3), (.bipush 12, 2), (.bipush 8, 2), (.iload_n 1, 1), (.imul, 1), (.iadd, 1), (.bipush 7, 2), (.iadd, 1), (.aload_n 0, 1), (.getfield 26, 3), (.iconst 0, 1), (.iaload, 1), (.iastore, 1)], .nop, 0, [12], 0),
  (75, [(.iconst 1, 1)], .ireturn, 1, [], 0)]
/-- m_undo -/
def nb_b206 : List nb_B := [
  (0, [(.aload_n 0, 1)], .invokevirtual 165, 3, [1], 79),
  (4, [(.aload_n 0, 1), (.getfield 181, 3)], .ifCond .ne 10, 3, [4, 2], 0),
  (11, [(.aload_n 0, 1), (.bipush 6, 2)], .invokevirtual 430, 3, [3], 82),
  (17, [], .ireturn, 1, [], 0),
  (18, [(.aload_n 0, 1), (.dup, 1), (.getfield 181, 3), (.iconst 1, 1), (.isub, 1), (.putfield 181, 3)], .nop, 0, [5], 0),
  (28, [(.aload_n 0, 1), (.getfield 32, 3), (.bipush 108, 2), (.aload_n 0, 1), (.getfield 181, 3), (.imul, 1), (.aload_n 0, 1), (.getfield 26, 3), (.iconst 0, 1), (.bipush 108, 2)], .invokestatic 174, 3, [6], 86),
  (49, [(.iconst 1, 1)], .ireturn, 1, [], 0)]
/-- m_image -/
def nb_b207 : List nb_B := [
  (0, [(.aload_n 0, 1)], .invokevirtual 165, 3, [1], 79),
  (4, [(.aload_n 0, 1), (.getfield 178, 3)], .ifCond .ne 9, 3, [4, 2], 0),
  (11, [(.aload_n 0, 1), (.iconst 1, 1)], .invokevirtual 168, 3, [3], 80),
  (16, [], .ireturn, 1, [], 0),
  (17, [(.aload_n 0, 1), (.getfield 184, 3), (.iconst 3, 1)], .if_icmp .ne 9, 3, [7, 5], 0),
  (25, [(.aload_n 0, 1), (.iconst 3, 1)], .invokevirtual 168, 3, [6], 80),
  (30, [], .ireturn, 1, [], 0),
  (31, [(.aload_n 0, 1), (.getfield 26, 3), (.iconst 0, 1), (.aload_n 0, 1), (.getfield 35, 3), (.bipush 108, 2), (.aload_n 0, 1), (.getfield 184, 3), (.imul, 1), (.bipush 108, 2)], .invokestatic 174, 3, [8], 86),
  (52, [(.aload_n 0, 1), (.dup, 1), (.getfield 184, 3), (.iconst 1, 1), (.iadd, 1), (.putfield 184, 3)], .nop, 0, [9], 0),
  (62, [(.aload_n 0, 1), (.getfield 184, 3), (.iconst 1, 1), (.isub, 1)], .ireturn, 1, [], 0)]
/-- m_back -/
def nb_b208 : List nb_B := [
  (0, [(.aload_n 0, 1)], .invokevirtual 165, 3, [1], 79),
  (4, [(.iload_n 1, 1), (.iconst 0, 1), (.aload_n 0, 1), (.getfield 184, 3), (.iconst 1, 1), (.isub, 1)], .invokestatic 147, 3, [2], 83),
  (15, [], .ifCond .ne 9, 3, [5, 3], 0),
  (18, [(.aload_n 0, 1), (.iconst 1, 1)], .invokevirtual 430, 3, [4], 82),
  (23, [], .ireturn, 1, [], 0),
  (24, [(.aload_n 0, 1), (.getfield 35, 3), (.bipush 108, 2), (.iload_n 1, 1), (.imul, 1), (.aload_n 0, 1), (.getfield 26, 3), (.iconst 0, 1), (.bipush 108, 2)], .invokestatic 174, 3, [6], 86),
  (42, [(.aload_n 0, 1), (.iconst 0, 1), (.putfield 181, 3)], .nop, 0, [7], 0),
  (47, [(.iconst 1, 1)], .ireturn, 1, [], 0)]
/-- m_told -/
def nb_b209 : List nb_B := [
  (0, [(.aload_n 0, 1)], .invokevirtual 165, 3, [1], 79),
  (4, [(.aload_n 0, 1), (.iload_n 1, 1)], .invokevirtual 346, 3, [2], 116),
  (9, [], .ifCond .eq 13, 3, [5, 3], 0),
  (12, [(.iload_n 2, 1), (.iconst 0, 1), (.bipush 6, 2)], .invokestatic 147, 3, [4], 83),
  (19, [], .ifCond .ne 9, 3, [7, 5], 0),
  (22, [(.aload_n 0, 1), (.iconst 1, 1)], .invokevirtual 168, 3, [6], 80),
  (27, [], .ireturn, 1, [], 0),
  (28, [(.aload_n 0, 1), (.getfield 20, 3), (.bipush 41, 2), (.bipush 7, 2), (.iload_n 1, 1), (.imul, 1), (.iadd, 1), (.iload_n 2, 1), (.iadd, 1), (.iaload, 1), (.istore_n 3, 1), (.iload_n 2, 1), (.bipush 6, 2)], .if_icmp .ge 7, 3, [9, 8], 0),
  (49, [(.iload_n 3, 1)], .goto 15, 3, [12], 0),
  (53, [(.iload_n 3, 1)], .ifCond .ne 8, 3, [11, 10], 0),
  (57, [(.bipush (-2), 2)], .goto 6, 3, [12], 0),
  (62, [(.iload_n 3, 1), (.iconst 1, 1), (.isub, 1)], .nop, 0, [12], 0),
  (65, [], .ireturn, 1, [], 0)]
/-- m_wants -/
def nb_b210 : List nb_B := [
  (0, [(.aload_n 0, 1)], .invokevirtual 165, 3, [1], 79),
  (4, [(.aload_n 0, 1), (.iload_n 1, 1)], .invokevirtual 346, 3, [2], 116),
  (9, [], .ifCond .eq 20, 3, [7, 3], 0),
  (12, [(.aload_n 0, 1), (.iload_n 2, 1)], .invokevirtual 433, 3, [4], 119),
  (17, [], .ifCond .eq 12, 3, [7, 5], 0),
  (20, [(.aload_n 0, 1), (.iload_n 1, 1), (.iload_n 2, 1)], .invokevirtual 294, 3, [6], 120),
  (26, [], .goto 8, 3, [8], 0),
  (29, [(.aload_n 0, 1), (.iconst 1, 1)], .invokevirtual 168, 3, [8], 80),
  (34, [], .ireturn, 1, [], 0)]
/-- m_led -/
def nb_b211 : List nb_B := [
  (0, [(.iconst 0, 1), (.istore_n 2, 1), (.iconst 0, 1), (.istore_n 3, 1)], .nop, 0, [1], 0),
  (4, [(.aload_n 0, 1), (.getfield 178, 3)], .ifCond .eq 48, 3, [11, 2], 0),
  (11, [(.iload_n 3, 1), (.aload_n 0, 1), (.getfield 20, 3), (.iconst 5, 1), (.iaload, 1)], .if_icmp .ge 38, 3, [11, 3], 0),
  (21, [(.aload_n 0, 1), (.getfield 26, 3), (.iload_n 3, 1)], .invokestatic 301, 3, [4], 126),
  (29, [], .ifCond .ne 6, 3, [6, 5], 0),
  (32, [], .goto 18, 3, [10], 0),
  (35, [(.iload_n 2, 1), (.iload_n 1, 1)], .if_icmp .ne 10, 3, [9, 7], 0),
  (40, [(.aload_n 0, 1), (.iconst 0, 1), (.putfield 60, 3)], .nop, 0, [8], 0),
  (45, [(.iload_n 3, 1)], .ireturn, 1, [], 0),
  (47, [(.iinc 2 1, 3)], .nop, 0, [10], 0),
  (50, [(.iinc 3 1, 3)], .goto (-49), 3, [1], 0),
  (56, [(.aload_n 0, 1), (.iconst 1, 1), (.putfield 60, 3)], .nop, 0, [12], 0),
  (61, [(.iconst 0, 1)], .ireturn, 1, [], 0)]
/-- m_size -/
def nb_b212 : List nb_B := [
  (0, [(.aload_n 0, 1), (.iconst 0, 1), (.putfield 60, 3)], .nop, 0, [1], 0),
  (5, [(.iload_n 1, 1), (.bipush 10, 2)], .if_icmp .ne 8, 3, [3, 2], 0),
  (11, [(.aload_n 0, 1), (.getfield 66, 3)], .ireturn, 1, [], 0),
  (16, [(.aload_n 0, 1), (.getfield 178, 3)], .ifCond .ne 19, 3, [9, 4], 0),
  (23, [(.iload_n 1, 1), (.iconst 0, 1), (.bipush 9, 2)], .invokestatic 147, 3, [5], 83),
  (30, [], .ifCond .eq 7, 3, [7, 6], 0),
  (33, [(.iconst 0, 1)], .goto 4, 3, [8], 0),
  (37, [(.iconst (-1), 1)], .nop, 0, [8], 0),
  (38, [], .ireturn, 1, [], 0),
  (39, [(.iload_n 1, 1)], .tableswitch 124 0 9 #[56, 63, 70, 77, 84, 91, 99, 107, 114, 119], 56, [20, 10, 11, 12, 13, 14, 15, 16, 17, 18, 19], 0),
  (96, [(.aload_n 0, 1), (.getfield 20, 3), (.iconst 1, 1), (.iaload, 1)], .ireturn, 1, [], 0),
  (103, [(.aload_n 0, 1), (.getfield 20, 3), (.iconst 2, 1), (.iaload, 1)], .ireturn, 1, [], 0),
  (110, [(.aload_n 0, 1), (.getfield 20, 3), (.iconst 3, 1), (.iaload, 1)], .ireturn, 1, [], 0),
  (117, [(.aload_n 0, 1), (.getfield 20, 3), (.iconst 4, 1), (.iaload, 1)], .ireturn, 1, [], 0),
  (124, [(.aload_n 0, 1), (.getfield 20, 3), (.iconst 5, 1), (.iaload, 1)], .ireturn, 1, [], 0),
  (131, [(.aload_n 0, 1), (.getfield 20, 3), (.bipush 6, 2), (.iaload, 1)], .ireturn, 1, [], 0),
  (139, [(.aload_n 0, 1), (.getfield 20, 3), (.bipush 7, 2), (.iaload, 1)], .ireturn, 1, [], 0),
  (147, [(.aload_n 0, 1), (.getfield 26, 3), (.iconst 0, 1), (.iaload, 1)], .ireturn, 1, [], 0),
  (154, [(.aload_n 0, 1), (.getfield 181, 3)], .ireturn, 1, [], 0),
  (159, [(.aload_n 0, 1), (.getfield 184, 3)], .ireturn, 1, [], 0),
  (164, [(.iconst (-1), 1)], .ireturn, 1, [], 0)]
/-- m_trouble -/
def nb_b213 : List nb_B := [
  (0, [(.aload_n 0, 1), (.iconst 0, 1), (.putfield 60, 3)], .nop, 0, [1], 0),
  (5, [(.aload_n 0, 1), (.getfield 63, 3)], .ireturn, 1, [], 0)]
/-- g_init -/
def nb_b214 : List nb_B := [
  (0, [(.aload_n 0, 1)], .invokespecial 3, 3, [1], 900),
  (4, [(.aload_n 0, 1), (.bipush (-2), 2), (.putfield 9, 3)], .nop, 0, [2], 0),
  (10, [(.aload_n 0, 1), (.iconst 0, 1), (.putfield 15, 3)], .nop, 0, [3], 0),
  (15, [(.aload_n 0, 1), (.bipush (-2), 2), (.putfield 18, 3)], .nop, 0, [4], 0),
  (21, [(.aload_n 0, 1), (.bipush (-2), 2), (.putfield 21, 3)], .nop, 0, [5], 0),
  (27, [(.aload_n 0, 1), (.bipush (-2), 2), (.putfield 24, 3)], .nop, 0, [6], 0),
  (33, [], .return_, 1, [], 0)]
/-- g_take -/
def nb_b215 : List nb_B := [
  (0, [(.aload_n 0, 1), (.aload_n 1, 1), (.getfield 27, 3), (.putfield 27, 3)], .nop, 0, [1], 0),
  (8, [(.aload_n 0, 1), (.aload_n 1, 1), (.getfield 30, 3), (.putfield 30, 3)], .nop, 0, [2], 0),
  (16, [(.aload_n 0, 1), (.aload_n 1, 1), (.getfield 33, 3), (.putfield 33, 3)], .nop, 0, [3], 0),
  (24, [(.aload_n 0, 1), (.aload_n 1, 1), (.getfield 36, 3), (.putfield 36, 3)], .nop, 0, [4], 0),
  (32, [(.aload_n 0, 1), (.aload_n 1, 1), (.getfield 39, 3), (.putfield 39, 3)], .nop, 0, [5], 0),
  (40, [(.aload_n 0, 1), (.aload_n 1, 1), (.getfield 42, 3), (.putfield 42, 3)], .nop, 0, [6], 0),
  (48, [(.aload_n 0, 1), (.aload_n 1, 1), (.getfield 9, 3), (.putfield 9, 3)], .nop, 0, [7], 0),
  (56, [(.aload_n 0, 1), (.aload_n 1, 1), (.getfield 45, 3), (.putfield 45, 3)], .nop, 0, [8], 0),
  (64, [(.aload_n 0, 1), (.aload_n 1, 1), (.getfield 15, 3), (.putfield 15, 3)], .nop, 0, [9], 0),
  (72, [(.aload_n 0, 1), (.aload_n 1, 1), (.getfield 18, 3), (.putfield 18, 3)], .nop, 0, [10], 0),
  (80, [(.aload_n 0, 1), (.aload_n 1, 1), (.getfield 21, 3), (.putfield 21, 3)], .nop, 0, [11], 0),
  (88, [(.aload_n 0, 1), (.aload_n 1, 1), (.getfield 48, 3), (.putfield 48, 3)], .nop, 0, [12], 0),
  (96, [(.aload_n 0, 1), (.aload_n 1, 1), (.getfield 24, 3), (.putfield 24, 3)], .nop, 0, [13], 0),
  (104, [(.aload_n 0, 1), (.aload_n 1, 1), (.getfield 51, 3), (.putfield 51, 3)], .nop, 0, [14], 0),
  (112, [(.aload_n 0, 1), (.aload_n 1, 1), (.getfield 54, 3), (.putfield 54, 3)], .nop, 0, [15], 0),
  (120, [], .return_, 1, [], 0)]
/-- g_behave -/
def nb_b216 : List nb_B := [
  (0, [(.aload_n 0, 1), (.iload_n 1, 1), (.putfield 27, 3)], .nop, 0, [1], 0),
  (5, [(.aload_n 0, 1), (.iload_n 2, 1), (.putfield 30, 3)], .nop, 0, [2], 0),
  (10, [(.aload_n 0, 1), (.aload_n 0, 1), (.getfield 33, 3), (.putfield 45, 3)], .nop, 0, [3], 0),
  (18, [(.aload_n 0, 1), (.getfield 27, 3), (.iconst 1, 1)], .if_icmp .ne 19, 3, [6, 4], 0),
  (26, [(.aload_n 0, 1), (.aload_n 0, 1), (.getfield 33, 3), (.aload_n 0, 1), (.getfield 30, 3), (.isub, 1), (.putfield 45, 3)], .nop, 0, [5], 0),
  (39, [], .goto 24, 3, [8], 0),
  (42, [(.aload_n 0, 1), (.getfield 27, 3), (.iconst 2, 1)], .if_icmp .ne 16, 3, [8, 7], 0),
  (50, [(.aload_n 0, 1), (.aload_n 0, 1), (.getfield 33, 3), (.aload_n 0, 1), (.getfield 30, 3), (.iadd, 1), (.putfield 45, 3)], .nop, 0, [8], 0),
  (63, [], .return_, 1, [], 0)]
/-- g_isServed -/
def nb_b217 : List nb_B := [
  (0, [(.aload_n 0, 1), (.getfield 15, 3), (.iconst 2, 1)], .if_icmp .eq 11, 3, [2, 1], 0),
  (8, [(.aload_n 0, 1), (.getfield 15, 3), (.iconst 3, 1)], .if_icmp .ne 7, 3, [3, 2], 0),
  (16, [(.iconst 1, 1)], .goto 4, 3, [4], 0),
  (20, [(.iconst 0, 1)], .nop, 0, [4], 0),
  (21, [], .ireturn, 1, [], 0)]
/-- h_init -/
def nb_b218 : List nb_B := [
  (0, [(.aload_n 0, 1)], .invokespecial 3, 3, [1], 900),
  (4, [(.aload_n 0, 1), (.iconst 5, 1), (.newarray .int, 2)], .nop, 0, [2], 0),
  (8, [(.putfield 9, 3)], .nop, 0, [3], 0),
  (11, [(.aload_n 0, 1), (.iconst 5, 1), (.newarray .int, 2)], .nop, 0, [4], 0),
  (15, [(.putfield 15, 3)], .nop, 0, [5], 0),
  (18, [(.aload_n 0, 1), (.iconst 5, 1), (.newarray .int, 2)], .nop, 0, [6], 0),
  (22, [(.putfield 18, 3)], .nop, 0, [7], 0),
  (25, [(.aload_n 0, 1), (.bipush 10, 2), (.iconst 5, 1), (.multianewarray 21 2, 4)], .nop, 0, [8], 0),
  (33, [(.putfield 23, 3)], .nop, 0, [9], 0),
  (36, [(.aload_n 0, 1), (.bipush 10, 2), (.anewarray 26, 3)], .nop, 0, [10], 0),
  (42, [(.putfield 28, 3)], .nop, 0, [11], 0),
  (45, [(.aload_n 0, 1), (.iconst 3, 1), (.anewarray 32, 3)], .nop, 0, [12], 0),
  (50, [(.putfield 34, 3)], .nop, 0, [13], 0),
  (53, [(.aload_n 0, 1), (.bipush 8, 2), (.newarray .int, 2)], .nop, 0, [14], 0),
  (58, [(.putfield 38, 3)], .nop, 0, [15], 0),
  (61, [(.aload_n 0, 1), (.bipush 8, 2), (.newarray .int, 2)], .nop, 0, [16], 0),
  (66, [(.putfield 41, 3)], .nop, 0, [17], 0),
  (69, [(.aload_n 0, 1), (.bipush 8, 2), (.newarray .int, 2)], .nop, 0, [18], 0),
  (74, [(.putfield 44, 3)], .nop, 0, [19], 0),
  (77, [(.iconst 0, 1), (.istore_n 1, 1)], .nop, 0, [20], 0),
  (79, [(.iload_n 1, 1), (.bipush 10, 2)], .if_icmp .ge 22, 3, [25, 21], 0),
  (85, [(.aload_n 0, 1), (.getfield 28, 3), (.iload_n 1, 1), (.new 26, 3)], .nop, 0, [22], 0),
  (93, [(.dup, 1)], .invokespecial 47, 3, [23], 214),
  (97, [(.aastore, 1)], .nop, 0, [24], 0),
  (98, [(.iinc 1 1, 3)], .goto (-22), 3, [20], 0),
  (104, [(.iconst 0, 1), (.istore_n 1, 1)], .nop, 0, [26], 0),
  (106, [(.iload_n 1, 1), (.iconst 3, 1)], .if_icmp .ge 22, 3, [31, 27], 0),
  (111, [(.aload_n 0, 1), (.getfield 34, 3), (.iload_n 1, 1), (.new 32, 3)], .nop, 0, [28], 0),
  (119, [(.dup, 1)], .invokespecial 48, 3, [29], 271),
  (123, [(.aastore, 1)], .nop, 0, [30], 0),
  (124, [(.iinc 1 1, 3)], .goto (-21), 3, [26], 0),
  (130, [], .return_, 1, [], 0)]
/-- h_empty -/
def nb_b219 : List nb_B := [
  (0, [(.aload_n 0, 1), (.iconst 0, 1), (.putfield 49, 3)], .nop, 0, [1], 0),
  (5, [(.aload_n 0, 1), (.iconst 0, 1), (.putfield 53, 3)], .nop, 0, [2], 0),
  (10, [(.aload_n 0, 1), (.iconst 0, 1), (.putfield 56, 3)], .nop, 0, [3], 0),
  (15, [(.aload_n 0, 1), (.iconst 0, 1), (.putfield 59, 3)], .nop, 0, [4], 0),
  (20, [(.aload_n 0, 1), (.iconst 0, 1), (.putfield 62, 3)], .nop, 0, [5], 0),
  (25, [(.aload_n 0, 1), (.iconst 0, 1), (.putfield 65, 3)], .nop, 0, [6], 0),
  (30, [(.aload_n 0, 1), (.iconst 0, 1), (.putfield 68, 3)], .nop, 0, [7], 0),
  (35, [(.iconst 0, 1), (.istore_n 1, 1)], .nop, 0, [8], 0),
  (37, [(.iload_n 1, 1), (.bipush 10, 2)], .if_icmp .ge 30, 3, [12, 9], 0),
  (43, [(.aload_n 0, 1), (.getfield 23, 3), (.iload_n 1, 1), (.aaload, 1), (.iconst 0, 1)], .invokestatic 71, 3, [10], 295),
  (53, [(.aload_n 0, 1), (.getfield 28, 3), (.iload_n 1, 1), (.aaload, 1), (.bipush (-2), 2), (.putfield 77, 3)], .nop, 0, [11], 0),
  (64, [(.iinc 1 1, 3)], .goto (-30), 3, [8], 0),
  (70, [], .return_, 1, [], 0)]
/-- h_timeBehind -/
def nb_b220 : List nb_B := [
  (0, [(.iconst 0, 1), (.istore_n 3, 1), (.iconst 0, 1), (.istore 4, 2)], .nop, 0, [1], 0),
  (5, [(.iload 4, 2), (.aload_n 0, 1), (.getfield 56, 3)], .if_icmp .ge 94, 3, [13, 2], 0),
  (14, [(.aload_n 0, 1), (.getfield 23, 3), (.iload_n 2, 1), (.aaload, 1), (.iload 4, 2), (.iaload, 1), (.istore 5, 2), (.iload 5, 2)], .ifCond .le 72, 3, [12, 3], 0),
  (30, [(.iload_n 1, 1)], .ifCond .lt 27, 3, [7, 4], 0),
  (34, [(.iload_n 1, 1), (.aload_n 0, 1), (.getfield 62, 3)], .if_icmp .ge 19, 3, [7, 5], 0),
  (42, [(.aload_n 0, 1), (.getfield 23, 3), (.iload_n 1, 1), (.aaload, 1), (.iload 4, 2), (.iaload, 1)], .ifCond .le 7, 3, [7, 6], 0),
  (54, [(.iconst 1, 1)], .goto 4, 3, [8], 0),
  (58, [(.iconst 0, 1)], .nop, 0, [8], 0),
  (59, [(.istore 6, 2), (.iload_n 3, 1), (.iload 6, 2)], .ifCond .eq 13, 3, [10, 9], 0),
  (67, [(.aload_n 0, 1), (.getfield 15, 3), (.iload 4, 2), (.iaload, 1)], .goto 10, 3, [11], 0),
  (77, [(.aload_n 0, 1), (.getfield 9, 3), (.iload 4, 2), (.iaload, 1)], .nop, 0, [11], 0),
  (84, [(.iload 5, 2), (.iconst 1, 1), (.isub, 1), (.aload_n 0, 1), (.getfield 15, 3), (.iload 4, 2), (.iaload, 1), (.imul, 1), (.iadd, 1), (.iadd, 1), (.istore_n 3, 1)], .nop, 0, [12], 0),
  (99, [(.iinc 4 1, 3)], .goto (-97), 3, [1], 0),
  (105, [(.iload_n 3, 1)], .ireturn, 1, [], 0)]
/-- h_priceOf -/
def nb_b221 : List nb_B := [
  (0, [(.iconst 0, 1), (.istore_n 2, 1), (.iconst 0, 1), (.istore_n 3, 1)], .nop, 0, [1], 0),
  (4, [(.iload_n 3, 1), (.aload_n 0, 1), (.getfield 56, 3)], .if_icmp .ge 27, 3, [3, 2], 0),
  (12, [(.iload_n 2, 1), (.aload_n 0, 1), (.getfield 23, 3), (.iload_n 1, 1), (.aaload, 1), (.iload_n 3, 1), (.iaload, 1), (.aload_n 0, 1), (.getfield 18, 3), (.iload_n 3, 1), (.iaload, 1), (.imul, 1), (.iadd, 1), (.istore_n 2, 1), (.iinc 3 1, 3)], .goto (-29), 3, [1], 0),
  (36, [(.iload_n 2, 1)], .ireturn, 1, [], 0)]
/-- h_cameAhead -/
def nb_b222 : List nb_B := [
  (0, [(.aload_n 0, 1), (.getfield 28, 3), (.iload_n 1, 1), (.aaload, 1), (.getfield 80, 3), (.istore_n 3, 1), (.aload_n 0, 1), (.getfield 28, 3), (.iload_n 2, 1), (.aaload, 1), (.getfield 80, 3), (.istore 4, 2), (.iload_n 3, 1), (.iload 4, 2)], .if_icmp .lt 14, 3, [3, 1], 0),
  (27, [(.iload_n 3, 1), (.iload 4, 2)], .if_icmp .ne 12, 3, [4, 2], 0),
  (33, [(.iload_n 1, 1), (.iload_n 2, 1)], .if_icmp .ge 7, 3, [4, 3], 0),
  (38, [(.iconst 1, 1)], .goto 4, 3, [5], 0),
  (42, [(.iconst 0, 1)], .nop, 0, [5], 0),
  (43, [], .ireturn, 1, [], 0)]
/-- rd_init -/
def nb_b223 : List nb_B := [
  (0, [(.aload_n 0, 1)], .invokespecial 3, 3, [1], 900),
  (4, [(.aload_n 0, 1), (.new 9, 3)], .nop, 0, [2], 0),
  (8, [(.dup, 1)], .invokespecial 11, 3, [3], 283),
  (12, [(.putfield 12, 3)], .nop, 0, [4], 0),
  (15, [(.aload_n 0, 1), (.bipush 18, 2), (.newarray .long, 2)], .nop, 0, [5], 0),
  (20, [(.putfield 18, 3)], .nop, 0, [6], 0),
  (23, [(.aload_n 0, 1), (.bipush 18, 2), (.newarray .int, 2)], .nop, 0, [7], 0),
  (28, [(.putfield 22, 3)], .nop, 0, [8], 0),
  (31, [(.aload_n 0, 1), (.bipush 18, 2), (.newarray .int, 2)], .nop, 0, [9], 0),
  (36, [(.putfield 26, 3)], .nop, 0, [10], 0),
  (39, [(.aload_n 0, 1), (.aload_n 1, 1), (.putfield 29, 3)], .nop, 0, [11], 0),
  (44, [], .return_, 1, [], 0)]
/-- rd_reads -/
def nb_b224 : List nb_B := [
  (0, [(.aload_n 0, 1), (.getfield 12, 3), (.aload_n 1, 1), (.iload_n 2, 1)], .invokevirtual 33, 3, [1], 284),
  (9, [(.aload_n 0, 1), (.aload_n 3, 1), (.putfield 29, 3)], .nop, 0, [2], 0),
  (14, [(.aload_n 0, 1), (.getfield 29, 3)], .invokevirtual 37, 3, [3], 219),
  (21, [(.aload_n 0, 1), (.iconst 0, 1), (.putfield 42, 3)], .nop, 0, [4], 0),
  (26, [(.aload_n 0, 1), (.iconst 0, 1), (.putfield 46, 3)], .nop, 0, [5], 0),
  (31, [(.aload_n 0, 1), (.iconst (-1), 1), (.putfield 49, 3)], .nop, 0, [6], 0),
  (36, [(.aload_n 0, 1), (.iconst 0, 1), (.putfield 52, 3)], .nop, 0, [7], 0),
  (41, [(.aload_n 0, 1), (.aload_n 0, 1), (.getfield 12, 3), (.getfield 55, 3), (.iconst 0, 1), (.iaload, 1), (.putfield 58, 3)], .nop, 0, [8], 0),
  (54, [(.aload_n 0, 1), (.aload_n 0, 1), (.getfield 12, 3), (.getfield 61, 3), (.iconst 0, 1), (.laload, 1), (.putfield 64, 3)], .nop, 0, [9], 0),
  (67, [(.aload_n 0, 1)], .invokevirtual 68, 3, [10], 229),
  (71, [(.aload_n 0, 1), (.getfield 12, 3), (.getfield 71, 3), (.istore 4, 2)], .nop, 0, [11], 0),
  (80, [(.iload 4, 2)], .ifCond .le 32, 3, [17, 12], 0),
  (85, [(.aload_n 0, 1), (.getfield 46, 3)], .ifCond .ne 25, 3, [17, 13], 0),
  (92, [(.aload_n 0, 1), (.getfield 58, 3), (.iconst 4, 1)], .if_icmp .ne 17, 3, [17, 14], 0),
  (100, [(.aload_n 0, 1)], .invokevirtual 74, 3, [15], 225),
  (104, [(.aload_n 0, 1)], .invokevirtual 68, 3, [16], 229),
  (108, [(.iinc 4 (-1), 3)], .goto (-31), 3, [11], 0),
  (114, [(.aload_n 0, 1)], .invokevirtual 77, 3, [18], 228),
  (118, [(.aload_n 0, 1), (.getfield 46, 3)], .ifCond .ne 7, 3, [20, 19], 0),
  (125, [(.iconst 1, 1)], .goto 4, 3, [21], 0),
  (129, [(.iconst 0, 1)], .nop, 0, [21], 0),
  (130, [], .ireturn, 1, [], 0)]
/-- rd_step -/
def nb_b225 : List nb_B := [
  (0, [(.aload_n 0, 1), (.getfield 46, 3)], .ifCond .ne 69, 3, [6, 1], 0),
  (7, [(.aload_n 0, 1), (.getfield 52, 3), (.aload_n 0, 1), (.getfield 12, 3), (.getfield 71, 3)], .if_icmp .ge 55, 3, [6, 2], 0),
  (21, [(.aload_n 0, 1), (.getfield 52, 3), (.sipush 1000, 3)], .if_icmp .ge 45, 3, [6, 3], 0),
  (31, [(.aload_n 0, 1), (.dup, 1), (.getfield 52, 3), (.iconst 1, 1), (.iadd, 1), (.putfield 52, 3)], .nop, 0, [4], 0),
  (41, [(.aload_n 0, 1), (.aload_n 0, 1), (.getfield 12, 3), (.getfield 55, 3), (.aload_n 0, 1), (.getfield 52, 3), (.iaload, 1), (.putfield 58, 3)], .nop, 0, [5], 0),
  (57, [(.aload_n 0, 1), (.aload_n 0, 1), (.getfield 12, 3), (.getfield 61, 3), (.aload_n 0, 1), (.getfield 52, 3), (.laload, 1), (.putfield 64, 3)], .nop, 0, [6], 0),
  (73, [], .return_, 1, [], 0)]
/-- rd_fail -/
def nb_b226 : List nb_B := [
  (0, [(.aload_n 0, 1), (.getfield 46, 3)], .ifCond .ne 24, 3, [3, 1], 0),
  (7, [(.aload_n 0, 1), (.iload_n 1, 1), (.putfield 46, 3)], .nop, 0, [2], 0),
  (12, [(.aload_n 0, 1), (.aload_n 0, 1), (.getfield 12, 3), (.getfield 80, 3), (.aload_n 0, 1), (.getfield 52, 3), (.iaload, 1), (.putfield 49, 3)], .nop, 0, [3], 0),
  (28, [], .return_, 1, [], 0)]
/-- rd_stands -/
def nb_b227 : List nb_B := [
  (0, [(.aload_n 0, 1), (.getfield 58, 3), (.iconst 1, 1)], .if_icmp .eq 11, 3, [2, 1], 0),
  (8, [(.aload_n 0, 1), (.getfield 58, 3), (.iconst 2, 1)], .if_icmp .ne 19, 3, [5, 2], 0),
  (16, [(.aload_n 0, 1), (.getfield 64, 3), (.aload_n 1, 1)], .invokestatic 83, 3, [3], 292),
  (24, [(.lcmp, 1)], .ifCond .ne 7, 3, [5, 4], 0),
  (28, [(.iconst 1, 1)], .goto 4, 3, [6], 0),
  (32, [(.iconst 0, 1)], .nop, 0, [6], 0),
  (33, [], .ireturn, 1, [], 0)]
/-- rd_readEnd -/
def nb_b228 : List nb_B := [
  (0, [(.aload_n 0, 1), (.getfield 58, 3)], .ifCond .eq 11, 3, [3, 1], 0),
  (7, [(.aload_n 0, 1), (.iconst 1, 1)], .invokevirtual 87, 3, [2], 226),
  (12, [], .goto 39, 3, [7], 0),
  (15, [(.aload_n 0, 1), (.getfield 29, 3), (.getfield 91, 3)], .ifCond .eq 23, 3, [6, 4], 0),
  (25, [(.aload_n 0, 1), (.getfield 29, 3), (.getfield 94, 3)], .ifCond .eq 13, 3, [6, 5], 0),
  (35, [(.aload_n 0, 1), (.getfield 29, 3), (.getfield 97, 3)], .ifCond .ne 9, 3, [7, 6], 0),
  (45, [(.aload_n 0, 1), (.bipush 6, 2)], .invokevirtual 87, 3, [7], 226),
  (51, [], .return_, 1, [], 0)]
/-- rd_readLine -/
def nb_b229 : List nb_B := [
  (0, [(.aload_n 0, 1), (.getfield 58, 3), (.iconst 2, 1)], .if_icmp .eq 11, 3, [3, 1], 0),
  (8, [(.aload_n 0, 1), (.iconst 1, 1)], .invokevirtual 87, 3, [2], 226),
  (13, [], .goto 106, 3, [27], 0),
  (16, [(.aload_n 0, 1), (.ldc 100, 2)], .invokevirtual 101, 3, [4], 227),
  (22, [], .ifCond .eq 10, 3, [7, 5], 0),
  (25, [(.aload_n 0, 1)], .invokevirtual 105, 3, [6], 230),
  (29, [], .goto 90, 3, [27], 0),
  (32, [(.aload_n 0, 1), (.getfield 29, 3), (.getfield 108, 3)], .ifCond .ne 12, 3, [10, 8], 0),
  (42, [(.aload_n 0, 1), (.bipush 6, 2)], .invokevirtual 87, 3, [9], 226),
  (48, [], .goto 71, 3, [27], 0),
  (51, [(.aload_n 0, 1), (.ldc 110, 2)], .invokevirtual 101, 3, [11], 227),
  (57, [], .ifCond .eq 10, 3, [14, 12], 0),
  (60, [(.aload_n 0, 1)], .invokevirtual 112, 3, [13], 231),
  (64, [], .goto 55, 3, [27], 0),
  (67, [(.aload_n 0, 1), (.ldc 115, 2)], .invokevirtual 101, 3, [15], 227),
  (73, [], .ifCond .eq 10, 3, [18, 16], 0),
  (76, [(.aload_n 0, 1)], .invokevirtual 116, 3, [17], 232),
  (80, [], .goto 39, 3, [27], 0),
  (83, [(.aload_n 0, 1), (.ldc 119, 2)], .invokevirtual 101, 3, [19], 227),
  (89, [], .ifCond .eq 10, 3, [22, 20], 0),
  (92, [(.aload_n 0, 1)], .invokevirtual 121, 3, [21], 233),
  (96, [], .goto 23, 3, [27], 0),
  (99, [(.aload_n 0, 1), (.ldc 124, 2)], .invokevirtual 101, 3, [23], 227),
  (105, [], .ifCond .eq 10, 3, [26, 24], 0),
  (108, [(.aload_n 0, 1)], .invokevirtual 126, 3, [25], 236),
  (112, [], .goto 7, 3, [27], 0),
  (115, [(.aload_n 0, 1)], .invokevirtual 129, 3, [27], 237),
  (119, [], .return_, 1, [], 0)]
/-- rd_readHouse -/
def nb_b230 : List nb_B := [
  (0, [(.aload_n 0, 1), (.getfield 29, 3), (.getfield 108, 3)], .ifCond .eq 8, 3, [2, 1], 0),
  (10, [(.aload_n 0, 1), (.iconst 3, 1)], .invokevirtual 87, 3, [2], 226),
  (15, [(.aload_n 0, 1)], .invokevirtual 74, 3, [3], 225),
  (19, [(.aload_n 0, 1), (.getfield 29, 3), (.aload_n 0, 1), (.ldc 132, 2), (.iconst 1, 1), (.bipush 20, 2)], .invokevirtual 134, 3, [4], 243),
  (32, [(.putfield 108, 3)], .nop, 0, [5], 0),
  (35, [(.aload_n 0, 1), (.getfield 29, 3), (.aload_n 0, 1), (.ldc 138, 2), (.iconst 1, 1), (.sipush 600, 3)], .invokevirtual 134, 3, [6], 243),
  (49, [(.putfield 140, 3)], .nop, 0, [7], 0),
  (52, [], .return_, 1, [], 0)]
/-- rd_readDrink -/
def nb_b231 : List nb_B := [
  (0, [(.aload_n 0, 1), (.aload_n 0, 1), (.getfield 29, 3), (.getfield 91, 3), (.iconst 5, 1)], .invokevirtual 142, 3, [1], 238),
  (12, [(.aload_n 0, 1), (.iconst 0, 1), (.aload_n 0, 1), (.getfield 29, 3), (.getfield 91, 3)], .invokevirtual 146, 3, [2], 239),
  (24, [(.aload_n 0, 1), (.ldc 149, 2), (.iconst 1, 1), (.bipush 90, 2)], .invokevirtual 134, 3, [3], 243),
  (33, [(.istore_n 1, 1), (.aload_n 0, 1), (.ldc 151, 2), (.iconst 0, 1), (.iload_n 1, 1)], .invokevirtual 134, 3, [4], 243),
  (42, [(.istore_n 2, 1), (.aload_n 0, 1), (.ldc 153, 2), (.iconst 0, 1), (.bipush 99, 2)], .invokevirtual 134, 3, [5], 243),
  (52, [(.istore_n 3, 1), (.aload_n 0, 1), (.getfield 46, 3)], .ifCond .ne 75, 3, [11, 6], 0),
  (60, [(.aload_n 0, 1), (.getfield 29, 3), (.getfield 91, 3), (.iconst 5, 1)], .if_icmp .ge 64, 3, [11, 7], 0),
  (71, [(.aload_n 0, 1), (.getfield 29, 3), (.getfield 155, 3), (.aload_n 0, 1), (.getfield 29, 3), (.getfield 91, 3), (.iload_n 1, 1), (.iastore, 1)], .nop, 0, [8], 0),
  (87, [(.aload_n 0, 1), (.getfield 29, 3), (.getfield 157, 3), (.aload_n 0, 1), (.getfield 29, 3), (.getfield 91, 3), (.iload_n 2, 1), (.iastore, 1)], .nop, 0, [9], 0),
  (103, [(.aload_n 0, 1), (.getfield 29, 3), (.getfield 159, 3), (.aload_n 0, 1), (.getfield 29, 3), (.getfield 91, 3), (.iload_n 3, 1), (.iastore, 1)], .nop, 0, [10], 0),
  (119, [(.aload_n 0, 1), (.getfield 29, 3), (.dup, 1), (.getfield 91, 3), (.iconst 1, 1), (.iadd, 1), (.putfield 91, 3)], .nop, 0, [11], 0),
  (132, [], .return_, 1, [], 0)]
/-- rd_readStaff -/
def nb_b232 : List nb_B := [
  (0, [(.aload_n 0, 1), (.aload_n 0, 1), (.getfield 29, 3), (.getfield 94, 3), (.iconst 3, 1)], .invokevirtual 142, 3, [1], 238),
  (12, [(.aload_n 0, 1), (.iconst 1, 1), (.aload_n 0, 1), (.getfield 29, 3), (.getfield 94, 3)], .invokevirtual 146, 3, [2], 239),
  (24, [(.aload_n 0, 1)], .invokevirtual 162, 3, [3], 245),
  (28, [(.istore_n 1, 1), (.aload_n 0, 1), (.getfield 29, 3), (.getfield 108, 3), (.iconst 1, 1), (.isub, 1), (.istore_n 2, 1), (.aload_n 0, 1), (.ldc 166, 2), (.iconst 0, 1), (.iload_n 2, 1)], .invokevirtual 134, 3, [4], 243),
  (47, [(.istore_n 3, 1), (.aload_n 0, 1), (.ldc 168, 2), (.iconst 0, 1), (.iload_n 2, 1)], .invokevirtual 134, 3, [5], 243),
  (56, [(.istore 4, 2), (.aload_n 0, 1), (.ldc 170, 2), (.iload 4, 2), (.iload_n 2, 1)], .invokevirtual 134, 3, [6], 243),
  (67, [(.istore 5, 2), (.aload_n 0, 1), (.ldc 172, 2), (.iconst 0, 1), (.bipush 9, 2)], .invokevirtual 134, 3, [7], 243),
  (78, [(.istore 6, 2), (.aload_n 0, 1), (.ldc 173, 2), (.iconst 1, 1), (.iconst 2, 1)], .invokevirtual 134, 3, [8], 243),
  (88, [(.istore 7, 2), (.aload_n 0, 1), (.getfield 46, 3)], .ifCond .ne 84, 3, [17, 9], 0),
  (97, [(.aload_n 0, 1), (.getfield 29, 3), (.getfield 94, 3), (.iconst 3, 1)], .if_icmp .ge 73, 3, [17, 10], 0),
  (108, [(.aload_n 0, 1), (.getfield 29, 3), (.getfield 175, 3), (.aload_n 0, 1), (.getfield 29, 3), (.getfield 94, 3), (.aaload, 1), (.astore 8, 2), (.aload 8, 2)], .invokevirtual 179, 3, [11], 272),
  (130, [(.aload 8, 2), (.iload_n 1, 1), (.putfield 184, 3)], .nop, 0, [12], 0),
  (136, [(.aload 8, 2), (.iload_n 3, 1), (.putfield 186, 3)], .nop, 0, [13], 0),
  (142, [(.aload 8, 2), (.iload 4, 2), (.iload 5, 2)], .invokevirtual 187, 3, [14], 274),
  (151, [(.aload 8, 2), (.iload 6, 2), (.putfield 190, 3)], .nop, 0, [15], 0),
  (158, [(.aload 8, 2), (.iload 7, 2), (.putfield 192, 3)], .nop, 0, [16], 0),
  (165, [(.aload_n 0, 1), (.getfield 29, 3), (.dup, 1), (.getfield 94, 3), (.iconst 1, 1), (.iadd, 1), (.putfield 94, 3)], .nop, 0, [17], 0),
  (178, [], .return_, 1, [], 0)]
/-- rd_readPerson -/
def nb_b233 : List nb_B := [
  (0, [(.aload_n 0, 1), (.aload_n 0, 1), (.getfield 29, 3), (.getfield 97, 3), (.bipush 10, 2)], .invokevirtual 142, 3, [1], 238),
  (13, [(.aload_n 0, 1), (.iconst 2, 1), (.aload_n 0, 1), (.getfield 29, 3), (.getfield 97, 3)], .invokevirtual 146, 3, [2], 239),
  (25, [(.aload_n 0, 1)], .invokevirtual 194, 3, [3], 246),
  (29, [(.istore_n 1, 1), (.iconst 0, 1), (.istore_n 2, 1), (.iload_n 1, 1), (.iconst 1, 1)], .if_icmp .eq 8, 3, [5, 4], 0),
  (37, [(.iload_n 1, 1), (.iconst 2, 1)], .if_icmp .ne 11, 3, [7, 5], 0),
  (42, [(.aload_n 0, 1), (.iconst 1, 1), (.bipush 99, 2)], .invokevirtual 197, 3, [6], 244),
  (49, [(.istore_n 2, 1)], .nop, 0, [7], 0),
  (50, [(.aload_n 0, 1), (.ldc 201, 2), (.iconst 0, 1), (.aload_n 0, 1), (.getfield 29, 3), (.getfield 140, 3)], .invokevirtual 134, 3, [8], 243),
  (64, [(.istore_n 3, 1), (.aload_n 0, 1), (.ldc 166, 2), (.iconst 0, 1), (.aload_n 0, 1), (.getfield 29, 3), (.getfield 108, 3), (.iconst 1, 1), (.isub, 1)], .invokevirtual 134, 3, [9], 243),
  (81, [(.istore 4, 2), (.aload_n 0, 1), (.ldc 203, 2), (.iconst 0, 1), (.sipush 600, 3)], .invokevirtual 134, 3, [10], 243),
  (93, [(.istore 5, 2), (.aload_n 0, 1), (.ldc 205, 2), (.iconst 0, 1), (.bipush 99, 2)], .invokevirtual 134, 3, [11], 243),
  (104, [(.istore 6, 2), (.aload_n 0, 1), (.ldc 207, 2)], .invokevirtual 209, 3, [12], 242),
  (112, [(.aload_n 0, 1), (.getfield 46, 3)], .ifCond .ne 98, 3, [21, 13], 0),
  (119, [(.aload_n 0, 1), (.getfield 29, 3), (.getfield 97, 3), (.bipush 10, 2)], .if_icmp .ge 86, 3, [21, 14], 0),
  (131, [(.aload_n 0, 1), (.getfield 29, 3), (.getfield 213, 3), (.aload_n 0, 1), (.getfield 29, 3), (.getfield 97, 3), (.aaload, 1), (.astore 7, 2), (.aload 7, 2), (.iload_n 3, 1), (.putfield 217, 3)], .nop, 0, [15], 0),
  (154, [(.aload 7, 2), (.iload 4, 2), (.putfield 221, 3)], .nop, 0, [16], 0),
  (161, [(.aload 7, 2), (.iload 5, 2), (.putfield 222, 3)], .nop, 0, [17], 0),
  (168, [(.aload 7, 2), (.iload 6, 2), (.putfield 224, 3)], .nop, 0, [18], 0),
  (175, [(.aload 7, 2), (.iload_n 1, 1), (.iload_n 2, 1)], .invokevirtual 226, 3, [19], 216),
  (182, [(.aload_n 0, 1), (.aload_n 0, 1), (.getfield 29, 3), (.getfield 229, 3), (.aload_n 0, 1), (.getfield 29, 3), (.getfield 97, 3), (.aaload, 1)], .invokevirtual 233, 3, [20], 234),
  (201, [(.aload_n 0, 1), (.getfield 29, 3), (.dup, 1), (.getfield 97, 3), (.iconst 1, 1), (.iadd, 1), (.putfield 97, 3)], .nop, 0, [21], 0),
  (214, [], .return_, 1, [], 0)]
/-- rd_readOrders -/
def nb_b234 : List nb_B := [
  (0, [(.aload_n 0, 1), (.aload_n 1, 1), (.iconst 1, 1)], .invokevirtual 237, 3, [1], 235),
  (6, [(.iconst 1, 1), (.istore_n 2, 1)], .nop, 0, [2], 0),
  (8, [(.iload_n 2, 1), (.iconst 3, 1)], .if_icmp .gt 43, 3, [11, 3], 0),
  (13, [(.aload_n 0, 1), (.getfield 46, 3)], .ifCond .ne 36, 3, [11, 4], 0),
  (20, [(.aload_n 0, 1), (.getfield 58, 3), (.iconst 5, 1)], .if_icmp .ne 28, 3, [11, 5], 0),
  (28, [(.aload_n 0, 1)], .invokevirtual 74, 3, [6], 225),
  (32, [(.aload_n 0, 1), (.aload_n 1, 1), (.iload_n 2, 1), (.iconst 3, 1)], .if_icmp .ge 7, 3, [8, 7], 0),
  (39, [(.iconst 1, 1)], .goto 4, 3, [9], 0),
  (43, [(.iconst 0, 1)], .nop, 0, [9], 0),
  (44, [], .invokevirtual 237, 3, [10], 235),
  (47, [(.iinc 2 1, 3)], .goto (-42), 3, [2], 0),
  (53, [], .return_, 1, [], 0)]
/-- rd_readOrder -/
def nb_b235 : List nb_B := [
  (0, [(.aload_n 0, 1), (.iconst 0, 1)], .invokevirtual 241, 3, [1], 241),
  (5, [(.istore_n 3, 1), (.iload_n 3, 1)], .ifCond .lt 8, 3, [3, 2], 0),
  (10, [(.iload_n 3, 1), (.iconst 5, 1)], .if_icmp .lt 4, 3, [4, 3], 0),
  (15, [], .return_, 1, [], 0),
  (16, [(.aload_n 1, 1), (.iload_n 3, 1), (.iaload, 1)], .ifCond .le 11, 3, [7, 5], 0),
  (22, [(.aload_n 0, 1), (.iconst 3, 1)], .invokevirtual 87, 3, [6], 226),
  (27, [], .goto 12, 3, [9], 0),
  (30, [(.iload_n 2, 1)], .ifCond .ne 8, 3, [9, 8], 0),
  (34, [(.aload_n 0, 1), (.iconst 5, 1)], .invokevirtual 87, 3, [9], 226),
  (39, [(.aload_n 0, 1)], .invokevirtual 74, 3, [10], 225),
  (43, [(.aload_n 1, 1), (.iload_n 3, 1), (.aload_n 0, 1), (.iconst 1, 1), (.bipush 9, 2)], .invokevirtual 197, 3, [11], 244),
  (52, [(.iastore, 1)], .nop, 0, [12], 0),
  (53, [], .return_, 1, [], 0)]
/-- rd_readShelf -/
def nb_b236 : List nb_B := [
  (0, [(.aload_n 0, 1)], .invokevirtual 74, 3, [1], 225),
  (4, [(.aload_n 0, 1), (.iconst 2, 1)], .invokevirtual 241, 3, [2], 241),
  (9, [(.istore_n 1, 1), (.iload_n 1, 1)], .ifCond .lt 9, 3, [4, 3], 0),
  (14, [(.iload_n 1, 1), (.bipush 10, 2)], .if_icmp .lt 4, 3, [5, 4], 0),
  (20, [], .return_, 1, [], 0),
  (21, [(.aload_n 0, 1), (.getfield 29, 3), (.getfield 213, 3), (.iload_n 1, 1), (.aaload, 1), (.getfield 245, 3), (.bipush (-2), 2)], .if_icmp .eq 8, 3, [7, 6], 0),
  (38, [(.aload_n 0, 1), (.iconst 3, 1)], .invokevirtual 87, 3, [7], 226),
  (43, [(.aload_n 0, 1)], .invokevirtual 74, 3, [8], 225),
  (47, [(.aload_n 0, 1), (.getfield 29, 3), (.getfield 213, 3), (.iload_n 1, 1), (.aaload, 1), (.aload_n 0, 1), (.ldc 247, 2), (.iconst 0, 1), (.aload_n 0, 1), (.getfield 29, 3), (.getfield 140, 3)], .invokevirtual 134, 3, [9], 243),
  (70, [(.putfield 245, 3)], .nop, 0, [10], 0),
  (73, [(.aload_n 0, 1), (.getfield 29, 3), (.dup, 1), (.getfield 249, 3), (.iconst 1, 1), (.iadd, 1), (.putfield 249, 3)], .nop, 0, [11], 0),
  (86, [], .return_, 1, [], 0)]
/-- rd_readTelling -/
def nb_b237 : List nb_B := [
  (0, [(.aload_n 0, 1), (.aload_n 0, 1), (.getfield 29, 3), (.getfield 252, 3), (.bipush 8, 2)], .invokevirtual 142, 3, [1], 238),
  (13, [(.aload_n 0, 1), (.iconst 2, 1)], .invokevirtual 241, 3, [2], 241),
  (18, [(.istore_n 1, 1), (.aload_n 0, 1)], .invokevirtual 74, 3, [3], 225),
  (23, [(.aload_n 0, 1), (.iconst 2, 1)], .invokevirtual 241, 3, [4], 241),
  (28, [(.istore_n 2, 1), (.aload_n 0, 1)], .invokevirtual 74, 3, [5], 225),
  (33, [(.aload_n 0, 1), (.ldc 255, 2)], .invokevirtual 209, 3, [6], 242),
  (39, [(.aload_n 0, 1), (.iconst 2, 1)], .invokevirtual 241, 3, [7], 241),
  (44, [(.istore_n 3, 1), (.iload_n 3, 1), (.iload_n 2, 1)], .if_icmp .ne 8, 3, [9, 8], 0),
  (50, [(.aload_n 0, 1), (.iconst 3, 1)], .invokevirtual 87, 3, [9], 226),
  (55, [(.aload_n 0, 1)], .invokevirtual 74, 3, [10], 225),
  (59, [(.aload_n 0, 1), (.getfield 46, 3)], .ifCond .ne 76, 3, [16, 11], 0),
  (66, [(.aload_n 0, 1), (.getfield 29, 3), (.getfield 252, 3), (.bipush 8, 2)], .if_icmp .ge 64, 3, [16, 12], 0),
  (78, [(.aload_n 0, 1), (.getfield 29, 3), (.getfield 257, 3), (.aload_n 0, 1), (.getfield 29, 3), (.getfield 252, 3), (.iload_n 1, 1), (.iastore, 1)], .nop, 0, [13], 0),
  (94, [(.aload_n 0, 1), (.getfield 29, 3), (.getfield 260, 3), (.aload_n 0, 1), (.getfield 29, 3), (.getfield 252, 3), (.iload_n 2, 1), (.iastore, 1)], .nop, 0, [14], 0),
  (110, [(.aload_n 0, 1), (.getfield 29, 3), (.getfield 263, 3), (.aload_n 0, 1), (.getfield 29, 3), (.getfield 252, 3), (.iload_n 3, 1), (.iastore, 1)], .nop, 0, [15], 0),
  (126, [(.aload_n 0, 1), (.getfield 29, 3), (.dup, 1), (.getfield 252, 3), (.iconst 1, 1), (.iadd, 1), (.putfield 252, 3)], .nop, 0, [16], 0),
  (139, [], .return_, 1, [], 0)]
/-- rd_beginLine -/
def nb_b238 : List nb_B := [
  (0, [(.iload_n 1, 1), (.iload_n 2, 1)], .if_icmp .lt 8, 3, [2, 1], 0),
  (5, [(.aload_n 0, 1), (.iconst 5, 1)], .invokevirtual 87, 3, [2], 226),
  (10, [(.aload_n 0, 1)], .invokevirtual 74, 3, [3], 225),
  (14, [], .return_, 1, [], 0)]
/-- rd_tellName -/
def nb_b239 : List nb_B := [
  (0, [(.aload_n 0, 1), (.getfield 58, 3), (.iconst 1, 1)], .if_icmp .eq 11, 3, [3, 1], 0),
  (8, [(.aload_n 0, 1), (.iconst 1, 1)], .invokevirtual 87, 3, [2], 226),
  (13, [], .goto 77, 3, [13], 0),
  (16, [(.aload_n 0, 1)], .invokevirtual 266, 3, [4], 240),
  (20, [], .ifCond .lt 11, 3, [7, 5], 0),
  (23, [(.aload_n 0, 1), (.iconst 3, 1)], .invokevirtual 87, 3, [6], 226),
  (28, [], .goto 62, 3, [13], 0),
  (31, [(.aload_n 0, 1), (.getfield 46, 3)], .ifCond .ne 55, 3, [13, 8], 0),
  (38, [(.aload_n 0, 1), (.getfield 42, 3), (.bipush 18, 2)], .if_icmp .ge 46, 3, [13, 9], 0),
  (47, [(.aload_n 0, 1), (.getfield 18, 3), (.aload_n 0, 1), (.getfield 42, 3), (.aload_n 0, 1), (.getfield 64, 3), (.lastore, 1)], .nop, 0, [10], 0),
  (60, [(.aload_n 0, 1), (.getfield 22, 3), (.aload_n 0, 1), (.getfield 42, 3), (.iload_n 1, 1), (.iastore, 1)], .nop, 0, [11], 0),
  (70, [(.aload_n 0, 1), (.getfield 26, 3), (.aload_n 0, 1), (.getfield 42, 3), (.iload_n 2, 1), (.iastore, 1)], .nop, 0, [12], 0),
  (80, [(.aload_n 0, 1), (.dup, 1), (.getfield 42, 3), (.iconst 1, 1), (.iadd, 1), (.putfield 42, 3)], .nop, 0, [13], 0),
  (90, [(.aload_n 0, 1)], .invokevirtual 74, 3, [14], 225),
  (94, [], .return_, 1, [], 0)]
/-- rd_find -/
def nb_b240 : List nb_B := [
  (0, [(.iconst 0, 1), (.istore_n 1, 1)], .nop, 0, [1], 0),
  (2, [(.iload_n 1, 1), (.aload_n 0, 1), (.getfield 42, 3)], .if_icmp .ge 25, 3, [5, 2], 0),
  (10, [(.aload_n 0, 1), (.getfield 18, 3), (.iload_n 1, 1), (.laload, 1), (.aload_n 0, 1), (.getfield 64, 3), (.lcmp, 1)], .ifCond .ne 5, 3, [4, 3], 0),
  (24, [(.iload_n 1, 1)], .ireturn, 1, [], 0),
  (26, [(.iinc 1 1, 3)], .goto (-27), 3, [1], 0),
  (32, [(.iconst (-1), 1)], .ireturn, 1, [], 0)]
/-- rd_known -/
def nb_b241 : List nb_B := [
  (0, [(.aload_n 0, 1)], .invokevirtual 266, 3, [1], 240),
  (4, [(.istore_n 2, 1), (.aload_n 0, 1), (.getfield 58, 3), (.iconst 1, 1)], .if_icmp .eq 11, 3, [4, 2], 0),
  (13, [(.aload_n 0, 1), (.iconst 1, 1)], .invokevirtual 87, 3, [3], 226),
  (18, [], .goto 22, 3, [7], 0),
  (21, [(.iload_n 2, 1)], .ifCond .lt 13, 3, [6, 5], 0),
  (25, [(.aload_n 0, 1), (.getfield 22, 3), (.iload_n 2, 1), (.iaload, 1), (.iload_n 1, 1)], .if_icmp .eq 8, 3, [7, 6], 0),
  (35, [(.aload_n 0, 1), (.iconst 2, 1)], .invokevirtual 87, 3, [7], 226),
  (40, [(.aload_n 0, 1), (.getfield 46, 3)], .ifCond .ne 16, 3, [10, 8], 0),
  (47, [(.iload_n 2, 1)], .ifCond .lt 12, 3, [10, 9], 0),
  (51, [(.aload_n 0, 1), (.getfield 26, 3), (.iload_n 2, 1), (.iaload, 1)], .goto 4, 3, [11], 0),
  (60, [(.iconst (-1), 1)], .nop, 0, [11], 0),
  (61, [], .ireturn, 1, [], 0)]
/-- rd_expect -/
def nb_b242 : List nb_B := [
  (0, [(.aload_n 0, 1), (.aload_n 1, 1)], .invokevirtual 101, 3, [1], 227),
  (5, [], .ifCond .ne 8, 3, [3, 2], 0),
  (8, [(.aload_n 0, 1), (.iconst 1, 1)], .invokevirtual 87, 3, [3], 226),
  (13, [(.aload_n 0, 1)], .invokevirtual 74, 3, [4], 225),
  (17, [], .return_, 1, [], 0)]
/-- rd_number -/
def nb_b243 : List nb_B := [
  (0, [(.aload_n 0, 1), (.aload_n 1, 1)], .invokevirtual 101, 3, [1], 227),
  (5, [], .ifCond .ne 8, 3, [3, 2], 0),
  (8, [(.aload_n 0, 1), (.iconst 1, 1)], .invokevirtual 87, 3, [3], 226),
  (13, [(.aload_n 0, 1)], .invokevirtual 74, 3, [4], 225),
  (17, [(.aload_n 0, 1), (.iload_n 2, 1), (.iload_n 3, 1)], .invokevirtual 197, 3, [5], 244),
  (23, [], .ireturn, 1, [], 0)]
/-- rd_whole -/
def nb_b244 : List nb_B := [
  (0, [(.aload_n 0, 1), (.getfield 64, 3), (.l2i, 1), (.istore_n 3, 1), (.aload_n 0, 1), (.getfield 58, 3), (.iconst 3, 1)], .if_icmp .eq 11, 3, [3, 1], 0),
  (14, [(.aload_n 0, 1), (.iconst 1, 1)], .invokevirtual 87, 3, [2], 226),
  (19, [], .goto 18, 3, [6], 0),
  (22, [(.iload_n 3, 1), (.iload_n 1, 1)], .if_icmp .lt 8, 3, [5, 4], 0),
  (27, [(.iload_n 3, 1), (.iload_n 2, 1)], .if_icmp .le 8, 3, [6, 5], 0),
  (32, [(.aload_n 0, 1), (.iconst 4, 1)], .invokevirtual 87, 3, [6], 226),
  (37, [(.aload_n 0, 1)], .invokevirtual 74, 3, [7], 225),
  (41, [(.iload_n 3, 1)], .ireturn, 1, [], 0)]
/-- rd_rule -/
def nb_b245 : List nb_B := [
  (0, [(.iconst (-1), 1), (.istore_n 1, 1), (.aload_n 0, 1), (.ldc_w 269, 3)], .invokevirtual 101, 3, [1], 227),
  (9, [], .ifCond .eq 8, 3, [3, 2], 0),
  (12, [(.iconst 0, 1), (.istore_n 1, 1)], .goto 68, 3, [16], 0),
  (17, [(.aload_n 0, 1), (.ldc_w 271, 3)], .invokevirtual 101, 3, [4], 227),
  (24, [], .ifCond .eq 8, 3, [6, 5], 0),
  (27, [(.iconst 1, 1), (.istore_n 1, 1)], .goto 53, 3, [16], 0),
  (32, [(.aload_n 0, 1), (.ldc_w 273, 3)], .invokevirtual 101, 3, [7], 227),
  (39, [], .ifCond .eq 8, 3, [9, 8], 0),
  (42, [(.iconst 2, 1), (.istore_n 1, 1)], .goto 38, 3, [16], 0),
  (47, [(.aload_n 0, 1), (.ldc_w 275, 3)], .invokevirtual 101, 3, [10], 227),
  (54, [], .ifCond .eq 8, 3, [12, 11], 0),
  (57, [(.iconst 3, 1), (.istore_n 1, 1)], .goto 23, 3, [16], 0),
  (62, [(.aload_n 0, 1), (.ldc_w 277, 3)], .invokevirtual 101, 3, [13], 227),
  (69, [], .ifCond .eq 8, 3, [15, 14], 0),
  (72, [(.iconst 4, 1), (.istore_n 1, 1)], .goto 8, 3, [16], 0),
  (77, [(.aload_n 0, 1), (.iconst 1, 1)], .invokevirtual 87, 3, [16], 226),
  (82, [(.aload_n 0, 1)], .invokevirtual 74, 3, [17], 225),
  (86, [(.iload_n 1, 1)], .ireturn, 1, [], 0)]
/-- rd_manner -/
def nb_b246 : List nb_B := [
  (0, [(.iconst (-1), 1), (.istore_n 1, 1), (.aload_n 0, 1), (.ldc_w 279, 3)], .invokevirtual 101, 3, [1], 227),
  (9, [], .ifCond .eq 8, 3, [3, 2], 0),
  (12, [(.iconst 0, 1), (.istore_n 1, 1)], .goto 53, 3, [13], 0),
  (17, [(.aload_n 0, 1), (.ldc_w 281, 3)], .invokevirtual 101, 3, [4], 227),
  (24, [], .ifCond .eq 8, 3, [6, 5], 0),
  (27, [(.iconst 1, 1), (.istore_n 1, 1)], .goto 38, 3, [13], 0),
  (32, [(.aload_n 0, 1), (.ldc_w 283, 3)], .invokevirtual 101, 3, [7], 227),
  (39, [], .ifCond .eq 8, 3, [9, 8], 0),
  (42, [(.iconst 2, 1), (.istore_n 1, 1)], .goto 23, 3, [13], 0),
  (47, [(.aload_n 0, 1), (.ldc_w 277, 3)], .invokevirtual 101, 3, [10], 227),
  (54, [], .ifCond .eq 8, 3, [12, 11], 0),
  (57, [(.iconst 3, 1), (.istore_n 1, 1)], .goto 8, 3, [13], 0),
  (62, [(.aload_n 0, 1), (.iconst 1, 1)], .invokevirtual 87, 3, [13], 226),
  (67, [(.aload_n 0, 1)], .invokevirtual 74, 3, [14], 225),
  (71, [(.iload_n 1, 1)], .ireturn, 1, [], 0)]
/-- rw_init -/
def nb_b247 : List nb_B := [
  (0, [(.aload_n 0, 1)], .invokespecial 3, 3, [1], 900),
  (4, [(.aload_n 0, 1), (.bipush 7, 2), (.newarray .int, 2)], .nop, 0, [2], 0),
  (9, [(.putfield 9, 3)], .nop, 0, [3], 0),
  (12, [(.aload_n 0, 1), (.bipush 8, 2), (.bipush 7, 2), (.multianewarray 15 2, 4)], .nop, 0, [4], 0),
  (21, [(.putfield 17, 3)], .nop, 0, [5], 0),
  (24, [(.aload_n 0, 1), (.sipush 1024, 3), (.newarray .int, 2)], .nop, 0, [6], 0),
  (30, [(.putfield 20, 3)], .nop, 0, [7], 0),
  (33, [], .return_, 1, [], 0)]
/-- rw_settle -/
def nb_b248 : List nb_B := [
  (0, [(.aload_n 0, 1), (.bipush 7, 2), (.aload_n 1, 1), (.iconst 1, 1)], .invokevirtual 23, 3, [1], 265),
  (8, [], .invokestatic 29, 3, [2], 906),
  (11, [(.putfield 35, 3)], .nop, 0, [3], 0),
  (14, [(.iconst 0, 1), (.istore_n 3, 1)], .nop, 0, [4], 0),
  (16, [(.iload_n 3, 1), (.aload_n 0, 1), (.getfield 35, 3)], .if_icmp .ge 20, 3, [8, 5], 0),
  (24, [(.aload_n 0, 1), (.getfield 9, 3), (.iload_n 3, 1), (.aload_n 1, 1), (.iload_n 3, 1)], .invokevirtual 39, 3, [6], 0),
  (34, [(.iastore, 1)], .nop, 0, [7], 0),
  (35, [(.iinc 3 1, 3)], .goto (-22), 3, [4], 0),
  (41, [(.iconst 0, 1), (.istore_n 3, 1)], .nop, 0, [9], 0),
  (43, [(.iload_n 3, 1), (.aload_n 0, 1), (.getfield 35, 3)], .if_icmp .ge 87, 3, [18, 10], 0),
  (51, [(.iconst 0, 1), (.istore 4, 2)], .nop, 0, [11], 0),
  (54, [(.iload 4, 2), (.aload_n 0, 1), (.getfield 35, 3)], .if_icmp .ge 38, 3, [15, 12], 0),
  (63, [(.aload_n 0, 1), (.getfield 17, 3), (.iload 4, 2), (.aaload, 1), (.iload_n 3, 1), (.aload_n 1, 1), (.getfield 42, 3), (.aload_n 0, 1), (.getfield 9, 3), (.iload 4, 2), (.iaload, 1), (.aload_n 0, 1), (.getfield 9, 3), (.iload_n 3, 1), (.iaload, 1)], .invokevirtual 46, 3, [13], 220),
  (91, [(.iastore, 1)], .nop, 0, [14], 0),
  (92, [(.iinc 4 1, 3)], .goto (-41), 3, [11], 0),
  (98, [(.aload_n 0, 1), (.getfield 17, 3), (.bipush 7, 2), (.aaload, 1), (.iload_n 3, 1), (.aload_n 1, 1), (.getfield 42, 3), (.aload_n 1, 1), (.getfield 51, 3), (.iload_n 2, 1), (.aaload, 1), (.getfield 55, 3), (.aload_n 0, 1), (.getfield 9, 3), (.iload_n 3, 1), (.iaload, 1)], .invokevirtual 46, 3, [16], 220),
  (128, [(.iastore, 1)], .nop, 0, [17], 0),
  (129, [(.iinc 3 1, 3)], .goto (-89), 3, [9], 0),
  (135, [(.iconst 1, 1), (.istore_n 3, 1)], .nop, 0, [19], 0),
  (137, [(.iload_n 3, 1), (.iconst 1, 1), (.aload_n 0, 1), (.getfield 35, 3), (.ishl, 1)], .if_icmp .ge 51, 3, [27, 20], 0),
  (147, [(.iconst 0, 1), (.istore 4, 2)], .nop, 0, [21], 0),
  (150, [(.iload 4, 2), (.bipush 8, 2)], .if_icmp .ge 35, 3, [26, 22], 0),
  (157, [(.aload_n 0, 1), (.getfield 20, 3), (.iload_n 3, 1), (.bipush 8, 2), (.imul, 1), (.iload 4, 2), (.iadd, 1), (.aload_n 0, 1), (.iload_n 3, 1), (.iload 4, 2), (.aload_n 0, 1), (.iload_n 3, 1), (.iload 4, 2)], .invokevirtual 60, 3, [23], 250),
  (179, [], .invokevirtual 63, 3, [24], 249),
  (182, [(.iastore, 1)], .nop, 0, [25], 0),
  (183, [(.iinc 4 1, 3)], .goto (-36), 3, [21], 0),
  (189, [(.iinc 3 1, 3)], .goto (-55), 3, [19], 0),
  (195, [], .return_, 1, [], 0)]
/-- rw_sumWith -/
def nb_b249 : List nb_B := [
  (0, [(.aload_n 0, 1), (.getfield 17, 3), (.iload_n 2, 1), (.aaload, 1), (.iload_n 3, 1), (.iaload, 1), (.iload_n 1, 1)], .invokestatic 67, 3, [1], 294),
  (12, [(.imul, 1), (.aload_n 0, 1), (.getfield 20, 3), (.iload_n 1, 1), (.iconst 1, 1), (.iload_n 3, 1), (.ishl, 1), (.iconst (-1), 1), (.ixor, 1), (.iand, 1), (.bipush 8, 2), (.imul, 1), (.iload_n 3, 1), (.iadd, 1), (.iaload, 1), (.iadd, 1)], .ireturn, 1, [], 0)]
/-- rw_firstOf -/
def nb_b250 : List nb_B := [
  (0, [(.iconst 0, 1), (.istore_n 3, 1), (.ldc 72, 2), (.istore 4, 2), (.iconst 0, 1), (.istore 5, 2)], .nop, 0, [1], 0),
  (9, [(.iload 5, 2), (.aload_n 0, 1), (.getfield 35, 3)], .if_icmp .ge 43, 3, [7, 2], 0),
  (18, [(.iload_n 1, 1), (.iload 5, 2), (.ishr, 1), (.iconst 1, 1), (.iand, 1), (.iconst 1, 1)], .if_icmp .ne 27, 3, [6, 3], 0),
  (28, [(.aload_n 0, 1), (.iload_n 1, 1), (.iload_n 2, 1), (.iload 5, 2)], .invokevirtual 63, 3, [4], 249),
  (36, [(.istore 6, 2), (.iload 6, 2), (.iload 4, 2)], .if_icmp .ge 10, 3, [6, 5], 0),
  (45, [(.iload 6, 2), (.istore 4, 2), (.iload 5, 2), (.istore_n 3, 1)], .nop, 0, [6], 0),
  (52, [(.iinc 5 1, 3)], .goto (-46), 3, [1], 0),
  (58, [(.iload_n 3, 1)], .ireturn, 1, [], 0)]
/-- rw_leastSum -/
def nb_b251 : List nb_B := [
  (0, [(.aload_n 0, 1), (.getfield 20, 3), (.iconst 1, 1), (.aload_n 0, 1), (.getfield 35, 3), (.ishl, 1), (.iconst 1, 1), (.isub, 1), (.bipush 8, 2), (.imul, 1), (.bipush 7, 2), (.iadd, 1)], .nop, 0, [1], 0),
  (18, [(.iaload, 1)], .ireturn, 1, [], 0)]
/-- rw_inRow -/
def nb_b252 : List nb_B := [
  (0, [(.iconst 1, 1), (.aload_n 0, 1), (.getfield 35, 3), (.ishl, 1), (.iconst 1, 1), (.isub, 1), (.istore_n 2, 1), (.bipush 7, 2), (.istore_n 3, 1), (.iconst 0, 1), (.istore 4, 2)], .nop, 0, [1], 0),
  (15, [(.iload 4, 2), (.iload_n 1, 1)], .if_icmp .gt 33, 3, [5, 2], 0),
  (21, [(.iload 4, 2), (.aload_n 0, 1), (.getfield 35, 3)], .if_icmp .ge 24, 3, [5, 3], 0),
  (30, [(.aload_n 0, 1), (.iload_n 2, 1), (.iload_n 3, 1)], .invokevirtual 60, 3, [4], 250),
  (36, [(.istore_n 3, 1), (.iload_n 2, 1), (.iconst 1, 1), (.iload_n 3, 1), (.ishl, 1), (.iconst (-1), 1), (.ixor, 1), (.iand, 1), (.istore_n 2, 1), (.iinc 4 1, 3)], .goto (-33), 3, [1], 0),
  (51, [(.iload_n 3, 1), (.aload_n 0, 1), (.getfield 35, 3)], .if_icmp .ge 12, 3, [7, 6], 0),
  (59, [(.aload_n 0, 1), (.getfield 9, 3), (.iload_n 3, 1), (.iaload, 1)], .goto 4, 3, [8], 0),
  (68, [(.iconst (-1), 1)], .nop, 0, [8], 0),
  (69, [], .ireturn, 1, [], 0)]
/-- sc_init -/
def nb_b253 : List nb_B := [
  (0, [(.aload_n 0, 1)], .invokespecial 3, 3, [1], 900),
  (4, [(.aload_n 0, 1), (.bipush 10, 2), (.anewarray 9, 3)], .nop, 0, [2], 0),
  (10, [(.putfield 11, 3)], .nop, 0, [3], 0),
  (13, [(.aload_n 0, 1), (.iconst 4, 1), (.anewarray 17, 3)], .nop, 0, [4], 0),
  (18, [(.putfield 19, 3)], .nop, 0, [5], 0),
  (21, [(.aload_n 0, 1), (.bipush 10, 2), (.newarray .int, 2)], .nop, 0, [6], 0),
  (26, [(.putfield 23, 3)], .nop, 0, [7], 0),
  (29, [(.aload_n 0, 1), (.aload_n 1, 1), (.putfield 27, 3)], .nop, 0, [8], 0),
  (34, [(.iconst 0, 1), (.istore_n 2, 1)], .nop, 0, [9], 0),
  (36, [(.iload_n 2, 1), (.bipush 10, 2)], .if_icmp .ge 22, 3, [14, 10], 0),
  (42, [(.aload_n 0, 1), (.getfield 11, 3), (.iload_n 2, 1), (.new 9, 3)], .nop, 0, [11], 0),
  (50, [(.dup, 1)], .invokespecial 31, 3, [12], 214),
  (54, [(.aastore, 1)], .nop, 0, [13], 0),
  (55, [(.iinc 2 1, 3)], .goto (-22), 3, [9], 0),
  (61, [(.iconst 0, 1), (.istore_n 2, 1)], .nop, 0, [15], 0),
  (63, [(.iload_n 2, 1), (.iconst 3, 1)], .if_icmp .gt 22, 3, [20, 16], 0),
  (68, [(.aload_n 0, 1), (.getfield 19, 3), (.iload_n 2, 1), (.new 17, 3)], .nop, 0, [17], 0),
  (76, [(.dup, 1)], .invokespecial 32, 3, [18], 271),
  (80, [(.aastore, 1)], .nop, 0, [19], 0),
  (81, [(.iinc 2 1, 3)], .goto (-21), 3, [15], 0),
  (87, [], .return_, 1, [], 0)]
/-- sc_open -/
def nb_b254 : List nb_B := [
  (0, [(.aload_n 0, 1), (.aload_n 1, 1), (.putfield 27, 3)], .nop, 0, [1], 0),
  (5, [(.aload_n 0, 1), (.aload_n 1, 1), (.getfield 33, 3), (.putfield 39, 3)], .nop, 0, [2], 0),
  (13, [(.aload_n 0, 1), (.aload_n 1, 1), (.getfield 40, 3), (.putfield 43, 3)], .nop, 0, [3], 0),
  (21, [(.aload_n 0, 1), (.iconst 0, 1), (.putfield 44, 3)], .nop, 0, [4], 0),
  (26, [(.aload_n 0, 1), (.iconst 0, 1), (.putfield 47, 3)], .nop, 0, [5], 0),
  (31, [(.aload_n 0, 1), (.aload_n 1, 1), (.getfield 50, 3), (.putfield 53, 3)], .nop, 0, [6], 0),
  (39, [(.iconst 0, 1), (.istore_n 2, 1)], .nop, 0, [7], 0),
  (41, [(.iload_n 2, 1), (.aload_n 0, 1), (.getfield 39, 3)], .if_icmp .ge 24, 3, [10, 8], 0),
  (49, [(.aload_n 0, 1), (.getfield 11, 3), (.iload_n 2, 1), (.aaload, 1), (.aload_n 1, 1), (.getfield 54, 3), (.iload_n 2, 1), (.aaload, 1)], .invokevirtual 55, 3, [9], 215),
  (64, [(.iinc 2 1, 3)], .goto (-26), 3, [7], 0),
  (70, [(.iconst 0, 1), (.istore_n 2, 1)], .nop, 0, [11], 0),
  (72, [(.iload_n 2, 1), (.aload_n 0, 1), (.getfield 43, 3)], .if_icmp .ge 24, 3, [14, 12], 0),
  (80, [(.aload_n 0, 1), (.getfield 19, 3), (.iload_n 2, 1), (.aaload, 1), (.aload_n 1, 1), (.getfield 59, 3), (.iload_n 2, 1), (.aaload, 1)], .invokevirtual 60, 3, [13], 273),
  (95, [(.iinc 2 1, 3)], .goto (-26), 3, [11], 0),
  (101, [], .return_, 1, [], 0)]
/-- sc_take -/
def nb_b255 : List nb_B := [
  (0, [(.aload_n 0, 1), (.aload_n 1, 1), (.getfield 27, 3), (.putfield 27, 3)], .nop, 0, [1], 0),
  (8, [(.aload_n 0, 1), (.aload_n 1, 1), (.getfield 39, 3), (.putfield 39, 3)], .nop, 0, [2], 0),
  (16, [(.aload_n 0, 1), (.aload_n 1, 1), (.getfield 43, 3), (.putfield 43, 3)], .nop, 0, [3], 0),
  (24, [(.aload_n 0, 1), (.aload_n 1, 1), (.getfield 44, 3), (.putfield 44, 3)], .nop, 0, [4], 0),
  (32, [(.aload_n 0, 1), (.aload_n 1, 1), (.getfield 47, 3), (.putfield 47, 3)], .nop, 0, [5], 0),
  (40, [(.aload_n 0, 1), (.aload_n 1, 1), (.getfield 53, 3), (.putfield 53, 3)], .nop, 0, [6], 0),
  (48, [(.iconst 0, 1), (.istore_n 2, 1)], .nop, 0, [7], 0),
  (50, [(.iload_n 2, 1), (.aload_n 0, 1), (.getfield 39, 3)], .if_icmp .ge 24, 3, [10, 8], 0),
  (58, [(.aload_n 0, 1), (.getfield 11, 3), (.iload_n 2, 1), (.aaload, 1), (.aload_n 1, 1), (.getfield 11, 3), (.iload_n 2, 1), (.aaload, 1)], .invokevirtual 55, 3, [9], 215),
  (73, [(.iinc 2 1, 3)], .goto (-26), 3, [7], 0),
  (79, [(.iconst 0, 1), (.istore_n 2, 1)], .nop, 0, [11], 0),
  (81, [(.iload_n 2, 1), (.aload_n 0, 1), (.getfield 43, 3)], .if_icmp .ge 24, 3, [14, 12], 0),
  (89, [(.aload_n 0, 1), (.getfield 19, 3), (.iload_n 2, 1), (.aaload, 1), (.aload_n 1, 1), (.getfield 19, 3), (.iload_n 2, 1), (.aaload, 1)], .invokevirtual 60, 3, [13], 273),
  (104, [(.iinc 2 1, 3)], .goto (-26), 3, [11], 0),
  (110, [(.aload_n 1, 1), (.getfield 23, 3), (.iconst 0, 1), (.aload_n 0, 1), (.getfield 23, 3), (.iconst 0, 1), (.bipush 10, 2)], .invokestatic 63, 3, [15], 903),
  (125, [], .return_, 1, [], 0)]
/-- sc_addHand -/
def nb_b256 : List nb_B := [
  (0, [(.aload_n 0, 1), (.getfield 43, 3), (.iconst 3, 1)], .if_icmp .gt 69, 3, [8, 1], 0),
  (8, [(.aload_n 0, 1), (.getfield 19, 3), (.aload_n 0, 1), (.getfield 43, 3), (.aaload, 1), (.astore_n 1, 1), (.aload_n 1, 1)], .invokevirtual 69, 3, [2], 272),
  (22, [(.aload_n 1, 1), (.iconst 3, 1), (.putfield 72, 3)], .nop, 0, [3], 0),
  (27, [(.aload_n 1, 1), (.aload_n 0, 1), (.getfield 27, 3), (.getfield 75, 3), (.iconst 2, 1), (.idiv, 1), (.putfield 78, 3)], .nop, 0, [4], 0),
  (40, [(.aload_n 1, 1), (.iconst 0, 1), (.aload_n 0, 1), (.getfield 27, 3), (.getfield 75, 3), (.iconst 1, 1), (.isub, 1)], .invokevirtual 81, 3, [5], 274),
  (54, [(.aload_n 1, 1), (.iconst 1, 1), (.putfield 85, 3)], .nop, 0, [6], 0),
  (59, [(.aload_n 1, 1), (.iconst 1, 1), (.putfield 88, 3)], .nop, 0, [7], 0),
  (64, [(.aload_n 0, 1), (.dup, 1), (.getfield 43, 3), (.iconst 1, 1), (.iadd, 1), (.putfield 43, 3)], .nop, 0, [8], 0),
  (74, [], .return_, 1, [], 0)]
/-- sc_runTo -/
def nb_b257 : List nb_B := [
  (0, [(.aload_n 0, 1), (.getfield 47, 3), (.istore_n 2, 1)], .nop, 0, [1], 0),
  (5, [(.iload_n 2, 1), (.iload_n 1, 1)], .if_icmp .gt 66, 3, [13, 2], 0),
  (10, [(.iconst 0, 1), (.istore_n 3, 1)], .nop, 0, [3], 0),
  (12, [(.iload_n 3, 1), (.aload_n 0, 1), (.getfield 39, 3)], .if_icmp .ge 19, 3, [6, 4], 0),
  (20, [(.aload_n 0, 1), (.getfield 11, 3), (.iload_n 3, 1), (.aaload, 1), (.iload_n 2, 1)], .invokestatic 91, 3, [5], 260),
  (30, [(.iinc 3 1, 3)], .goto (-21), 3, [3], 0),
  (36, [(.iconst 0, 1), (.istore_n 3, 1)], .nop, 0, [7], 0),
  (38, [(.iload_n 3, 1), (.aload_n 0, 1), (.getfield 43, 3)], .if_icmp .ge 15, 3, [10, 8], 0),
  (46, [(.aload_n 0, 1), (.iload_n 3, 1), (.iload_n 2, 1)], .invokevirtual 95, 3, [9], 261),
  (52, [(.iinc 3 1, 3)], .goto (-17), 3, [7], 0),
  (58, [(.iload_n 2, 1), (.iconst 1, 1), (.iadd, 1), (.aload_n 0, 1), (.iload_n 2, 1)], .invokevirtual 98, 3, [11], 258),
  (66, [], .invokestatic 102, 3, [12], 905),
  (69, [(.istore_n 2, 1)], .goto (-65), 3, [1], 0),
  (73, [(.aload_n 0, 1), (.aload_n 0, 1), (.getfield 47, 3), (.iload_n 1, 1), (.iconst 1, 1), (.iadd, 1)], .invokestatic 102, 3, [14], 905),
  (84, [(.putfield 47, 3)], .nop, 0, [15], 0),
  (87, [], .return_, 1, [], 0)]
/-- sc_nextStir -/
def nb_b258 : List nb_B := [
  (0, [(.ldc 108, 2), (.istore_n 2, 1), (.iconst 0, 1), (.istore_n 3, 1)], .nop, 0, [1], 0),
  (5, [(.iload_n 3, 1), (.aload_n 0, 1), (.getfield 39, 3)], .if_icmp .ge 76, 3, [10, 2], 0),
  (13, [(.aload_n 0, 1), (.getfield 11, 3), (.iload_n 3, 1), (.aaload, 1), (.astore 4, 2), (.aload 4, 2), (.getfield 109, 3)], .ifCond .ne 17, 3, [5, 3], 0),
  (29, [(.iload_n 2, 1), (.aload 4, 2), (.getfield 112, 3), (.iload_n 1, 1)], .invokestatic 115, 3, [4], 259),
  (39, [(.istore_n 2, 1)], .goto 40, 3, [9], 0),
  (43, [(.aload 4, 2), (.getfield 109, 3), (.iconst 1, 1)], .if_icmp .ne 31, 3, [9, 6], 0),
  (52, [(.iload_n 2, 1), (.aload 4, 2), (.getfield 112, 3), (.aload 4, 2), (.getfield 119, 3), (.iadd, 1), (.iload_n 1, 1)], .invokestatic 115, 3, [7], 259),
  (68, [(.istore_n 2, 1), (.iload_n 2, 1), (.aload 4, 2), (.getfield 122, 3), (.iload_n 1, 1)], .invokestatic 115, 3, [8], 259),
  (79, [(.istore_n 2, 1)], .nop, 0, [9], 0),
  (80, [(.iinc 3 1, 3)], .goto (-78), 3, [1], 0),
  (86, [(.iconst 0, 1), (.istore_n 3, 1)], .nop, 0, [11], 0),
  (88, [(.iload_n 3, 1), (.aload_n 0, 1), (.getfield 43, 3)], .if_icmp .ge 42, 3, [17, 12], 0),
  (96, [(.iconst 0, 1), (.istore 4, 2)], .nop, 0, [13], 0),
  (99, [(.iload 4, 2), (.iconst 2, 1)], .if_icmp .ge 27, 3, [16, 14], 0),
  (105, [(.iload_n 2, 1), (.aload_n 0, 1), (.getfield 19, 3), (.iload_n 3, 1), (.aaload, 1), (.getfield 125, 3), (.iload 4, 2), (.iaload, 1), (.iload_n 1, 1)], .invokestatic 115, 3, [15], 259),
  (122, [(.istore_n 2, 1), (.iinc 4 1, 3)], .goto (-27), 3, [13], 0),
  (129, [(.iinc 3 1, 3)], .goto (-44), 3, [11], 0),
  (135, [(.iload_n 2, 1)], .ireturn, 1, [], 0)]
/-- sc_sooner -/
def nb_b259 : List nb_B := [
  (0, [(.iload_n 1, 1), (.iload_n 2, 1)], .if_icmp .le 12, 3, [3, 1], 0),
  (5, [(.iload_n 1, 1), (.iload_n 0, 1)], .if_icmp .ge 7, 3, [3, 2], 0),
  (10, [(.iload_n 1, 1)], .goto 4, 3, [4], 0),
  (14, [(.iload_n 0, 1)], .nop, 0, [4], 0),
  (15, [], .ireturn, 1, [], 0)]
/-- sc_comeOrGo -/
def nb_b260 : List nb_B := [
  (0, [(.aload_n 0, 1), (.getfield 109, 3)], .ifCond .ne 16, 3, [3, 1], 0),
  (7, [(.aload_n 0, 1), (.getfield 112, 3), (.iload_n 1, 1)], .if_icmp .ne 8, 3, [3, 2], 0),
  (15, [(.aload_n 0, 1), (.iconst 1, 1), (.putfield 109, 3)], .nop, 0, [3], 0),
  (20, [(.aload_n 0, 1), (.getfield 109, 3), (.iconst 1, 1)], .if_icmp .eq 4, 3, [5, 4], 0),
  (28, [], .return_, 1, [], 0),
  (29, [(.aload_n 0, 1), (.getfield 122, 3), (.bipush (-2), 2)], .if_icmp .eq 29, 3, [11, 6], 0),
  (38, [(.aload_n 0, 1), (.getfield 122, 3), (.iload_n 1, 1)], .if_icmp .gt 21, 3, [11, 7], 0),
  (46, [(.aload_n 0, 1), (.iconst 3, 1), (.putfield 109, 3)], .nop, 0, [8], 0),
  (51, [(.aload_n 0, 1), (.iload_n 1, 1), (.putfield 128, 3)], .nop, 0, [9], 0),
  (56, [(.aload_n 0, 1), (.iload_n 1, 1), (.putfield 131, 3)], .nop, 0, [10], 0),
  (61, [], .goto 26, 3, [14], 0),
  (64, [(.iload_n 1, 1), (.aload_n 0, 1), (.getfield 112, 3), (.isub, 1), (.aload_n 0, 1), (.getfield 119, 3)], .if_icmp .lt 13, 3, [14, 12], 0),
  (77, [(.aload_n 0, 1), (.iconst 4, 1), (.putfield 109, 3)], .nop, 0, [13], 0),
  (82, [(.aload_n 0, 1), (.iload_n 1, 1), (.putfield 131, 3)], .nop, 0, [14], 0),
  (87, [], .return_, 1, [], 0)]
/-- sc_serve -/
def nb_b261 : List nb_B := [
  (0, [(.iconst 0, 1), (.istore_n 3, 1)], .nop, 0, [1], 0),
  (2, [(.iload_n 3, 1), (.aload_n 0, 1), (.getfield 39, 3)], .if_icmp .ge 55, 3, [10, 2], 0),
  (10, [(.aload_n 0, 1), (.getfield 19, 3), (.iload_n 1, 1), (.aaload, 1), (.iload_n 2, 1)], .invokevirtual 134, 3, [3], 275),
  (20, [(.istore 4, 2), (.iload 4, 2), (.iconst (-1), 1)], .if_icmp .ne 8, 3, [5, 4], 0),
  (28, [(.bipush (-2), 2)], .goto 8, 3, [6], 0),
  (33, [(.aload_n 0, 1), (.iload_n 1, 1)], .invokevirtual 137, 3, [6], 262),
  (38, [(.istore 5, 2), (.iload 5, 2)], .ifCond .ge 4, 3, [8, 7], 0),
  (45, [], .return_, 1, [], 0),
  (46, [(.aload_n 0, 1), (.iload_n 1, 1), (.iload 4, 2), (.iload 5, 2), (.iload_n 2, 1)], .invokevirtual 140, 3, [9], 263),
  (56, [(.iinc 3 1, 3)], .goto (-57), 3, [1], 0),
  (62, [], .return_, 1, [], 0)]
/-- sc_choice -/
def nb_b262 : List nb_B := [
  (0, [(.aload_n 0, 1), (.getfield 19, 3), (.iload_n 1, 1), (.aaload, 1), (.astore_n 2, 1), (.bipush (-2), 2), (.istore_n 3, 1), (.iconst 0, 1), (.istore 4, 2), (.iconst 0, 1), (.istore 5, 2)], .nop, 0, [1], 0),
  (16, [(.iload 5, 2), (.aload_n 0, 1), (.getfield 39, 3)], .if_icmp .ge 104, 3, [13, 2], 0),
  (25, [(.aload_n 0, 1), (.getfield 11, 3), (.iload 5, 2), (.aaload, 1), (.astore 6, 2), (.aload 6, 2), (.getfield 109, 3), (.iconst 1, 1)], .if_icmp .ne 80, 3, [12, 3], 0),
  (43, [(.aload 6, 2), (.getfield 144, 3), (.aload_n 2, 1), (.getfield 145, 3)], .if_icmp .lt 68, 3, [12, 4], 0),
  (55, [(.aload 6, 2), (.getfield 144, 3), (.aload_n 2, 1), (.getfield 148, 3)], .if_icmp .le 6, 3, [6, 5], 0),
  (67, [], .goto 53, 3, [12], 0),
  (70, [(.aload_n 2, 1), (.aload 6, 2)], .invokevirtual 151, 3, [7], 278),
  (76, [(.istore 7, 2), (.iload_n 3, 1)], .ifCond .lt 34, 3, [11, 8], 0),
  (82, [(.iload 7, 2), (.iload 4, 2)], .if_icmp .lt 27, 3, [11, 9], 0),
  (89, [(.iload 7, 2), (.iload 4, 2)], .if_icmp .ne 27, 3, [12, 10], 0),
  (96, [(.aload 6, 2), (.getfield 112, 3), (.aload_n 0, 1), (.getfield 11, 3), (.iload_n 3, 1), (.aaload, 1), (.getfield 112, 3)], .if_icmp .ge 10, 3, [12, 11], 0),
  (113, [(.iload 5, 2), (.istore_n 3, 1), (.iload 7, 2), (.istore 4, 2)], .nop, 0, [12], 0),
  (120, [(.iinc 5 1, 3)], .goto (-107), 3, [1], 0),
  (126, [(.iload_n 3, 1)], .ireturn, 1, [], 0)]
/-- sc_begin -/
def nb_b263 : List nb_B := [
  (0, [(.aload_n 0, 1), (.getfield 19, 3), (.iload_n 1, 1), (.aaload, 1), (.astore 5, 2), (.aload_n 0, 1), (.getfield 11, 3), (.iload_n 3, 1), (.aaload, 1), (.astore 6, 2), (.aload 5, 2), (.getfield 85, 3), (.aload 6, 2), (.getfield 144, 3), (.aload 5, 2), (.getfield 78, 3), (.isub, 1)], .invokestatic 155, 3, [1], 907),
  (35, [(.imul, 1), (.istore 7, 2), (.aload 6, 2), (.iconst 2, 1), (.putfield 109, 3)], .nop, 0, [2], 0),
  (44, [(.aload 6, 2), (.iload 4, 2), (.putfield 158, 3)], .nop, 0, [3], 0),
  (51, [(.aload 6, 2), (.iload 4, 2), (.putfield 131, 3)], .nop, 0, [4], 0),
  (58, [(.aload 6, 2), (.iload_n 1, 1), (.putfield 161, 3)], .nop, 0, [5], 0),
  (64, [(.aload 6, 2), (.iload 4, 2), (.iload 7, 2), (.iadd, 1), (.aload_n 0, 1), (.getfield 27, 3), (.aload 5, 2), (.getfield 164, 3), (.iload_n 3, 1)], .invokevirtual 167, 3, [6], 220),
  (84, [(.iadd, 1), (.putfield 128, 3)], .nop, 0, [7], 0),
  (88, [(.aload 5, 2), (.aload 6, 2), (.getfield 144, 3), (.putfield 78, 3)], .nop, 0, [8], 0),
  (98, [(.aload 5, 2), (.iload_n 3, 1), (.putfield 164, 3)], .nop, 0, [9], 0),
  (104, [(.aload 5, 2), (.getfield 125, 3), (.iload_n 2, 1), (.aload 6, 2), (.getfield 128, 3), (.iastore, 1)], .nop, 0, [10], 0),
  (116, [(.aload_n 0, 1), (.getfield 44, 3), (.bipush 10, 2)], .if_icmp .ge 23, 3, [13, 11], 0),
  (125, [(.aload_n 0, 1), (.getfield 23, 3), (.aload_n 0, 1), (.getfield 44, 3), (.iload_n 3, 1), (.iastore, 1)], .nop, 0, [12], 0),
  (135, [(.aload_n 0, 1), (.dup, 1), (.getfield 44, 3), (.iconst 1, 1), (.iadd, 1), (.putfield 44, 3)], .nop, 0, [13], 0),
  (145, [(.aload_n 0, 1), (.iload_n 3, 1)], .invokevirtual 170, 3, [14], 264),
  (150, [], .return_, 1, [], 0)]
/-- sc_notePassed -/
def nb_b264 : List nb_B := [
  (0, [(.iconst 0, 1), (.istore_n 2, 1)], .nop, 0, [1], 0),
  (2, [(.iload_n 2, 1), (.aload_n 0, 1), (.getfield 39, 3)], .if_icmp .ge 68, 3, [8, 2], 0),
  (10, [(.aload_n 0, 1), (.getfield 11, 3), (.iload_n 2, 1), (.aaload, 1), (.getfield 109, 3), (.iconst 1, 1)], .if_icmp .ne 49, 3, [7, 3], 0),
  (23, [(.aload_n 0, 1), (.getfield 27, 3), (.iload_n 2, 1), (.iload_n 1, 1)], .invokevirtual 174, 3, [4], 222),
  (32, [], .ifCond .eq 37, 3, [7, 5], 0),
  (35, [(.aload_n 0, 1), (.getfield 11, 3), (.iload_n 2, 1), (.aaload, 1), (.dup, 1), (.getfield 178, 3), (.iconst 1, 1), (.iload_n 1, 1), (.ishl, 1), (.ior, 1), (.putfield 178, 3)], .nop, 0, [6], 0),
  (52, [(.aload_n 0, 1), (.getfield 11, 3), (.iload_n 1, 1), (.aaload, 1), (.dup, 1), (.getfield 181, 3), (.iconst 1, 1), (.iload_n 2, 1), (.ishl, 1), (.ior, 1), (.putfield 181, 3)], .nop, 0, [7], 0),
  (69, [(.iinc 2 1, 3)], .goto (-70), 3, [1], 0),
  (75, [], .return_, 1, [], 0)]
/-- sc_countOf -/
def nb_b265 : List nb_B := [
  (0, [(.iconst 0, 1), (.istore_n 2, 1), (.iconst 0, 1), (.istore_n 3, 1)], .nop, 0, [1], 0),
  (4, [(.iload_n 3, 1), (.aload_n 0, 1), (.getfield 39, 3)], .if_icmp .ge 25, 3, [5, 2], 0),
  (12, [(.aload_n 0, 1), (.getfield 11, 3), (.iload_n 3, 1), (.aaload, 1), (.getfield 109, 3), (.iload_n 1, 1)], .if_icmp .ne 6, 3, [4, 3], 0),
  (25, [(.iinc 2 1, 3)], .nop, 0, [4], 0),
  (28, [(.iinc 3 1, 3)], .goto (-27), 3, [1], 0),
  (34, [(.iload_n 2, 1)], .ireturn, 1, [], 0)]
/-- sc_waitOf -/
def nb_b266 : List nb_B := [
  (0, [(.aload_n 0, 1), (.getfield 11, 3), (.iload_n 1, 1), (.aaload, 1), (.astore_n 2, 1), (.aload_n 2, 1), (.getfield 109, 3)], .ifCond .eq 11, 3, [2, 1], 0),
  (14, [(.aload_n 2, 1), (.getfield 109, 3), (.iconst 5, 1)], .if_icmp .ne 5, 3, [3, 2], 0),
  (22, [(.iconst 0, 1)], .ireturn, 1, [], 0),
  (24, [(.aload_n 2, 1), (.getfield 109, 3), (.iconst 1, 1)], .if_icmp .ne 10, 3, [5, 4], 0),
  (32, [(.aload_n 0, 1), (.getfield 53, 3)], .goto 7, 3, [6], 0),
  (39, [(.aload_n 2, 1), (.getfield 131, 3)], .nop, 0, [6], 0),
  (43, [(.aload_n 2, 1), (.getfield 112, 3), (.isub, 1)], .ireturn, 1, [], 0)]
/-- sc_servedWait -/
def nb_b267 : List nb_B := [
  (0, [(.aload_n 0, 1), (.getfield 11, 3), (.iload_n 1, 1), (.aaload, 1)], .invokevirtual 184, 3, [1], 217),
  (9, [], .ifCond .eq 11, 3, [4, 2], 0),
  (12, [(.aload_n 0, 1), (.iload_n 1, 1)], .invokevirtual 188, 3, [3], 266),
  (17, [], .goto 5, 3, [5], 0),
  (20, [(.ldc 108, 2)], .nop, 0, [5], 0),
  (22, [], .ireturn, 1, [], 0)]
/-- sc_total -/
def nb_b268 : List nb_B := [
  (0, [(.iload_n 1, 1)], .tableswitch 51 0 2 #[27, 39, 45], 27, [8, 1, 4, 6], 0),
  (28, [(.aload_n 0, 1), (.iconst 2, 1)], .invokevirtual 191, 3, [2], 265),
  (33, [(.aload_n 0, 1), (.iconst 3, 1)], .invokevirtual 191, 3, [3], 265),
  (38, [(.iadd, 1)], .ireturn, 1, [], 0),
  (40, [(.aload_n 0, 1), (.iconst 4, 1)], .invokevirtual 191, 3, [5], 265),
  (45, [], .ireturn, 1, [], 0),
  (46, [(.aload_n 0, 1), (.iconst 1, 1)], .invokevirtual 191, 3, [7], 265),
  (51, [], .ireturn, 1, [], 0),
  (52, [(.aload_n 0, 1), (.iload_n 1, 1)], .invokevirtual 194, 3, [9], 269),
  (57, [], .ireturn, 1, [], 0)]
/-- sc_added -/
def nb_b269 : List nb_B := [
  (0, [(.iconst 0, 1), (.istore_n 2, 1), (.iconst 0, 1), (.istore_n 3, 1)], .nop, 0, [1], 0),
  (4, [(.iload_n 3, 1), (.aload_n 0, 1), (.getfield 39, 3)], .if_icmp .ge 76, 3, [14, 2], 0),
  (12, [(.iload_n 1, 1), (.iconst 3, 1)], .if_icmp .ne 14, 3, [5, 3], 0),
  (17, [(.iload_n 2, 1), (.aload_n 0, 1), (.iload_n 3, 1)], .invokevirtual 188, 3, [4], 266),
  (23, [(.iadd, 1), (.istore_n 2, 1)], .goto 54, 3, [13], 0),
  (28, [(.iload_n 1, 1), (.iconst 4, 1)], .if_icmp .ne 21, 3, [8, 6], 0),
  (33, [(.iload_n 2, 1), (.aload_n 0, 1), (.getfield 11, 3), (.iload_n 3, 1), (.aaload, 1), (.getfield 178, 3)], .invokestatic 197, 3, [7], 294),
  (46, [(.iadd, 1), (.istore_n 2, 1)], .goto 31, 3, [13], 0),
  (51, [(.iload_n 1, 1), (.iconst 5, 1)], .if_icmp .ne 26, 3, [13, 9], 0),
  (56, [(.aload_n 0, 1), (.getfield 11, 3), (.iload_n 3, 1), (.aaload, 1)], .invokevirtual 184, 3, [10], 217),
  (65, [], .ifCond .eq 14, 3, [13, 11], 0),
  (68, [(.iload_n 2, 1), (.aload_n 0, 1), (.getfield 27, 3), (.iload_n 3, 1)], .invokevirtual 202, 3, [12], 221),
  (77, [(.iadd, 1), (.istore_n 2, 1)], .nop, 0, [13], 0),
  (79, [(.iinc 3 1, 3)], .goto (-78), 3, [1], 0),
  (85, [(.iload_n 2, 1)], .ireturn, 1, [], 0)]
/-- sc_waitsOfSet -/
def nb_b270 : List nb_B := [
  (0, [(.iconst 0, 1), (.istore_n 2, 1), (.iconst 0, 1), (.istore_n 3, 1)], .nop, 0, [1], 0),
  (4, [(.iload_n 3, 1), (.aload_n 0, 1), (.getfield 39, 3)], .if_icmp .ge 26, 3, [6, 2], 0),
  (12, [(.iload_n 1, 1), (.iload_n 3, 1), (.ishr, 1), (.iconst 1, 1), (.iand, 1), (.iconst 1, 1)], .if_icmp .ne 11, 3, [5, 3], 0),
  (21, [(.iload_n 2, 1), (.aload_n 0, 1), (.iload_n 3, 1)], .invokevirtual 188, 3, [4], 266),
  (27, [(.iadd, 1), (.istore_n 2, 1)], .nop, 0, [5], 0),
  (29, [(.iinc 3 1, 3)], .goto (-28), 3, [1], 0),
  (35, [(.iload_n 2, 1)], .ireturn, 1, [], 0)]
/-- sv_init -/
def nb_b271 : List nb_B := [
  (0, [(.aload_n 0, 1)], .invokespecial 3, 3, [1], 900),
  (4, [(.aload_n 0, 1), (.iconst 2, 1), (.newarray .int, 2)], .nop, 0, [2], 0),
  (8, [(.putfield 9, 3)], .nop, 0, [3], 0),
  (11, [], .return_, 1, [], 0)]
/-- sv_beginAfresh -/
def nb_b272 : List nb_B := [
  (0, [(.aload_n 0, 1), (.iconst (-1), 1), (.putfield 15, 3)], .nop, 0, [1], 0),
  (5, [(.aload_n 0, 1), (.getfield 9, 3), (.iconst 0, 1)], .invokestatic 19, 3, [2], 295),
  (13, [], .return_, 1, [], 0)]
/-- sv_take -/
def nb_b273 : List nb_B := [
  (0, [(.aload_n 1, 1), (.getfield 9, 3), (.iconst 0, 1), (.aload_n 0, 1), (.getfield 9, 3), (.iconst 0, 1), (.iconst 2, 1)], .invokestatic 25, 3, [1], 903),
  (14, [(.aload_n 0, 1), (.aload_n 1, 1), (.getfield 31, 3), (.putfield 31, 3)], .nop, 0, [2], 0),
  (22, [(.aload_n 0, 1), (.aload_n 1, 1), (.getfield 34, 3), (.putfield 34, 3)], .nop, 0, [3], 0),
  (30, [(.aload_n 0, 1), (.aload_n 1, 1), (.getfield 37, 3), (.putfield 37, 3)], .nop, 0, [4], 0),
  (38, [(.aload_n 0, 1), (.aload_n 1, 1), (.getfield 40, 3), (.putfield 40, 3)], .nop, 0, [5], 0),
  (46, [(.aload_n 0, 1), (.aload_n 1, 1), (.getfield 43, 3), (.putfield 43, 3)], .nop, 0, [6], 0),
  (54, [(.aload_n 0, 1), (.aload_n 1, 1), (.getfield 46, 3), (.putfield 46, 3)], .nop, 0, [7], 0),
  (62, [(.aload_n 0, 1), (.aload_n 1, 1), (.getfield 15, 3), (.putfield 15, 3)], .nop, 0, [8], 0),
  (70, [], .return_, 1, [], 0)]
/-- sv_stretch -/
def nb_b274 : List nb_B := [
  (0, [(.aload_n 0, 1), (.iload_n 1, 1), (.putfield 37, 3)], .nop, 0, [1], 0),
  (5, [(.aload_n 0, 1), (.iload_n 2, 1), (.putfield 40, 3)], .nop, 0, [2], 0),
  (10, [], .return_, 1, [], 0)]
/-- sv_freeHand -/
def nb_b275 : List nb_B := [
  (0, [(.iconst 0, 1), (.istore_n 2, 1)], .nop, 0, [1], 0),
  (2, [(.iload_n 2, 1), (.iconst 2, 1)], .if_icmp .ge 29, 3, [6, 2], 0),
  (7, [(.iload_n 2, 1), (.aload_n 0, 1), (.getfield 46, 3)], .if_icmp .ge 21, 3, [6, 3], 0),
  (15, [(.aload_n 0, 1), (.getfield 9, 3), (.iload_n 2, 1), (.iaload, 1), (.iload_n 1, 1)], .if_icmp .gt 5, 3, [5, 4], 0),
  (25, [(.iload_n 2, 1)], .ireturn, 1, [], 0),
  (27, [(.iinc 2 1, 3)], .goto (-28), 3, [1], 0),
  (33, [(.iconst (-1), 1)], .ireturn, 1, [], 0)]
/-- sv_busyHands -/
def nb_b276 : List nb_B := [
  (0, [(.iconst 0, 1), (.istore_n 2, 1), (.iconst 0, 1), (.istore_n 3, 1)], .nop, 0, [1], 0),
  (4, [(.iload_n 3, 1), (.iconst 2, 1)], .if_icmp .ge 30, 3, [6, 2], 0),
  (9, [(.iload_n 3, 1), (.aload_n 0, 1), (.getfield 46, 3)], .if_icmp .ge 22, 3, [6, 3], 0),
  (17, [(.aload_n 0, 1), (.getfield 9, 3), (.iload_n 3, 1), (.iaload, 1), (.iload_n 1, 1)], .if_icmp .le 6, 3, [5, 4], 0),
  (27, [(.iinc 2 1, 3)], .nop, 0, [5], 0),
  (30, [(.iinc 3 1, 3)], .goto (-29), 3, [1], 0),
  (36, [(.iload_n 2, 1)], .ireturn, 1, [], 0)]
/-- sv_firstFree -/
def nb_b277 : List nb_B := [
  (0, [(.ldc 49, 2), (.istore_n 2, 1), (.iconst 0, 1), (.istore_n 3, 1)], .nop, 0, [1], 0),
  (5, [(.iload_n 3, 1), (.iconst 2, 1)], .if_icmp .ge 32, 3, [6, 2], 0),
  (10, [(.iload_n 3, 1), (.aload_n 0, 1), (.getfield 46, 3)], .if_icmp .ge 24, 3, [6, 3], 0),
  (18, [(.iload_n 2, 1), (.iload_n 1, 1), (.aload_n 0, 1), (.getfield 9, 3), (.iload_n 3, 1), (.iaload, 1)], .invokestatic 50, 3, [4], 905),
  (29, [], .invokestatic 56, 3, [5], 906),
  (32, [(.istore_n 2, 1), (.iinc 3 1, 3)], .goto (-31), 3, [1], 0),
  (39, [(.iload_n 2, 1)], .ireturn, 1, [], 0)]
/-- sv_rank -/
def nb_b278 : List nb_B := [
  (0, [(.aload_n 1, 1), (.getfield 59, 3), (.aload_n 0, 1), (.getfield 34, 3), (.isub, 1), (.istore_n 2, 1), (.aload_n 0, 1), (.getfield 31, 3)], .tableswitch 74 0 3 #[30, 46, 63, 69], 30, [11, 1, 5, 9, 10], 0),
  (44, [(.iload_n 2, 1)], .ifCond .lt 7, 3, [3, 2], 0),
  (48, [(.iload_n 2, 1)], .goto 10, 3, [4], 0),
  (52, [(.bipush 20, 2), (.aload_n 1, 1), (.getfield 59, 3), (.iadd, 1)], .nop, 0, [4], 0),
  (59, [], .ireturn, 1, [], 0),
  (60, [(.iload_n 2, 1)], .ifCond .le 11, 3, [7, 6], 0),
  (64, [(.iconst 2, 1), (.iload_n 2, 1), (.imul, 1), (.iconst 1, 1), (.iadd, 1)], .goto 7, 3, [8], 0),
  (72, [(.bipush (-2), 2), (.iload_n 2, 1), (.imul, 1)], .nop, 0, [8], 0),
  (76, [], .ireturn, 1, [], 0),
  (77, [(.aload_n 1, 1), (.getfield 62, 3), (.ineg, 1)], .ireturn, 1, [], 0),
  (83, [(.aload_n 1, 1), (.getfield 65, 3)], .ireturn, 1, [], 0),
  (88, [(.aload_n 1, 1), (.getfield 68, 3), (.iconst 3, 1)], .if_icmp .ne 7, 3, [13, 12], 0),
  (96, [(.iconst 0, 1)], .goto 4, 3, [14], 0),
  (100, [(.iconst 1, 1)], .nop, 0, [14], 0),
  (101, [], .ireturn, 1, [], 0)]
/-- tl_init -/
def nb_b279 : List nb_B := [
  (0, [(.aload_n 0, 1)], .invokespecial 3, 3, [1], 900),
  (4, [(.aload_n 0, 1), (.bipush 10, 2), (.newarray .int, 2)], .nop, 0, [2], 0),
  (9, [(.putfield 9, 3)], .nop, 0, [3], 0),
  (12, [], .return_, 1, [], 0)]
/-- tl_fewestLiars -/
def nb_b280 : List nb_B := [
  (0, [(.iconst 0, 1), (.istore_n 2, 1), (.iconst 0, 1), (.istore_n 3, 1)], .nop, 0, [1], 0),
  (4, [(.iload_n 3, 1), (.aload_n 1, 1), (.getfield 15, 3)], .if_icmp .ge 20, 3, [3, 2], 0),
  (12, [(.iload_n 2, 1), (.iconst 1, 1), (.aload_n 1, 1), (.getfield 21, 3), (.iload_n 3, 1), (.iaload, 1), (.ishl, 1), (.ior, 1), (.istore_n 2, 1), (.iinc 3 1, 3)], .goto (-22), 3, [1], 0),
  (29, [(.iload_n 2, 1), (.istore_n 3, 1), (.iconst 0, 1), (.istore 4, 2)], .nop, 0, [4], 0),
  (34, [(.iload 4, 2), (.iload_n 2, 1)], .if_icmp .ge 55, 3, [16, 5], 0),
  (40, [(.iload 4, 2), (.iload_n 2, 1), (.iconst (-1), 1), (.ixor, 1), (.iand, 1)], .ifCond .ne 7, 3, [7, 6], 0),
  (49, [(.iconst 1, 1)], .goto 4, 3, [8], 0),
  (53, [(.iconst 0, 1)], .nop, 0, [8], 0),
  (54, [(.istore 5, 2), (.iload 5, 2)], .ifCond .eq 28, 3, [15, 9], 0),
  (61, [(.iload 4, 2)], .invokestatic 24, 3, [10], 294),
  (66, [(.iload_n 3, 1)], .invokestatic 24, 3, [11], 294),
  (70, [], .if_icmp .ge 16, 3, [15, 12], 0),
  (73, [(.aload_n 0, 1), (.aload_n 1, 1), (.iload 4, 2)], .invokevirtual 30, 3, [13], 282),
  (80, [], .ifCond .eq 6, 3, [15, 14], 0),
  (83, [(.iload 4, 2), (.istore_n 3, 1)], .nop, 0, [15], 0),
  (86, [(.iinc 4 1, 3)], .goto (-55), 3, [4], 0),
  (92, [(.iload_n 3, 1)], .ireturn, 1, [], 0)]
/-- tl_follows -/
def nb_b281 : List nb_B := [
  (0, [(.aload_n 0, 1), (.aload_n 1, 1), (.aload_n 0, 1), (.aload_n 1, 1)], .invokevirtual 34, 3, [1], 280),
  (7, [], .invokevirtual 30, 3, [2], 282),
  (10, [(.pop, 1), (.aload_n 0, 1), (.getfield 9, 3), (.iload_n 2, 1), (.iaload, 1), (.iload_n 3, 1), (.ishr, 1), (.iconst 1, 1), (.iand, 1), (.iconst 1, 1)], .if_icmp .ne 7, 3, [4, 3], 0),
  (25, [(.iconst 1, 1)], .goto 4, 3, [5], 0),
  (29, [(.iconst 0, 1)], .nop, 0, [5], 0),
  (30, [], .ireturn, 1, [], 0)]
/-- tl_agreeWithout -/
def nb_b282 : List nb_B := [
  (0, [(.aload_n 0, 1), (.getfield 9, 3), (.iconst 0, 1)], .invokestatic 38, 3, [1], 295),
  (8, [(.iconst 0, 1), (.istore_n 3, 1)], .nop, 0, [2], 0),
  (10, [(.iload_n 3, 1), (.aload_n 1, 1), (.getfield 15, 3)], .if_icmp .ge 44, 3, [6, 3], 0),
  (18, [(.iload_n 2, 1), (.aload_n 1, 1), (.getfield 21, 3), (.iload_n 3, 1), (.iaload, 1), (.ishr, 1), (.iconst 1, 1), (.iand, 1)], .ifCond .ne 25, 3, [5, 4], 0),
  (31, [(.aload_n 0, 1), (.getfield 9, 3), (.aload_n 1, 1), (.getfield 44, 3), (.iload_n 3, 1), (.iaload, 1), (.dup2, 1), (.iaload, 1), (.iconst 1, 1), (.aload_n 1, 1), (.getfield 47, 3), (.iload_n 3, 1), (.iaload, 1), (.ishl, 1), (.ior, 1), (.iastore, 1)], .nop, 0, [5], 0),
  (53, [(.iinc 3 1, 3)], .goto (-46), 3, [2], 0),
  (59, [(.iconst 0, 1), (.istore_n 3, 1)], .nop, 0, [7], 0),
  (61, [(.iload_n 3, 1), (.bipush 10, 2)], .if_icmp .ge 56, 3, [14, 8], 0),
  (67, [(.iconst 0, 1), (.istore 4, 2)], .nop, 0, [9], 0),
  (70, [(.iload 4, 2), (.bipush 10, 2)], .if_icmp .ge 40, 3, [13, 10], 0),
  (77, [(.aload_n 0, 1), (.getfield 9, 3), (.iload 4, 2), (.iaload, 1), (.iload_n 3, 1), (.ishr, 1), (.iconst 1, 1), (.iand, 1), (.iconst 1, 1)], .if_icmp .ne 19, 3, [12, 11], 0),
  (92, [(.aload_n 0, 1), (.getfield 9, 3), (.iload 4, 2), (.dup2, 1), (.iaload, 1), (.aload_n 0, 1), (.getfield 9, 3), (.iload_n 3, 1), (.iaload, 1), (.ior, 1), (.iastore, 1)], .nop, 0, [12], 0),
  (108, [(.iinc 4 1, 3)], .goto (-41), 3, [9], 0),
  (114, [(.iinc 3 1, 3)], .goto (-56), 3, [7], 0),
  (120, [(.iconst 0, 1), (.istore_n 3, 1)], .nop, 0, [15], 0),
  (122, [(.iload_n 3, 1), (.bipush 10, 2)], .if_icmp .ge 25, 3, [19, 16], 0),
  (128, [(.aload_n 0, 1), (.getfield 9, 3), (.iload_n 3, 1), (.iaload, 1), (.iload_n 3, 1), (.ishr, 1), (.iconst 1, 1), (.iand, 1), (.iconst 1, 1)], .if_icmp .ne 5, 3, [18, 17], 0),
  (142, [(.iconst 0, 1)], .ireturn, 1, [], 0),
  (144, [(.iinc 3 1, 3)], .goto (-25), 3, [15], 0),
  (150, [(.iconst 1, 1)], .ireturn, 1, [], 0)]
/-- tk_init -/
def nb_b283 : List nb_B := [
  (0, [(.aload_n 0, 1)], .invokespecial 3, 3, [1], 900),
  (4, [(.aload_n 0, 1), (.sipush 1001, 3), (.newarray .int, 2)], .nop, 0, [2], 0),
  (10, [(.putfield 9, 3)], .nop, 0, [3], 0),
  (13, [(.aload_n 0, 1), (.sipush 1001, 3), (.newarray .int, 2)], .nop, 0, [4], 0),
  (19, [(.putfield 15, 3)], .nop, 0, [5], 0),
  (22, [(.aload_n 0, 1), (.sipush 1001, 3), (.newarray .long, 2)], .nop, 0, [6], 0),
  (28, [(.putfield 18, 3)], .nop, 0, [7], 0),
  (31, [], .return_, 1, [], 0)]
/-- tk_part -/
def nb_b284 : List nb_B := [
  (0, [(.aload_n 0, 1), (.iconst 0, 1), (.putfield 22, 3)], .nop, 0, [1], 0),
  (5, [(.iconst 0, 1), (.istore_n 3, 1), (.iconst 0, 1), (.istore 4, 2)], .nop, 0, [2], 0),
  (10, [(.iload_n 3, 1), (.iload_n 2, 1)], .if_icmp .ge 67, 3, [12, 3], 0),
  (15, [(.iload 4, 2)], .ifCond .ne 62, 3, [12, 4], 0),
  (20, [(.aload_n 1, 1), (.iload_n 3, 1), (.baload, 1), (.bipush 32, 2)], .if_icmp .ne 9, 3, [6, 5], 0),
  (28, [(.iinc 3 1, 3)], .goto (-21), 3, [2], 0),
  (34, [(.aload_n 1, 1), (.iload_n 3, 1), (.iload_n 2, 1)], .invokestatic 26, 3, [7], 287),
  (40, [(.istore 5, 2), (.aload_n 0, 1), (.aload_n 1, 1), (.iload_n 3, 1), (.iload 5, 2)], .invokevirtual 30, 3, [8], 288),
  (50, [(.aload_n 0, 1), (.getfield 9, 3), (.aload_n 0, 1), (.getfield 22, 3), (.iconst 1, 1), (.isub, 1), (.iaload, 1), (.bipush 6, 2)], .if_icmp .ne 7, 3, [10, 9], 0),
  (66, [(.iconst 1, 1)], .goto 4, 3, [11], 0),
  (70, [(.iconst 0, 1)], .nop, 0, [11], 0),
  (71, [(.istore 4, 2), (.iload 5, 2), (.istore_n 3, 1)], .goto (-66), 3, [2], 0),
  (79, [(.aload_n 0, 1), (.getfield 9, 3), (.aload_n 0, 1), (.getfield 22, 3), (.iload 4, 2)], .ifCond .eq 8, 3, [14, 13], 0),
  (92, [(.bipush 6, 2)], .goto 4, 3, [15], 0),
  (97, [(.iconst 0, 1)], .nop, 0, [15], 0),
  (98, [(.iastore, 1)], .nop, 0, [16], 0),
  (99, [(.aload_n 0, 1), (.getfield 15, 3), (.aload_n 0, 1), (.getfield 22, 3), (.iload_n 2, 1), (.iastore, 1)], .nop, 0, [17], 0),
  (109, [(.aload_n 0, 1), (.getfield 18, 3), (.aload_n 0, 1), (.getfield 22, 3), (.lconst 0, 1), (.lastore, 1)], .nop, 0, [18], 0),
  (119, [], .return_, 1, [], 0)]
/-- tk_isLetter -/
def nb_b285 : List nb_B := [
  (0, [(.iload_n 0, 1), (.bipush 97, 2)], .if_icmp .lt 13, 3, [3, 1], 0),
  (6, [(.iload_n 0, 1), (.bipush 122, 2)], .if_icmp .gt 7, 3, [3, 2], 0),
  (12, [(.iconst 1, 1)], .goto 4, 3, [4], 0),
  (16, [(.iconst 0, 1)], .nop, 0, [4], 0),
  (17, [], .ireturn, 1, [], 0)]
/-- tk_isDigit -/
def nb_b286 : List nb_B := [
  (0, [(.iload_n 0, 1), (.bipush 48, 2)], .if_icmp .lt 13, 3, [3, 1], 0),
  (6, [(.iload_n 0, 1), (.bipush 57, 2)], .if_icmp .gt 7, 3, [3, 2], 0),
  (12, [(.iconst 1, 1)], .goto 4, 3, [4], 0),
  (16, [(.iconst 0, 1)], .nop, 0, [4], 0),
  (17, [], .ireturn, 1, [], 0)]
/-- tk_endOfToken -/
def nb_b287 : List nb_B := [
  (0, [(.iload_n 1, 1), (.iconst 1, 1), (.iadd, 1), (.istore_n 3, 1), (.aload_n 0, 1), (.iload_n 1, 1), (.baload, 1)], .invokestatic 34, 3, [1], 285),
  (10, [], .ifCond .eq 23, 3, [6, 2], 0),
  (13, [(.iload_n 3, 1), (.iload_n 2, 1)], .if_icmp .ge 47, 3, [12, 3], 0),
  (18, [(.aload_n 0, 1), (.iload_n 3, 1), (.baload, 1)], .invokestatic 34, 3, [4], 285),
  (24, [], .ifCond .eq 38, 3, [12, 5], 0),
  (27, [(.iinc 3 1, 3)], .goto (-17), 3, [2], 0),
  (33, [(.aload_n 0, 1), (.iload_n 1, 1), (.baload, 1)], .invokestatic 38, 3, [7], 286),
  (39, [], .ifCond .eq 23, 3, [12, 8], 0),
  (42, [(.iload_n 3, 1), (.iload_n 2, 1)], .if_icmp .ge 18, 3, [12, 9], 0),
  (47, [(.aload_n 0, 1), (.iload_n 3, 1), (.baload, 1)], .invokestatic 38, 3, [10], 286),
  (53, [], .ifCond .eq 9, 3, [12, 11], 0),
  (56, [(.iinc 3 1, 3)], .goto (-17), 3, [8], 0),
  (62, [(.iload_n 3, 1)], .ireturn, 1, [], 0)]
/-- tk_add -/
def nb_b288 : List nb_B := [
  (0, [(.aload_n 0, 1), (.getfield 15, 3), (.aload_n 0, 1), (.getfield 22, 3), (.iload_n 2, 1), (.iastore, 1)], .nop, 0, [1], 0),
  (10, [(.aload_n 0, 1), (.getfield 18, 3), (.aload_n 0, 1), (.getfield 22, 3), (.lconst 0, 1), (.lastore, 1)], .nop, 0, [2], 0),
  (20, [(.aload_n 1, 1), (.iload_n 2, 1), (.baload, 1)], .invokestatic 34, 3, [3], 285),
  (26, [], .ifCond .eq 13, 3, [6, 4], 0),
  (29, [(.aload_n 0, 1), (.aload_n 1, 1), (.iload_n 2, 1), (.iload_n 3, 1)], .invokevirtual 41, 3, [5], 289),
  (36, [], .goto 66, 3, [17], 0),
  (39, [(.aload_n 1, 1), (.iload_n 2, 1), (.baload, 1)], .invokestatic 38, 3, [7], 286),
  (45, [], .ifCond .eq 13, 3, [10, 8], 0),
  (48, [(.aload_n 0, 1), (.aload_n 1, 1), (.iload_n 2, 1), (.iload_n 3, 1)], .invokevirtual 44, 3, [9], 290),
  (55, [], .goto 47, 3, [17], 0),
  (58, [(.aload_n 1, 1), (.iload_n 2, 1), (.baload, 1), (.bipush 59, 2)], .if_icmp .ne 16, 3, [13, 11], 0),
  (66, [(.aload_n 0, 1), (.getfield 9, 3), (.aload_n 0, 1), (.getfield 22, 3), (.iconst 4, 1), (.iastore, 1)], .nop, 0, [12], 0),
  (76, [], .goto 26, 3, [17], 0),
  (79, [(.aload_n 0, 1), (.getfield 9, 3), (.aload_n 0, 1), (.getfield 22, 3), (.aload_n 1, 1), (.iload_n 2, 1), (.baload, 1), (.bipush 44, 2)], .if_icmp .ne 7, 3, [15, 14], 0),
  (95, [(.iconst 5, 1)], .goto 5, 3, [16], 0),
  (99, [(.bipush 6, 2)], .nop, 0, [16], 0),
  (101, [(.iastore, 1)], .nop, 0, [17], 0),
  (102, [(.aload_n 0, 1), (.dup, 1), (.getfield 22, 3), (.iconst 1, 1), (.iadd, 1), (.putfield 22, 3)], .nop, 0, [18], 0),
  (112, [], .return_, 1, [], 0)]
/-- tk_addWord -/
def nb_b289 : List nb_B := [
  (0, [(.iload_n 3, 1), (.iload_n 2, 1), (.isub, 1), (.bipush 8, 2)], .if_icmp .le 15, 3, [3, 1], 0),
  (8, [(.aload_n 0, 1), (.getfield 9, 3), (.aload_n 0, 1), (.getfield 22, 3), (.bipush 6, 2), (.iastore, 1)], .nop, 0, [2], 0),
  (19, [], .return_, 1, [], 0),
  (20, [(.lconst 0, 1), (.lstore 4, 2), (.iload_n 2, 1), (.istore 6, 2)], .nop, 0, [4], 0),
  (26, [(.iload 6, 2), (.iload_n 3, 1)], .if_icmp .ge 26, 3, [6, 5], 0),
  (32, [(.lload 4, 2), (.iconst 5, 1), (.lshl, 1), (.aload_n 1, 1), (.iload 6, 2), (.baload, 1), (.bipush 97, 2), (.isub, 1), (.iconst 1, 1), (.iadd, 1), (.i2l, 1), (.lor, 1), (.lstore 4, 2), (.iinc 6 1, 3)], .goto (-26), 3, [4], 0),
  (55, [(.aload_n 0, 1), (.getfield 18, 3), (.aload_n 0, 1), (.getfield 22, 3), (.lload 4, 2), (.lastore, 1)], .nop, 0, [7], 0),
  (66, [(.aload_n 0, 1), (.getfield 9, 3), (.aload_n 0, 1), (.getfield 22, 3), (.lload 4, 2)], .invokestatic 47, 3, [8], 291),
  (79, [], .ifCond .eq 7, 3, [10, 9], 0),
  (82, [(.iconst 2, 1)], .goto 4, 3, [11], 0),
  (86, [(.iconst 1, 1)], .nop, 0, [11], 0),
  (87, [(.iastore, 1)], .nop, 0, [12], 0),
  (88, [], .return_, 1, [], 0)]
/-- tk_addWhole -/
def nb_b290 : List nb_B := [
  (0, [(.iload_n 3, 1), (.iload_n 2, 1), (.isub, 1), (.iconst 3, 1)], .if_icmp .le 15, 3, [3, 1], 0),
  (7, [(.aload_n 0, 1), (.getfield 9, 3), (.aload_n 0, 1), (.getfield 22, 3), (.bipush 6, 2), (.iastore, 1)], .nop, 0, [2], 0),
  (18, [], .return_, 1, [], 0),
  (19, [(.lconst 0, 1), (.lstore 4, 2), (.iload_n 2, 1), (.istore 6, 2)], .nop, 0, [4], 0),
  (25, [(.iload 6, 2), (.iload_n 3, 1)], .if_icmp .ge 27, 3, [6, 5], 0),
  (31, [(.lload 4, 2), (.ldc2_w 51, 3), (.lmul, 1), (.aload_n 1, 1), (.iload 6, 2), (.baload, 1), (.i2l, 1), (.ladd, 1), (.ldc2_w 53, 3), (.lsub, 1), (.lstore 4, 2), (.iinc 6 1, 3)], .goto (-27), 3, [4], 0),
  (55, [(.aload_n 0, 1), (.getfield 18, 3), (.aload_n 0, 1), (.getfield 22, 3), (.lload 4, 2), (.lastore, 1)], .nop, 0, [7], 0),
  (66, [(.aload_n 0, 1), (.getfield 9, 3), (.aload_n 0, 1), (.getfield 22, 3), (.iconst 3, 1), (.iastore, 1)], .nop, 0, [8], 0),
  (76, [], .return_, 1, [], 0)]
/-- tk_isLineWord -/
def nb_b291 : List nb_B := [
  (0, [(.lload_n 0, 1), (.ldc 55, 2)], .invokestatic 57, 3, [1], 292),
  (6, [(.lcmp, 1)], .ifCond .eq 53, 3, [12, 2], 0),
  (10, [(.lload_n 0, 1), (.ldc 61, 2)], .invokestatic 57, 3, [3], 292),
  (16, [(.lcmp, 1)], .ifCond .eq 43, 3, [12, 4], 0),
  (20, [(.lload_n 0, 1), (.ldc 63, 2)], .invokestatic 57, 3, [5], 292),
  (26, [(.lcmp, 1)], .ifCond .eq 33, 3, [12, 6], 0),
  (30, [(.lload_n 0, 1), (.ldc 65, 2)], .invokestatic 57, 3, [7], 292),
  (36, [(.lcmp, 1)], .ifCond .eq 23, 3, [12, 8], 0),
  (40, [(.lload_n 0, 1), (.ldc 67, 2)], .invokestatic 57, 3, [9], 292),
  (46, [(.lcmp, 1)], .ifCond .eq 13, 3, [12, 10], 0),
  (50, [(.lload_n 0, 1), (.ldc 69, 2)], .invokestatic 57, 3, [11], 292),
  (56, [(.lcmp, 1)], .ifCond .ne 7, 3, [13, 12], 0),
  (60, [(.iconst 1, 1)], .goto 4, 3, [14], 0),
  (64, [(.iconst 0, 1)], .nop, 0, [14], 0),
  (65, [], .ireturn, 1, [], 0)]
/-- tk_letters -/
def nb_b292 : List nb_B := [
  (0, [(.lconst 0, 1), (.lstore_n 1, 1), (.iconst 0, 1), (.istore_n 3, 1)], .nop, 0, [1], 0),
  (4, [(.iload_n 3, 1), (.aload_n 0, 1)], .invokevirtual 71, 3, [2], 901),
  (9, [], .if_icmp .ge 25, 3, [5, 3], 0),
  (12, [(.lload_n 1, 1), (.iconst 5, 1), (.lshl, 1), (.aload_n 0, 1), (.iload_n 3, 1)], .invokevirtual 77, 3, [4], 902),
  (20, [(.bipush 97, 2), (.isub, 1), (.iconst 1, 1), (.iadd, 1), (.i2l, 1), (.lor, 1), (.lstore_n 1, 1), (.iinc 3 1, 3)], .goto (-27), 3, [1], 0),
  (34, [(.lload_n 1, 1)], .lreturn, 1, [], 0)]
/-- law_law -/
def nb_b293 : List nb_B := [
  (0, [(.new 8, 3)], .nop, 0, [1], 0),
  (3, [(.dup, 1)], .invokespecial 15, 3, [2], 1),
  (7, [(.astore_n 1, 1), (.new 16, 3)], .nop, 0, [3], 0),
  (11, [(.dup, 1)], .invokespecial 18, 3, [4], 77),
  (15, [(.astore_n 2, 1), (.iconst 1, 1), (.newarray .long, 2)], .nop, 0, [5], 0),
  (19, [(.astore_n 3, 1), (.iconst 0, 1), (.istore 4, 2)], .nop, 0, [6], 0),
  (23, [(.iload 4, 2), (.aload_n 0, 1), (.arraylength, 1), (.bipush 6, 2), (.isub, 1)], .if_icmp .gt 1691, 3, [240, 7], 0),
  (33, [(.aload_n 0, 1), (.iload 4, 2), (.iaload, 1), (.bipush 63, 2), (.iand, 1)], .tableswitch 1675 0 51 #[224, 297, 322, 335, 348, 385, 422, 447, 460, 485, 522, 547, 572, 597, 622, 647, 672, 697, 722, 747, 812, 853, 866, 891, 916, 941, 954, 967, 992, 1029, 1066, 1091, 1144, 1169, 1182, 1219, 1244, 1257, 1294, 1307, 1332, 1369, 1406, 1431, 1456, 1469, 1482, 1507, 1544, 1581, 1637, 1662], 224, [239, 8, 12, 16, 20, 24, 28, 32, 36, 40, 44, 48, 52, 56, 60, 64, 68, 72, 76, 80, 84, 94, 104, 108, 112, 116, 120, 124, 128, 132, 136, 140, 144, 154, 158, 162, 166, 170, 174, 178, 182, 186, 190, 194, 198, 202, 206, 210, 214, 218, 222, 231, 235], 0),
  (264, [(.aload_n 1, 1), (.aload_n 0, 1), (.iload 4, 2), (.iconst 1, 1), (.iadd, 1), (.iaload, 1), (.aload_n 0, 1), (.iload 4, 2), (.iconst 2, 1), (.iadd, 1), (.iaload, 1), (.aload_n 0, 1), (.iload 4, 2), (.iconst 3, 1), (.iadd, 1), (.iaload, 1), (.aload_n 0, 1), (.iload 4, 2), (.iconst 4, 1), (.iadd, 1), (.iaload, 1), (.aload_n 0, 1), (.iload 4, 2), (.iconst 5, 1), (.iadd, 1), (.iaload, 1)], .invokevirtual 19, 3, [9], 2),
  (298, [(.aload_n 2, 1), (.aload_n 0, 1), (.iload 4, 2), (.iconst 1, 1), (.iadd, 1), (.iaload, 1), (.aload_n 0, 1), (.iload 4, 2), (.iconst 2, 1), (.iadd, 1), (.iaload, 1), (.aload_n 0, 1), (.iload 4, 2), (.iconst 3, 1), (.iadd, 1), (.iaload, 1), (.aload_n 0, 1), (.iload 4, 2), (.iconst 4, 1), (.iadd, 1), (.iaload, 1), (.aload_n 0, 1), (.iload 4, 2), (.iconst 5, 1), (.iadd, 1), (.iaload, 1)], .invokevirtual 23, 3, [10], 87),
  (332, [], .if_icmp .eq 1383, 3, [239, 11], 0),
  (335, [(.iconst 0, 1)], .ireturn, 1, [], 0),
  (337, [(.aload_n 1, 1), (.aload_n 0, 1), (.iload 4, 2), (.iconst 1, 1), (.iadd, 1), (.iaload, 1)], .invokevirtual 24, 3, [13], 4),
  (347, [(.aload_n 2, 1), (.aload_n 0, 1), (.iload 4, 2), (.iconst 1, 1), (.iadd, 1), (.iaload, 1)], .invokevirtual 27, 3, [14], 105),
  (357, [], .if_icmp .eq 1358, 3, [239, 15], 0),
  (360, [(.iconst 0, 1)], .ireturn, 1, [], 0),
  (362, [(.aload_n 1, 1)], .invokevirtual 28, 3, [17], 5),
  (366, [(.aload_n 2, 1)], .invokevirtual 32, 3, [18], 114),
  (370, [], .if_icmp .eq 1345, 3, [239, 19], 0),
  (373, [(.iconst 0, 1)], .ireturn, 1, [], 0),
  (375, [(.aload_n 1, 1)], .invokevirtual 33, 3, [21], 6),
  (379, [(.aload_n 2, 1)], .invokevirtual 36, 3, [22], 115),
  (383, [], .if_icmp .eq 1332, 3, [239, 23], 0),
  (386, [(.iconst 0, 1)], .ireturn, 1, [], 0),
  (388, [(.aload_n 1, 1), (.aload_n 0, 1), (.iload 4, 2), (.iconst 1, 1), (.iadd, 1), (.iaload, 1), (.aload_n 0, 1), (.iload 4, 2), (.iconst 2, 1), (.iadd, 1), (.iaload, 1)], .invokevirtual 37, 3, [25], 16),
  (404, [(.aload_n 2, 1), (.aload_n 0, 1), (.iload 4, 2), (.iconst 1, 1), (.iadd, 1), (.iaload, 1), (.aload_n 0, 1), (.iload 4, 2), (.iconst 2, 1), (.iadd, 1), (.iaload, 1)], .invokevirtual 41, 3, [26], 142),
  (420, [], .if_icmp .eq 1295, 3, [239, 27], 0),
  (423, [(.iconst 0, 1)], .ireturn, 1, [], 0),
  (425, [(.aload_n 1, 1), (.aload_n 0, 1), (.iload 4, 2), (.iconst 1, 1), (.iadd, 1), (.iaload, 1), (.aload_n 0, 1), (.iload 4, 2), (.iconst 2, 1), (.iadd, 1), (.iaload, 1)], .invokevirtual 42, 3, [29], 17),
  (441, [(.aload_n 2, 1), (.aload_n 0, 1), (.iload 4, 2), (.iconst 1, 1), (.iadd, 1), (.iaload, 1), (.aload_n 0, 1), (.iload 4, 2), (.iconst 2, 1), (.iadd, 1), (.iaload, 1)], .invokevirtual 45, 3, [30], 143),
  (457, [], .if_icmp .eq 1258, 3, [239, 31], 0),
  (460, [(.iconst 0, 1)], .ireturn, 1, [], 0),
  (462, [(.aload_n 1, 1), (.aload_n 0, 1), (.iload 4, 2), (.iconst 1, 1), (.iadd, 1), (.iaload, 1)], .invokevirtual 46, 3, [33], 18),
  (472, [(.aload_n 2, 1), (.aload_n 0, 1), (.iload 4, 2), (.iconst 1, 1), (.iadd, 1), (.iaload, 1)], .invokevirtual 49, 3, [34], 144),
  (482, [], .if_icmp .eq 1233, 3, [239, 35], 0),
  (485, [(.iconst 0, 1)], .ireturn, 1, [], 0),
  (487, [(.aload_n 1, 1)], .invokevirtual 50, 3, [37], 19),
  (491, [(.aload_n 2, 1)], .invokevirtual 53, 3, [38], 146),
  (495, [], .if_icmp .eq 1220, 3, [239, 39], 0),
  (498, [(.iconst 0, 1)], .ireturn, 1, [], 0),
  (500, [(.aload_n 1, 1), (.aload_n 0, 1), (.iload 4, 2), (.iconst 1, 1), (.iadd, 1), (.iaload, 1)], .invokevirtual 54, 3, [41], 20),
  (510, [(.aload_n 2, 1), (.aload_n 0, 1), (.iload 4, 2), (.iconst 1, 1), (.iadd, 1), (.iaload, 1)], .invokevirtual 57, 3, [42], 147),
  (520, [], .if_icmp .eq 1195, 3, [239, 43], 0),
  (523, [(.iconst 0, 1)], .ireturn, 1, [], 0),
  (525, [(.aload_n 1, 1), (.aload_n 0, 1), (.iload 4, 2), (.iconst 1, 1), (.iadd, 1), (.iaload, 1), (.aload_n 0, 1), (.iload 4, 2), (.iconst 2, 1), (.iadd, 1), (.iaload, 1)], .invokevirtual 58, 3, [45], 21),
  (541, [(.aload_n 2, 1), (.aload_n 0, 1), (.iload 4, 2), (.iconst 1, 1), (.iadd, 1), (.iaload, 1), (.aload_n 0, 1), (.iload 4, 2), (.iconst 2, 1), (.iadd, 1), (.iaload, 1)], .invokevirtual 61, 3, [46], 148),
  (557, [], .if_icmp .eq 1158, 3, [239, 47], 0),
  (560, [(.iconst 0, 1)], .ireturn, 1, [], 0),
  (562, [(.aload_n 1, 1), (.aload_n 0, 1), (.iload 4, 2), (.iconst 1, 1), (.iadd, 1), (.iaload, 1)], .invokevirtual 62, 3, [49], 22),
  (572, [(.aload_n 2, 1), (.aload_n 0, 1), (.iload 4, 2), (.iconst 1, 1), (.iadd, 1), (.iaload, 1)], .invokevirtual 65, 3, [50], 149),
  (582, [], .if_icmp .eq 1133, 3, [239, 51], 0),
  (585, [(.iconst 0, 1)], .ireturn, 1, [], 0),
  (587, [(.aload_n 1, 1), (.aload_n 0, 1), (.iload 4, 2), (.iconst 1, 1), (.iadd, 1), (.iaload, 1)], .invokevirtual 66, 3, [53], 25),
  (597, [(.aload_n 2, 1), (.aload_n 0, 1), (.iload 4, 2), (.iconst 1, 1), (.iadd, 1), (.iaload, 1)], .invokevirtual 69, 3, [54], 151),
  (607, [], .if_icmp .eq 1108, 3, [239, 55], 0),
  (610, [(.iconst 0, 1)], .ireturn, 1, [], 0),
  (612, [(.aload_n 1, 1), (.aload_n 0, 1), (.iload 4, 2), (.iconst 1, 1), (.iadd, 1), (.iaload, 1)], .invokevirtual 70, 3, [57], 26),
  (622, [(.aload_n 2, 1), (.aload_n 0, 1), (.iload 4, 2), (.iconst 1, 1), (.iadd, 1), (.iaload, 1)], .invokevirtual 73, 3, [58], 152),
  (632, [], .if_icmp .eq 1083, 3, [239, 59], 0),
  (635, [(.iconst 0, 1)], .ireturn, 1, [], 0),
  (637, [(.aload_n 1, 1), (.aload_n 0, 1), (.iload 4, 2), (.iconst 1, 1), (.iadd, 1), (.iaload, 1)], .invokevirtual 74, 3, [61], 27),
  (647, [(.aload_n 2, 1), (.aload_n 0, 1), (.iload 4, 2), (.iconst 1, 1), (.iadd, 1), (.iaload, 1)], .invokevirtual 77, 3, [62], 153),
  (657, [], .if_icmp .eq 1058, 3, [239, 63], 0),
  (660, [(.iconst 0, 1)], .ireturn, 1, [], 0),
  (662, [(.aload_n 1, 1), (.aload_n 0, 1), (.iload 4, 2), (.iconst 1, 1), (.iadd, 1), (.iaload, 1)], .invokevirtual 78, 3, [65], 28),
  (672, [(.aload_n 2, 1), (.aload_n 0, 1), (.iload 4, 2), (.iconst 1, 1), (.iadd, 1), (.iaload, 1)], .invokevirtual 81, 3, [66], 154),
  (682, [], .if_icmp .eq 1033, 3, [239, 67], 0),
  (685, [(.iconst 0, 1)], .ireturn, 1, [], 0),
  (687, [(.aload_n 1, 1), (.aload_n 0, 1), (.iload 4, 2), (.iconst 1, 1), (.iadd, 1), (.iaload, 1)], .invokevirtual 82, 3, [69], 29),
  (697, [(.aload_n 2, 1), (.aload_n 0, 1), (.iload 4, 2), (.iconst 1, 1), (.iadd, 1), (.iaload, 1)], .invokevirtual 85, 3, [70], 155),
  (707, [], .if_icmp .eq 1008, 3, [239, 71], 0),
  (710, [(.iconst 0, 1)], .ireturn, 1, [], 0),
  (712, [(.aload_n 1, 1), (.aload_n 0, 1), (.iload 4, 2), (.iconst 1, 1), (.iadd, 1), (.iaload, 1)], .invokevirtual 86, 3, [73], 30),
  (722, [(.aload_n 2, 1), (.aload_n 0, 1), (.iload 4, 2), (.iconst 1, 1), (.iadd, 1), (.iaload, 1)], .invokevirtual 89, 3, [74], 156),
  (732, [], .if_icmp .eq 983, 3, [239, 75], 0),
  (735, [(.iconst 0, 1)], .ireturn, 1, [], 0),
  (737, [(.aload_n 1, 1), (.aload_n 0, 1), (.iload 4, 2), (.iconst 1, 1), (.iadd, 1), (.iaload, 1)], .invokevirtual 90, 3, [77], 31),
  (747, [(.aload_n 2, 1), (.aload_n 0, 1), (.iload 4, 2), (.iconst 1, 1), (.iadd, 1), (.iaload, 1)], .invokevirtual 93, 3, [78], 157),
  (757, [], .if_icmp .eq 958, 3, [239, 79], 0),
  (760, [(.iconst 0, 1)], .ireturn, 1, [], 0),
  (762, [(.aload_n 1, 1), (.aload_n 0, 1), (.iload 4, 2), (.iconst 1, 1), (.iadd, 1), (.iaload, 1)], .invokevirtual 94, 3, [81], 32),
  (772, [(.aload_n 2, 1), (.aload_n 0, 1), (.iload 4, 2), (.iconst 1, 1), (.iadd, 1), (.iaload, 1)], .invokevirtual 97, 3, [82], 158),
  (782, [], .if_icmp .eq 933, 3, [239, 83], 0),
  (785, [(.iconst 0, 1)], .ireturn, 1, [], 0),
  (787, [(.aload_n 1, 1), (.aload_n 0, 1), (.iload 4, 2), (.iconst 1, 1), (.iadd, 1), (.iaload, 1), (.aload_n 0, 1), (.iload 4, 2), (.iconst 2, 1), (.iadd, 1), (.iaload, 1)], .ifCond .eq 7, 3, [86, 85], 0),
  (803, [(.iconst 1, 1)], .goto 4, 3, [87], 0),
  (807, [(.iconst 0, 1)], .nop, 0, [87], 0),
  (808, [(.aload_n 0, 1), (.iload 4, 2), (.iconst 3, 1), (.iadd, 1), (.iaload, 1)], .invokevirtual 98, 3, [88], 33),
  (817, [(.aload_n 2, 1), (.aload_n 0, 1), (.iload 4, 2), (.iconst 1, 1), (.iadd, 1), (.iaload, 1), (.aload_n 0, 1), (.iload 4, 2), (.iconst 2, 1), (.iadd, 1), (.iaload, 1)], .ifCond .eq 7, 3, [90, 89], 0),
  (833, [(.iconst 1, 1)], .goto 4, 3, [91], 0),
  (837, [(.iconst 0, 1)], .nop, 0, [91], 0),
  (838, [(.aload_n 0, 1), (.iload 4, 2), (.iconst 3, 1), (.iadd, 1), (.iaload, 1)], .invokevirtual 102, 3, [92], 162),
  (847, [], .if_icmp .eq 868, 3, [239, 93], 0),
  (850, [(.iconst 0, 1)], .ireturn, 1, [], 0),
  (852, [(.aload_n 1, 1), (.aload_n 0, 1), (.iload 4, 2), (.iconst 1, 1), (.iadd, 1), (.iaload, 1)], .ifCond .eq 7, 3, [96, 95], 0),
  (862, [(.iconst 1, 1)], .goto 4, 3, [97], 0),
  (866, [(.iconst 0, 1)], .nop, 0, [97], 0),
  (867, [], .invokevirtual 103, 3, [98], 35),
  (870, [(.aload_n 2, 1), (.aload_n 0, 1), (.iload 4, 2), (.iconst 1, 1), (.iadd, 1), (.iaload, 1)], .ifCond .eq 7, 3, [100, 99], 0),
  (880, [(.iconst 1, 1)], .goto 4, 3, [101], 0),
  (884, [(.iconst 0, 1)], .nop, 0, [101], 0),
  (885, [], .invokevirtual 107, 3, [102], 163),
  (888, [], .if_icmp .eq 827, 3, [239, 103], 0),
  (891, [(.iconst 0, 1)], .ireturn, 1, [], 0),
  (893, [(.aload_n 1, 1)], .invokevirtual 108, 3, [105], 36),
  (897, [(.aload_n 2, 1)], .invokevirtual 111, 3, [106], 164),
  (901, [], .if_icmp .eq 814, 3, [239, 107], 0),
  (904, [(.iconst 0, 1)], .ireturn, 1, [], 0),
  (906, [(.aload_n 1, 1), (.aload_n 0, 1), (.iload 4, 2), (.iconst 1, 1), (.iadd, 1), (.iaload, 1)], .invokevirtual 112, 3, [109], 37),
  (916, [(.aload_n 2, 1), (.aload_n 0, 1), (.iload 4, 2), (.iconst 1, 1), (.iadd, 1), (.iaload, 1)], .invokevirtual 115, 3, [110], 166),
  (926, [], .if_icmp .eq 789, 3, [239, 111], 0),
  (929, [(.iconst 0, 1)], .ireturn, 1, [], 0),
  (931, [(.aload_n 1, 1), (.aload_n 0, 1), (.iload 4, 2), (.iconst 1, 1), (.iadd, 1), (.iaload, 1)], .invokevirtual 116, 3, [113], 39),
  (941, [(.aload_n 2, 1), (.aload_n 0, 1), (.iload 4, 2), (.iconst 1, 1), (.iadd, 1), (.iaload, 1)], .invokevirtual 119, 3, [114], 168),
  (951, [], .if_icmp .eq 764, 3, [239, 115], 0),
  (954, [(.iconst 0, 1)], .ireturn, 1, [], 0),
  (956, [(.aload_n 1, 1), (.aload_n 0, 1), (.iload 4, 2), (.iconst 1, 1), (.iadd, 1), (.iaload, 1)], .invokevirtual 120, 3, [117], 40),
  (966, [(.aload_n 2, 1), (.aload_n 0, 1), (.iload 4, 2), (.iconst 1, 1), (.iadd, 1), (.iaload, 1)], .invokevirtual 123, 3, [118], 170),
  (976, [], .if_icmp .eq 739, 3, [239, 119], 0),
  (979, [(.iconst 0, 1)], .ireturn, 1, [], 0),
  (981, [(.aload_n 1, 1)], .invokevirtual 124, 3, [121], 41),
  (985, [(.aload_n 2, 1)], .invokevirtual 127, 3, [122], 173),
  (989, [], .if_icmp .eq 726, 3, [239, 123], 0),
  (992, [(.iconst 0, 1)], .ireturn, 1, [], 0),
  (994, [(.aload_n 1, 1)], .invokevirtual 128, 3, [125], 42),
  (998, [(.aload_n 2, 1)], .invokevirtual 131, 3, [126], 174),
  (1002, [], .if_icmp .eq 713, 3, [239, 127], 0),
  (1005, [(.iconst 0, 1)], .ireturn, 1, [], 0),
  (1007, [(.aload_n 1, 1), (.aload_n 0, 1), (.iload 4, 2), (.iconst 1, 1), (.iadd, 1), (.iaload, 1)], .invokevirtual 132, 3, [129], 46),
  (1017, [(.aload_n 2, 1), (.aload_n 0, 1), (.iload 4, 2), (.iconst 1, 1), (.iadd, 1), (.iaload, 1)], .invokevirtual 135, 3, [130], 171),
  (1027, [], .if_icmp .eq 688, 3, [239, 131], 0),
  (1030, [(.iconst 0, 1)], .ireturn, 1, [], 0),
  (1032, [(.aload_n 1, 1), (.aload_n 0, 1), (.iload 4, 2), (.iconst 1, 1), (.iadd, 1), (.iaload, 1), (.aload_n 0, 1), (.iload 4, 2), (.iconst 2, 1), (.iadd, 1), (.iaload, 1)], .invokevirtual 136, 3, [133], 47),
  (1048, [(.aload_n 2, 1), (.aload_n 0, 1), (.iload 4, 2), (.iconst 1, 1), (.iadd, 1), (.iaload, 1), (.aload_n 0, 1), (.iload 4, 2), (.iconst 2, 1), (.iadd, 1), (.iaload, 1)], .invokevirtual 139, 3, [134], 176),
  (1064, [], .if_icmp .eq 651, 3, [239, 135], 0),
  (1067, [(.iconst 0, 1)], .ireturn, 1, [], 0),
  (1069, [(.aload_n 1, 1), (.aload_n 0, 1), (.iload 4, 2), (.iconst 1, 1), (.iadd, 1), (.iaload, 1), (.aload_n 0, 1), (.iload 4, 2), (.iconst 2, 1), (.iadd, 1), (.iaload, 1)], .invokevirtual 140, 3, [137], 50),
  (1085, [(.aload_n 2, 1), (.aload_n 0, 1), (.iload 4, 2), (.iconst 1, 1), (.iadd, 1), (.iaload, 1), (.aload_n 0, 1), (.iload 4, 2), (.iconst 2, 1), (.iadd, 1), (.iaload, 1)], .invokevirtual 143, 3, [138], 160),
  (1101, [], .if_icmp .eq 614, 3, [239, 139], 0),
  (1104, [(.iconst 0, 1)], .ireturn, 1, [], 0),
  (1106, [(.aload_n 1, 1), (.aload_n 0, 1), (.iload 4, 2), (.iconst 1, 1), (.iadd, 1), (.iaload, 1)], .invokevirtual 144, 3, [141], 51),
  (1116, [(.aload_n 2, 1), (.aload_n 0, 1), (.iload 4, 2), (.iconst 1, 1), (.iadd, 1), (.iaload, 1)], .invokevirtual 147, 3, [142], 159),
  (1126, [], .if_icmp .eq 589, 3, [239, 143], 0),
  (1129, [(.iconst 0, 1)], .ireturn, 1, [], 0),
  (1131, [(.aload_n 1, 1), (.aload_n 0, 1), (.iload 4, 2), (.iconst 1, 1), (.iadd, 1), (.iaload, 1), (.aload_n 0, 1), (.iload 4, 2), (.iconst 2, 1), (.iadd, 1), (.iaload, 1)], .ifCond .eq 7, 3, [146, 145], 0),
  (1147, [(.iconst 1, 1)], .goto 4, 3, [147], 0),
  (1151, [(.iconst 0, 1)], .nop, 0, [147], 0),
  (1152, [], .invokevirtual 148, 3, [148], 52),
  (1155, [(.aload_n 2, 1), (.aload_n 0, 1), (.iload 4, 2), (.iconst 1, 1), (.iadd, 1), (.iaload, 1), (.aload_n 0, 1), (.iload 4, 2), (.iconst 2, 1), (.iadd, 1), (.iaload, 1)], .ifCond .eq 7, 3, [150, 149], 0),
  (1171, [(.iconst 1, 1)], .goto 4, 3, [151], 0),
  (1175, [(.iconst 0, 1)], .nop, 0, [151], 0),
  (1176, [], .invokevirtual 152, 3, [152], 180),
  (1179, [], .if_icmp .eq 536, 3, [239, 153], 0),
  (1182, [(.iconst 0, 1)], .ireturn, 1, [], 0),
  (1184, [(.aload_n 1, 1), (.aload_n 0, 1), (.iload 4, 2), (.iconst 1, 1), (.iadd, 1), (.iaload, 1)], .invokevirtual 153, 3, [155], 55),
  (1194, [(.aload_n 2, 1), (.aload_n 0, 1), (.iload 4, 2), (.iconst 1, 1), (.iadd, 1), (.iaload, 1)], .invokevirtual 156, 3, [156], 182),
  (1204, [], .if_icmp .eq 511, 3, [239, 157], 0),
  (1207, [(.iconst 0, 1)], .ireturn, 1, [], 0),
  (1209, [(.aload_n 1, 1)], .invokevirtual 157, 3, [159], 56),
  (1213, [(.aload_n 2, 1)], .invokevirtual 160, 3, [160], 183),
  (1217, [], .if_icmp .eq 498, 3, [239, 161], 0),
  (1220, [(.iconst 0, 1)], .ireturn, 1, [], 0),
  (1222, [(.aload_n 1, 1), (.aload_n 0, 1), (.iload 4, 2), (.iconst 1, 1), (.iadd, 1), (.iaload, 1), (.aload_n 0, 1), (.iload 4, 2), (.iconst 2, 1), (.iadd, 1), (.iaload, 1)], .invokevirtual 161, 3, [163], 58),
  (1238, [(.aload_n 2, 1), (.aload_n 0, 1), (.iload 4, 2), (.iconst 1, 1), (.iadd, 1), (.iaload, 1), (.aload_n 0, 1), (.iload 4, 2), (.iconst 2, 1), (.iadd, 1), (.iaload, 1)], .invokevirtual 164, 3, [164], 193),
  (1254, [], .if_icmp .eq 461, 3, [239, 165], 0),
  (1257, [(.iconst 0, 1)], .ireturn, 1, [], 0),
  (1259, [(.aload_n 1, 1), (.aload_n 0, 1), (.iload 4, 2), (.iconst 1, 1), (.iadd, 1), (.iaload, 1)], .invokevirtual 165, 3, [167], 59),
  (1269, [(.aload_n 2, 1), (.aload_n 0, 1), (.iload 4, 2), (.iconst 1, 1), (.iadd, 1), (.iaload, 1)], .invokevirtual 168, 3, [168], 194),
  (1279, [], .if_icmp .eq 436, 3, [239, 169], 0),
  (1282, [(.iconst 0, 1)], .ireturn, 1, [], 0),
  (1284, [(.aload_n 1, 1)], .invokevirtual 169, 3, [171], 60),
  (1288, [(.aload_n 2, 1)], .invokevirtual 172, 3, [172], 197),
  (1292, [], .if_icmp .eq 423, 3, [239, 173], 0),
  (1295, [(.iconst 0, 1)], .ireturn, 1, [], 0),
  (1297, [(.aload_n 1, 1), (.aload_n 0, 1), (.iload 4, 2), (.iconst 1, 1), (.iadd, 1), (.iaload, 1), (.aload_n 0, 1), (.iload 4, 2), (.iconst 2, 1), (.iadd, 1), (.iaload, 1)], .invokevirtual 173, 3, [175], 61),
  (1313, [(.aload_n 2, 1), (.aload_n 0, 1), (.iload 4, 2), (.iconst 1, 1), (.iadd, 1), (.iaload, 1), (.aload_n 0, 1), (.iload 4, 2), (.iconst 2, 1), (.iadd, 1), (.iaload, 1)], .invokevirtual 176, 3, [176], 198),
  (1329, [], .if_icmp .eq 386, 3, [239, 177], 0),
  (1332, [(.iconst 0, 1)], .ireturn, 1, [], 0),
  (1334, [(.aload_n 1, 1)], .invokevirtual 177, 3, [179], 62),
  (1338, [(.aload_n 2, 1)], .invokevirtual 180, 3, [180], 199),
  (1342, [], .if_icmp .eq 373, 3, [239, 181], 0),
  (1345, [(.iconst 0, 1)], .ireturn, 1, [], 0),
  (1347, [(.aload_n 1, 1), (.aload_n 0, 1), (.iload 4, 2), (.iconst 1, 1), (.iadd, 1), (.iaload, 1)], .invokevirtual 181, 3, [183], 64),
  (1357, [(.aload_n 2, 1), (.aload_n 0, 1), (.iload 4, 2), (.iconst 1, 1), (.iadd, 1), (.iaload, 1)], .invokevirtual 184, 3, [184], 201),
  (1367, [], .if_icmp .eq 348, 3, [239, 185], 0),
  (1370, [(.iconst 0, 1)], .ireturn, 1, [], 0),
  (1372, [(.aload_n 1, 1), (.aload_n 0, 1), (.iload 4, 2), (.iconst 1, 1), (.iadd, 1), (.iaload, 1), (.aload_n 0, 1), (.iload 4, 2), (.iconst 2, 1), (.iadd, 1), (.iaload, 1)], .invokevirtual 185, 3, [187], 65),
  (1388, [(.aload_n 2, 1), (.aload_n 0, 1), (.iload 4, 2), (.iconst 1, 1), (.iadd, 1), (.iaload, 1), (.aload_n 0, 1), (.iload 4, 2), (.iconst 2, 1), (.iadd, 1), (.iaload, 1)], .invokevirtual 189, 3, [188], 202),
  (1404, [], .if_icmp .eq 311, 3, [239, 189], 0),
  (1407, [(.iconst 0, 1)], .ireturn, 1, [], 0),
  (1409, [(.aload_n 1, 1), (.aload_n 0, 1), (.iload 4, 2), (.iconst 1, 1), (.iadd, 1), (.iaload, 1), (.aload_n 0, 1), (.iload 4, 2), (.iconst 2, 1), (.iadd, 1), (.iaload, 1)], .invokevirtual 190, 3, [191], 66),
  (1425, [(.aload_n 2, 1), (.aload_n 0, 1), (.iload 4, 2), (.iconst 1, 1), (.iadd, 1), (.iaload, 1), (.aload_n 0, 1), (.iload 4, 2), (.iconst 2, 1), (.iadd, 1), (.iaload, 1)], .invokevirtual 193, 3, [192], 203),
  (1441, [], .if_icmp .eq 274, 3, [239, 193], 0),
  (1444, [(.iconst 0, 1)], .ireturn, 1, [], 0),
  (1446, [(.aload_n 1, 1), (.aload_n 0, 1), (.iload 4, 2), (.iconst 1, 1), (.iadd, 1), (.iaload, 1)], .invokevirtual 194, 3, [195], 67),
  (1456, [(.aload_n 2, 1), (.aload_n 0, 1), (.iload 4, 2), (.iconst 1, 1), (.iadd, 1), (.iaload, 1)], .invokevirtual 197, 3, [196], 204),
  (1466, [], .if_icmp .eq 249, 3, [239, 197], 0),
  (1469, [(.iconst 0, 1)], .ireturn, 1, [], 0),
  (1471, [(.aload_n 1, 1), (.aload_n 0, 1), (.iload 4, 2), (.iconst 1, 1), (.iadd, 1), (.iaload, 1)], .invokevirtual 198, 3, [199], 68),
  (1481, [(.aload_n 2, 1), (.aload_n 0, 1), (.iload 4, 2), (.iconst 1, 1), (.iadd, 1), (.iaload, 1)], .invokevirtual 202, 3, [200], 205),
  (1491, [], .if_icmp .eq 224, 3, [239, 201], 0),
  (1494, [(.iconst 0, 1)], .ireturn, 1, [], 0),
  (1496, [(.aload_n 1, 1)], .invokevirtual 203, 3, [203], 70),
  (1500, [(.aload_n 2, 1)], .invokevirtual 207, 3, [204], 206),
  (1504, [], .if_icmp .eq 211, 3, [239, 205], 0),
  (1507, [(.iconst 0, 1)], .ireturn, 1, [], 0),
  (1509, [(.aload_n 1, 1)], .invokevirtual 208, 3, [207], 71),
  (1513, [(.aload_n 2, 1)], .invokevirtual 211, 3, [208], 207),
  (1517, [], .if_icmp .eq 198, 3, [239, 209], 0),
  (1520, [(.iconst 0, 1)], .ireturn, 1, [], 0),
  (1522, [(.aload_n 1, 1), (.aload_n 0, 1), (.iload 4, 2), (.iconst 1, 1), (.iadd, 1), (.iaload, 1)], .invokevirtual 212, 3, [211], 72),
  (1532, [(.aload_n 2, 1), (.aload_n 0, 1), (.iload 4, 2), (.iconst 1, 1), (.iadd, 1), (.iaload, 1)], .invokevirtual 215, 3, [212], 208),
  (1542, [], .if_icmp .eq 173, 3, [239, 213], 0),
  (1545, [(.iconst 0, 1)], .ireturn, 1, [], 0),
  (1547, [(.aload_n 1, 1), (.aload_n 0, 1), (.iload 4, 2), (.iconst 1, 1), (.iadd, 1), (.iaload, 1), (.aload_n 0, 1), (.iload 4, 2), (.iconst 2, 1), (.iadd, 1), (.iaload, 1)], .invokevirtual 216, 3, [215], 73),
  (1563, [(.aload_n 2, 1), (.aload_n 0, 1), (.iload 4, 2), (.iconst 1, 1), (.iadd, 1), (.iaload, 1), (.aload_n 0, 1), (.iload 4, 2), (.iconst 2, 1), (.iadd, 1), (.iaload, 1)], .invokevirtual 219, 3, [216], 209),
  (1579, [], .if_icmp .eq 136, 3, [239, 217], 0),
  (1582, [(.iconst 0, 1)], .ireturn, 1, [], 0),
  (1584, [(.aload_n 1, 1), (.aload_n 0, 1), (.iload 4, 2), (.iconst 1, 1), (.iadd, 1), (.iaload, 1), (.aload_n 0, 1), (.iload 4, 2), (.iconst 2, 1), (.iadd, 1), (.iaload, 1)], .invokevirtual 220, 3, [219], 74),
  (1600, [(.aload_n 2, 1), (.aload_n 0, 1), (.iload 4, 2), (.iconst 1, 1), (.iadd, 1), (.iaload, 1), (.aload_n 0, 1), (.iload 4, 2), (.iconst 2, 1), (.iadd, 1), (.iaload, 1)], .invokevirtual 223, 3, [220], 210),
  (1616, [], .if_icmp .eq 99, 3, [239, 221], 0),
  (1619, [(.iconst 0, 1)], .ireturn, 1, [], 0),
  (1621, [(.aload_n 1, 1), (.aload_n 0, 1), (.iload 4, 2), (.iconst 1, 1), (.iadd, 1), (.iaload, 1), (.aload_n 3, 1)], .invokestatic 224, 3, [223], 904),
  (1632, [(.istore 5, 2), (.aload_n 2, 1), (.aload_n 0, 1), (.iload 4, 2), (.iconst 1, 1), (.iadd, 1), (.iaload, 1)], .invokevirtual 229, 3, [224], 211),
  (1644, [(.istore 6, 2), (.aload_n 2, 1)], .invokevirtual 230, 3, [225], 78),
  (1650, [(.iload 5, 2)], .if_icmp .eq 5, 3, [227, 226], 0),
  (1655, [(.iconst 0, 1)], .ireturn, 1, [], 0),
  (1657, [(.iload 5, 2)], .ifCond .ne 15, 3, [230, 228], 0),
  (1662, [(.aload_n 3, 1), (.iconst 0, 1), (.laload, 1), (.iload 6, 2), (.i2l, 1), (.lcmp, 1)], .ifCond .eq 5, 3, [230, 229], 0),
  (1672, [(.iconst 0, 1)], .ireturn, 1, [], 0),
  (1674, [], .goto 41, 3, [239], 0),
  (1677, [(.aload_n 1, 1), (.aload_n 0, 1), (.iload 4, 2), (.iconst 1, 1), (.iadd, 1), (.iaload, 1)], .invokevirtual 233, 3, [232], 75),
  (1687, [(.aload_n 2, 1), (.aload_n 0, 1), (.iload 4, 2), (.iconst 1, 1), (.iadd, 1), (.iaload, 1)], .invokevirtual 236, 3, [233], 212),
  (1697, [], .if_icmp .eq 18, 3, [239, 234], 0),
  (1700, [(.iconst 0, 1)], .ireturn, 1, [], 0),
  (1702, [(.aload_n 1, 1)], .invokevirtual 237, 3, [236], 76),
  (1706, [(.aload_n 2, 1)], .invokevirtual 240, 3, [237], 213),
  (1710, [], .if_icmp .eq 5, 3, [239, 238], 0),
  (1713, [(.iconst 0, 1)], .ireturn, 1, [], 0),
  (1715, [(.iinc 4 6, 3)], .goto (-1695), 3, [6], 0),
  (1721, [(.iconst 1, 1)], .ireturn, 1, [], 0)]
/-- ji_bitCount -/
def nb_b294 : List nb_B := [
  (0, [(.iload_n 0, 1), (.iload_n 0, 1), (.iconst 1, 1), (.iushr, 1), (.ldc_w 265, 3), (.iand, 1), (.isub, 1), (.istore_n 0, 1), (.iload_n 0, 1), (.ldc_w 266, 3), (.iand, 1), (.iload_n 0, 1), (.iconst 2, 1), (.iushr, 1), (.ldc_w 266, 3), (.iand, 1), (.iadd, 1), (.istore_n 0, 1), (.iload_n 0, 1), (.iload_n 0, 1), (.iconst 4, 1), (.iushr, 1), (.iadd, 1), (.ldc_w 267, 3), (.iand, 1), (.istore_n 0, 1), (.iload_n 0, 1), (.iload_n 0, 1), (.bipush 8, 2), (.iushr, 1), (.iadd, 1), (.istore_n 0, 1), (.iload_n 0, 1), (.iload_n 0, 1), (.bipush 16, 2), (.iushr, 1), (.iadd, 1), (.istore_n 0, 1), (.iload_n 0, 1), (.bipush 63, 2), (.iand, 1)], .ireturn, 1, [], 0)]
/-- ja_fill -/
def nb_b295 : List nb_B := [
  (0, [(.iconst 0, 1), (.istore_n 2, 1), (.aload_n 0, 1), (.arraylength, 1), (.istore_n 3, 1)], .nop, 0, [1], 0),
  (5, [(.iload_n 2, 1), (.iload_n 3, 1)], .if_icmp .ge 13, 3, [4, 2], 0),
  (10, [(.aload_n 0, 1), (.iload_n 2, 1), (.iload_n 1, 1), (.iastore, 1)], .nop, 0, [3], 0),
  (14, [(.iinc 2 1, 3)], .goto (-12), 3, [1], 0),
  (20, [], .return_, 1, [], 0)]
def nb_blks : List (List nb_B) := [nb_b0, nb_b1, nb_b2, nb_b3, nb_b4, nb_b5, nb_b6, nb_b7, nb_b8, nb_b9, nb_b10, nb_b11, nb_b12, nb_b13, nb_b14, nb_b15, nb_b16, nb_b17, nb_b18, nb_b19, nb_b20, nb_b21, nb_b22, nb_b23, nb_b24, nb_b25, nb_b26, nb_b27, nb_b28, nb_b29, nb_b30, nb_b31, nb_b32, nb_b33, nb_b34, nb_b35, nb_b36, nb_b37, nb_b38, nb_b39, nb_b40, nb_b41, nb_b42, nb_b43, nb_b44, nb_b45, nb_b46, nb_b47, nb_b48, nb_b49, nb_b50, nb_b51, nb_b52, nb_b53, nb_b54, nb_b55, nb_b56, nb_b57, nb_b58, nb_b59, nb_b60, nb_b61, nb_b62, nb_b63, nb_b64, nb_b65, nb_b66, nb_b67, nb_b68, nb_b69, nb_b70, nb_b71, nb_b72, nb_b73, nb_b74, nb_b75, nb_b76, nb_b77, nb_b78, nb_b79, nb_b80, nb_b81, nb_b82, nb_b83, nb_b84, nb_b85, nb_b86, nb_b87, nb_b88, nb_b89, nb_b90, nb_b91, nb_b92, nb_b93, nb_b94, nb_b95, nb_b96, nb_b97, nb_b98, nb_b99, nb_b100, nb_b101, nb_b102, nb_b103, nb_b104, nb_b105, nb_b106, nb_b107, nb_b108, nb_b109, nb_b110, nb_b111, nb_b112, nb_b113, nb_b114, nb_b115, nb_b116, nb_b117, nb_b118, nb_b119, nb_b120, nb_b121, nb_b122, nb_b123, nb_b124, nb_b125, nb_b126, nb_b127, nb_b128, nb_b129, nb_b130, nb_b131, nb_b132, nb_b133, nb_b134, nb_b135, nb_b136, nb_b137, nb_b138, nb_b139, nb_b140, nb_b141, nb_b142, nb_b143, nb_b144, nb_b145, nb_b146, nb_b147, nb_b148, nb_b149, nb_b150, nb_b151, nb_b152, nb_b153, nb_b154, nb_b155, nb_b156, nb_b157, nb_b158, nb_b159, nb_b160, nb_b161, nb_b162, nb_b163, nb_b164, nb_b165, nb_b166, nb_b167, nb_b168, nb_b169, nb_b170, nb_b171, nb_b172, nb_b173, nb_b174, nb_b175, nb_b176, nb_b177, nb_b178, nb_b179, nb_b180, nb_b181, nb_b182, nb_b183, nb_b184, nb_b185, nb_b186, nb_b187, nb_b188, nb_b189, nb_b190, nb_b191, nb_b192, nb_b193, nb_b194, nb_b195, nb_b196, nb_b197, nb_b198, nb_b199, nb_b200, nb_b201, nb_b202, nb_b203, nb_b204, nb_b205, nb_b206, nb_b207, nb_b208, nb_b209, nb_b210, nb_b211, nb_b212, nb_b213, nb_b214, nb_b215, nb_b216, nb_b217, nb_b218, nb_b219, nb_b220, nb_b221, nb_b222, nb_b223, nb_b224, nb_b225, nb_b226, nb_b227, nb_b228, nb_b229, nb_b230, nb_b231, nb_b232, nb_b233, nb_b234, nb_b235, nb_b236, nb_b237, nb_b238, nb_b239, nb_b240, nb_b241, nb_b242, nb_b243, nb_b244, nb_b245, nb_b246, nb_b247, nb_b248, nb_b249, nb_b250, nb_b251, nb_b252, nb_b253, nb_b254, nb_b255, nb_b256, nb_b257, nb_b258, nb_b259, nb_b260, nb_b261, nb_b262, nb_b263, nb_b264, nb_b265, nb_b266, nb_b267, nb_b268, nb_b269, nb_b270, nb_b271, nb_b272, nb_b273, nb_b274, nb_b275, nb_b276, nb_b277, nb_b278, nb_b279, nb_b280, nb_b281, nb_b282, nb_b283, nb_b284, nb_b285, nb_b286, nb_b287, nb_b288, nb_b289, nb_b290, nb_b291, nb_b292, nb_b293, nb_b294, nb_b295]
def nb_mths : List nb_X := [(4, 4, 1, 2, 1), (8, 2, 0, 1, 4), (8, 6, 1, 6, 2), (8, 3, 0, 2, 1), (8, 4, 1, 2, 15), (8, 1, 1, 1, 1), (8, 1, 1, 1, 1), (8, 3, 2, 3, 1), (8, 1, 2, 1, 1), (8, 2, 2, 2, 1), (8, 3, 2, 3, 2), (8, 2, 2, 2, 1), (8, 2, 2, 2, 1), (8, 2, 2, 2, 2), (8, 2, 2, 2, 1), (8, 2, 2, 2, 1), (8, 4, 1, 3, 2), (8, 4, 1, 3, 3), (8, 4, 1, 2, 2), (8, 1, 1, 1, 2), (8, 2, 1, 2, 3), (8, 3, 1, 3, 2), (8, 2, 1, 2, 2), (8, 1, 4, 1, 4), (8, 1, 4, 1, 6), (8, 2, 1, 2, 7), (8, 2, 1, 2, 7), (8, 2, 1, 2, 7), (8, 2, 1, 2, 7), (8, 2, 1, 2, 7), (8, 2, 1, 2, 7), (8, 2, 1, 2, 7), (8, 3, 1, 2, 7), (8, 4, 1, 4, 7), (8, 6, 1, 4, 6), (8, 6, 1, 2, 7), (8, 3, 1, 1, 7), (8, 4, 1, 2, 7), (8, 2, 2, 2, 2), (8, 6, 1, 2, 6), (8, 6, 1, 2, 6), (8, 1, 1, 1, 8), (8, 1, 1, 1, 8), (8, 1, 2, 1, 2), (8, 5, 1, 1, 7), (8, 3, 1, 2, 6), (8, 6, 1, 2, 6), (8, 5, 1, 3, 7), (8, 3, 2, 3, 3), (8, 3, 0, 3, 1), (8, 4, 1, 3, 6), (8, 3, 1, 2, 6), (8, 3, 1, 3, 7), (8, 2, 2, 2, 2), (8, 3, 4, 2, 6), (8, 4, 1, 2, 7), (8, 4, 1, 1, 7), (8, 3, 2, 2, 1), (8, 4, 1, 3, 5), (8, 2, 1, 2, 5), (8, 1, 1, 1, 4), (8, 3, 1, 3, 5), (8, 3, 1, 1, 2), (8, 1, 0, 1, 4), (8, 2, 1, 2, 6), (8, 3, 2, 3, 5), (8, 3, 2, 3, 5), (8, 3, 1, 2, 5), (8, 2, 2, 2, 5), (8, 2, 2, 2, 2), (8, 1, 2, 1, 4), (8, 1, 1, 1, 4), (8, 2, 2, 2, 4), (8, 4, 1, 3, 2), (8, 3, 1, 3, 2), (8, 2, 1, 2, 1), (8, 1, 1, 1, 1), (9, 1, 0, 1, 2), (9, 1, 1, 1, 1), (9, 1, 0, 1, 1), (9, 2, 1, 2, 1), (9, 2, 1, 2, 1), (9, 2, 2, 2, 1), (9, 3, 2, 3, 1), (9, 2, 2, 2, 1), (9, 3, 1, 1, 1), (9, 6, 0, 5, 1), (9, 8, 1, 6, 1), (9, 2, 1, 2, 1), (9, 1, 2, 1, 1), (9, 1, 2, 1, 1), (9, 4, 0, 1, 2), (9, 3, 0, 3, 1), (9, 4, 2, 2, 9), (9, 2, 2, 2, 10), (9, 2, 0, 2, 11), (9, 2, 0, 1, 10), (9, 4, 1, 1, 1), (9, 3, 0, 2, 11), (9, 4, 1, 3, 11), (9, 1, 1, 1, 12), (9, 2, 1, 1, 13), (9, 4, 1, 3, 3), (9, 4, 1, 4, 12), (9, 1, 2, 1, 3), (9, 3, 1, 2, 16), (9, 3, 2, 3, 10), (9, 1, 0, 1, 15), (9, 1, 0, 1, 13), (9, 2, 0, 1, 13), (9, 3, 0, 1, 13), (9, 7, 0, 1, 13), (9, 3, 0, 1, 13), (9, 3, 0, 1, 14), (9, 1, 1, 1, 1), (9, 1, 1, 1, 1), (9, 2, 2, 2, 2), (9, 2, 2, 2, 2), (9, 2, 2, 2, 2), (9, 2, 2, 2, 2), (9, 3, 1, 3, 1), (9, 1, 0, 1, 2), (9, 3, 1, 3, 1), (9, 3, 1, 2, 2), (9, 4, 0, 2, 3), (9, 3, 1, 3, 1), (9, 2, 2, 2, 2), (9, 2, 1, 2, 1), (9, 5, 1, 4, 3), (9, 7, 1, 3, 2), (9, 6, 1, 4, 2), (9, 7, 1, 3, 3), (9, 6, 0, 2, 5), (9, 9, 0, 4, 4), (9, 1, 0, 1, 6), (9, 2, 1, 2, 2), (9, 3, 1, 2, 3), (9, 3, 2, 3, 2), (9, 7, 1, 2, 3), (9, 4, 1, 2, 4), (9, 5, 1, 2, 4), (9, 4, 1, 2, 2), (9, 4, 1, 3, 3), (9, 7, 1, 3, 3), (9, 4, 1, 2, 3), (9, 4, 1, 2, 3), (9, 1, 1, 1, 4), (9, 2, 1, 2, 4), (9, 3, 1, 3, 4), (9, 2, 1, 2, 3), (9, 1, 0, 1, 7), (9, 2, 1, 2, 8), (9, 2, 1, 2, 8), (9, 2, 1, 2, 8), (9, 2, 1, 2, 8), (9, 2, 1, 2, 8), (9, 2, 1, 2, 8), (9, 2, 1, 2, 8), (9, 2, 1, 2, 8), (9, 2, 1, 2, 7), (9, 3, 1, 3, 7), (9, 4, 0, 3, 7), (9, 4, 1, 4, 8), (9, 6, 1, 2, 8), (9, 5, 1, 1, 8), (9, 2, 2, 2, 2), (9, 3, 1, 2, 8), (9, 2, 1, 2, 7), (9, 8, 1, 2, 8), (9, 3, 0, 3, 1), (9, 8, 1, 2, 8), (9, 8, 1, 2, 8), (9, 3, 1, 1, 7), (9, 2, 1, 1, 8), (9, 2, 1, 1, 8), (9, 3, 2, 3, 3), (9, 6, 1, 3, 8), (9, 3, 0, 2, 7), (9, 1, 1, 1, 1), (9, 2, 1, 2, 2), (9, 6, 1, 3, 8), (9, 3, 2, 2, 8), (9, 3, 1, 2, 9), (9, 3, 1, 1, 9), (9, 9, 0, 7, 10), (9, 9, 0, 7, 9), (9, 9, 0, 7, 8), (9, 9, 0, 7, 7), (9, 9, 0, 7, 6), (9, 9, 0, 7, 5), (9, 9, 0, 7, 4), (9, 9, 0, 7, 3), (9, 3, 1, 2, 11), (9, 4, 1, 3, 12), (9, 3, 1, 2, 12), (9, 5, 2, 2, 2), (9, 3, 1, 1, 3), (9, 1, 1, 1, 4), (9, 3, 1, 3, 4), (9, 3, 1, 1, 3), (9, 2, 0, 1, 2), (9, 3, 1, 2, 6), (9, 3, 2, 3, 3), (9, 3, 2, 3, 4), (9, 3, 1, 2, 3), (9, 2, 2, 2, 3), (9, 1, 2, 1, 2), (9, 1, 1, 1, 2), (9, 2, 2, 2, 2), (9, 4, 1, 3, 3), (9, 3, 1, 3, 3), (9, 4, 1, 2, 3), (9, 2, 1, 2, 2), (9, 1, 1, 1, 1), (0, 1, 0, 1, 2), (0, 2, 0, 2, 1), (0, 3, 0, 3, 1), (0, 1, 2, 1, 1), (1, 2, 0, 1, 3), (1, 2, 0, 1, 2), (1, 7, 1, 3, 1), (1, 4, 1, 2, 1), (1, 5, 2, 3, 1), (2, 2, 0, 2, 3), (2, 5, 2, 4, 14), (2, 1, 0, 1, 1), (2, 2, 0, 2, 1), (2, 2, 2, 2, 10), (2, 1, 0, 1, 2), (2, 1, 0, 1, 13), (2, 1, 0, 1, 12), (2, 4, 0, 1, 12), (2, 9, 0, 1, 12), (2, 8, 0, 1, 12), (2, 3, 0, 2, 4), (2, 4, 0, 3, 3), (2, 2, 0, 1, 12), (2, 4, 0, 1, 12), (2, 3, 0, 3, 2), (2, 3, 0, 3, 2), (2, 2, 1, 1, 1), (2, 3, 1, 2, 2), (2, 2, 0, 2, 11), (2, 4, 1, 4, 11), (2, 4, 1, 3, 2), (2, 2, 1, 1, 11), (2, 2, 1, 1, 11), (3, 1, 0, 1, 2), (3, 5, 0, 3, 4), (3, 4, 1, 4, 2), (3, 7, 1, 3, 3), (3, 1, 1, 1, 1), (3, 5, 1, 2, 4), (4, 3, 0, 2, 3), (4, 3, 0, 2, 3), (4, 3, 0, 2, 3), (4, 2, 0, 1, 3), (4, 4, 0, 2, 5), (4, 5, 1, 2, 2), (4, 3, 1, 3, 1), (4, 2, 0, 2, 1), (4, 6, 0, 3, 4), (4, 8, 1, 2, 2), (4, 8, 0, 5, 3), (4, 3, 0, 2, 2), (4, 4, 1, 2, 1), (4, 3, 1, 2, 1), (4, 2, 1, 2, 2), (4, 2, 1, 2, 3), (4, 4, 1, 2, 2), (4, 4, 1, 2, 2), (5, 1, 0, 1, 2), (5, 1, 0, 1, 2), (5, 2, 0, 2, 2), (5, 3, 0, 3, 1), (5, 3, 1, 2, 1), (5, 4, 1, 2, 1), (5, 4, 1, 2, 2), (5, 3, 1, 2, 1), (6, 1, 0, 1, 2), (6, 6, 1, 2, 3), (6, 4, 2, 4, 4), (6, 5, 2, 3, 2), (7, 1, 0, 1, 2), (7, 6, 0, 3, 13), (7, 1, 2, 1, 1), (7, 1, 2, 1, 1), (7, 4, 1, 3, 2), (7, 4, 0, 4, 12), (7, 7, 0, 4, 11), (7, 7, 0, 4, 1), (7, 2, 2, 1, 10), (7, 4, 3, 1, 9), (10, 7, 2, 1, 17), (11, 1, 1, 1, 1), (13, 4, 0, 2, 1)]
def nb_lk {α : Type} (l : List (List (Nat × α))) (a b : Nat) : Option α := (l.getD a []).lookup b
def nb_flds : List (List (Nat × nb_F)) := [[(9, (0, 6, 0, false)), (15, (0, 8, 0, false)), (18, (0, 9, 0, false)), (21, (0, 10, 0, false)), (24, (0, 12, 0, false)), (27, (0, 0, 0, false)), (30, (0, 1, 0, false)), (33, (0, 2, 0, false)), (36, (0, 3, 0, false)), (39, (0, 4, 0, false)), (42, (0, 5, 0, false)), (45, (0, 7, 0, false)), (48, (0, 11, 0, false)), (51, (0, 13, 0, false)), (54, (0, 14, 0, false))],
  [(9, (1, 0, 3, false)), (15, (1, 1, 3, false)), (18, (1, 2, 3, false)), (23, (1, 3, 10, false)), (28, (1, 4, 7, false)), (34, (1, 5, 8, false)), (38, (1, 6, 3, false)), (41, (1, 7, 3, false)), (44, (1, 8, 3, false)), (49, (1, 9, 0, false)), (53, (1, 10, 0, false)), (56, (1, 11, 0, false)), (59, (1, 12, 0, false)), (62, (1, 13, 0, false)), (65, (1, 14, 0, false)), (68, (1, 15, 0, false)), (77, (0, 6, 0, false)), (80, (0, 2, 0, false))],
  [(12, (2, 0, 18, false)), (18, (2, 1, 5, false)), (22, (2, 2, 3, false)), (26, (2, 3, 3, false)), (29, (2, 4, 12, false)), (42, (2, 5, 0, false)), (46, (2, 9, 0, false)), (49, (2, 10, 0, false)), (52, (2, 6, 0, false)), (55, (7, 0, 3, false)), (58, (2, 7, 0, false)), (61, (7, 2, 5, false)), (64, (2, 8, 1, false)), (71, (7, 3, 0, false)), (80, (7, 1, 3, false)), (91, (1, 11, 0, false)), (94, (1, 12, 0, false)), (97, (1, 13, 0, false)), (108, (1, 9, 0, false)), (140, (1, 10, 0, false)), (155, (1, 0, 3, false)), (157, (1, 1, 3, false)), (159, (1, 2, 3, false)), (175, (1, 5, 8, false)), (184, (5, 1, 0, false)), (186, (5, 2, 0, false)), (190, (5, 5, 0, false)), (192, (5, 6, 0, false)), (213, (1, 4, 7, false)), (217, (0, 2, 0, false)), (221, (0, 3, 0, false)), (222, (0, 4, 0, false)), (224, (0, 5, 0, false)), (229, (1, 3, 10, false)), (245, (0, 6, 0, false)), (249, (1, 14, 0, false)), (252, (1, 15, 0, false)), (257, (1, 6, 3, false)), (260, (1, 7, 3, false)), (263, (1, 8, 3, false))],
  [(9, (3, 0, 3, false)), (17, (3, 1, 10, false)), (20, (3, 2, 3, false)), (35, (3, 3, 0, false)), (42, (4, 3, 12, false)), (51, (4, 1, 8, false)), (55, (5, 7, 0, false))],
  [(11, (4, 0, 7, false)), (19, (4, 1, 8, false)), (23, (4, 2, 3, false)), (27, (4, 3, 12, false)), (33, (1, 13, 0, false)), (39, (4, 4, 0, false)), (40, (1, 12, 0, false)), (43, (4, 5, 0, false)), (44, (4, 6, 0, false)), (47, (4, 7, 0, false)), (50, (1, 10, 0, false)), (53, (4, 8, 0, false)), (54, (1, 4, 7, false)), (59, (1, 5, 8, false)), (72, (5, 1, 0, false)), (75, (1, 9, 0, false)), (78, (5, 2, 0, false)), (85, (5, 5, 0, false)), (88, (5, 6, 0, false)), (109, (0, 8, 0, false)), (112, (0, 2, 0, false)), (119, (0, 4, 0, false)), (122, (0, 6, 0, false)), (125, (5, 0, 3, false)), (128, (0, 10, 0, false)), (131, (0, 11, 0, false)), (144, (0, 3, 0, false)), (145, (5, 3, 0, false)), (148, (5, 4, 0, false)), (158, (0, 9, 0, false)), (161, (0, 12, 0, false)), (164, (5, 7, 0, false)), (178, (0, 13, 0, false)), (181, (0, 14, 0, false))],
  [(9, (5, 0, 3, false)), (15, (5, 7, 0, false)), (31, (5, 1, 0, false)), (34, (5, 2, 0, false)), (37, (5, 3, 0, false)), (40, (5, 4, 0, false)), (43, (5, 5, 0, false)), (46, (5, 6, 0, false)), (59, (0, 3, 0, false)), (62, (0, 5, 0, false)), (65, (0, 7, 0, false)), (68, (0, 0, 0, false))],
  [(9, (6, 0, 3, false)), (15, (1, 15, 0, false)), (21, (1, 6, 3, false)), (44, (1, 7, 3, false)), (47, (1, 8, 3, false))],
  [(9, (7, 0, 3, false)), (15, (7, 1, 3, false)), (18, (7, 2, 5, false)), (22, (7, 3, 0, false))],
  [(9, (8, 0, 4, false)), (16, (8, 2, 12, false)), (20, (8, 3, 12, false)), (28, (8, 4, 13, false)), (35, (8, 5, 15, false)), (39, (8, 6, 15, false)), (42, (8, 7, 9, false)), (46, (8, 10, 9, false)), (52, (8, 12, 14, false)), (59, (8, 13, 17, false)), (65, (8, 14, 10, false)), (68, (8, 1, 0, false)), (84, (2, 9, 0, false)), (87, (8, 16, 0, false)), (88, (2, 10, 0, false)), (91, (8, 17, 0, false)), (97, (8, 9, 0, false)), (100, (8, 11, 0, false)), (103, (1, 13, 0, false)), (106, (8, 15, 0, false)), (113, (1, 12, 0, false)), (116, (1, 9, 0, false)), (123, (4, 0, 7, false)), (127, (0, 8, 0, false)), (132, (0, 10, 0, false)), (135, (4, 7, 0, false)), (138, (0, 3, 0, false)), (139, (0, 5, 0, false)), (142, (0, 7, 0, false)), (145, (0, 9, 0, false)), (151, (4, 1, 8, false)), (155, (5, 2, 0, false)), (177, (5, 7, 0, false)), (191, (4, 8, 0, false)), (204, (0, 12, 0, false)), (207, (0, 13, 0, false)), (210, (0, 14, 0, false)), (219, (4, 6, 0, false)), (222, (4, 2, 3, false)), (233, (5, 1, 0, false)), (247, (0, 6, 0, false)), (250, (0, 2, 0, false)), (283, (1, 10, 0, false)), (315, (1, 15, 0, false)), (317, (1, 7, 3, false)), (320, (1, 8, 3, false)), (326, (8, 8, 0, false)), (340, (1, 4, 7, false)), (341, (0, 0, 0, false)), (344, (0, 1, 0, false)), (347, (0, 4, 0, false)), (350, (1, 11, 0, false)), (353, (1, 3, 10, false)), (362, (1, 14, 0, false))],
  [(7, (9, 1, 3, false)), (13, (9, 10, 0, false)), (17, (9, 12, 3, false)), (20, (9, 15, 3, false)), (23, (9, 16, 3, false)), (26, (9, 17, 3, false)), (29, (9, 18, 3, false)), (32, (9, 19, 3, false)), (35, (9, 20, 3, false)), (38, (9, 23, 3, false)), (41, (9, 24, 3, false)), (44, (9, 29, 3, false)), (47, (9, 30, 3, false)), (50, (9, 31, 3, false)), (53, (9, 32, 3, false)), (56, (9, 34, 6, false)), (60, (9, 0, 0, false)), (63, (9, 11, 0, false)), (66, (9, 2, 0, false)), (69, (9, 3, 0, false)), (72, (9, 5, 0, false)), (79, (9, 4, 0, false)), (82, (9, 8, 0, false)), (85, (9, 7, 0, false)), (88, (9, 6, 0, false)), (98, (9, 13, 0, true)), (102, (9, 9, 0, false)), (178, (9, 14, 0, true)), (181, (9, 21, 0, false)), (184, (9, 22, 0, false)), (278, (9, 25, 0, false)), (319, (9, 26, 0, false)), (387, (9, 28, 0, false)), (390, (9, 27, 0, false)), (411, (9, 33, 0, false))],
  [],
  [],
  [],
  []]
def nb_csts : List (List (Nat × nb_V)) := [[],
  [],
  [(100, (2, 31)), (110, (2, 32)), (115, (2, 33)), (119, (2, 34)), (124, (2, 35)), (132, (2, 36)), (138, (2, 37)), (149, (2, 38)), (151, (2, 39)), (153, (2, 40)), (166, (2, 41)), (168, (2, 42)), (170, (2, 43)), (172, (2, 44)), (173, (2, 45)), (201, (2, 46)), (203, (2, 47)), (205, (2, 48)), (207, (2, 49)), (247, (2, 50)), (255, (2, 51)), (269, (2, 52)), (271, (2, 53)), (273, (2, 54)), (275, (2, 55)), (277, (2, 56)), (279, (2, 57)), (281, (2, 58)), (283, (2, 59))],
  [(72, (0, 1000000))],
  [(108, (0, 1000000))],
  [(49, (0, 1000000))],
  [],
  [(51, (1, 10)), (53, (1, 48)), (55, (2, 60)), (61, (2, 61)), (63, (2, 62)), (65, (2, 63)), (67, (2, 64)), (69, (2, 65))],
  [(240, (0, 1000000))],
  [(129, (2, 1)), (131, (2, 2)), (133, (2, 3)), (135, (2, 4)), (137, (2, 5)), (139, (2, 6)), (216, (2, 7)), (222, (2, 8)), (228, (2, 9)), (230, (2, 10)), (232, (2, 11)), (234, (2, 12)), (236, (2, 13)), (238, (2, 14)), (240, (2, 15)), (242, (2, 16)), (244, (2, 17)), (245, (2, 18)), (247, (2, 19)), (249, (2, 20)), (251, (2, 21)), (253, (2, 22)), (255, (2, 23)), (257, (2, 24)), (259, (2, 25)), (261, (2, 26)), (263, (2, 27)), (265, (2, 28)), (271, (2, 29)), (276, (2, 30)), (297, (0, 1000000))],
  [],
  [(265, (0, 1431655765)), (266, (0, 858993459)), (267, (0, 252645135))],
  [],
  []]
def nb_clss : List (List (Nat × (Nat × Nat))) := [[],
  [(26, (8, 15)), (32, (13, 8))],
  [(9, (15, 4))],
  [],
  [(9, (8, 15)), (17, (13, 8))],
  [],
  [],
  [],
  [(13, (9, 16)), (23, (10, 11)), (32, (12, 9)), (49, (11, 4)), (56, (14, 1))],
  [],
  [(8, (16, 18)), (16, (17, 35))],
  [],
  [],
  []]
def nb_txts : List (List Int) := [[], [104, 111, 117, 115, 101], [100, 114, 105, 110, 107], [115, 116, 97, 102, 102], [112, 101, 114, 115, 111, 110], [115, 104, 101, 108, 102], [115, 97, 121, 115], [108, 111, 110, 103], [98, 101, 108, 108], [116, 97, 107, 101, 115], [116, 104, 101, 110], [99, 111, 115, 116, 115], [114, 111, 119], [110, 101, 97, 114], [101, 121, 101], [97, 115, 107, 101, 100], [114, 101, 103, 117, 108, 97, 114], [97, 116], [102, 114, 111, 109], [116, 111], [115, 116, 101, 112], [104, 97, 110, 100, 115], [104, 111, 110, 101, 115, 116], [108, 105, 97, 114], [112, 111, 108, 105, 116, 101], [99, 111, 109, 101, 115], [112, 97, 116, 105, 101, 110, 99, 101], [108, 111, 111, 107], [119, 97, 110, 116, 115], [114, 101, 97, 100, 121], [98, 101, 102, 111, 114, 101], [104, 111, 117, 115, 101], [100, 114, 105, 110, 107], [115, 116, 97, 102, 102], [112, 101, 114, 115, 111, 110], [115, 104, 101, 108, 102], [108, 111, 110, 103], [98, 101, 108, 108], [116, 97, 107, 101, 115], [116, 104, 101, 110], [99, 111, 115, 116, 115], [97, 116], [102, 114, 111, 109], [116, 111], [115, 116, 101, 112], [104, 97, 110, 100, 115], [99, 111, 109, 101, 115], [112, 97, 116, 105, 101, 110, 99, 101], [108, 111, 111, 107], [119, 97, 110, 116, 115], [114, 101, 97, 100, 121], [98, 101, 102, 111, 114, 101], [114, 111, 119], [110, 101, 97, 114], [101, 121, 101], [97, 115, 107, 101, 100], [114, 101, 103, 117, 108, 97, 114], [104, 111, 110, 101, 115, 116], [108, 105, 97, 114], [112, 111, 108, 105, 116, 101], [104, 111, 117, 115, 101], [100, 114, 105, 110, 107], [115, 116, 97, 102, 102], [112, 101, 114, 115, 111, 110], [115, 104, 101, 108, 102], [115, 97, 121, 115]]
def nb_P : nb_G := (nb_lk nb_flds, nb_lk nb_csts, nb_lk nb_clss, fun m k => (nb_blks[m]?).bind (fun l => l[k]?), fun m => nb_mths[m]?, fun k => nb_txts.getD k.toNat [])
/-- the fields of the classes: tag, whether boolean -/
def nb_fts : List (List (Nat × Bool)) := [[(0, false), (0, false), (0, false), (0, false), (0, false), (0, false), (0, false), (0, false), (0, false), (0, false), (0, false), (0, false), (0, false), (0, false), (0, false)],
  [(3, false), (3, false), (3, false), (10, false), (7, false), (8, false), (3, false), (3, false), (3, false), (0, false), (0, false), (0, false), (0, false), (0, false), (0, false), (0, false)],
  [(18, false), (5, false), (3, false), (3, false), (12, false), (0, false), (0, false), (0, false), (1, false), (0, false), (0, false)],
  [(3, false), (10, false), (3, false), (0, false)],
  [(7, false), (8, false), (3, false), (12, false), (0, false), (0, false), (0, false), (0, false), (0, false)],
  [(3, false), (0, false), (0, false), (0, false), (0, false), (0, false), (0, false), (0, false)],
  [(3, false)],
  [(3, false), (3, false), (5, false), (0, false)],
  [(4, false), (0, false), (12, false), (12, false), (13, false), (15, false), (15, false), (9, false), (0, false), (0, false), (9, false), (0, false), (14, false), (17, false), (10, false), (0, false), (0, false), (0, false)],
  [(0, false), (3, false), (0, false), (0, false), (0, false), (0, false), (0, false), (0, false), (0, false), (0, false), (0, false), (0, false), (3, false), (0, true), (0, true), (3, false), (3, false), (3, false), (3, false), (3, false), (3, false), (0, false), (0, false), (3, false), (3, false), (0, false), (0, false), (0, false), (0, false), (3, false), (3, false), (3, false), (3, false), (0, false), (6, false)]]
def nb_nams : List MethodName := [yX4_waitingAsNumber, yX8_init, yX8_feed, yX8_putBytes, yX8_house, yX8_fault, yX8_where, yX8_granted, yX8_isOpen, yX8_isPerson, yX8_areTwo, yX8_isStaff, yX8_isPlace, yX8_isSum, yX8_isWaiting, yX8_isAway, yX8_person, yX8_staff, yX8_elbows, yX8_waiting, yX8_next, yX8_time, yX8_costs, yX8_asNow, yX8_evening, yX8_fate, yX8_waits, yX8_whom, yX8_has, yX8_passed, yX8_pushed, yX8_sum, yX8_served, yX8_by, yX8_totalBy, yX8_bestRule, yX8_hand, yX8_beforehand, yX8_mayStillChange, yX8_bestPlace, yX8_bestManner, yX8_cut, yX8_cutWaits, yX8_mayCut, yX8_bestCut, yX8_waitsByCut, yX8_leastLook, yX8_letCosts, yX8_mayLet, yX8_letFirst, yX8_bell, yX8_waitingAt, yX8_honesty, yX8_isSet, yX8_eveningOfLiars, yX8_rest, yX8_rests, yX8_nobodyGains, yX8_row, yX8_rowSum, yX8_liars, yX8_surely, yX8_so, yX8_keep, yX8_pass, yX8_moves, yX8_lets, yX8_calls, yX8_leaves, yX8_isPersonWaiting, yX8_undo, yX8_image, yX8_back, yX8_told, yX8_wants, yX8_size, yX8_trouble, yX9_init, yX9_thrown, yX9_good, yX9_no, yX9_noLess, yX9_isNot, yX9_within, yX9_hasBit, yX9_ones, yX9_copy, yX9_feed, yX9_seen, yX9_isSmall, yX9_isDigit, yX9_nextToken, yX9_wrong, yX9_isWord, yX9_takesWord, yX9_must, yX9_mustName, yX9_find, yX9_newName, yX9_named, yX9_personHere, yX9_personPassed, yX9_number, yX9_after, yX9_comma, yX9_house, yX9_begins, yX9_readLine, yX9_houseLine, yX9_drinkLine, yX9_staffLine, yX9_personLine, yX9_shelfLine, yX9_saysLine, yX9_fault, yX9_where, yX9_isPerson, yX9_isStaff, yX9_isSpot, yX9_isDrink, yX9_wantsOf, yX9_asTold, yX9_man, yX9_saysFirst, yX9_layFirst, yX9_its, yX9_isWaiting, yX9_far, yX9_timeOf, yX9_timeBehind, yX9_turn, yX9_nextFor, yX9_second, yX9_begin, yX9_evening, yX9_fateOf, yX9_waitOf, yX9_isBehind, yX9_passedOf, yX9_pushedOf, yX9_sumOf, yX9_costsOf, yX9_person, yX9_staff, yX9_elbows, yX9_manyWaiting, yX9_waiting, yX9_next, yX9_time, yX9_costs, yX9_tellEvening, yX9_fate, yX9_waits, yX9_whom, yX9_has, yX9_passed, yX9_pushed, yX9_sum, yX9_served, yX9_waitingAt, yX9_bell, yX9_layRule, yX9_by, yX9_bestRule, yX9_hand, yX9_hasCome, yX9_beforehand, yX9_waitIfHas, yX9_bestPlace, yX9_beOf, yX9_bestManner, yX9_leastLook, yX9_cutWhy, yX9_cut, yX9_cutWaits, yX9_canNotLet, yX9_letCosts, yX9_layHonest, yX9_allPeople, yX9_setWhy, yX9_honesty, yX9_isAtRest, yX9_rest, yX9_rests, yX9_rowFrom, yX9_rowFrom, yX9_rowFrom, yX9_rowFrom, yX9_rowFrom, yX9_rowFrom, yX9_rowFrom, yX9_rowFrom, yX9_rowWhy, yX9_row, yX9_rowSum, yX9_layTellings, yX9_liarsOf, yX9_liars, yX9_surely, yX9_so, yX9_note, yX9_pass, yX9_moves, yX9_lets, yX9_calls, yX9_leaves, yX9_undo, yX9_image, yX9_back, yX9_told, yX9_wants, yX9_led, yX9_size, yX9_trouble, yX0_init, yX0_take, yX0_behave, yX0_isServed, yX1_init, yX1_empty, yX1_timeBehind, yX1_priceOf, yX1_cameAhead, yX2_init, yX2_reads, yX2_step, yX2_fail, yX2_stands, yX2_readEnd, yX2_readLine, yX2_readHouse, yX2_readDrink, yX2_readStaff, yX2_readPerson, yX2_readOrders, yX2_readOrder, yX2_readShelf, yX2_readTelling, yX2_beginLine, yX2_tellName, yX2_find, yX2_known, yX2_expect, yX2_number, yX2_whole, yX2_rule, yX2_manner, yX3_init, yX3_settle, yX3_sumWith, yX3_firstOf, yX3_leastSum, yX3_inRow, yX4_init, yX4_open, yX4_take, yX4_addHand, yX4_runTo, yX4_nextStir, yX4_sooner, yX4_comeOrGo, yX4_serve, yX4_choice, yX4_begin, yX4_notePassed, yX4_countOf, yX4_waitOf, yX4_servedWait, yX4_total, yX4_added, yX4_waitsOfSet, yX5_init, yX5_beginAfresh, yX5_take, yX5_stretch, yX5_freeHand, yX5_busyHands, yX5_firstFree, yX5_rank, yX6_init, yX6_fewestLiars, yX6_follows, yX6_agreeWithout, yX7_init, yX7_part, yX7_isLetter, yX7_isDigit, yX7_endOfToken, yX7_add, yX7_addWord, yX7_addWhole, yX7_isLineWord, yX7_letters, yL_law, yJ6_bitCount_0f7a4, yJ7_fill_53178]
def nb_cods : List ByteArray := [cX4_waitingAsNumber, cX8_init, cX8_feed, cX8_putBytes, cX8_house, cX8_fault, cX8_where, cX8_granted, cX8_isOpen, cX8_isPerson, cX8_areTwo, cX8_isStaff, cX8_isPlace, cX8_isSum, cX8_isWaiting, cX8_isAway, cX8_person, cX8_staff, cX8_elbows, cX8_waiting, cX8_next, cX8_time, cX8_costs, cX8_asNow, cX8_evening, cX8_fate, cX8_waits, cX8_whom, cX8_has, cX8_passed, cX8_pushed, cX8_sum, cX8_served, cX8_by, cX8_totalBy, cX8_bestRule, cX8_hand, cX8_beforehand, cX8_mayStillChange, cX8_bestPlace, cX8_bestManner, cX8_cut, cX8_cutWaits, cX8_mayCut, cX8_bestCut, cX8_waitsByCut, cX8_leastLook, cX8_letCosts, cX8_mayLet, cX8_letFirst, cX8_bell, cX8_waitingAt, cX8_honesty, cX8_isSet, cX8_eveningOfLiars, cX8_rest, cX8_rests, cX8_nobodyGains, cX8_row, cX8_rowSum, cX8_liars, cX8_surely, cX8_so, cX8_keep, cX8_pass, cX8_moves, cX8_lets, cX8_calls, cX8_leaves, cX8_isPersonWaiting, cX8_undo, cX8_image, cX8_back, cX8_told, cX8_wants, cX8_size, cX8_trouble, cX9_init, cX9_thrown, cX9_good, cX9_no, cX9_noLess, cX9_isNot, cX9_within, cX9_hasBit, cX9_ones, cX9_copy, cX9_feed, cX9_seen, cX9_isSmall, cX9_isDigit, cX9_nextToken, cX9_wrong, cX9_isWord, cX9_takesWord, cX9_must, cX9_mustName, cX9_find, cX9_newName, cX9_named, cX9_personHere, cX9_personPassed, cX9_number, cX9_after, cX9_comma, cX9_house, cX9_begins, cX9_readLine, cX9_houseLine, cX9_drinkLine, cX9_staffLine, cX9_personLine, cX9_shelfLine, cX9_saysLine, cX9_fault, cX9_where, cX9_isPerson, cX9_isStaff, cX9_isSpot, cX9_isDrink, cX9_wantsOf, cX9_asTold, cX9_man, cX9_saysFirst, cX9_layFirst, cX9_its, cX9_isWaiting, cX9_far, cX9_timeOf, cX9_timeBehind, cX9_turn, cX9_nextFor, cX9_second, cX9_begin, cX9_evening, cX9_fateOf, cX9_waitOf, cX9_isBehind, cX9_passedOf, cX9_pushedOf, cX9_sumOf, cX9_costsOf, cX9_person, cX9_staff, cX9_elbows, cX9_manyWaiting, cX9_waiting, cX9_next, cX9_time, cX9_costs, cX9_tellEvening, cX9_fate, cX9_waits, cX9_whom, cX9_has, cX9_passed, cX9_pushed, cX9_sum, cX9_served, cX9_waitingAt, cX9_bell, cX9_layRule, cX9_by, cX9_bestRule, cX9_hand, cX9_hasCome, cX9_beforehand, cX9_waitIfHas, cX9_bestPlace, cX9_beOf, cX9_bestManner, cX9_leastLook, cX9_cutWhy, cX9_cut, cX9_cutWaits, cX9_canNotLet, cX9_letCosts, cX9_layHonest, cX9_allPeople, cX9_setWhy, cX9_honesty, cX9_isAtRest, cX9_rest, cX9_rests, cX9_rowFrom, cX9_rowFrom, cX9_rowFrom, cX9_rowFrom, cX9_rowFrom, cX9_rowFrom, cX9_rowFrom, cX9_rowFrom, cX9_rowWhy, cX9_row, cX9_rowSum, cX9_layTellings, cX9_liarsOf, cX9_liars, cX9_surely, cX9_so, cX9_note, cX9_pass, cX9_moves, cX9_lets, cX9_calls, cX9_leaves, cX9_undo, cX9_image, cX9_back, cX9_told, cX9_wants, cX9_led, cX9_size, cX9_trouble, cX0_init, cX0_take, cX0_behave, cX0_isServed, cX1_init, cX1_empty, cX1_timeBehind, cX1_priceOf, cX1_cameAhead, cX2_init, cX2_reads, cX2_step, cX2_fail, cX2_stands, cX2_readEnd, cX2_readLine, cX2_readHouse, cX2_readDrink, cX2_readStaff, cX2_readPerson, cX2_readOrders, cX2_readOrder, cX2_readShelf, cX2_readTelling, cX2_beginLine, cX2_tellName, cX2_find, cX2_known, cX2_expect, cX2_number, cX2_whole, cX2_rule, cX2_manner, cX3_init, cX3_settle, cX3_sumWith, cX3_firstOf, cX3_leastSum, cX3_inRow, cX4_init, cX4_open, cX4_take, cX4_addHand, cX4_runTo, cX4_nextStir, cX4_sooner, cX4_comeOrGo, cX4_serve, cX4_choice, cX4_begin, cX4_notePassed, cX4_countOf, cX4_waitOf, cX4_servedWait, cX4_total, cX4_added, cX4_waitsOfSet, cX5_init, cX5_beginAfresh, cX5_take, cX5_stretch, cX5_freeHand, cX5_busyHands, cX5_firstFree, cX5_rank, cX6_init, cX6_fewestLiars, cX6_follows, cX6_agreeWithout, cX7_init, cX7_part, cX7_isLetter, cX7_isDigit, cX7_endOfToken, cX7_add, cX7_addWord, cX7_addWhole, cX7_isLineWord, cX7_letters, cL_law, cJ6_bitCount_0f7a4, cJ7_fill_53178]
def nb_rets : List (Option FieldType) := [(some .int), none, (some .int), none, (some .int), (some .int), (some .int), (some .boolean), (some .boolean), (some .boolean), (some .boolean), (some .boolean), (some .boolean), (some .boolean), (some .boolean), (some .boolean), (some .int), (some .int), (some .int), (some .int), (some .int), (some .int), (some .int), (some (.object "NextAtBar$Scene")), (some (.object "NextAtBar$Scene")), (some .int), (some .int), (some .int), (some .int), (some .int), (some .int), (some .int), (some .int), (some .int), (some .int), (some .int), (some .int), (some .int), (some .boolean), (some .int), (some .int), (some .int), (some .int), (some .boolean), (some .int), (some .int), (some .int), (some .int), (some .boolean), none, (some .int), (some .int), (some .int), (some .boolean), (some (.object "NextAtBar$Scene")), (some .int), (some .int), (some .boolean), (some .int), (some .int), (some .int), (some .int), (some .int), none, (some .int), (some .boolean), (some .boolean), (some .int), (some .boolean), (some .boolean), (some .boolean), (some .int), (some .boolean), (some .int), (some .int), (some .int), (some .int), none, (some .int), none, (some .int), (some .int), (some .boolean), (some .boolean), (some .boolean), (some .int), none, (some .int), (some .int), (some .boolean), (some .boolean), none, none, (some .boolean), (some .boolean), none, none, (some .int), none, (some .int), (some .int), (some .int), (some .int), (some .int), (some .boolean), (some .int), (some .boolean), none, none, none, none, none, none, none, (some .int), (some .int), (some .boolean), (some .boolean), (some .boolean), (some .boolean), (some .int), none, (some .int), (some .int), none, (some .int), (some .boolean), (some .int), (some .int), (some .int), (some .int), (some .int), none, none, none, (some .int), (some .int), (some .boolean), (some .int), (some .int), (some .int), (some .int), (some .int), (some .int), (some .int), (some .int), (some .int), (some .int), (some .int), (some .int), none, (some .int), (some .int), (some .int), (some .int), (some .int), (some .int), (some .int), (some .int), (some .int), (some .int), none, (some .int), (some .int), (some .int), (some .boolean), (some .int), (some .int), (some .int), none, (some .int), (some .int), (some .int), (some .int), (some .int), (some .boolean), (some .int), none, (some .int), (some .int), (some .int), (some .boolean), (some .int), (some .int), none, none, none, none, none, none, none, none, (some .int), (some .int), (some .int), (some .boolean), (some .int), (some .int), (some .int), (some .int), none, (some .int), (some .boolean), (some .boolean), (some .int), (some .boolean), (some .boolean), (some .int), (some .boolean), (some .int), (some .int), (some .int), (some .int), (some .int), none, none, none, (some .boolean), none, none, (some .int), (some .int), (some .boolean), none, (some .boolean), none, none, (some .boolean), none, none, none, none, none, none, none, none, none, none, none, none, (some .int), (some .int), none, (some .int), (some .int), (some .int), (some .int), none, none, (some .int), (some .int), (some .int), (some .int), none, none, none, none, none, (some .int), (some .int), none, none, (some .int), none, none, (some .int), (some .int), (some .int), (some .int), (some .int), (some .int), none, none, none, none, (some .int), (some .int), (some .int), (some .int), none, (some .int), (some .boolean), (some .boolean), none, none, (some .boolean), (some .boolean), (some .int), none, none, none, (some .boolean), (some .long), (some .boolean), (some .int), none]

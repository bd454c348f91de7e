/-! ===== BEGIN printed: names, fields, word lists, decode rows ===== -/
def RX0 : String := "SignedBridge$Asks"
def TX0 : u_T := fun k => match k with
  | 0 => ("SignedBridge$Asks", "trial", "LSignedBridge$State;", true)
  | 1 => ("SignedBridge$Asks", "cost", "[I", true)
  | 2 => ("SignedBridge$Asks", "total", "[I", true)
  | 3 => ("SignedBridge$Asks", "picks", "[I", true)
  | _ => ("SignedBridge$Asks", "asked", "[I", true)
def tyX0 : Nat → FieldType := fun k => match k with
  | 0 => .object "SignedBridge$State"
  | 1 => .array .int
  | 2 => .array .int
  | 3 => .array .int
  | _ => .array .int
abbrev wsX00 : List Cond := u_ws RX0 TX0 5
theorem nmX0 : ∀ a, a < 5 → ∀ b, b < 5 → a ≠ b → (TX0 a).2.1 ≠ (TX0 b).2.1 := by decide +kernel
theorem tyX0_ok : ∀ k, k < 5 → parseFieldDescriptor (TX0 k).2.2.1 = some (tyX0 k) := by decide +kernel
abbrev cX0_init : ByteArray := prog_2_method_1_code
def yX0_init : MethodName := ⟨RX0, "<init>", "()V"⟩
abbrev cX0_find : ByteArray := prog_2_method_2_code
def yX0_find : MethodName := ⟨RX0, "find", "(LSignedBridge$Plan;LSignedBridge$State;I)I"⟩
abbrev cX0_price : ByteArray := prog_2_method_3_code
def yX0_price : MethodName := ⟨RX0, "price", "(LSignedBridge$Plan;LSignedBridge$State;III)I"⟩
abbrev cX0_countWays : ByteArray := prog_2_method_4_code
def yX0_countWays : MethodName := ⟨RX0, "countWays", "(LSignedBridge$Plan;LSignedBridge$State;II)I"⟩
abbrev cX0_tryWay : ByteArray := prog_2_method_5_code
def yX0_tryWay : MethodName := ⟨RX0, "tryWay", "(LSignedBridge$Plan;LSignedBridge$State;III)I"⟩
abbrev cX0_bearTogether : ByteArray := prog_2_method_6_code
def yX0_bearTogether : MethodName := ⟨RX0, "bearTogether", "(LSignedBridge$Plan;II)I"⟩
abbrev cX0_addUp : ByteArray := prog_2_method_7_code
def yX0_addUp : MethodName := ⟨RX0, "addUp", "(I)I"⟩
abbrev cX0_leastOpen : ByteArray := prog_2_method_8_code
def yX0_leastOpen : MethodName := ⟨RX0, "leastOpen", "(II)I"⟩
abbrev cX0_followFirst : ByteArray := prog_2_method_9_code
def yX0_followFirst : MethodName := ⟨RX0, "followFirst", "(LSignedBridge$Plan;LSignedBridge$State;I)V"⟩
def RX1 : String := "SignedBridge$Book"
def TX1 : u_T := fun k => match k with
  | 0 => ("SignedBridge$Book", "deeds", "[I", true)
  | 1 => ("SignedBridge$Book", "who", "[I", true)
  | 2 => ("SignedBridge$Book", "first", "[I", true)
  | 3 => ("SignedBridge$Book", "second", "[I", true)
  | 4 => ("SignedBridge$Book", "lines", "I", false)
  | _ => ("SignedBridge$Book", "verdict", "[I", true)
def tyX1 : Nat → FieldType := fun k => match k with
  | 0 => .array .int
  | 1 => .array .int
  | 2 => .array .int
  | 3 => .array .int
  | 4 => .int
  | _ => .array .int
abbrev wsX10 : List Cond := u_ws RX1 TX1 6
theorem nmX1 : ∀ a, a < 6 → ∀ b, b < 6 → a ≠ b → (TX1 a).2.1 ≠ (TX1 b).2.1 := by decide +kernel
theorem tyX1_ok : ∀ k, k < 6 → parseFieldDescriptor (TX1 k).2.2.1 = some (tyX1 k) := by decide +kernel
abbrev cX1_init : ByteArray := prog_3_method_1_code
def yX1_init : MethodName := ⟨RX1, "<init>", "()V"⟩
abbrev cX1_read : ByteArray := prog_3_method_2_code
def yX1_read : MethodName := ⟨RX1, "read", "(LSignedBridge$Tokens;LSignedBridge$Plan;)Z"⟩
abbrev cX1_readLine : ByteArray := prog_3_method_3_code
def yX1_readLine : MethodName := ⟨RX1, "readLine", "(LSignedBridge$Tokens;LSignedBridge$Plan;)Z"⟩
abbrev cX1_isSignersDeed : ByteArray := prog_3_method_4_code
def yX1_isSignersDeed : MethodName := ⟨RX1, "isSignersDeed", "(LSignedBridge$Tokens;)Z"⟩
abbrev cX1_readPlace : ByteArray := prog_3_method_5_code
def yX1_readPlace : MethodName := ⟨RX1, "readPlace", "(LSignedBridge$Tokens;)Z"⟩
abbrev cX1_readDays : ByteArray := prog_3_method_6_code
def yX1_readDays : MethodName := ⟨RX1, "readDays", "(LSignedBridge$Tokens;)Z"⟩
abbrev cX1_live : ByteArray := prog_3_method_7_code
def yX1_live : MethodName := ⟨RX1, "live", "(LSignedBridge$Plan;LSignedBridge$State;LSignedBridge$Ways;)I"⟩
abbrev cX1_liveLine : ByteArray := prog_3_method_8_code
def yX1_liveLine : MethodName := ⟨RX1, "liveLine", "(LSignedBridge$Plan;LSignedBridge$State;LSignedBridge$Ways;I)I"⟩
abbrev cX1_behind : ByteArray := prog_3_method_9_code
def yX1_behind : MethodName := ⟨RX1, "behind", "(II)I"⟩
def RX2 : String := "SignedBridge$BridgeText"
def TX2 : u_T := fun k => match k with
  | 0 => ("SignedBridge$BridgeText", "plan", "LSignedBridge$Plan;", true)
  | 1 => ("SignedBridge$BridgeText", "lines", "I", false)
  | 2 => ("SignedBridge$BridgeText", "rowsTold", "Z", false)
  | 3 => ("SignedBridge$BridgeText", "keepsTold", "Z", false)
  | _ => ("SignedBridge$BridgeText", "plankTold", "Z", false)
def tyX2 : Nat → FieldType := fun k => match k with
  | 0 => .object "SignedBridge$Plan"
  | 1 => .int
  | 2 => .boolean
  | 3 => .boolean
  | _ => .boolean
abbrev wsX20 : List Cond := u_ws RX2 TX2 5
theorem nmX2 : ∀ a, a < 5 → ∀ b, b < 5 → a ≠ b → (TX2 a).2.1 ≠ (TX2 b).2.1 := by decide +kernel
theorem tyX2_ok : ∀ k, k < 5 → parseFieldDescriptor (TX2 k).2.2.1 = some (tyX2 k) := by decide +kernel
abbrev cX2_init : ByteArray := prog_4_method_1_code
def yX2_init : MethodName := ⟨RX2, "<init>", "()V"⟩
abbrev cX2_read : ByteArray := prog_4_method_2_code
def yX2_read : MethodName := ⟨RX2, "read", "(LSignedBridge$Tokens;)Z"⟩
abbrev cX2_readLine : ByteArray := prog_4_method_3_code
def yX2_readLine : MethodName := ⟨RX2, "readLine", "(LSignedBridge$Tokens;)Z"⟩
abbrev cX2_readRows : ByteArray := prog_4_method_4_code
def yX2_readRows : MethodName := ⟨RX2, "readRows", "(LSignedBridge$Tokens;)Z"⟩
abbrev cX2_readKeeps : ByteArray := prog_4_method_5_code
def yX2_readKeeps : MethodName := ⟨RX2, "readKeeps", "(LSignedBridge$Tokens;)Z"⟩
abbrev cX2_readSigner : ByteArray := prog_4_method_6_code
def yX2_readSigner : MethodName := ⟨RX2, "readSigner", "(LSignedBridge$Tokens;)Z"⟩
abbrev cX2_readHeir : ByteArray := prog_4_method_7_code
def yX2_readHeir : MethodName := ⟨RX2, "readHeir", "(LSignedBridge$Tokens;)Z"⟩
abbrev cX2_readLovers : ByteArray := prog_4_method_8_code
def yX2_readLovers : MethodName := ⟨RX2, "readLovers", "(LSignedBridge$Tokens;)Z"⟩
abbrev cX2_readPlank : ByteArray := prog_4_method_9_code
def yX2_readPlank : MethodName := ⟨RX2, "readPlank", "(LSignedBridge$Tokens;)Z"⟩
abbrev cX2_readLoad : ByteArray := prog_4_method_10_code
def yX2_readLoad : MethodName := ⟨RX2, "readLoad", "(LSignedBridge$Tokens;)Z"⟩
def RX3 : String := "SignedBridge$Cut"
def TX3 : u_T := fun k => match k with
  | 0 => ("SignedBridge$Cut", "trial", "LSignedBridge$State;", true)
  | 1 => ("SignedBridge$Cut", "possible", "[I", true)
  | 2 => ("SignedBridge$Cut", "need", "[I", true)
  | 3 => ("SignedBridge$Cut", "places", "[I", true)
  | _ => ("SignedBridge$Cut", "size", "I", false)
def tyX3 : Nat → FieldType := fun k => match k with
  | 0 => .object "SignedBridge$State"
  | 1 => .array .int
  | 2 => .array .int
  | 3 => .array .int
  | _ => .int
abbrev wsX30 : List Cond := u_ws RX3 TX3 5
theorem nmX3 : ∀ a, a < 5 → ∀ b, b < 5 → a ≠ b → (TX3 a).2.1 ≠ (TX3 b).2.1 := by decide +kernel
theorem tyX3_ok : ∀ k, k < 5 → parseFieldDescriptor (TX3 k).2.2.1 = some (tyX3 k) := by decide +kernel
abbrev cX3_init : ByteArray := prog_5_method_1_code
def yX3_init : MethodName := ⟨RX3, "<init>", "()V"⟩
abbrev cX3_find : ByteArray := prog_5_method_2_code
def yX3_find : MethodName := ⟨RX3, "find", "(LSignedBridge$Plan;LSignedBridge$State;LSignedBridge$Ways;I)I"⟩
abbrev cX3_stepsWithout : ByteArray := prog_5_method_3_code
def yX3_stepsWithout : MethodName := ⟨RX3, "stepsWithout", "(LSignedBridge$Plan;LSignedBridge$State;LSignedBridge$Ways;III)I"⟩
abbrev cX3_fillNeed : ByteArray := prog_5_method_4_code
def yX3_fillNeed : MethodName := ⟨RX3, "fillNeed", "(I)V"⟩
abbrev cX3_needWith : ByteArray := prog_5_method_5_code
def yX3_needWith : MethodName := ⟨RX3, "needWith", "(III)I"⟩
abbrev cX3_followFirst : ByteArray := prog_5_method_6_code
def yX3_followFirst : MethodName := ⟨RX3, "followFirst", "(II)V"⟩
abbrev cX3_addPlaces : ByteArray := prog_5_method_7_code
def yX3_addPlaces : MethodName := ⟨RX3, "addPlaces", "(II)V"⟩
def RX4 : String := "SignedBridge$Forecast"
def TX4 : u_T := fun k => match k with
  | 0 => ("SignedBridge$Forecast", "trial", "LSignedBridge$State;", true)
  | 1 => ("SignedBridge$Forecast", "second", "LSignedBridge$State;", true)
  | 2 => ("SignedBridge$Forecast", "seed", "I", false)
  | 3 => ("SignedBridge$Forecast", "order", "[I", true)
  | _ => ("SignedBridge$Forecast", "orderSize", "I", false)
def tyX4 : Nat → FieldType := fun k => match k with
  | 0 => .object "SignedBridge$State"
  | 1 => .object "SignedBridge$State"
  | 2 => .int
  | 3 => .array .int
  | _ => .int
abbrev wsX40 : List Cond := u_ws RX4 TX4 5
theorem nmX4 : ∀ a, a < 5 → ∀ b, b < 5 → a ≠ b → (TX4 a).2.1 ≠ (TX4 b).2.1 := by decide +kernel
theorem tyX4_ok : ∀ k, k < 5 → parseFieldDescriptor (TX4 k).2.2.1 = some (tyX4 k) := by decide +kernel
abbrev cX4_init : ByteArray := prog_6_method_1_code
def yX4_init : MethodName := ⟨RX4, "<init>", "()V"⟩
abbrev cX4_findKeystone : ByteArray := prog_6_method_2_code
def yX4_findKeystone : MethodName := ⟨RX4, "findKeystone", "(LSignedBridge$Plan;LSignedBridge$State;LSignedBridge$Ways;)I"⟩
abbrev cX4_findOrder : ByteArray := prog_6_method_3_code
def yX4_findOrder : MethodName := ⟨RX4, "findOrder", "(LSignedBridge$Plan;LSignedBridge$State;LSignedBridge$Ways;)I"⟩
abbrev cX4_nextLoad : ByteArray := prog_6_method_4_code
def yX4_nextLoad : MethodName := ⟨RX4, "nextLoad", "(LSignedBridge$Plan;LSignedBridge$Ways;II)I"⟩
abbrev cX4_findLaw : ByteArray := prog_6_method_5_code
def yX4_findLaw : MethodName := ⟨RX4, "findLaw", "(LSignedBridge$Plan;LSignedBridge$State;LSignedBridge$Ways;II)I"⟩
abbrev cX4_findLast : ByteArray := prog_6_method_6_code
def yX4_findLast : MethodName := ⟨RX4, "findLast", "(LSignedBridge$Plan;LSignedBridge$State;LSignedBridge$Ways;I)I"⟩
abbrev cX4_countOdds : ByteArray := prog_6_method_7_code
def yX4_countOdds : MethodName := ⟨RX4, "countOdds", "(LSignedBridge$Plan;LSignedBridge$State;LSignedBridge$Ways;III)I"⟩
abbrev cX4_drawDays : ByteArray := prog_6_method_8_code
def yX4_drawDays : MethodName := ⟨RX4, "drawDays", "(LSignedBridge$Plan;LSignedBridge$State;LSignedBridge$Ways;II)I"⟩
abbrev cX4_drawDeed : ByteArray := prog_6_method_9_code
def yX4_drawDeed : MethodName := ⟨RX4, "drawDeed", "(LSignedBridge$Plan;LSignedBridge$State;I)V"⟩
abbrev cX4_draw : ByteArray := prog_6_method_10_code
def yX4_draw : MethodName := ⟨RX4, "draw", "(I)I"⟩
def RX5 : String := "SignedBridge$Forgers"
def TX5 : u_T := fun k => match k with
  | 0 => ("SignedBridge$Forgers", "possible", "[I", true)
  | 1 => ("SignedBridge$Forgers", "forged", "[I", true)
  | 2 => ("SignedBridge$Forgers", "ableBy", "[I", true)
  | 3 => ("SignedBridge$Forgers", "common", "I", false)
  | _ => ("SignedBridge$Forgers", "telling", "I", false)
def tyX5 : Nat → FieldType := fun k => match k with
  | 0 => .array .int
  | 1 => .array .int
  | 2 => .array .int
  | 3 => .int
  | _ => .int
abbrev wsX50 : List Cond := u_ws RX5 TX5 5
theorem nmX5 : ∀ a, a < 5 → ∀ b, b < 5 → a ≠ b → (TX5 a).2.1 ≠ (TX5 b).2.1 := by decide +kernel
theorem tyX5_ok : ∀ k, k < 5 → parseFieldDescriptor (TX5 k).2.2.1 = some (tyX5 k) := by decide +kernel
abbrev cX5_init : ByteArray := prog_7_method_1_code
def yX5_init : MethodName := ⟨RX5, "<init>", "()V"⟩
abbrev cX5_find : ByteArray := prog_7_method_2_code
def yX5_find : MethodName := ⟨RX5, "find", "(LSignedBridge$Plan;LSignedBridge$State;LSignedBridge$Ways;LSignedBridge$Tokens;)I"⟩
abbrev cX5_isAsTold : ByteArray := prog_7_method_3_code
def yX5_isAsTold : MethodName := ⟨RX5, "isAsTold", "(LSignedBridge$Plan;LSignedBridge$Tokens;)Z"⟩
abbrev cX5_weighForged : ByteArray := prog_7_method_4_code
def yX5_weighForged : MethodName := ⟨RX5, "weighForged", "(LSignedBridge$Plan;LSignedBridge$State;LSignedBridge$Ways;)V"⟩
abbrev cX5_markForged : ByteArray := prog_7_method_5_code
def yX5_markForged : MethodName := ⟨RX5, "markForged", "(LSignedBridge$Plan;LSignedBridge$State;I)V"⟩
abbrev cX5_ableLoads : ByteArray := prog_7_method_6_code
def yX5_ableLoads : MethodName := ⟨RX5, "ableLoads", "(LSignedBridge$Plan;)I"⟩
abbrev cX5_agrees : ByteArray := prog_7_method_7_code
def yX5_agrees : MethodName := ⟨RX5, "agrees", "(LSignedBridge$Tokens;I)Z"⟩
abbrev cX5_addAble : ByteArray := prog_7_method_8_code
def yX5_addAble : MethodName := ⟨RX5, "addAble", "(LSignedBridge$Plan;I)V"⟩
abbrev cX5_mostTelling : ByteArray := prog_7_method_9_code
def yX5_mostTelling : MethodName := ⟨RX5, "mostTelling", "(LSignedBridge$Plan;I)I"⟩
def RX6 : String := "SignedBridge$Plan"
def TX6 : u_T := fun k => match k with
  | 0 => ("SignedBridge$Plan", "rows", "I", false)
  | 1 => ("SignedBridge$Plan", "keeps", "I", false)
  | 2 => ("SignedBridge$Plan", "signers", "I", false)
  | 3 => ("SignedBridge$Plan", "loads", "I", false)
  | 4 => ("SignedBridge$Plan", "lovers", "I", false)
  | 5 => ("SignedBridge$Plan", "forgers", "I", false)
  | 6 => ("SignedBridge$Plan", "signerNames", "[J", true)
  | 7 => ("SignedBridge$Plan", "earnest", "[I", true)
  | 8 => ("SignedBridge$Plan", "miles", "[I", true)
  | 9 => ("SignedBridge$Plan", "heir", "[I", true)
  | 10 => ("SignedBridge$Plan", "loves", "[I", true)
  | 11 => ("SignedBridge$Plan", "owner", "[I", true)
  | 12 => ("SignedBridge$Plan", "loadNames", "[J", true)
  | 13 => ("SignedBridge$Plan", "weight", "[I", true)
  | _ => ("SignedBridge$Plan", "wide", "[I", true)
def tyX6 : Nat → FieldType := fun k => match k with
  | 0 => .int
  | 1 => .int
  | 2 => .int
  | 3 => .int
  | 4 => .int
  | 5 => .int
  | 6 => .array .long
  | 7 => .array .int
  | 8 => .array .int
  | 9 => .array .int
  | 10 => .array .int
  | 11 => .array .int
  | 12 => .array .long
  | 13 => .array .int
  | _ => .array .int
abbrev wsX60 : List Cond := u_ws RX6 TX6 15
theorem nmX6 : ∀ a, a < 15 → ∀ b, b < 15 → a ≠ b → (TX6 a).2.1 ≠ (TX6 b).2.1 := by decide +kernel
theorem tyX6_ok : ∀ k, k < 15 → parseFieldDescriptor (TX6 k).2.2.1 = some (tyX6 k) := by decide +kernel
abbrev cX6_init : ByteArray := prog_8_method_1_code
def yX6_init : MethodName := ⟨RX6, "<init>", "()V"⟩
abbrev cX6_clear : ByteArray := prog_8_method_2_code
def yX6_clear : MethodName := ⟨RX6, "clear", "()V"⟩
abbrev cX6_copyOf : ByteArray := prog_8_method_3_code
def yX6_copyOf : MethodName := ⟨RX6, "copyOf", "(LSignedBridge$Plan;)V"⟩
abbrev cX6_signerNamed : ByteArray := prog_8_method_4_code
def yX6_signerNamed : MethodName := ⟨RX6, "signerNamed", "(J)I"⟩
abbrev cX6_loadNamed : ByteArray := prog_8_method_5_code
def yX6_loadNamed : MethodName := ⟨RX6, "loadNamed", "(J)I"⟩
abbrev cX6_areLovers : ByteArray := prog_8_method_6_code
def yX6_areLovers : MethodName := ⟨RX6, "areLovers", "(II)Z"⟩
abbrev cX6_countPlanksOf : ByteArray := prog_8_method_7_code
def yX6_countPlanksOf : MethodName := ⟨RX6, "countPlanksOf", "(I)I"⟩
def RX7 : String := "SignedBridge$Sentence"
def TX7 : u_T := fun k => match k with
  | 0 => ("SignedBridge$Sentence", "code", "[I", true)
  | 1 => ("SignedBridge$Sentence", "sign", "[I", true)
  | 2 => ("SignedBridge$Sentence", "number", "[I", true)
  | 3 => ("SignedBridge$Sentence", "size", "I", false)
  | 4 => ("SignedBridge$Sentence", "delayed", "[I", true)
  | 5 => ("SignedBridge$Sentence", "delays", "I", false)
  | 6 => ("SignedBridge$Sentence", "within", "I", false)
  | 7 => ("SignedBridge$Sentence", "stack", "[I", true)
  | _ => ("SignedBridge$Sentence", "ones", "I", false)
def tyX7 : Nat → FieldType := fun k => match k with
  | 0 => .array .int
  | 1 => .array .int
  | 2 => .array .int
  | 3 => .int
  | 4 => .array .int
  | 5 => .int
  | 6 => .int
  | 7 => .array .int
  | _ => .int
abbrev wsX70 : List Cond := u_ws RX7 TX7 9
theorem nmX7 : ∀ a, a < 9 → ∀ b, b < 9 → a ≠ b → (TX7 a).2.1 ≠ (TX7 b).2.1 := by decide +kernel
theorem tyX7_ok : ∀ k, k < 9 → parseFieldDescriptor (TX7 k).2.2.1 = some (tyX7 k) := by decide +kernel
abbrev cX7_init : ByteArray := prog_9_method_1_code
def yX7_init : MethodName := ⟨RX7, "<init>", "()V"⟩
abbrev cX7_forget : ByteArray := prog_9_method_2_code
def yX7_forget : MethodName := ⟨RX7, "forget", "()V"⟩
abbrev cX7_copyOf : ByteArray := prog_9_method_3_code
def yX7_copyOf : MethodName := ⟨RX7, "copyOf", "(LSignedBridge$Sentence;)V"⟩
abbrev cX7_read : ByteArray := prog_9_method_4_code
def yX7_read : MethodName := ⟨RX7, "read", "(LSignedBridge$Tokens;LSignedBridge$Plan;)Z"⟩
abbrev cX7_readOne : ByteArray := prog_9_method_5_code
def yX7_readOne : MethodName := ⟨RX7, "readOne", "(LSignedBridge$Tokens;LSignedBridge$Plan;)Z"⟩
abbrev cX7_beginsOne : ByteArray := prog_9_method_6_code
def yX7_beginsOne : MethodName := ⟨RX7, "beginsOne", "(LSignedBridge$Tokens;)Z"⟩
abbrev cX7_readSaying : ByteArray := prog_9_method_7_code
def yX7_readSaying : MethodName := ⟨RX7, "readSaying", "(LSignedBridge$Tokens;LSignedBridge$Plan;)Z"⟩
abbrev cX7_isRelation : ByteArray := prog_9_method_8_code
def yX7_isRelation : MethodName := ⟨RX7, "isRelation", "(LSignedBridge$Tokens;)Z"⟩
abbrev cX7_closeBrackets : ByteArray := prog_9_method_9_code
def yX7_closeBrackets : MethodName := ⟨RX7, "closeBrackets", "(LSignedBridge$Tokens;)V"⟩
abbrev cX7_readJoin : ByteArray := prog_9_method_10_code
def yX7_readJoin : MethodName := ⟨RX7, "readJoin", "(LSignedBridge$Tokens;)Z"⟩
abbrev cX7_settleNots : ByteArray := prog_9_method_11_code
def yX7_settleNots : MethodName := ⟨RX7, "settleNots", "()Z"⟩
abbrev cX7_settle : ByteArray := prog_9_method_12_code
def yX7_settle : MethodName := ⟨RX7, "settle", "(I)V"⟩
abbrev cX7_delay : ByteArray := prog_9_method_13_code
def yX7_delay : MethodName := ⟨RX7, "delay", "(I)V"⟩
abbrev cX7_put : ByteArray := prog_9_method_14_code
def yX7_put : MethodName := ⟨RX7, "put", "(III)V"⟩
abbrev cX7_judge : ByteArray := prog_9_method_15_code
def yX7_judge : MethodName := ⟨RX7, "judge", "(LSignedBridge$Plan;LSignedBridge$State;)I"⟩
abbrev cX7_sayOfAll : ByteArray := prog_9_method_16_code
def yX7_sayOfAll : MethodName := ⟨RX7, "sayOfAll", "(LSignedBridge$Plan;LSignedBridge$State;I)I"⟩
abbrev cX7_isTrueOf : ByteArray := prog_9_method_17_code
def yX7_isTrueOf : MethodName := ⟨RX7, "isTrueOf", "(LSignedBridge$Plan;LSignedBridge$State;II)Z"⟩
abbrev cX7_isOn : ByteArray := prog_9_method_18_code
def yX7_isOn : MethodName := ⟨RX7, "isOn", "(LSignedBridge$State;II)Z"⟩
abbrev cX7_compares : ByteArray := prog_9_method_19_code
def yX7_compares : MethodName := ⟨RX7, "compares", "(II)Z"⟩
def RX8 : String := "SignedBridge$State"
def TX8 : u_T := fun k => match k with
  | 0 => ("SignedBridge$State", "day", "I", false)
  | 1 => ("SignedBridge$State", "burnt", "I", false)
  | 2 => ("SignedBridge$State", "fallen", "I", false)
  | 3 => ("SignedBridge$State", "earnest", "[I", true)
  | 4 => ("SignedBridge$State", "died", "[I", true)
  | 5 => ("SignedBridge$State", "held", "[I", true)
  | 6 => ("SignedBridge$State", "owner", "[I", true)
  | 7 => ("SignedBridge$State", "singed", "[I", true)
  | _ => ("SignedBridge$State", "crossed", "[I", true)
def tyX8 : Nat → FieldType := fun k => match k with
  | 0 => .int
  | 1 => .int
  | 2 => .int
  | 3 => .array .int
  | 4 => .array .int
  | 5 => .array .int
  | 6 => .array .int
  | 7 => .array .int
  | _ => .array .int
abbrev wsX80 : List Cond := u_ws RX8 TX8 9
theorem nmX8 : ∀ a, a < 9 → ∀ b, b < 9 → a ≠ b → (TX8 a).2.1 ≠ (TX8 b).2.1 := by decide +kernel
theorem tyX8_ok : ∀ k, k < 9 → parseFieldDescriptor (TX8 k).2.2.1 = some (tyX8 k) := by decide +kernel
abbrev cX8_init : ByteArray := prog_10_method_1_code
def yX8_init : MethodName := ⟨RX8, "<init>", "()V"⟩
abbrev cX8_begin : ByteArray := prog_10_method_2_code
def yX8_begin : MethodName := ⟨RX8, "begin", "(LSignedBridge$Plan;)V"⟩
abbrev cX8_copyOf : ByteArray := prog_10_method_3_code
def yX8_copyOf : MethodName := ⟨RX8, "copyOf", "(LSignedBridge$State;)V"⟩
abbrev cX8_lives : ByteArray := prog_10_method_4_code
def yX8_lives : MethodName := ⟨RX8, "lives", "(I)Z"⟩
abbrev cX8_deadBits : ByteArray := prog_10_method_5_code
def yX8_deadBits : MethodName := ⟨RX8, "deadBits", "(LSignedBridge$Plan;)I"⟩
abbrev cX8_countPlanks : ByteArray := prog_10_method_6_code
def yX8_countPlanks : MethodName := ⟨RX8, "countPlanks", "()I"⟩
abbrev cX8_countCrossings : ByteArray := prog_10_method_7_code
def yX8_countCrossings : MethodName := ⟨RX8, "countCrossings", "()I"⟩
abbrev cX8_putPlank : ByteArray := prog_10_method_8_code
def yX8_putPlank : MethodName := ⟨RX8, "putPlank", "(II)I"⟩
abbrev cX8_makeGap : ByteArray := prog_10_method_9_code
def yX8_makeGap : MethodName := ⟨RX8, "makeGap", "(I)V"⟩
abbrev cX8_burnPlank : ByteArray := prog_10_method_10_code
def yX8_burnPlank : MethodName := ⟨RX8, "burnPlank", "(I)I"⟩
abbrev cX8_singe : ByteArray := prog_10_method_11_code
def yX8_singe : MethodName := ⟨RX8, "singe", "(I)V"⟩
abbrev cX8_breakWord : ByteArray := prog_10_method_12_code
def yX8_breakWord : MethodName := ⟨RX8, "breakWord", "(I)I"⟩
abbrev cX8_holdWord : ByteArray := prog_10_method_13_code
def yX8_holdWord : MethodName := ⟨RX8, "holdWord", "(I)I"⟩
abbrev cX8_endLife : ByteArray := prog_10_method_14_code
def yX8_endLife : MethodName := ⟨RX8, "endLife", "(I)I"⟩
abbrev cX8_passDays : ByteArray := prog_10_method_15_code
def yX8_passDays : MethodName := ⟨RX8, "passDays", "(LSignedBridge$Plan;I)I"⟩
abbrev cX8_passDay : ByteArray := prog_10_method_16_code
def yX8_passDay : MethodName := ⟨RX8, "passDay", "(LSignedBridge$Plan;I)Z"⟩
abbrev cX8_handDown : ByteArray := prog_10_method_17_code
def yX8_handDown : MethodName := ⟨RX8, "handDown", "(II)V"⟩
def RX9 : String := "SignedBridge$Tokens"
def TX9 : u_T := fun k => match k with
  | 0 => ("SignedBridge$Tokens", "bytes", "[I", true)
  | 1 => ("SignedBridge$Tokens", "length", "I", false)
  | 2 => ("SignedBridge$Tokens", "most", "I", false)
  | 3 => ("SignedBridge$Tokens", "next", "I", false)
  | 4 => ("SignedBridge$Tokens", "kind", "I", false)
  | 5 => ("SignedBridge$Tokens", "at", "I", false)
  | 6 => ("SignedBridge$Tokens", "value", "I", false)
  | 7 => ("SignedBridge$Tokens", "name", "J", false)
  | 8 => ("SignedBridge$Tokens", "taken", "I", false)
  | 9 => ("SignedBridge$Tokens", "takenName", "J", false)
  | 10 => ("SignedBridge$Tokens", "takenAt", "I", false)
  | 11 => ("SignedBridge$Tokens", "faultKind", "I", false)
  | _ => ("SignedBridge$Tokens", "faultAt", "I", false)
def tyX9 : Nat → FieldType := fun k => match k with
  | 0 => .array .int
  | 1 => .int
  | 2 => .int
  | 3 => .int
  | 4 => .int
  | 5 => .int
  | 6 => .int
  | 7 => .long
  | 8 => .int
  | 9 => .long
  | 10 => .int
  | 11 => .int
  | _ => .int
abbrev wsX90 : List Cond := u_ws RX9 TX9 13
theorem nmX9 : ∀ a, a < 13 → ∀ b, b < 13 → a ≠ b → (TX9 a).2.1 ≠ (TX9 b).2.1 := by decide +kernel
theorem tyX9_ok : ∀ k, k < 13 → parseFieldDescriptor (TX9 k).2.2.1 = some (tyX9 k) := by decide +kernel
abbrev cX9_init : ByteArray := prog_11_method_1_code
def yX9_init : MethodName := ⟨RX9, "<init>", "()V"⟩
abbrev cX9_put : ByteArray := prog_11_method_2_code
def yX9_put : MethodName := ⟨RX9, "put", "(I)V"⟩
abbrev cX9_begin : ByteArray := prog_11_method_3_code
def yX9_begin : MethodName := ⟨RX9, "begin", "(I)V"⟩
abbrev cX9_advance : ByteArray := prog_11_method_4_code
def yX9_advance : MethodName := ⟨RX9, "advance", "()V"⟩
abbrev cX9_readWord : ByteArray := prog_11_method_5_code
def yX9_readWord : MethodName := ⟨RX9, "readWord", "()V"⟩
abbrev cX9_readNumber : ByteArray := prog_11_method_6_code
def yX9_readNumber : MethodName := ⟨RX9, "readNumber", "()V"⟩
abbrev cX9_isLetter : ByteArray := prog_11_method_7_code
def yX9_isLetter : MethodName := ⟨RX9, "isLetter", "(I)Z"⟩
abbrev cX9_isDigit : ByteArray := prog_11_method_8_code
def yX9_isDigit : MethodName := ⟨RX9, "isDigit", "(I)Z"⟩
abbrev cX9_isSign : ByteArray := prog_11_method_9_code
def yX9_isSign : MethodName := ⟨RX9, "isSign", "(I)Z"⟩
abbrev cX9_refuse : ByteArray := prog_11_method_10_code
def yX9_refuse : MethodName := ⟨RX9, "refuse", "(I)Z"⟩
abbrev cX9_refuseAt : ByteArray := prog_11_method_11_code
def yX9_refuseAt : MethodName := ⟨RX9, "refuseAt", "(II)Z"⟩
abbrev cX9_isKey : ByteArray := prog_11_method_12_code
def yX9_isKey : MethodName := ⟨RX9, "isKey", "(I)Z"⟩
abbrev cX9_isSignOf : ByteArray := prog_11_method_13_code
def yX9_isSignOf : MethodName := ⟨RX9, "isSignOf", "(I)Z"⟩
abbrev cX9_takeEnd : ByteArray := prog_11_method_14_code
def yX9_takeEnd : MethodName := ⟨RX9, "takeEnd", "()Z"⟩
abbrev cX9_takeSign : ByteArray := prog_11_method_15_code
def yX9_takeSign : MethodName := ⟨RX9, "takeSign", "(I)Z"⟩
abbrev cX9_takeNumber : ByteArray := prog_11_method_16_code
def yX9_takeNumber : MethodName := ⟨RX9, "takeNumber", "(II)Z"⟩
abbrev cX9_takeSigner : ByteArray := prog_11_method_17_code
def yX9_takeSigner : MethodName := ⟨RX9, "takeSigner", "(LSignedBridge$Plan;)Z"⟩
abbrev cX9_takeNewName : ByteArray := prog_11_method_18_code
def yX9_takeNewName : MethodName := ⟨RX9, "takeNewName", "(LSignedBridge$Plan;)Z"⟩
def RX10 : String := "SignedBridge$Ways"
def TX10 : u_T := fun k => match k with
  | 0 => ("SignedBridge$Ways", "bear", "[I", true)
  | 1 => ("SignedBridge$Ways", "spare", "[I", true)
  | 2 => ("SignedBridge$Ways", "best", "[I", true)
  | _ => ("SignedBridge$Ways", "steps", "[I", true)
def tyX10 : Nat → FieldType := fun k => match k with
  | 0 => .array .int
  | 1 => .array .int
  | 2 => .array .int
  | _ => .array .int
abbrev wsX100 : List Cond := u_ws RX10 TX10 4
theorem nmX10 : ∀ a, a < 4 → ∀ b, b < 4 → a ≠ b → (TX10 a).2.1 ≠ (TX10 b).2.1 := by decide +kernel
theorem tyX10_ok : ∀ k, k < 4 → parseFieldDescriptor (TX10 k).2.2.1 = some (tyX10 k) := by decide +kernel
abbrev cX10_init : ByteArray := prog_12_method_1_code
def yX10_init : MethodName := ⟨RX10, "<init>", "()V"⟩
abbrev cX10_bearing : ByteArray := prog_12_method_2_code
def yX10_bearing : MethodName := ⟨RX10, "bearing", "(LSignedBridge$Plan;LSignedBridge$State;II)I"⟩
abbrev cX10_weighRow : ByteArray := prog_12_method_3_code
def yX10_weighRow : MethodName := ⟨RX10, "weighRow", "(LSignedBridge$Plan;LSignedBridge$State;II)V"⟩
abbrev cX10_weigh : ByteArray := prog_12_method_4_code
def yX10_weigh : MethodName := ⟨RX10, "weigh", "(LSignedBridge$Plan;LSignedBridge$State;)V"⟩
abbrev cX10_bearInAll : ByteArray := prog_12_method_5_code
def yX10_bearInAll : MethodName := ⟨RX10, "bearInAll", "(LSignedBridge$Plan;LSignedBridge$State;)I"⟩
abbrev cX10_bearTogether : ByteArray := prog_12_method_6_code
def yX10_bearTogether : MethodName := ⟨RX10, "bearTogether", "(III)I"⟩
abbrev cX10_possibleSteps : ByteArray := prog_12_method_7_code
def yX10_possibleSteps : MethodName := ⟨RX10, "possibleSteps", "(III)I"⟩
abbrev cX10_lostRow : ByteArray := prog_12_method_8_code
def yX10_lostRow : MethodName := ⟨RX10, "lostRow", "(LSignedBridge$Plan;I)I"⟩
abbrev cX10_hasPath : ByteArray := prog_12_method_9_code
def yX10_hasPath : MethodName := ⟨RX10, "hasPath", "(LSignedBridge$Plan;LSignedBridge$State;I)Z"⟩
abbrev cX10_ableLoads : ByteArray := prog_12_method_10_code
def yX10_ableLoads : MethodName := ⟨RX10, "ableLoads", "(LSignedBridge$Plan;LSignedBridge$State;)I"⟩
abbrev cX10_tryCrossing : ByteArray := prog_12_method_11_code
def yX10_tryCrossing : MethodName := ⟨RX10, "tryCrossing", "(LSignedBridge$Plan;LSignedBridge$State;I)I"⟩
abbrev cX10_dropPlanks : ByteArray := prog_12_method_12_code
def yX10_dropPlanks : MethodName := ⟨RX10, "dropPlanks", "(LSignedBridge$State;II)V"⟩
abbrev cX10_findSafest : ByteArray := prog_12_method_13_code
def yX10_findSafest : MethodName := ⟨RX10, "findSafest", "(LSignedBridge$Plan;LSignedBridge$State;I)I"⟩
abbrev cX10_mostWeight : ByteArray := prog_12_method_14_code
def yX10_mostWeight : MethodName := ⟨RX10, "mostWeight", "(LSignedBridge$Plan;LSignedBridge$State;I)I"⟩
abbrev cX10_spareSteps : ByteArray := prog_12_method_15_code
def yX10_spareSteps : MethodName := ⟨RX10, "spareSteps", "(IIIZ)V"⟩
abbrev cX10_greatestLeast : ByteArray := prog_12_method_16_code
def yX10_greatestLeast : MethodName := ⟨RX10, "greatestLeast", "(I)I"⟩
abbrev cX10_bestOpen : ByteArray := prog_12_method_17_code
def yX10_bestOpen : MethodName := ⟨RX10, "bestOpen", "(II)I"⟩
abbrev cX10_followFirst : ByteArray := prog_12_method_18_code
def yX10_followFirst : MethodName := ⟨RX10, "followFirst", "(II)V"⟩
abbrev cX10_countOnPath : ByteArray := prog_12_method_19_code
def yX10_countOnPath : MethodName := ⟨RX10, "countOnPath", "(LSignedBridge$Plan;LSignedBridge$State;II)I"⟩
def RX11 : String := "SignedBridge"
def TX11 : u_T := fun k => match k with
  | 0 => ("SignedBridge", "tokens", "LSignedBridge$Tokens;", true)
  | 1 => ("SignedBridge", "bridgeText", "LSignedBridge$BridgeText;", true)
  | 2 => ("SignedBridge", "plan", "LSignedBridge$Plan;", true)
  | 3 => ("SignedBridge", "state", "LSignedBridge$State;", true)
  | 4 => ("SignedBridge", "sentence", "LSignedBridge$Sentence;", false)
  | 5 => ("SignedBridge", "sentenceDraft", "LSignedBridge$Sentence;", false)
  | 6 => ("SignedBridge", "book", "LSignedBridge$Book;", true)
  | 7 => ("SignedBridge", "ways", "LSignedBridge$Ways;", true)
  | 8 => ("SignedBridge", "asks", "LSignedBridge$Asks;", true)
  | 9 => ("SignedBridge", "cut", "LSignedBridge$Cut;", true)
  | 10 => ("SignedBridge", "forgers", "LSignedBridge$Forgers;", true)
  | 11 => ("SignedBridge", "forecast", "LSignedBridge$Forecast;", true)
  | 12 => ("SignedBridge", "plate", "Ljava/lang/StringBuilder;", true)
  | 13 => ("SignedBridge", "past", "[LSignedBridge$State;", true)
  | 14 => ("SignedBridge", "pastNext", "I", false)
  | 15 => ("SignedBridge", "pastCount", "I", false)
  | 16 => ("SignedBridge", "imagePlans", "[LSignedBridge$Plan;", true)
  | 17 => ("SignedBridge", "imageStates", "[LSignedBridge$State;", true)
  | 18 => ("SignedBridge", "imageSentences", "[LSignedBridge$Sentence;", true)
  | _ => ("SignedBridge", "imageKept", "[Z", true)
def tyX11 : Nat → FieldType := fun k => match k with
  | 0 => .object "SignedBridge$Tokens"
  | 1 => .object "SignedBridge$BridgeText"
  | 2 => .object "SignedBridge$Plan"
  | 3 => .object "SignedBridge$State"
  | 4 => .object "SignedBridge$Sentence"
  | 5 => .object "SignedBridge$Sentence"
  | 6 => .object "SignedBridge$Book"
  | 7 => .object "SignedBridge$Ways"
  | 8 => .object "SignedBridge$Asks"
  | 9 => .object "SignedBridge$Cut"
  | 10 => .object "SignedBridge$Forgers"
  | 11 => .object "SignedBridge$Forecast"
  | 12 => .object "java/lang/StringBuilder"
  | 13 => .array (.object "SignedBridge$State")
  | 14 => .int
  | 15 => .int
  | 16 => .array (.object "SignedBridge$Plan")
  | 17 => .array (.object "SignedBridge$State")
  | 18 => .array (.object "SignedBridge$Sentence")
  | _ => .array .boolean
abbrev wsX110 : List Cond := u_ws RX11 TX11 20
theorem nmX11 : ∀ a, a < 20 → ∀ b, b < 20 → a ≠ b → (TX11 a).2.1 ≠ (TX11 b).2.1 := by decide +kernel
theorem tyX11_ok : ∀ k, k < 20 → parseFieldDescriptor (TX11 k).2.2.1 = some (tyX11 k) := by decide +kernel
abbrev cX11_init : ByteArray := prog_1_method_1_code
def yX11_init : MethodName := ⟨RX11, "<init>", "()V"⟩
abbrev cX11_feed : ByteArray := prog_1_method_2_code
def yX11_feed : MethodName := ⟨RX11, "feed", "(IIIII)I"⟩
abbrev cX11_end : ByteArray := prog_1_method_3_code
def yX11_end : MethodName := ⟨RX11, "end", "(I)Z"⟩
abbrev cX11_bridge : ByteArray := prog_1_method_4_code
def yX11_bridge : MethodName := ⟨RX11, "bridge", "()I"⟩
abbrev cX11_fault : ByteArray := prog_1_method_5_code
def yX11_fault : MethodName := ⟨RX11, "fault", "()I"⟩
abbrev cX11_signer : ByteArray := prog_1_method_6_code
def yX11_signer : MethodName := ⟨RX11, "signer", "(II)I"⟩
abbrev cX11_plank : ByteArray := prog_1_method_7_code
def yX11_plank : MethodName := ⟨RX11, "plank", "(III)I"⟩
abbrev cX11_load : ByteArray := prog_1_method_8_code
def yX11_load : MethodName := ⟨RX11, "load", "(II)I"⟩
abbrev cX11_now : ByteArray := prog_1_method_9_code
def yX11_now : MethodName := ⟨RX11, "now", "(I)I"⟩
abbrev cX11_sign : ByteArray := prog_1_method_10_code
def yX11_sign : MethodName := ⟨RX11, "sign", "(III)I"⟩
abbrev cX11_burn : ByteArray := prog_1_method_11_code
def yX11_burn : MethodName := ⟨RX11, "burn", "(II)I"⟩
abbrev cX11_breaks : ByteArray := prog_1_method_12_code
def yX11_breaks : MethodName := ⟨RX11, "breaks", "(I)I"⟩
abbrev cX11_holds : ByteArray := prog_1_method_13_code
def yX11_holds : MethodName := ⟨RX11, "holds", "(I)I"⟩
abbrev cX11_die : ByteArray := prog_1_method_14_code
def yX11_die : MethodName := ⟨RX11, "die", "(I)I"⟩
abbrev cX11_cross : ByteArray := prog_1_method_15_code
def yX11_cross : MethodName := ⟨RX11, "cross", "(I)I"⟩
abbrev cX11_days : ByteArray := prog_1_method_16_code
def yX11_days : MethodName := ⟨RX11, "days", "(I)I"⟩
abbrev cX11_undo : ByteArray := prog_1_method_17_code
def yX11_undo : MethodName := ⟨RX11, "undo", "()I"⟩
abbrev cX11_spare : ByteArray := prog_1_method_18_code
def yX11_spare : MethodName := ⟨RX11, "spare", "(I)I"⟩
abbrev cX11_path : ByteArray := prog_1_method_19_code
def yX11_path : MethodName := ⟨RX11, "path", "(II)I"⟩
abbrev cX11_limit : ByteArray := prog_1_method_20_code
def yX11_limit : MethodName := ⟨RX11, "limit", "(I)I"⟩
abbrev cX11_asks : ByteArray := prog_1_method_21_code
def yX11_asks : MethodName := ⟨RX11, "asks", "(I)I"⟩
abbrev cX11_asked : ByteArray := prog_1_method_22_code
def yX11_asked : MethodName := ⟨RX11, "asked", "(II)I"⟩
abbrev cX11_keystone : ByteArray := prog_1_method_23_code
def yX11_keystone : MethodName := ⟨RX11, "keystone", "()I"⟩
abbrev cX11_able : ByteArray := prog_1_method_24_code
def yX11_able : MethodName := ⟨RX11, "able", "()I"⟩
abbrev cX11_cut : ByteArray := prog_1_method_25_code
def yX11_cut : MethodName := ⟨RX11, "cut", "(I)I"⟩
abbrev cX11_cutAt : ByteArray := prog_1_method_26_code
def yX11_cutAt : MethodName := ⟨RX11, "cutAt", "(I)I"⟩
abbrev cX11_order : ByteArray := prog_1_method_27_code
def yX11_order : MethodName := ⟨RX11, "order", "()I"⟩
abbrev cX11_orderAt : ByteArray := prog_1_method_28_code
def yX11_orderAt : MethodName := ⟨RX11, "orderAt", "(I)I"⟩
abbrev cX11_forgers : ByteArray := prog_1_method_29_code
def yX11_forgers : MethodName := ⟨RX11, "forgers", "()I"⟩
abbrev cX11_surely : ByteArray := prog_1_method_30_code
def yX11_surely : MethodName := ⟨RX11, "surely", "()I"⟩
abbrev cX11_tells : ByteArray := prog_1_method_31_code
def yX11_tells : MethodName := ⟨RX11, "tells", "()I"⟩
abbrev cX11_law : ByteArray := prog_1_method_32_code
def yX11_law : MethodName := ⟨RX11, "law", "(II)I"⟩
abbrev cX11_lasts : ByteArray := prog_1_method_33_code
def yX11_lasts : MethodName := ⟨RX11, "lasts", "(I)I"⟩
abbrev cX11_toll : ByteArray := prog_1_method_34_code
def yX11_toll : MethodName := ⟨RX11, "toll", "(II)I"⟩
abbrev cX11_plate : ByteArray := prog_1_method_35_code
def yX11_plate : MethodName := ⟨RX11, "plate", "(I)I"⟩
abbrev cX11_byteAt : ByteArray := prog_1_method_36_code
def yX11_byteAt : MethodName := ⟨RX11, "byteAt", "(I)I"⟩
abbrev cX11_drawn : ByteArray := prog_1_method_37_code
def yX11_drawn : MethodName := ⟨RX11, "drawn", "(II)I"⟩
abbrev cX11_odds : ByteArray := prog_1_method_38_code
def yX11_odds : MethodName := ⟨RX11, "odds", "(III)I"⟩
abbrev cX11_book : ByteArray := prog_1_method_39_code
def yX11_book : MethodName := ⟨RX11, "book", "(I)I"⟩
abbrev cX11_told : ByteArray := prog_1_method_40_code
def yX11_told : MethodName := ⟨RX11, "told", "(I)I"⟩
abbrev cX11_sentence : ByteArray := prog_1_method_41_code
def yX11_sentence : MethodName := ⟨RX11, "sentence", "()I"⟩
abbrev cX11_said : ByteArray := prog_1_method_42_code
def yX11_said : MethodName := ⟨RX11, "said", "(I)I"⟩
abbrev cX11_image : ByteArray := prog_1_method_43_code
def yX11_image : MethodName := ⟨RX11, "image", "(I)Z"⟩
abbrev cX11_restore : ByteArray := prog_1_method_44_code
def yX11_restore : MethodName := ⟨RX11, "restore", "(I)Z"⟩
abbrev cX11_count : ByteArray := prog_1_method_45_code
def yX11_count : MethodName := ⟨RX11, "count", "(I)I"⟩
abbrev cX11_isSigner : ByteArray := prog_1_method_46_code
def yX11_isSigner : MethodName := ⟨RX11, "isSigner", "(I)Z"⟩
abbrev cX11_isLoad : ByteArray := prog_1_method_47_code
def yX11_isLoad : MethodName := ⟨RX11, "isLoad", "(I)Z"⟩
abbrev cX11_isRow : ByteArray := prog_1_method_48_code
def yX11_isRow : MethodName := ⟨RX11, "isRow", "(I)Z"⟩
abbrev cX11_isPlace : ByteArray := prog_1_method_49_code
def yX11_isPlace : MethodName := ⟨RX11, "isPlace", "(II)Z"⟩
abbrev cX11_writeName : ByteArray := prog_1_method_50_code
def yX11_writeName : MethodName := ⟨RX11, "writeName", "(J)V"⟩
abbrev cX11_rememberState : ByteArray := prog_1_method_51_code
def yX11_rememberState : MethodName := ⟨RX11, "rememberState", "()V"⟩
abbrev cX11_keepRemembered : ByteArray := prog_1_method_52_code
def yX11_keepRemembered : MethodName := ⟨RX11, "keepRemembered", "()V"⟩
abbrev cX11_keepIfDone : ByteArray := prog_1_method_53_code
def yX11_keepIfDone : MethodName := ⟨RX11, "keepIfDone", "(I)I"⟩
def RX12 : String := "SignedBridgeModel"
def TX12 : u_T := fun k => match k with
  | 0 => ("SignedBridgeModel", "thrown", "I", false)
  | 1 => ("SignedBridgeModel", "tape", "[I", true)
  | 2 => ("SignedBridgeModel", "taped", "I", false)
  | 3 => ("SignedBridgeModel", "size", "I", false)
  | 4 => ("SignedBridgeModel", "limit", "I", false)
  | 5 => ("SignedBridgeModel", "to", "I", false)
  | 6 => ("SignedBridgeModel", "from", "I", false)
  | 7 => ("SignedBridgeModel", "kind", "I", false)
  | 8 => ("SignedBridgeModel", "number", "I", false)
  | 9 => ("SignedBridgeModel", "sign", "I", false)
  | 10 => ("SignedBridgeModel", "fault", "I", false)
  | 11 => ("SignedBridgeModel", "place", "I", false)
  | 12 => ("SignedBridgeModel", "word", "J", false)
  | 13 => ("SignedBridgeModel", "told", "I", false)
  | 14 => ("SignedBridgeModel", "now", "[I", true)
  | 15 => ("SignedBridgeModel", "read", "[I", true)
  | 16 => ("SignedBridgeModel", "kept", "[I", true)
  | 17 => ("SignedBridgeModel", "snaps", "[I", true)
  | 18 => ("SignedBridgeModel", "aside", "[I", true)
  | 19 => ("SignedBridgeModel", "name", "[J", true)
  | 20 => ("SignedBridgeModel", "readName", "[J", true)
  | 21 => ("SignedBridgeModel", "keptName", "[J", true)
  | 22 => ("SignedBridgeModel", "isKept", "[Z", true)
  | 23 => ("SignedBridgeModel", "snapMany", "I", false)
  | 24 => ("SignedBridgeModel", "hasRows", "Z", false)
  | 25 => ("SignedBridgeModel", "hasKeeps", "Z", false)
  | 26 => ("SignedBridgeModel", "hasPlank", "Z", false)
  | 27 => ("SignedBridgeModel", "whose", "[I", true)
  | 28 => ("SignedBridgeModel", "forging", "I", false)
  | 29 => ("SignedBridgeModel", "best", "[I", true)
  | 30 => ("SignedBridgeModel", "path", "[I", true)
  | 31 => ("SignedBridgeModel", "price", "[I", true)
  | 32 => ("SignedBridgeModel", "signs", "[I", true)
  | 33 => ("SignedBridgeModel", "asked", "[I", true)
  | 34 => ("SignedBridgeModel", "trying", "[I", true)
  | 35 => ("SignedBridgeModel", "askedRows", "I", false)
  | 36 => ("SignedBridgeModel", "cheapest", "I", false)
  | 37 => ("SignedBridgeModel", "cutting", "[I", true)
  | 38 => ("SignedBridgeModel", "cutAt", "[I", true)
  | 39 => ("SignedBridgeModel", "cuts", "I", false)
  | 40 => ("SignedBridgeModel", "order", "[I", true)
  | 41 => ("SignedBridgeModel", "ordered", "[I", true)
  | 42 => ("SignedBridgeModel", "held", "[I", true)
  | 43 => ("SignedBridgeModel", "orderMany", "I", false)
  | 44 => ("SignedBridgeModel", "crossMost", "I", false)
  | 45 => ("SignedBridgeModel", "passes", "[I", true)
  | 46 => ("SignedBridgeModel", "surely", "I", false)
  | 47 => ("SignedBridgeModel", "tells", "I", false)
  | 48 => ("SignedBridgeModel", "text", "[I", true)
  | 49 => ("SignedBridgeModel", "texts", "I", false)
  | 50 => ("SignedBridgeModel", "seed", "I", false)
  | 51 => ("SignedBridgeModel", "line", "[I", true)
  | 52 => ("SignedBridgeModel", "written", "[I", true)
  | 53 => ("SignedBridgeModel", "lineMany", "I", false)
  | 54 => ("SignedBridgeModel", "hasWritten", "Z", false)
  | 55 => ("SignedBridgeModel", "node", "[I", true)
  | 56 => ("SignedBridgeModel", "nodes", "I", false)
  | 57 => ("SignedBridgeModel", "onesMany", "I", false)
  | 58 => ("SignedBridgeModel", "within", "I", false)
  | _ => ("SignedBridgeModel", "top", "I", false)
def tyX12 : Nat → FieldType := fun k => match k with
  | 0 => .int
  | 1 => .array .int
  | 2 => .int
  | 3 => .int
  | 4 => .int
  | 5 => .int
  | 6 => .int
  | 7 => .int
  | 8 => .int
  | 9 => .int
  | 10 => .int
  | 11 => .int
  | 12 => .long
  | 13 => .int
  | 14 => .array .int
  | 15 => .array .int
  | 16 => .array .int
  | 17 => .array .int
  | 18 => .array .int
  | 19 => .array .long
  | 20 => .array .long
  | 21 => .array .long
  | 22 => .array .boolean
  | 23 => .int
  | 24 => .boolean
  | 25 => .boolean
  | 26 => .boolean
  | 27 => .array .int
  | 28 => .int
  | 29 => .array .int
  | 30 => .array .int
  | 31 => .array .int
  | 32 => .array .int
  | 33 => .array .int
  | 34 => .array .int
  | 35 => .int
  | 36 => .int
  | 37 => .array .int
  | 38 => .array .int
  | 39 => .int
  | 40 => .array .int
  | 41 => .array .int
  | 42 => .array .int
  | 43 => .int
  | 44 => .int
  | 45 => .array .int
  | 46 => .int
  | 47 => .int
  | 48 => .array .int
  | 49 => .int
  | 50 => .int
  | 51 => .array .int
  | 52 => .array .int
  | 53 => .int
  | 54 => .boolean
  | 55 => .array .int
  | 56 => .int
  | 57 => .int
  | 58 => .int
  | _ => .int
abbrev wsX120 : List Cond := u_ws RX12 TX12 60
theorem nmX12 : ∀ a, a < 60 → ∀ b, b < 60 → a ≠ b → (TX12 a).2.1 ≠ (TX12 b).2.1 := by decide +kernel
theorem tyX12_ok : ∀ k, k < 60 → parseFieldDescriptor (TX12 k).2.2.1 = some (tyX12 k) := by decide +kernel
abbrev cX12_refuse : ByteArray := prog_14_method_2_code
def yX12_refuse : MethodName := ⟨RX12, "refuse", "()I"⟩
abbrev cX12_come : ByteArray := prog_14_method_3_code
def yX12_come : MethodName := ⟨RX12, "come", "(I)V"⟩
abbrev cX12_feed : ByteArray := prog_14_method_4_code
def yX12_feed : MethodName := ⟨RX12, "feed", "(IIIII)I"⟩
abbrev cX12_end : ByteArray := prog_14_method_5_code
def yX12_end : MethodName := ⟨RX12, "end", "(I)Z"⟩
abbrev cX12_take : ByteArray := prog_14_method_6_code
def yX12_take : MethodName := ⟨RX12, "take", "()I"⟩
abbrev cX12_isIn : ByteArray := prog_14_method_7_code
def yX12_isIn : MethodName := ⟨RX12, "isIn", "(III)Z"⟩
abbrev cX12_has : ByteArray := prog_14_method_8_code
def yX12_has : MethodName := ⟨RX12, "has", "(II)Z"⟩
abbrev cX12_bits : ByteArray := prog_14_method_9_code
def yX12_bits : MethodName := ⟨RX12, "bits", "(I)I"⟩
abbrev cX12_least : ByteArray := prog_14_method_10_code
def yX12_least : MethodName := ⟨RX12, "least", "(II)I"⟩
abbrev cX12_size : ByteArray := prog_14_method_11_code
def yX12_size : MethodName := ⟨RX12, "size", "(I)I"⟩
abbrev cX12_tapeAt : ByteArray := prog_14_method_13_code
def yX12_tapeAt : MethodName := ⟨RX12, "tapeAt", "(I)I"⟩
abbrev cX12_isDigit : ByteArray := prog_14_method_14_code
def yX12_isDigit : MethodName := ⟨RX12, "isDigit", "(I)Z"⟩
abbrev cX12_isLetter : ByteArray := prog_14_method_15_code
def yX12_isLetter : MethodName := ⟨RX12, "isLetter", "(I)Z"⟩
abbrev cX12_go : ByteArray := prog_14_method_16_code
def yX12_go : MethodName := ⟨RX12, "go", "()V"⟩
abbrev cX12_spelt : ByteArray := prog_14_method_17_code
def yX12_spelt : MethodName := ⟨RX12, "spelt", "(IIIIIII)J"⟩
abbrev cX12_wordOf : ByteArray := prog_14_method_18_code
def yX12_wordOf : MethodName := ⟨RX12, "wordOf", "(I)J"⟩
abbrev cX12_isWord : ByteArray := prog_14_method_19_code
def yX12_isWord : MethodName := ⟨RX12, "isWord", "(I)Z"⟩
abbrev cX12_isSign : ByteArray := prog_14_method_20_code
def yX12_isSign : MethodName := ⟨RX12, "isSign", "(I)Z"⟩
abbrev cX12_isName : ByteArray := prog_14_method_21_code
def yX12_isName : MethodName := ⟨RX12, "isName", "()Z"⟩
abbrev cX12_bad : ByteArray := prog_14_method_22_code
def yX12_bad : MethodName := ⟨RX12, "bad", "(I)Z"⟩
abbrev cX12_readNumber : ByteArray := prog_14_method_23_code
def yX12_readNumber : MethodName := ⟨RX12, "readNumber", "(II)Z"⟩
abbrev cX12_readEnd : ByteArray := prog_14_method_24_code
def yX12_readEnd : MethodName := ⟨RX12, "readEnd", "()Z"⟩
abbrev cX12_begin : ByteArray := prog_14_method_25_code
def yX12_begin : MethodName := ⟨RX12, "begin", "(I)V"⟩
abbrev cX12_init : ByteArray := prog_14_method_26_code
def yX12_init : MethodName := ⟨RX12, "<init>", "()V"⟩
abbrev cX12_startRead : ByteArray := prog_14_method_27_code
def yX12_startRead : MethodName := ⟨RX12, "startRead", "()V"⟩
abbrev cX12_startSo : ByteArray := prog_14_method_28_code
def yX12_startSo : MethodName := ⟨RX12, "startSo", "()V"⟩
abbrev cX12_findIn : ByteArray := prog_14_method_29_code
def yX12_findIn : MethodName := ⟨RX12, "findIn", "([JIIJ)I"⟩
abbrev cX12_readNew : ByteArray := prog_14_method_30_code
def yX12_readNew : MethodName := ⟨RX12, "readNew", "(I)Z"⟩
abbrev cX12_isSignerTold : ByteArray := prog_14_method_31_code
def yX12_isSignerTold : MethodName := ⟨RX12, "isSignerTold", "()Z"⟩
abbrev cX12_readFirst : ByteArray := prog_14_method_32_code
def yX12_readFirst : MethodName := ⟨RX12, "readFirst", "(II)Z"⟩
abbrev cX12_put : ByteArray := prog_14_method_33_code
def yX12_put : MethodName := ⟨RX12, "put", "(IZ)Z"⟩
abbrev cX12_readRows : ByteArray := prog_14_method_34_code
def yX12_readRows : MethodName := ⟨RX12, "readRows", "()Z"⟩
abbrev cX12_readSigner : ByteArray := prog_14_method_35_code
def yX12_readSigner : MethodName := ⟨RX12, "readSigner", "()Z"⟩
abbrev cX12_readHeir : ByteArray := prog_14_method_36_code
def yX12_readHeir : MethodName := ⟨RX12, "readHeir", "()Z"⟩
abbrev cX12_readLovers : ByteArray := prog_14_method_37_code
def yX12_readLovers : MethodName := ⟨RX12, "readLovers", "()Z"⟩
abbrev cX12_readPlank : ByteArray := prog_14_method_38_code
def yX12_readPlank : MethodName := ⟨RX12, "readPlank", "()Z"⟩
abbrev cX12_readLoad : ByteArray := prog_14_method_39_code
def yX12_readLoad : MethodName := ⟨RX12, "readLoad", "()Z"⟩
abbrev cX12_readLine : ByteArray := prog_14_method_40_code
def yX12_readLine : MethodName := ⟨RX12, "readLine", "()Z"⟩
abbrev cX12_bridge : ByteArray := prog_14_method_41_code
def yX12_bridge : MethodName := ⟨RX12, "bridge", "()I"⟩
abbrev cX12_fault : ByteArray := prog_14_method_42_code
def yX12_fault : MethodName := ⟨RX12, "fault", "()I"⟩
abbrev cX12_isSigner : ByteArray := prog_14_method_43_code
def yX12_isSigner : MethodName := ⟨RX12, "isSigner", "(I)Z"⟩
abbrev cX12_isLoad : ByteArray := prog_14_method_44_code
def yX12_isLoad : MethodName := ⟨RX12, "isLoad", "(I)Z"⟩
abbrev cX12_isRow : ByteArray := prog_14_method_45_code
def yX12_isRow : MethodName := ⟨RX12, "isRow", "(I)Z"⟩
abbrev cX12_isPlace : ByteArray := prog_14_method_46_code
def yX12_isPlace : MethodName := ⟨RX12, "isPlace", "(II)Z"⟩
abbrev cX12_isDead : ByteArray := prog_14_method_47_code
def yX12_isDead : MethodName := ⟨RX12, "isDead", "(I)Z"⟩
abbrev cX12_places : ByteArray := prog_14_method_48_code
def yX12_places : MethodName := ⟨RX12, "places", "()I"⟩
abbrev cX12_planksOf : ByteArray := prog_14_method_49_code
def yX12_planksOf : MethodName := ⟨RX12, "planksOf", "(I)I"⟩
abbrev cX12_layWhose : ByteArray := prog_14_method_50_code
def yX12_layWhose : MethodName := ⟨RX12, "layWhose", "()V"⟩
abbrev cX12_besides : ByteArray := prog_14_method_51_code
def yX12_besides : MethodName := ⟨RX12, "besides", "(II)I"⟩
abbrev cX12_bearsAt : ByteArray := prog_14_method_52_code
def yX12_bearsAt : MethodName := ⟨RX12, "bearsAt", "(I)I"⟩
abbrev cX12_sumAt : ByteArray := prog_14_method_53_code
def yX12_sumAt : MethodName := ⟨RX12, "sumAt", "(III)I"⟩
abbrev cX12_signer : ByteArray := prog_14_method_54_code
def yX12_signer : MethodName := ⟨RX12, "signer", "(II)I"⟩
abbrev cX12_plank : ByteArray := prog_14_method_55_code
def yX12_plank : MethodName := ⟨RX12, "plank", "(III)I"⟩
abbrev cX12_load : ByteArray := prog_14_method_56_code
def yX12_load : MethodName := ⟨RX12, "load", "(II)I"⟩
abbrev cX12_now : ByteArray := prog_14_method_57_code
def yX12_now : MethodName := ⟨RX12, "now", "(I)I"⟩
abbrev cX12_spareAt : ByteArray := prog_14_method_58_code
def yX12_spareAt : MethodName := ⟨RX12, "spareAt", "(IIII)I"⟩
abbrev cX12_follows : ByteArray := prog_14_method_59_code
def yX12_follows : MethodName := ⟨RX12, "follows", "(II)Z"⟩
abbrev cX12_layBest : ByteArray := prog_14_method_60_code
def yX12_layBest : MethodName := ⟨RX12, "layBest", "(II)V"⟩
abbrev cX12_bestOf : ByteArray := prog_14_method_61_code
def yX12_bestOf : MethodName := ⟨RX12, "bestOf", "(I)I"⟩
abbrev cX12_hasPath : ByteArray := prog_14_method_62_code
def yX12_hasPath : MethodName := ⟨RX12, "hasPath", "(I)Z"⟩
abbrev cX12_layPath : ByteArray := prog_14_method_63_code
def yX12_layPath : MethodName := ⟨RX12, "layPath", "(I)Z"⟩
abbrev cX12_spare : ByteArray := prog_14_method_64_code
def yX12_spare : MethodName := ⟨RX12, "spare", "(I)I"⟩
abbrev cX12_path : ByteArray := prog_14_method_65_code
def yX12_path : MethodName := ⟨RX12, "path", "(II)I"⟩
abbrev cX12_toll : ByteArray := prog_14_method_66_code
def yX12_toll : MethodName := ⟨RX12, "toll", "(II)I"⟩
abbrev cX12_limit : ByteArray := prog_14_method_67_code
def yX12_limit : MethodName := ⟨RX12, "limit", "(I)I"⟩
abbrev cX12_snap : ByteArray := prog_14_method_68_code
def yX12_snap : MethodName := ⟨RX12, "snap", "()V"⟩
abbrev cX12_open : ByteArray := prog_14_method_69_code
def yX12_open : MethodName := ⟨RX12, "open", "(I)V"⟩
abbrev cX12_singe : ByteArray := prog_14_method_70_code
def yX12_singe : MethodName := ⟨RX12, "singe", "(I)V"⟩
abbrev cX12_whySign : ByteArray := prog_14_method_71_code
def yX12_whySign : MethodName := ⟨RX12, "whySign", "(II)I"⟩
abbrev cX12_doSign : ByteArray := prog_14_method_72_code
def yX12_doSign : MethodName := ⟨RX12, "doSign", "(II)V"⟩
abbrev cX12_doBurn : ByteArray := prog_14_method_73_code
def yX12_doBurn : MethodName := ⟨RX12, "doBurn", "(I)V"⟩
abbrev cX12_whyHold : ByteArray := prog_14_method_74_code
def yX12_whyHold : MethodName := ⟨RX12, "whyHold", "(I)I"⟩
abbrev cX12_doDie : ByteArray := prog_14_method_75_code
def yX12_doDie : MethodName := ⟨RX12, "doDie", "(I)V"⟩
abbrev cX12_stuckAt : ByteArray := prog_14_method_76_code
def yX12_stuckAt : MethodName := ⟨RX12, "stuckAt", "(I)I"⟩
abbrev cX12_doFall : ByteArray := prog_14_method_77_code
def yX12_doFall : MethodName := ⟨RX12, "doFall", "(I)V"⟩
abbrev cX12_doCross : ByteArray := prog_14_method_78_code
def yX12_doCross : MethodName := ⟨RX12, "doCross", "(I)I"⟩
abbrev cX12_sign : ByteArray := prog_14_method_79_code
def yX12_sign : MethodName := ⟨RX12, "sign", "(III)I"⟩
abbrev cX12_burn : ByteArray := prog_14_method_80_code
def yX12_burn : MethodName := ⟨RX12, "burn", "(II)I"⟩
abbrev cX12_breaks : ByteArray := prog_14_method_81_code
def yX12_breaks : MethodName := ⟨RX12, "breaks", "(I)I"⟩
abbrev cX12_holds : ByteArray := prog_14_method_82_code
def yX12_holds : MethodName := ⟨RX12, "holds", "(I)I"⟩
abbrev cX12_die : ByteArray := prog_14_method_83_code
def yX12_die : MethodName := ⟨RX12, "die", "(I)I"⟩
abbrev cX12_cross : ByteArray := prog_14_method_84_code
def yX12_cross : MethodName := ⟨RX12, "cross", "(I)I"⟩
abbrev cX12_undo : ByteArray := prog_14_method_85_code
def yX12_undo : MethodName := ⟨RX12, "undo", "()I"⟩
abbrev cX12_inherit : ByteArray := prog_14_method_86_code
def yX12_inherit : MethodName := ⟨RX12, "inherit", "(I)V"⟩
abbrev cX12_oneDay : ByteArray := prog_14_method_87_code
def yX12_oneDay : MethodName := ⟨RX12, "oneDay", "()V"⟩
abbrev cX12_passDays : ByteArray := prog_14_method_88_code
def yX12_passDays : MethodName := ⟨RX12, "passDays", "(I)I"⟩
abbrev cX12_days : ByteArray := prog_14_method_89_code
def yX12_days : MethodName := ⟨RX12, "days", "(I)I"⟩
abbrev cX12_trySigns : ByteArray := prog_14_method_90_code
def yX12_trySigns : MethodName := ⟨RX12, "trySigns", "(IIIII)V"⟩
abbrev cX12_priceAt : ByteArray := prog_14_method_91_code
def yX12_priceAt : MethodName := ⟨RX12, "priceAt", "(III)I"⟩
abbrev cX12_asks : ByteArray := prog_14_method_92_code
def yX12_asks : MethodName := ⟨RX12, "asks", "(I)I"⟩
abbrev cX12_asked : ByteArray := prog_14_method_93_code
def yX12_asked : MethodName := ⟨RX12, "asked", "(II)I"⟩
abbrev cX12_pathsNow : ByteArray := prog_14_method_94_code
def yX12_pathsNow : MethodName := ⟨RX12, "pathsNow", "()I"⟩
abbrev cX12_able : ByteArray := prog_14_method_95_code
def yX12_able : MethodName := ⟨RX12, "able", "()I"⟩
abbrev cX12_keystone : ByteArray := prog_14_method_96_code
def yX12_keystone : MethodName := ⟨RX12, "keystone", "()I"⟩
abbrev cX12_canCut : ByteArray := prog_14_method_97_code
def yX12_canCut : MethodName := ⟨RX12, "canCut", "(IIII)Z"⟩
abbrev cX12_cut : ByteArray := prog_14_method_98_code
def yX12_cut : MethodName := ⟨RX12, "cut", "(I)I"⟩
abbrev cX12_cutAt : ByteArray := prog_14_method_99_code
def yX12_cutAt : MethodName := ⟨RX12, "cutAt", "(I)I"⟩
abbrev cX12_orderFrom : ByteArray := prog_14_method_100_code
def yX12_orderFrom : MethodName := ⟨RX12, "orderFrom", "(IIII)V"⟩
abbrev cX12_order : ByteArray := prog_14_method_101_code
def yX12_order : MethodName := ⟨RX12, "order", "()I"⟩
abbrev cX12_orderAt : ByteArray := prog_14_method_102_code
def yX12_orderAt : MethodName := ⟨RX12, "orderAt", "(I)I"⟩
abbrev cX12_loadsOver : ByteArray := prog_14_method_103_code
def yX12_loadsOver : MethodName := ⟨RX12, "loadsOver", "()I"⟩
abbrev cX12_forgers : ByteArray := prog_14_method_104_code
def yX12_forgers : MethodName := ⟨RX12, "forgers", "()I"⟩
abbrev cX12_surely : ByteArray := prog_14_method_105_code
def yX12_surely : MethodName := ⟨RX12, "surely", "()I"⟩
abbrev cX12_tells : ByteArray := prog_14_method_106_code
def yX12_tells : MethodName := ⟨RX12, "tells", "()I"⟩
abbrev cX12_layAside : ByteArray := prog_14_method_107_code
def yX12_layAside : MethodName := ⟨RX12, "layAside", "()V"⟩
abbrev cX12_takeBack : ByteArray := prog_14_method_108_code
def yX12_takeBack : MethodName := ⟨RX12, "takeBack", "()V"⟩
abbrev cX12_goesOn : ByteArray := prog_14_method_109_code
def yX12_goesOn : MethodName := ⟨RX12, "goesOn", "(II)I"⟩
abbrev cX12_law : ByteArray := prog_14_method_110_code
def yX12_law : MethodName := ⟨RX12, "law", "(II)I"⟩
abbrev cX12_lasts : ByteArray := prog_14_method_111_code
def yX12_lasts : MethodName := ⟨RX12, "lasts", "(I)I"⟩
abbrev cX12_write : ByteArray := prog_14_method_112_code
def yX12_write : MethodName := ⟨RX12, "write", "(I)V"⟩
abbrev cX12_writeWord : ByteArray := prog_14_method_113_code
def yX12_writeWord : MethodName := ⟨RX12, "writeWord", "(J)V"⟩
abbrev cX12_plate : ByteArray := prog_14_method_114_code
def yX12_plate : MethodName := ⟨RX12, "plate", "(I)I"⟩
abbrev cX12_byteAt : ByteArray := prog_14_method_115_code
def yX12_byteAt : MethodName := ⟨RX12, "byteAt", "(I)I"⟩
abbrev cX12_draw : ByteArray := prog_14_method_116_code
def yX12_draw : MethodName := ⟨RX12, "draw", "(I)I"⟩
abbrev cX12_drawFor : ByteArray := prog_14_method_117_code
def yX12_drawFor : MethodName := ⟨RX12, "drawFor", "(I)V"⟩
abbrev cX12_drawDays : ByteArray := prog_14_method_118_code
def yX12_drawDays : MethodName := ⟨RX12, "drawDays", "(II)I"⟩
abbrev cX12_drawn : ByteArray := prog_14_method_119_code
def yX12_drawn : MethodName := ⟨RX12, "drawn", "(II)I"⟩
abbrev cX12_odds : ByteArray := prog_14_method_120_code
def yX12_odds : MethodName := ⟨RX12, "odds", "(III)I"⟩
abbrev cX12_readSet : ByteArray := prog_14_method_121_code
def yX12_readSet : MethodName := ⟨RX12, "readSet", "(III)Z"⟩
abbrev cX12_readPlace : ByteArray := prog_14_method_122_code
def yX12_readPlace : MethodName := ⟨RX12, "readPlace", "(I)Z"⟩
abbrev cX12_readSignerDoes : ByteArray := prog_14_method_123_code
def yX12_readSignerDoes : MethodName := ⟨RX12, "readSignerDoes", "(II)Z"⟩
abbrev cX12_readDoes : ByteArray := prog_14_method_124_code
def yX12_readDoes : MethodName := ⟨RX12, "readDoes", "(I)Z"⟩
abbrev cX12_readBookLine : ByteArray := prog_14_method_125_code
def yX12_readBookLine : MethodName := ⟨RX12, "readBookLine", "()Z"⟩
abbrev cX12_whyLine : ByteArray := prog_14_method_126_code
def yX12_whyLine : MethodName := ⟨RX12, "whyLine", "(I)I"⟩
abbrev cX12_live : ByteArray := prog_14_method_127_code
def yX12_live : MethodName := ⟨RX12, "live", "(I)V"⟩
abbrev cX12_book : ByteArray := prog_14_method_128_code
def yX12_book : MethodName := ⟨RX12, "book", "(I)I"⟩
abbrev cX12_stay : ByteArray := prog_14_method_129_code
def yX12_stay : MethodName := ⟨RX12, "stay", "(Z)V"⟩
abbrev cX12_told : ByteArray := prog_14_method_130_code
def yX12_told : MethodName := ⟨RX12, "told", "(I)I"⟩
abbrev cX12_isOn : ByteArray := prog_14_method_131_code
def yX12_isOn : MethodName := ⟨RX12, "isOn", "(II)Z"⟩
abbrev cX12_readWhom : ByteArray := prog_14_method_132_code
def yX12_readWhom : MethodName := ⟨RX12, "readWhom", "(I)Z"⟩
abbrev cX12_saysOne : ByteArray := prog_14_method_133_code
def yX12_saysOne : MethodName := ⟨RX12, "saysOne", "(IIII)I"⟩
abbrev cX12_readOr : ByteArray := prog_14_method_134_code
def yX12_readOr : MethodName := ⟨RX12, "readOr", "()Z"⟩
abbrev cX12_readAnd : ByteArray := prog_14_method_135_code
def yX12_readAnd : MethodName := ⟨RX12, "readAnd", "()Z"⟩
abbrev cX12_readSaid : ByteArray := prog_14_method_136_code
def yX12_readSaid : MethodName := ⟨RX12, "readSaid", "()Z"⟩
abbrev cX12_readNot : ByteArray := prog_14_method_137_code
def yX12_readNot : MethodName := ⟨RX12, "readNot", "()Z"⟩
abbrev cX12_readBracket : ByteArray := prog_14_method_138_code
def yX12_readBracket : MethodName := ⟨RX12, "readBracket", "()Z"⟩
abbrev cX12_readOf : ByteArray := prog_14_method_139_code
def yX12_readOf : MethodName := ⟨RX12, "readOf", "(I)Z"⟩
abbrev cX12_readCompare : ByteArray := prog_14_method_140_code
def yX12_readCompare : MethodName := ⟨RX12, "readCompare", "(I)Z"⟩
abbrev cX12_sentence : ByteArray := prog_14_method_141_code
def yX12_sentence : MethodName := ⟨RX12, "sentence", "()I"⟩
abbrev cX12_holds_ : ByteArray := prog_14_method_142_code
def yX12_holds_ : MethodName := ⟨RX12, "holds", "(II)Z"⟩
abbrev cX12_said : ByteArray := prog_14_method_143_code
def yX12_said : MethodName := ⟨RX12, "said", "(I)I"⟩
abbrev cX12_image : ByteArray := prog_14_method_144_code
def yX12_image : MethodName := ⟨RX12, "image", "(I)Z"⟩
abbrev cX12_restore : ByteArray := prog_14_method_145_code
def yX12_restore : MethodName := ⟨RX12, "restore", "(I)Z"⟩
abbrev cX12_count : ByteArray := prog_14_method_146_code
def yX12_count : MethodName := ⟨RX12, "count", "(I)I"⟩
def RJx145de : String := "java/io/Serializable"
def TJx145de : u_T := fun k => match k with
  | _ => ("", "", "", false)
def tyJx145de : Nat → FieldType := fun k => match k with
  | _ => .int
abbrev wsJx145de0 : List Cond := u_ws RJx145de TJx145de 0
theorem nmJx145de : ∀ a, a < 0 → ∀ b, b < 0 → a ≠ b → (TJx145de a).2.1 ≠ (TJx145de b).2.1 := by decide +kernel
theorem tyJx145de_ok : ∀ k, k < 0 → parseFieldDescriptor (TJx145de k).2.2.1 = some (tyJx145de k) := by decide +kernel
def RJ5 : String := "java/lang/AbstractStringBuilder"
def TJ5 : u_T := fun k => match k with
  | _ => ("", "", "", false)
def tyJ5 : Nat → FieldType := fun k => match k with
  | _ => .int
abbrev wsJ50 : List Cond := u_ws RJ5 TJ5 0
theorem nmJ5 : ∀ a, a < 0 → ∀ b, b < 0 → a ≠ b → (TJ5 a).2.1 ≠ (TJ5 b).2.1 := by decide +kernel
theorem tyJ5_ok : ∀ k, k < 0 → parseFieldDescriptor (TJ5 k).2.2.1 = some (tyJ5 k) := by decide +kernel
abbrev cJ5_init_d00df : ByteArray := prog_16_method_2_code
def yJ5_init_d00df : MethodName := ⟨RJ5, "<init>", "(I)V"⟩
abbrev cJ5_length_8abf5 : ByteArray := prog_16_method_6_code
def yJ5_length_8abf5 : MethodName := ⟨RJ5, "length", "()I"⟩
abbrev cJ5_ensureCapacityInternal_d00df : ByteArray := prog_16_method_9_code
def yJ5_ensureCapacityInternal_d00df : MethodName := ⟨RJ5, "ensureCapacityInternal", "(I)V"⟩
abbrev cJ5_newCapacity_0f7a4 : ByteArray := prog_16_method_10_code
def yJ5_newCapacity_0f7a4 : MethodName := ⟨RJ5, "newCapacity", "(I)I"⟩
abbrev cJ5_inflate_da8c8 : ByteArray := prog_16_method_11_code
def yJ5_inflate_da8c8 : MethodName := ⟨RJ5, "inflate", "()V"⟩
abbrev cJ5_setLength_d00df : ByteArray := prog_16_method_13_code
def yJ5_setLength_d00df : MethodName := ⟨RJ5, "setLength", "(I)V"⟩
abbrev cJ5_charAt_5068e : ByteArray := prog_16_method_14_code
def yJ5_charAt_5068e : MethodName := ⟨RJ5, "charAt", "(I)C"⟩
abbrev cJ5_append_cf1ce : ByteArray := prog_16_method_22_code
def yJ5_append_cf1ce : MethodName := ⟨RJ5, "append", "(Ljava/lang/String;)Ljava/lang/AbstractStringBuilder;"⟩
abbrev cJ5_appendNull_278bc : ByteArray := prog_16_method_26_code
def yJ5_appendNull_278bc : MethodName := ⟨RJ5, "appendNull", "()Ljava/lang/AbstractStringBuilder;"⟩
abbrev cJ5_append_3fe6f : ByteArray := prog_16_method_31_code
def yJ5_append_3fe6f : MethodName := ⟨RJ5, "append", "(C)Ljava/lang/AbstractStringBuilder;"⟩
abbrev cJ5_isLatin1_aae02 : ByteArray := prog_16_method_68_code
def yJ5_isLatin1_aae02 : MethodName := ⟨RJ5, "isLatin1", "()Z"⟩
abbrev cJ5_inflateIfNeededFor_a7421 : ByteArray := prog_16_method_71_code
def yJ5_inflateIfNeededFor_a7421 : MethodName := ⟨RJ5, "inflateIfNeededFor", "(Ljava/lang/String;)V"⟩
abbrev cJ5_putStringAt_47b60 : ByteArray := prog_16_method_73_code
def yJ5_putStringAt_47b60 : MethodName := ⟨RJ5, "putStringAt", "(ILjava/lang/String;)V"⟩
def RJx2cfe8 : String := "java/lang/Appendable"
def TJx2cfe8 : u_T := fun k => match k with
  | _ => ("", "", "", false)
def tyJx2cfe8 : Nat → FieldType := fun k => match k with
  | _ => .int
abbrev wsJx2cfe80 : List Cond := u_ws RJx2cfe8 TJx2cfe8 0
theorem nmJx2cfe8 : ∀ a, a < 0 → ∀ b, b < 0 → a ≠ b → (TJx2cfe8 a).2.1 ≠ (TJx2cfe8 b).2.1 := by decide +kernel
theorem tyJx2cfe8_ok : ∀ k, k < 0 → parseFieldDescriptor (TJx2cfe8 k).2.2.1 = some (tyJx2cfe8 k) := by decide +kernel
def RJx9f9b0 : String := "java/lang/CharSequence"
def TJx9f9b0 : u_T := fun k => match k with
  | _ => ("", "", "", false)
def tyJx9f9b0 : Nat → FieldType := fun k => match k with
  | _ => .int
abbrev wsJx9f9b00 : List Cond := u_ws RJx9f9b0 TJx9f9b0 0
theorem nmJx9f9b0 : ∀ a, a < 0 → ∀ b, b < 0 → a ≠ b → (TJx9f9b0 a).2.1 ≠ (TJx9f9b0 b).2.1 := by decide +kernel
theorem tyJx9f9b0_ok : ∀ k, k < 0 → parseFieldDescriptor (TJx9f9b0 k).2.2.1 = some (tyJx9f9b0 k) := by decide +kernel
def RJx8e188 : String := "java/lang/Cloneable"
def TJx8e188 : u_T := fun k => match k with
  | _ => ("", "", "", false)
def tyJx8e188 : Nat → FieldType := fun k => match k with
  | _ => .int
abbrev wsJx8e1880 : List Cond := u_ws RJx8e188 TJx8e188 0
theorem nmJx8e188 : ∀ a, a < 0 → ∀ b, b < 0 → a ≠ b → (TJx8e188 a).2.1 ≠ (TJx8e188 b).2.1 := by decide +kernel
theorem tyJx8e188_ok : ∀ k, k < 0 → parseFieldDescriptor (TJx8e188 k).2.2.1 = some (tyJx8e188 k) := by decide +kernel
def RJxb160c : String := "java/lang/Comparable"
def TJxb160c : u_T := fun k => match k with
  | _ => ("", "", "", false)
def tyJxb160c : Nat → FieldType := fun k => match k with
  | _ => .int
abbrev wsJxb160c0 : List Cond := u_ws RJxb160c TJxb160c 0
theorem nmJxb160c : ∀ a, a < 0 → ∀ b, b < 0 → a ≠ b → (TJxb160c a).2.1 ≠ (TJxb160c b).2.1 := by decide +kernel
theorem tyJxb160c_ok : ∀ k, k < 0 → parseFieldDescriptor (TJxb160c k).2.2.1 = some (tyJxb160c k) := by decide +kernel
def RJ6 : String := "java/lang/Integer"
def TJ6 : u_T := fun k => match k with
  | _ => ("", "", "", false)
def tyJ6 : Nat → FieldType := fun k => match k with
  | _ => .int
abbrev wsJ60 : List Cond := u_ws RJ6 TJ6 0
theorem nmJ6 : ∀ a, a < 0 → ∀ b, b < 0 → a ≠ b → (TJ6 a).2.1 ≠ (TJ6 b).2.1 := by decide +kernel
theorem tyJ6_ok : ∀ k, k < 0 → parseFieldDescriptor (TJ6 k).2.2.1 = some (tyJ6 k) := by decide +kernel
abbrev cJ6_bitCount_0f7a4 : ByteArray := prog_22_method_49_code
def yJ6_bitCount_0f7a4 : MethodName := ⟨RJ6, "bitCount", "(I)I"⟩
def RJ9 : String := "java/lang/Math"
def TJ9 : u_T := fun k => match k with
  | _ => ("", "", "", false)
def tyJ9 : Nat → FieldType := fun k => match k with
  | _ => .int
abbrev wsJ90 : List Cond := u_ws RJ9 TJ9 0
theorem nmJ9 : ∀ a, a < 0 → ∀ b, b < 0 → a ≠ b → (TJ9 a).2.1 ≠ (TJ9 b).2.1 := by decide +kernel
theorem tyJ9_ok : ∀ k, k < 0 → parseFieldDescriptor (TJ9 k).2.2.1 = some (tyJ9 k) := by decide +kernel
abbrev cJ9_abs_0f7a4 : ByteArray := prog_23_method_59_code
def yJ9_abs_0f7a4 : MethodName := ⟨RJ9, "abs", "(I)I"⟩
abbrev cJ9_max_7cf53 : ByteArray := prog_23_method_65_code
def yJ9_max_7cf53 : MethodName := ⟨RJ9, "max", "(II)I"⟩
abbrev cJ9_min_7cf53 : ByteArray := prog_23_method_69_code
def yJ9_min_7cf53 : MethodName := ⟨RJ9, "min", "(II)I"⟩
def RJ0 : String := "java/lang/String"
def TJ0 : u_T := fun k => match k with
  | _ => ("", "", "", false)
def tyJ0 : Nat → FieldType := fun k => match k with
  | _ => .int
abbrev wsJ00 : List Cond := u_ws RJ0 TJ0 0
theorem nmJ0 : ∀ a, a < 0 → ∀ b, b < 0 → a ≠ b → (TJ0 a).2.1 ≠ (TJ0 b).2.1 := by decide +kernel
theorem tyJ0_ok : ∀ k, k < 0 → parseFieldDescriptor (TJ0 k).2.2.1 = some (tyJ0 k) := by decide +kernel
abbrev cJ0_length_8abf5 : ByteArray := prog_25_method_54_code
def yJ0_length_8abf5 : MethodName := ⟨RJ0, "length", "()I"⟩
abbrev cJ0_charAt_5068e : ByteArray := prog_25_method_56_code
def yJ0_charAt_5068e : MethodName := ⟨RJ0, "charAt", "(I)C"⟩
abbrev cJ0_getBytes_840e7 : ByteArray := prog_25_method_147_code
def yJ0_getBytes_840e7 : MethodName := ⟨RJ0, "getBytes", "([BIB)V"⟩
abbrev cJ0_coder_7d493 : ByteArray := prog_25_method_152_code
def yJ0_coder_7d493 : MethodName := ⟨RJ0, "coder", "()B"⟩
abbrev cJ0_isLatin1_aae02 : ByteArray := prog_25_method_154_code
def yJ0_isLatin1_aae02 : MethodName := ⟨RJ0, "isLatin1", "()Z"⟩
abbrev cJ0_checkIndex_df160 : ByteArray := prog_25_method_155_code
def yJ0_checkIndex_df160 : MethodName := ⟨RJ0, "checkIndex", "(II)V"⟩
abbrev cJ0_checkBoundsOffCount_cabcc : ByteArray := prog_25_method_157_code
def yJ0_checkBoundsOffCount_cabcc : MethodName := ⟨RJ0, "checkBoundsOffCount", "(III)I"⟩
abbrev cJ0_checkBoundsBeginEnd_23922 : ByteArray := prog_25_method_158_code
def yJ0_checkBoundsBeginEnd_23922 : MethodName := ⟨RJ0, "checkBoundsBeginEnd", "(III)V"⟩
def RJ4 : String := "java/lang/StringBuilder"
def TJ4 : u_T := fun k => match k with
  | 0 => ("java/lang/AbstractStringBuilder", "value", "[B", false)
  | 1 => ("java/lang/AbstractStringBuilder", "coder", "B", false)
  | 2 => ("java/lang/AbstractStringBuilder", "maybeLatin1", "Z", false)
  | _ => ("java/lang/AbstractStringBuilder", "count", "I", false)
def tyJ4 : Nat → FieldType := fun k => match k with
  | 0 => .array .byte
  | 1 => .byte
  | 2 => .boolean
  | _ => .int
abbrev wsJ40 : List Cond := u_ws RJ4 TJ4 4
theorem nmJ4 : ∀ a, a < 4 → ∀ b, b < 4 → a ≠ b → (TJ4 a).2.1 ≠ (TJ4 b).2.1 := by decide +kernel
theorem tyJ4_ok : ∀ k, k < 4 → parseFieldDescriptor (TJ4 k).2.2.1 = some (tyJ4 k) := by decide +kernel
abbrev cJ4_init_da8c8 : ByteArray := prog_26_method_1_code
def yJ4_init_da8c8 : MethodName := ⟨RJ4, "<init>", "()V"⟩
abbrev cJ4_append_15ec4 : ByteArray := prog_26_method_7_code
def yJ4_append_15ec4 : MethodName := ⟨RJ4, "append", "(Ljava/lang/String;)Ljava/lang/StringBuilder;"⟩
abbrev cJ4_append_cf468 : ByteArray := prog_26_method_14_code
def yJ4_append_cf468 : MethodName := ⟨RJ4, "append", "(C)Ljava/lang/StringBuilder;"⟩
abbrev cJ4_charAt_5068e : ByteArray := prog_26_method_88_code
def yJ4_charAt_5068e : MethodName := ⟨RJ4, "charAt", "(I)C"⟩
abbrev cJ4_setLength_d00df : ByteArray := prog_26_method_89_code
def yJ4_setLength_d00df : MethodName := ⟨RJ4, "setLength", "(I)V"⟩
abbrev cJ4_length_8abf5 : ByteArray := prog_26_method_93_code
def yJ4_length_8abf5 : MethodName := ⟨RJ4, "length", "()I"⟩
def RJ1 : String := "java/lang/StringLatin1"
def TJ1 : u_T := fun k => match k with
  | _ => ("", "", "", false)
def tyJ1 : Nat → FieldType := fun k => match k with
  | _ => .int
abbrev wsJ10 : List Cond := u_ws RJ1 TJ1 0
theorem nmJ1 : ∀ a, a < 0 → ∀ b, b < 0 → a ≠ b → (TJ1 a).2.1 ≠ (TJ1 b).2.1 := by decide +kernel
theorem tyJ1_ok : ∀ k, k < 0 → parseFieldDescriptor (TJ1 k).2.2.1 = some (tyJ1 k) := by decide +kernel
abbrev cJ1_charAt_3b067 : ByteArray := prog_27_method_2_code
def yJ1_charAt_3b067 : MethodName := ⟨RJ1, "charAt", "([BI)C"⟩
abbrev cJ1_canEncode_fc78d : ByteArray := prog_27_method_3_code
def yJ1_canEncode_fc78d : MethodName := ⟨RJ1, "canEncode", "(C)Z"⟩
abbrev cJ1_fillNull_b72d1 : ByteArray := prog_27_method_48_code
def yJ1_fillNull_b72d1 : MethodName := ⟨RJ1, "fillNull", "([BII)V"⟩
abbrev cJ1_inflate_0e8fd : ByteArray := prog_27_method_50_code
def yJ1_inflate_0e8fd : MethodName := ⟨RJ1, "inflate", "([BI[BII)V"⟩
def RJ2 : String := "java/lang/StringUTF16"
def TJ2 : u_T := fun k => match k with
  | _ => ("", "", "", false)
def tyJ2 : Nat → FieldType := fun k => match k with
  | _ => .int
abbrev wsJ20 : List Cond := u_ws RJ2 TJ2 0
theorem nmJ2 : ∀ a, a < 0 → ∀ b, b < 0 → a ≠ b → (TJ2 a).2.1 ≠ (TJ2 b).2.1 := by decide +kernel
theorem tyJ2_ok : ∀ k, k < 0 → parseFieldDescriptor (TJ2 k).2.2.1 = some (tyJ2 k) := by decide +kernel
abbrev cJ2_newBytesFor_77867 : ByteArray := prog_28_method_2_code
def yJ2_newBytesFor_77867 : MethodName := ⟨RJ2, "newBytesFor", "(I)[B"⟩
abbrev cJ2_newBytesLength_0f7a4 : ByteArray := prog_28_method_3_code
def yJ2_newBytesLength_0f7a4 : MethodName := ⟨RJ2, "newBytesLength", "(I)I"⟩
abbrev cJ2_putChar_b72d1 : ByteArray := prog_28_method_4_code
def yJ2_putChar_b72d1 : MethodName := ⟨RJ2, "putChar", "([BII)V"⟩
abbrev cJ2_getChar_3b067 : ByteArray := prog_28_method_5_code
def yJ2_getChar_3b067 : MethodName := ⟨RJ2, "getChar", "([BI)C"⟩
abbrev cJ2_length_9d52b : ByteArray := prog_28_method_6_code
def yJ2_length_9d52b : MethodName := ⟨RJ2, "length", "([B)I"⟩
abbrev cJ2_fillNull_b72d1 : ByteArray := prog_28_method_70_code
def yJ2_fillNull_b72d1 : MethodName := ⟨RJ2, "fillNull", "([BII)V"⟩
abbrev cJ2_putCharSB_b72d1 : ByteArray := prog_28_method_71_code
def yJ2_putCharSB_b72d1 : MethodName := ⟨RJ2, "putCharSB", "([BII)V"⟩
abbrev cJ2_putCharsAt_cd4e5 : ByteArray := prog_28_method_81_code
def yJ2_putCharsAt_cd4e5 : MethodName := ⟨RJ2, "putCharsAt", "([BICCCC)I"⟩
abbrev cJ2_charAt_3b067 : ByteArray := prog_28_method_83_code
def yJ2_charAt_3b067 : MethodName := ⟨RJ2, "charAt", "([BI)C"⟩
abbrev cJ2_inflate_0e8fd : ByteArray := prog_28_method_86_code
def yJ2_inflate_0e8fd : MethodName := ⟨RJ2, "inflate", "([BI[BII)V"⟩
abbrev cJ2_checkIndex_2214a : ByteArray := prog_28_method_91_code
def yJ2_checkIndex_2214a : MethodName := ⟨RJ2, "checkIndex", "(I[B)V"⟩
abbrev cJ2_checkBoundsBeginEnd_d044e : ByteArray := prog_28_method_93_code
def yJ2_checkBoundsBeginEnd_d044e : MethodName := ⟨RJ2, "checkBoundsBeginEnd", "(II[B)V"⟩
abbrev cJ2_checkBoundsOffCount_d044e : ByteArray := prog_28_method_94_code
def yJ2_checkBoundsOffCount_d044e : MethodName := ⟨RJ2, "checkBoundsOffCount", "(II[B)V"⟩
def RJ10 : String := "java/lang/System"
def TJ10 : u_T := fun k => match k with
  | _ => ("", "", "", false)
def tyJ10 : Nat → FieldType := fun k => match k with
  | _ => .int
abbrev wsJ100 : List Cond := u_ws RJ10 TJ10 0
theorem nmJ10 : ∀ a, a < 0 → ∀ b, b < 0 → a ≠ b → (TJ10 a).2.1 ≠ (TJ10 b).2.1 := by decide +kernel
theorem tyJ10_ok : ∀ k, k < 0 → parseFieldDescriptor (TJ10 k).2.2.1 = some (tyJ10 k) := by decide +kernel
def RJxfd54e : String := "java/lang/constant/Constable"
def TJxfd54e : u_T := fun k => match k with
  | _ => ("", "", "", false)
def tyJxfd54e : Nat → FieldType := fun k => match k with
  | _ => .int
abbrev wsJxfd54e0 : List Cond := u_ws RJxfd54e TJxfd54e 0
theorem nmJxfd54e : ∀ a, a < 0 → ∀ b, b < 0 → a ≠ b → (TJxfd54e a).2.1 ≠ (TJxfd54e b).2.1 := by decide +kernel
theorem tyJxfd54e_ok : ∀ k, k < 0 → parseFieldDescriptor (TJxfd54e k).2.2.1 = some (tyJxfd54e k) := by decide +kernel
def RJx3cf43 : String := "java/lang/constant/ConstantDesc"
def TJx3cf43 : u_T := fun k => match k with
  | _ => ("", "", "", false)
def tyJx3cf43 : Nat → FieldType := fun k => match k with
  | _ => .int
abbrev wsJx3cf430 : List Cond := u_ws RJx3cf43 TJx3cf43 0
theorem nmJx3cf43 : ∀ a, a < 0 → ∀ b, b < 0 → a ≠ b → (TJx3cf43 a).2.1 ≠ (TJx3cf43 b).2.1 := by decide +kernel
theorem tyJx3cf43_ok : ∀ k, k < 0 → parseFieldDescriptor (TJx3cf43 k).2.2.1 = some (tyJx3cf43 k) := by decide +kernel
def RJ7 : String := "java/util/Arrays"
def TJ7 : u_T := fun k => match k with
  | _ => ("", "", "", false)
def tyJ7 : Nat → FieldType := fun k => match k with
  | _ => .int
abbrev wsJ70 : List Cond := u_ws RJ7 TJ7 0
theorem nmJ7 : ∀ a, a < 0 → ∀ b, b < 0 → a ≠ b → (TJ7 a).2.1 ≠ (TJ7 b).2.1 := by decide +kernel
theorem tyJ7_ok : ∀ k, k < 0 → parseFieldDescriptor (TJ7 k).2.2.1 = some (tyJ7 k) := by decide +kernel
abbrev cJ7_rangeCheck_23922 : ByteArray := prog_33_method_30_code
def yJ7_rangeCheck_23922 : MethodName := ⟨RJ7, "rangeCheck", "(III)V"⟩
abbrev cJ7_fill_53178 : ByteArray := prog_33_method_103_code
def yJ7_fill_53178 : MethodName := ⟨RJ7, "fill", "([II)V"⟩
abbrev cJ7_fill_eb02e : ByteArray := prog_33_method_110_code
def yJ7_fill_eb02e : MethodName := ⟨RJ7, "fill", "([BIIB)V"⟩
abbrev cJ7_copyOf_9075b : ByteArray := prog_33_method_121_code
def yJ7_copyOf_9075b : MethodName := ⟨RJ7, "copyOf", "([BI)[B"⟩
def RJ8 : String := "jdk/internal/util/ArraysSupport"
def TJ8 : u_T := fun k => match k with
  | _ => ("", "", "", false)
def tyJ8 : Nat → FieldType := fun k => match k with
  | _ => .int
abbrev wsJ80 : List Cond := u_ws RJ8 TJ8 0
theorem nmJ8 : ∀ a, a < 0 → ∀ b, b < 0 → a ≠ b → (TJ8 a).2.1 ≠ (TJ8 b).2.1 := by decide +kernel
theorem tyJ8_ok : ∀ k, k < 0 → parseFieldDescriptor (TJ8 k).2.2.1 = some (tyJ8 k) := by decide +kernel
abbrev cJ8_newLength_cabcc : ByteArray := prog_35_method_27_code
def yJ8_newLength_cabcc : MethodName := ⟨RJ8, "newLength", "(III)I"⟩
abbrev cJ8_hugeLength_7cf53 : ByteArray := prog_35_method_28_code
def yJ8_hugeLength_7cf53 : MethodName := ⟨RJ8, "hugeLength", "(II)I"⟩
def RJ3 : String := "jdk/internal/util/Preconditions"
def TJ3 : u_T := fun k => match k with
  | _ => ("", "", "", false)
def tyJ3 : Nat → FieldType := fun k => match k with
  | _ => .int
abbrev wsJ30 : List Cond := u_ws RJ3 TJ3 0
theorem nmJ3 : ∀ a, a < 0 → ∀ b, b < 0 → a ≠ b → (TJ3 a).2.1 ≠ (TJ3 b).2.1 := by decide +kernel
theorem tyJ3_ok : ∀ k, k < 0 → parseFieldDescriptor (TJ3 k).2.2.1 = some (tyJ3 k) := by decide +kernel
abbrev cJ3_checkIndex_8e157 : ByteArray := prog_36_method_11_code
def yJ3_checkIndex_8e157 : MethodName := ⟨RJ3, "checkIndex", "(IILjava/util/function/BiFunction;)I"⟩
abbrev cJ3_checkFromToIndex_8c36e : ByteArray := prog_36_method_12_code
def yJ3_checkFromToIndex_8c36e : MethodName := ⟨RJ3, "checkFromToIndex", "(IIILjava/util/function/BiFunction;)I"⟩
abbrev cJ3_checkFromIndexSize_8c36e : ByteArray := prog_36_method_13_code
def yJ3_checkFromIndexSize_8c36e : MethodName := ⟨RJ3, "checkFromIndexSize", "(IIILjava/util/function/BiFunction;)I"⟩
def RL : String := "SignedBridgeLaw"
abbrev cL_signer : ByteArray := method_3_code
def yL_signer : MethodName := ⟨RL, "signer", "(LSignedBridge;II[J)I"⟩
abbrev cL_plank : ByteArray := method_4_code
def yL_plank : MethodName := ⟨RL, "plank", "(LSignedBridge;III[J)I"⟩
abbrev cL_load : ByteArray := method_5_code
def yL_load : MethodName := ⟨RL, "load", "(LSignedBridge;II[J)I"⟩
abbrev cL_law : ByteArray := code
def yL_law : MethodName := ⟨RL, "law", "([I)Z"⟩
def wsL_law0_r1 : List Cond := [Cond.classLink RL 8 RX11, Cond.instantiable RX11 20, Cond.initialized RX11, Cond.classLink RL 23 RX12, Cond.instantiable RX12 60, Cond.initialized RX12, Cond.arrayClass .long, Cond.methodLink RL 22 yX11_init, Cond.instanceMethod yX11_init, Cond.code yX11_init cX11_init 2 none, Cond.methodLink RX11 1 objectInit, Cond.instanceMethod objectInit, Cond.code objectInit ⟨#[0xb1]⟩ 1 none, Cond.classLink RX11 7 RX9, Cond.instantiable RX9 13, Cond.initialized RX9, Cond.fieldLink RX11 10 "SignedBridge" "tokens" "LSignedBridge$Tokens;", Cond.classLink RX11 16 RX2, Cond.instantiable RX2 5, Cond.initialized RX2, Cond.fieldLink RX11 19 "SignedBridge" "bridgeText" "LSignedBridge$BridgeText;", Cond.classLink RX11 23 RX6, Cond.instantiable RX6 15, Cond.initialized RX6]
def wsL_law0_r2 : List Cond := [Cond.fieldLink RX11 26 "SignedBridge" "plan" "LSignedBridge$Plan;", Cond.classLink RX11 30 RX8, Cond.instantiable RX8 9, Cond.initialized RX8, Cond.fieldLink RX11 33 "SignedBridge" "state" "LSignedBridge$State;", Cond.classLink RX11 37 RX7, Cond.instantiable RX7 9, Cond.initialized RX7, Cond.fieldLink RX11 40 "SignedBridge" "sentence" "LSignedBridge$Sentence;", Cond.fieldLink RX11 44 "SignedBridge" "sentenceDraft" "LSignedBridge$Sentence;", Cond.classLink RX11 47 RX1, Cond.instantiable RX1 6, Cond.initialized RX1, Cond.fieldLink RX11 50 "SignedBridge" "book" "LSignedBridge$Book;", Cond.classLink RX11 54 RX10, Cond.instantiable RX10 4, Cond.initialized RX10, Cond.fieldLink RX11 57 "SignedBridge" "ways" "LSignedBridge$Ways;", Cond.classLink RX11 61 RX0, Cond.instantiable RX0 5, Cond.initialized RX0, Cond.fieldLink RX11 64 "SignedBridge" "asks" "LSignedBridge$Asks;", Cond.classLink RX11 68 RX3, Cond.instantiable RX3 5]
def wsL_law0_r3 : List Cond := [Cond.initialized RX3, Cond.fieldLink RX11 71 "SignedBridge" "cut" "LSignedBridge$Cut;", Cond.classLink RX11 75 RX5, Cond.instantiable RX5 5, Cond.initialized RX5, Cond.fieldLink RX11 78 "SignedBridge" "forgers" "LSignedBridge$Forgers;", Cond.classLink RX11 82 RX4, Cond.instantiable RX4 5, Cond.initialized RX4, Cond.fieldLink RX11 85 "SignedBridge" "forecast" "LSignedBridge$Forecast;", Cond.classLink RX11 89 RJ4, Cond.instantiable RJ4 4, Cond.initialized RJ4, Cond.fieldLink RX11 92 "SignedBridge" "plate" "Ljava/lang/StringBuilder;", Cond.fieldLink RX11 96 "SignedBridge" "past" "[LSignedBridge$State;", Cond.fieldLink RX11 100 "SignedBridge" "imagePlans" "[LSignedBridge$Plan;", Cond.fieldLink RX11 104 "SignedBridge" "imageStates" "[LSignedBridge$State;", Cond.fieldLink RX11 107 "SignedBridge" "imageSentences" "[LSignedBridge$Sentence;", Cond.arrayClass .boolean, Cond.fieldLink RX11 111 "SignedBridge" "imageKept" "[Z", Cond.instanceMethod yX9_init, Cond.code yX9_init cX9_init 1 none, Cond.methodLink RX9 3 objectInit, Cond.arrayClass .int]
def wsL_law0_r4 : List Cond := [Cond.fieldLink RX9 9 "SignedBridge$Tokens" "bytes" "[I", Cond.instanceMethod yX2_init, Cond.code yX2_init cX2_init 1 none, Cond.methodLink RX2 3 objectInit, Cond.classLink RX2 9 RX6, Cond.fieldLink RX2 12 "SignedBridge$BridgeText" "plan" "LSignedBridge$Plan;", Cond.methodLink RX2 11 yX6_init, Cond.instanceMethod yX6_init, Cond.code yX6_init cX6_init 1 none, Cond.methodLink RX6 3 objectInit, Cond.fieldLink RX6 9 "SignedBridge$Plan" "signerNames" "[J", Cond.fieldLink RX6 15 "SignedBridge$Plan" "earnest" "[I", Cond.fieldLink RX6 19 "SignedBridge$Plan" "miles" "[I", Cond.fieldLink RX6 22 "SignedBridge$Plan" "heir" "[I", Cond.fieldLink RX6 25 "SignedBridge$Plan" "loves" "[I", Cond.fieldLink RX6 28 "SignedBridge$Plan" "owner" "[I", Cond.fieldLink RX6 31 "SignedBridge$Plan" "loadNames" "[J", Cond.fieldLink RX6 34 "SignedBridge$Plan" "weight" "[I", Cond.fieldLink RX6 37 "SignedBridge$Plan" "wide" "[I", Cond.methodLink RX6 40 yX6_clear, Cond.instanceMethod yX6_clear, Cond.selects RX6 yX6_clear yX6_clear, Cond.code yX6_clear cX6_clear 1 none, Cond.fieldLink RX6 43 "SignedBridge$Plan" "rows" "I"]
def wsL_law0_r5 : List Cond := [Cond.fieldLink RX6 47 "SignedBridge$Plan" "keeps" "I", Cond.fieldLink RX6 50 "SignedBridge$Plan" "signers" "I", Cond.fieldLink RX6 53 "SignedBridge$Plan" "loads" "I", Cond.fieldLink RX6 56 "SignedBridge$Plan" "lovers" "I", Cond.fieldLink RX6 59 "SignedBridge$Plan" "forgers" "I", Cond.methodLink RX6 62 yJ7_fill_53178, Cond.static yJ7_fill_53178, Cond.initialized RJ7, Cond.code yJ7_fill_53178 cJ7_fill_53178 4 none, Cond.methodLink RX11 25 yX6_init, Cond.methodLink RX11 32 yX8_init, Cond.instanceMethod yX8_init, Cond.code yX8_init cX8_init 1 none, Cond.methodLink RX8 3 objectInit, Cond.fieldLink RX8 9 "SignedBridge$State" "earnest" "[I", Cond.fieldLink RX8 15 "SignedBridge$State" "died" "[I", Cond.fieldLink RX8 18 "SignedBridge$State" "held" "[I", Cond.fieldLink RX8 21 "SignedBridge$State" "owner" "[I", Cond.fieldLink RX8 24 "SignedBridge$State" "singed" "[I", Cond.fieldLink RX8 27 "SignedBridge$State" "crossed" "[I", Cond.methodLink RX8 30 yJ7_fill_53178, Cond.instanceMethod yX7_init, Cond.code yX7_init cX7_init 1 none, Cond.methodLink RX7 3 objectInit]
def wsL_law0_r6 : List Cond := [Cond.fieldLink RX7 11 "SignedBridge$Sentence" "code" "[I", Cond.fieldLink RX7 15 "SignedBridge$Sentence" "sign" "[I", Cond.fieldLink RX7 18 "SignedBridge$Sentence" "number" "[I", Cond.fieldLink RX7 21 "SignedBridge$Sentence" "delayed" "[I", Cond.fieldLink RX7 24 "SignedBridge$Sentence" "stack" "[I", Cond.instanceMethod yX1_init, Cond.code yX1_init cX1_init 1 none, Cond.methodLink RX1 3 objectInit, Cond.fieldLink RX1 11 "SignedBridge$Book" "deeds" "[I", Cond.fieldLink RX1 15 "SignedBridge$Book" "who" "[I", Cond.fieldLink RX1 18 "SignedBridge$Book" "first" "[I", Cond.fieldLink RX1 21 "SignedBridge$Book" "second" "[I", Cond.fieldLink RX1 24 "SignedBridge$Book" "verdict" "[I", Cond.instanceMethod yX10_init, Cond.code yX10_init cX10_init 1 none, Cond.methodLink RX10 3 objectInit, Cond.fieldLink RX10 9 "SignedBridge$Ways" "bear" "[I", Cond.fieldLink RX10 15 "SignedBridge$Ways" "spare" "[I", Cond.fieldLink RX10 18 "SignedBridge$Ways" "best" "[I", Cond.fieldLink RX10 21 "SignedBridge$Ways" "steps" "[I", Cond.methodLink RX11 63 yX0_init, Cond.instanceMethod yX0_init, Cond.code yX0_init cX0_init 1 none, Cond.methodLink RX0 3 objectInit]
def wsL_law0_r7 : List Cond := [Cond.classLink RX0 9 RX8, Cond.fieldLink RX0 12 "SignedBridge$Asks" "trial" "LSignedBridge$State;", Cond.fieldLink RX0 18 "SignedBridge$Asks" "cost" "[I", Cond.fieldLink RX0 22 "SignedBridge$Asks" "total" "[I", Cond.fieldLink RX0 25 "SignedBridge$Asks" "picks" "[I", Cond.fieldLink RX0 28 "SignedBridge$Asks" "asked" "[I", Cond.methodLink RX0 11 yX8_init, Cond.methodLink RX0 31 yJ7_fill_53178, Cond.instanceMethod yX3_init, Cond.code yX3_init cX3_init 1 none, Cond.methodLink RX3 3 objectInit, Cond.classLink RX3 9 RX8, Cond.fieldLink RX3 12 "SignedBridge$Cut" "trial" "LSignedBridge$State;", Cond.fieldLink RX3 18 "SignedBridge$Cut" "possible" "[I", Cond.fieldLink RX3 22 "SignedBridge$Cut" "need" "[I", Cond.fieldLink RX3 25 "SignedBridge$Cut" "places" "[I", Cond.methodLink RX3 11 yX8_init, Cond.instanceMethod yX5_init, Cond.code yX5_init cX5_init 1 none, Cond.methodLink RX5 3 objectInit, Cond.fieldLink RX5 9 "SignedBridge$Forgers" "possible" "[I", Cond.fieldLink RX5 15 "SignedBridge$Forgers" "forged" "[I", Cond.fieldLink RX5 18 "SignedBridge$Forgers" "ableBy" "[I", Cond.fieldLink RX5 21 "SignedBridge$Forgers" "common" "I"]
def wsL_law0_r8 : List Cond := [Cond.fieldLink RX5 25 "SignedBridge$Forgers" "telling" "I", Cond.instanceMethod yX4_init, Cond.code yX4_init cX4_init 1 none, Cond.methodLink RX4 3 objectInit, Cond.classLink RX4 9 RX8, Cond.fieldLink RX4 12 "SignedBridge$Forecast" "trial" "LSignedBridge$State;", Cond.fieldLink RX4 18 "SignedBridge$Forecast" "second" "LSignedBridge$State;", Cond.fieldLink RX4 21 "SignedBridge$Forecast" "order" "[I", Cond.methodLink RX4 11 yX8_init, Cond.methodLink RX11 91 yJ4_init_da8c8, Cond.instanceMethod yJ4_init_da8c8, Cond.code yJ4_init_da8c8 cJ4_init_da8c8 1 none, Cond.methodLink RJ4 1 yJ5_init_d00df, Cond.instanceMethod yJ5_init_d00df, Cond.initialized RJ5, Cond.code yJ5_init_d00df cJ5_init_d00df 2 none, Cond.methodLink RJ5 3 objectInit, Cond.fieldLink RJ5 18 "java/lang/String" "COMPACT_STRINGS" "Z", Cond.arrayClass .byte, Cond.fieldLink RJ5 15 "java/lang/AbstractStringBuilder" "value" "[B", Cond.fieldLink RJ5 22 "java/lang/AbstractStringBuilder" "coder" "B", Cond.methodLink RJ5 26 yJ2_newBytesFor_77867, Cond.static yJ2_newBytesFor_77867, Cond.initialized RJ2]
def wsL_law0_r9 : List Cond := [Cond.code yJ2_newBytesFor_77867 cJ2_newBytesFor_77867 1 (some (.array .byte)), Cond.methodLink RJ2 11 yJ2_newBytesLength_0f7a4, Cond.static yJ2_newBytesLength_0f7a4, Cond.code yJ2_newBytesLength_0f7a4 cJ2_newBytesLength_0f7a4 1 (some .int), Cond.constant RJ2 20 (1073741823), Cond.methodLink RL 25 yX12_init, Cond.instanceMethod yX12_init, Cond.code yX12_init cX12_init 2 none, Cond.methodLink RX12 93 objectInit, Cond.fieldLink RX12 7 "SignedBridgeModel" "tape" "[I", Cond.fieldLink RX12 98 "SignedBridgeModel" "now" "[I", Cond.fieldLink RX12 101 "SignedBridgeModel" "read" "[I", Cond.fieldLink RX12 104 "SignedBridgeModel" "kept" "[I", Cond.fieldLink RX12 107 "SignedBridgeModel" "snaps" "[I", Cond.fieldLink RX12 110 "SignedBridgeModel" "aside" "[I", Cond.fieldLink RX12 113 "SignedBridgeModel" "name" "[J", Cond.fieldLink RX12 117 "SignedBridgeModel" "readName" "[J", Cond.fieldLink RX12 120 "SignedBridgeModel" "keptName" "[J", Cond.fieldLink RX12 123 "SignedBridgeModel" "isKept" "[Z", Cond.fieldLink RX12 127 "SignedBridgeModel" "whose" "[I", Cond.fieldLink RX12 130 "SignedBridgeModel" "best" "[I", Cond.fieldLink RX12 133 "SignedBridgeModel" "path" "[I", Cond.fieldLink RX12 136 "SignedBridgeModel" "price" "[I", Cond.fieldLink RX12 139 "SignedBridgeModel" "signs" "[I"]
def wsL_law0_r10 : List Cond := [Cond.fieldLink RX12 142 "SignedBridgeModel" "asked" "[I", Cond.fieldLink RX12 145 "SignedBridgeModel" "trying" "[I", Cond.fieldLink RX12 148 "SignedBridgeModel" "cutting" "[I", Cond.fieldLink RX12 151 "SignedBridgeModel" "cutAt" "[I", Cond.fieldLink RX12 154 "SignedBridgeModel" "order" "[I", Cond.fieldLink RX12 157 "SignedBridgeModel" "ordered" "[I", Cond.fieldLink RX12 160 "SignedBridgeModel" "held" "[I", Cond.fieldLink RX12 163 "SignedBridgeModel" "passes" "[I", Cond.fieldLink RX12 166 "SignedBridgeModel" "surely" "I", Cond.fieldLink RX12 169 "SignedBridgeModel" "tells" "I", Cond.fieldLink RX12 172 "SignedBridgeModel" "text" "[I", Cond.fieldLink RX12 175 "SignedBridgeModel" "line" "[I", Cond.fieldLink RX12 178 "SignedBridgeModel" "written" "[I", Cond.fieldLink RX12 181 "SignedBridgeModel" "node" "[I", Cond.methodLink RX12 184 yX12_startRead, Cond.instanceMethod yX12_startRead, Cond.selects RX12 yX12_startRead yX12_startRead, Cond.code yX12_startRead cX12_startRead 2 none, Cond.methodLink RX12 187 yX12_startSo, Cond.instanceMethod yX12_startSo, Cond.selects RX12 yX12_startSo yX12_startSo, Cond.code yX12_startSo cX12_startSo 2 none, Cond.methodLink RL 26 yX11_feed, Cond.instanceMethod yX11_feed]
def wsL_law0_r11 : List Cond := [Cond.selects RX11 yX11_feed yX11_feed, Cond.code yX11_feed cX11_feed 6 (some .int), Cond.fieldLink RX11 115 "SignedBridge$Tokens" "length" "I", Cond.methodLink RX11 119 yX9_put, Cond.instanceMethod yX9_put, Cond.selects RX9 yX9_put yX9_put, Cond.code yX9_put cX9_put 3 none, Cond.fieldLink RX9 15 "SignedBridge$Tokens" "length" "I", Cond.methodLink RL 30 yX12_feed, Cond.instanceMethod yX12_feed, Cond.selects RX12 yX12_feed yX12_feed, Cond.code yX12_feed cX12_feed 6 (some .int), Cond.fieldLink RX12 1 "SignedBridgeModel" "thrown" "I", Cond.fieldLink RX12 11 "SignedBridgeModel" "taped" "I", Cond.methodLink RX12 14 yX12_come, Cond.instanceMethod yX12_come, Cond.selects RX12 yX12_come yX12_come, Cond.code yX12_come cX12_come 3 none, Cond.methodLink RL 31 yX11_end, Cond.instanceMethod yX11_end, Cond.selects RX11 yX11_end yX11_end, Cond.code yX11_end cX11_end 2 (some .boolean), Cond.methodLink RL 35 yX12_end, Cond.instanceMethod yX12_end]
def wsL_law0_r12 : List Cond := [Cond.selects RX12 yX12_end yX12_end, Cond.code yX12_end cX12_end 2 (some .boolean), Cond.methodLink RL 36 yX11_bridge, Cond.instanceMethod yX11_bridge, Cond.selects RX11 yX11_bridge yX11_bridge, Cond.code yX11_bridge cX11_bridge 2 (some .int), Cond.fieldLink RX11 127 "SignedBridge$Tokens" "faultAt" "I", Cond.fieldLink RX11 130 "SignedBridge$BridgeText" "plan" "LSignedBridge$Plan;", Cond.fieldLink RX11 141 "SignedBridge" "pastCount" "I", Cond.fieldLink RX11 144 "SignedBridge$BridgeText" "lines" "I", Cond.methodLink RX11 123 yX2_read, Cond.instanceMethod yX2_read, Cond.selects RX2 yX2_read yX2_read, Cond.code yX2_read cX2_read 2 (some .boolean), Cond.fieldLink RX2 21 "SignedBridge$BridgeText" "rowsTold" "Z", Cond.fieldLink RX2 25 "SignedBridge$BridgeText" "keepsTold" "Z", Cond.fieldLink RX2 28 "SignedBridge$BridgeText" "plankTold" "Z", Cond.fieldLink RX2 37 "SignedBridge$BridgeText" "lines" "I", Cond.fieldLink RX2 41 "SignedBridge$Tokens" "kind" "I", Cond.methodLink RX2 18 yX6_clear, Cond.methodLink RX2 31 yX9_begin, Cond.instanceMethod yX9_begin, Cond.selects RX9 yX9_begin yX9_begin, Cond.code yX9_begin cX9_begin 2 none]
def wsL_law0_r13 : List Cond := [Cond.fieldLink RX9 19 "SignedBridge$Tokens" "most" "I", Cond.fieldLink RX9 22 "SignedBridge$Tokens" "next" "I", Cond.fieldLink RX9 25 "SignedBridge$Tokens" "faultKind" "I", Cond.methodLink RX9 28 yX9_advance, Cond.instanceMethod yX9_advance, Cond.selects RX9 yX9_advance yX9_advance, Cond.code yX9_advance cX9_advance 4 none, Cond.methodLink RX9 31 Lib.Math.min.name, Cond.static Lib.Math.min.name, Cond.initialized "java/lang/Math", Cond.code Lib.Math.min.name Lib.Math.min.code 2 (some .int), Cond.fieldLink RX9 37 "SignedBridge$Tokens" "at" "I", Cond.fieldLink RX9 40 "SignedBridge$Tokens" "kind" "I", Cond.fieldLink RX9 43 "SignedBridge$Tokens" "value" "I", Cond.methodLink RX9 46 yX9_isLetter, Cond.static yX9_isLetter, Cond.code yX9_isLetter cX9_isLetter 1 (some .boolean), Cond.methodLink RX9 50 yX9_isDigit, Cond.static yX9_isDigit, Cond.code yX9_isDigit cX9_isDigit 1 (some .boolean), Cond.methodLink RX9 53 yX9_isSign, Cond.static yX9_isSign, Cond.code yX9_isSign cX9_isSign 1 (some .boolean), Cond.methodLink RX9 56 yX9_readWord]
def wsL_law0_r14 : List Cond := [Cond.instanceMethod yX9_readWord, Cond.selects RX9 yX9_readWord yX9_readWord, Cond.code yX9_readWord cX9_readWord 4 none, Cond.fieldLink RX9 62 "SignedBridge$Tokens" "name" "J", Cond.constantLong RX9 66 (32), Cond.constantLong RX9 68 (97), Cond.methodLink RX9 72 yJ0_charAt_5068e, Cond.instanceMethod yJ0_charAt_5068e, Cond.selects RJ0 yJ0_charAt_5068e yJ0_charAt_5068e, Cond.initialized RJ0, Cond.code yJ0_charAt_5068e cJ0_charAt_5068e 2 (some .char), Cond.fieldLink RJ0 9 "java/lang/String" "value" "[B", Cond.methodLink RJ0 492 yJ0_isLatin1_aae02, Cond.instanceMethod yJ0_isLatin1_aae02, Cond.selects RJ0 yJ0_isLatin1_aae02 yJ0_isLatin1_aae02, Cond.code yJ0_isLatin1_aae02 cJ0_isLatin1_aae02 1 (some .boolean), Cond.fieldLink RJ0 38 "java/lang/String" "COMPACT_STRINGS" "Z", Cond.fieldLink RJ0 15 "java/lang/String" "coder" "B", Cond.methodLink RJ0 495 yJ1_charAt_3b067, Cond.static yJ1_charAt_3b067, Cond.initialized RJ1, Cond.code yJ1_charAt_3b067 cJ1_charAt_3b067 2 (some .char), Cond.methodLink RJ1 9 yJ0_checkIndex_df160, Cond.static yJ0_checkIndex_df160]
def wsL_law0_r15 : List Cond := [Cond.code yJ0_checkIndex_df160 cJ0_checkIndex_df160 2 none, Cond.fieldLink RJ0 1053 "jdk/internal/util/Preconditions" "SIOOBE_FORMATTER" "Ljava/util/function/BiFunction;", Cond.methodLink RJ0 1059 yJ3_checkIndex_8e157, Cond.static yJ3_checkIndex_8e157, Cond.initialized RJ3, Cond.code yJ3_checkIndex_8e157 cJ3_checkIndex_8e157 3 (some .int), Cond.methodLink RJ0 498 yJ2_charAt_3b067, Cond.static yJ2_charAt_3b067, Cond.code yJ2_charAt_3b067 cJ2_charAt_3b067 2 (some .char), Cond.methodLink RJ2 67 yJ2_checkIndex_2214a, Cond.static yJ2_checkIndex_2214a, Cond.code yJ2_checkIndex_2214a cJ2_checkIndex_2214a 2 none, Cond.methodLink RJ2 48 yJ2_length_9d52b, Cond.static yJ2_length_9d52b, Cond.code yJ2_length_9d52b cJ2_length_9d52b 1 (some .int), Cond.methodLink RJ2 414 yJ0_checkIndex_df160, Cond.methodLink RJ2 71 yJ2_getChar_3b067, Cond.static yJ2_getChar_3b067, Cond.code yJ2_getChar_3b067 cJ2_getChar_3b067 2 (some .char), Cond.fieldLink RJ2 44 "java/lang/StringUTF16" "$assertionsDisabled" "Z", Cond.fieldLink RJ2 59 "java/lang/StringUTF16" "HI_BYTE_SHIFT" "I", Cond.fieldLink RJ2 63 "java/lang/StringUTF16" "LO_BYTE_SHIFT" "I", Cond.methodLink RX9 59 yX9_readNumber, Cond.instanceMethod yX9_readNumber]
def wsL_law0_r16 : List Cond := [Cond.selects RX9 yX9_readNumber yX9_readNumber, Cond.code yX9_readNumber cX9_readNumber 2 none, Cond.methodLink RX2 44 yX2_readLine, Cond.instanceMethod yX2_readLine, Cond.selects RX2 yX2_readLine yX2_readLine, Cond.code yX2_readLine cX2_readLine 2 (some .boolean), Cond.fieldLink RX2 59 "SignedBridge$Tokens" "value" "I", Cond.methodLink RX2 56 yX9_refuse, Cond.instanceMethod yX9_refuse, Cond.selects RX9 yX9_refuse yX9_refuse, Cond.code yX9_refuse cX9_refuse 2 (some .boolean), Cond.methodLink RX9 78 yX9_refuseAt, Cond.instanceMethod yX9_refuseAt, Cond.selects RX9 yX9_refuseAt yX9_refuseAt, Cond.code yX9_refuseAt cX9_refuseAt 3 (some .boolean), Cond.fieldLink RX9 82 "SignedBridge$Tokens" "faultAt" "I", Cond.methodLink RX2 62 yX2_readRows, Cond.instanceMethod yX2_readRows, Cond.selects RX2 yX2_readRows yX2_readRows, Cond.code yX2_readRows cX2_readRows 2 (some .boolean), Cond.fieldLink RX2 90 "SignedBridge$Tokens" "taken" "I", Cond.fieldLink RX2 93 "SignedBridge$Plan" "rows" "I", Cond.methodLink RX2 83 yX9_advance, Cond.methodLink RX2 86 yX9_takeNumber]
def wsL_law0_r17 : List Cond := [Cond.instanceMethod yX9_takeNumber, Cond.selects RX9 yX9_takeNumber yX9_takeNumber, Cond.code yX9_takeNumber cX9_takeNumber 3 (some .boolean), Cond.fieldLink RX9 91 "SignedBridge$Tokens" "taken" "I", Cond.fieldLink RX9 94 "SignedBridge$Tokens" "takenAt" "I", Cond.methodLink RX9 85 yX9_refuse, Cond.methodLink RX2 65 yX2_readSigner, Cond.instanceMethod yX2_readSigner, Cond.selects RX2 yX2_readSigner yX2_readSigner, Cond.code yX2_readSigner cX2_readSigner 3 (some .boolean), Cond.fieldLink RX2 99 "SignedBridge$Plan" "signers" "I", Cond.fieldLink RX2 106 "SignedBridge$Plan" "signerNames" "[J", Cond.fieldLink RX2 110 "SignedBridge$Tokens" "takenName" "J", Cond.fieldLink RX2 114 "SignedBridge$Plan" "earnest" "[I", Cond.fieldLink RX2 118 "SignedBridge$Plan" "miles" "[I", Cond.fieldLink RX2 124 "SignedBridge$Plan" "forgers" "I", Cond.methodLink RX2 102 yX9_takeNewName, Cond.instanceMethod yX9_takeNewName, Cond.selects RX9 yX9_takeNewName yX9_takeNewName, Cond.code yX9_takeNewName cX9_takeNewName 2 (some .boolean), Cond.fieldLink RX9 106 "SignedBridge$Tokens" "takenName" "J", Cond.methodLink RX9 97 yX6_signerNamed, Cond.instanceMethod yX6_signerNamed, Cond.selects RX6 yX6_signerNamed yX6_signerNamed]
def wsL_law0_r18 : List Cond := [Cond.code yX6_signerNamed cX6_signerNamed 4 (some .int), Cond.methodLink RX9 103 yX6_loadNamed, Cond.instanceMethod yX6_loadNamed, Cond.selects RX6 yX6_loadNamed yX6_loadNamed, Cond.code yX6_loadNamed cX6_loadNamed 4 (some .int), Cond.methodLink RX2 121 yX9_isKey, Cond.instanceMethod yX9_isKey, Cond.selects RX9 yX9_isKey yX9_isKey, Cond.code yX9_isKey cX9_isKey 2 (some .boolean), Cond.methodLink RX2 68 yX2_readHeir, Cond.instanceMethod yX2_readHeir, Cond.selects RX2 yX2_readHeir yX2_readHeir, Cond.code yX2_readHeir cX2_readHeir 3 (some .boolean), Cond.fieldLink RX2 130 "SignedBridge$Plan" "heir" "[I", Cond.fieldLink RX2 133 "SignedBridge$Tokens" "takenAt" "I", Cond.methodLink RX2 127 yX9_takeSigner, Cond.instanceMethod yX9_takeSigner, Cond.selects RX9 yX9_takeSigner yX9_takeSigner, Cond.code yX9_takeSigner cX9_takeSigner 3 (some .boolean), Cond.methodLink RX2 136 yX9_refuseAt, Cond.methodLink RX2 71 yX2_readLovers, Cond.instanceMethod yX2_readLovers, Cond.selects RX2 yX2_readLovers yX2_readLovers, Cond.code yX2_readLovers cX2_readLovers 4 (some .boolean)]
def wsL_law0_r19 : List Cond := [Cond.fieldLink RX2 139 "SignedBridge$Plan" "lovers" "I", Cond.fieldLink RX2 145 "SignedBridge$Plan" "loves" "[I", Cond.methodLink RX2 142 yX6_areLovers, Cond.instanceMethod yX6_areLovers, Cond.selects RX6 yX6_areLovers yX6_areLovers, Cond.code yX6_areLovers cX6_areLovers 3 (some .boolean), Cond.methodLink RX2 74 yX2_readPlank, Cond.instanceMethod yX2_readPlank, Cond.selects RX2 yX2_readPlank yX2_readPlank, Cond.code yX2_readPlank cX2_readPlank 5 (some .boolean), Cond.fieldLink RX2 152 "SignedBridge$Plan" "owner" "[I", Cond.methodLink RX2 148 yX6_countPlanksOf, Cond.instanceMethod yX6_countPlanksOf, Cond.selects RX6 yX6_countPlanksOf yX6_countPlanksOf, Cond.code yX6_countPlanksOf cX6_countPlanksOf 4 (some .int), Cond.methodLink RX2 77 yX2_readLoad, Cond.instanceMethod yX2_readLoad, Cond.selects RX2 yX2_readLoad yX2_readLoad, Cond.code yX2_readLoad cX2_readLoad 3 (some .boolean), Cond.fieldLink RX2 155 "SignedBridge$Plan" "loads" "I", Cond.fieldLink RX2 158 "SignedBridge$Plan" "loadNames" "[J", Cond.fieldLink RX2 161 "SignedBridge$Plan" "weight" "[I", Cond.fieldLink RX2 164 "SignedBridge$Plan" "wide" "[I", Cond.methodLink RX2 80 yX2_readKeeps]
def wsL_law0_r20 : List Cond := [Cond.instanceMethod yX2_readKeeps, Cond.selects RX2 yX2_readKeeps yX2_readKeeps, Cond.code yX2_readKeeps cX2_readKeeps 2 (some .boolean), Cond.fieldLink RX2 96 "SignedBridge$Plan" "keeps" "I", Cond.methodLink RX2 48 yX9_takeSign, Cond.instanceMethod yX9_takeSign, Cond.selects RX9 yX9_takeSign yX9_takeSign, Cond.code yX9_takeSign cX9_takeSign 2 (some .boolean), Cond.methodLink RX9 88 yX9_isSignOf, Cond.instanceMethod yX9_isSignOf, Cond.selects RX9 yX9_isSignOf yX9_isSignOf, Cond.code yX9_isSignOf cX9_isSignOf 2 (some .boolean), Cond.methodLink RX2 52 yX9_takeEnd, Cond.instanceMethod yX9_takeEnd, Cond.selects RX9 yX9_takeEnd yX9_takeEnd, Cond.code yX9_takeEnd cX9_takeEnd 1 (some .boolean), Cond.methodLink RX11 131 yX6_copyOf, Cond.instanceMethod yX6_copyOf, Cond.selects RX6 yX6_copyOf yX6_copyOf, Cond.code yX6_copyOf cX6_copyOf 2 none, Cond.methodLink RX6 68 arraycopyName, Cond.native arraycopyName, Cond.static arraycopyName, Cond.initialized "java/lang/System"]
def wsL_law0_r21 : List Cond := [Cond.methodLink RX11 135 yX8_begin, Cond.instanceMethod yX8_begin, Cond.selects RX8 yX8_begin yX8_begin, Cond.code yX8_begin cX8_begin 3 none, Cond.fieldLink RX8 36 "SignedBridge$State" "day" "I", Cond.fieldLink RX8 40 "SignedBridge$State" "burnt" "I", Cond.fieldLink RX8 43 "SignedBridge$State" "fallen" "I", Cond.fieldLink RX8 46 "SignedBridge$Plan" "earnest" "[I", Cond.methodLink RX8 49 arraycopyName, Cond.fieldLink RX8 55 "SignedBridge$Plan" "owner" "[I", Cond.methodLink RX8 56 yX6_countPlanksOf, Cond.methodLink RX11 138 yX7_forget, Cond.instanceMethod yX7_forget, Cond.selects RX7 yX7_forget yX7_forget, Cond.code yX7_forget cX7_forget 1 none, Cond.fieldLink RX7 27 "SignedBridge$Sentence" "ones" "I", Cond.fieldLink RX7 31 "SignedBridge$Sentence" "size" "I", Cond.methodLink RL 40 yX12_bridge, Cond.instanceMethod yX12_bridge, Cond.selects RX12 yX12_bridge yX12_bridge, Cond.code yX12_bridge cX12_bridge 3 (some .int), Cond.fieldLink RX12 198 "SignedBridgeModel" "hasRows" "Z", Cond.fieldLink RX12 246 "SignedBridgeModel" "hasKeeps" "Z", Cond.fieldLink RX12 202 "SignedBridgeModel" "hasPlank" "Z"]
def wsL_law0_r22 : List Cond := [Cond.fieldLink RX12 30 "SignedBridgeModel" "kind" "I", Cond.fieldLink RX12 69 "SignedBridgeModel" "place" "I", Cond.fieldLink RX12 258 "SignedBridgeModel" "snapMany" "I", Cond.methodLink RX12 249 yX12_begin, Cond.instanceMethod yX12_begin, Cond.selects RX12 yX12_begin yX12_begin, Cond.code yX12_begin cX12_begin 2 none, Cond.fieldLink RX12 18 "SignedBridgeModel" "size" "I", Cond.fieldLink RX12 27 "SignedBridgeModel" "limit" "I", Cond.fieldLink RX12 66 "SignedBridgeModel" "fault" "I", Cond.fieldLink RX12 21 "SignedBridgeModel" "to" "I", Cond.methodLink RX12 89 yX12_take, Cond.instanceMethod yX12_take, Cond.selects RX12 yX12_take yX12_take, Cond.code yX12_take cX12_take 2 (some .int), Cond.methodLink RX12 82 yX12_go, Cond.instanceMethod yX12_go, Cond.selects RX12 yX12_go yX12_go, Cond.code yX12_go cX12_go 5 none, Cond.fieldLink RX12 24 "SignedBridgeModel" "from" "I", Cond.fieldLink RX12 40 "SignedBridgeModel" "sign" "I", Cond.fieldLink RX12 43 "SignedBridgeModel" "word" "J", Cond.fieldLink RX12 47 "SignedBridgeModel" "number" "I", Cond.constantLong RX12 54 (27)]
def wsL_law0_r23 : List Cond := [Cond.constantLong RX12 56 (96), Cond.methodLink RX12 33 yX12_isLetter, Cond.static yX12_isLetter, Cond.code yX12_isLetter cX12_isLetter 1 (some .boolean), Cond.methodLink RX12 37 yX12_isDigit, Cond.static yX12_isDigit, Cond.code yX12_isDigit cX12_isDigit 1 (some .boolean), Cond.methodLink RX12 50 yX12_tapeAt, Cond.instanceMethod yX12_tapeAt, Cond.selects RX12 yX12_tapeAt yX12_tapeAt, Cond.code yX12_tapeAt cX12_tapeAt 2 (some .int), Cond.methodLink RX12 252 yX12_readLine, Cond.instanceMethod yX12_readLine, Cond.selects RX12 yX12_readLine yX12_readLine, Cond.code yX12_readLine cX12_readLine 1 (some .boolean), Cond.methodLink RX12 219 yX12_isWord, Cond.instanceMethod yX12_isWord, Cond.selects RX12 yX12_isWord yX12_isWord, Cond.code yX12_isWord cX12_isWord 2 (some .boolean), Cond.methodLink RX12 62 yX12_wordOf, Cond.static yX12_wordOf, Cond.code yX12_wordOf cX12_wordOf 1 (some .long), Cond.methodLink RX12 58 yX12_spelt, Cond.static yX12_spelt]
def wsL_law0_r24 : List Cond := [Cond.code yX12_spelt cX12_spelt 9 (some .long), Cond.methodLink RX12 228 yX12_readRows, Cond.instanceMethod yX12_readRows, Cond.selects RX12 yX12_readRows yX12_readRows, Cond.code yX12_readRows cX12_readRows 1 (some .boolean), Cond.methodLink RX12 72 yX12_bad, Cond.instanceMethod yX12_bad, Cond.selects RX12 yX12_bad yX12_bad, Cond.code yX12_bad cX12_bad 2 (some .boolean), Cond.methodLink RX12 205 yX12_readNumber, Cond.instanceMethod yX12_readNumber, Cond.selects RX12 yX12_readNumber yX12_readNumber, Cond.code yX12_readNumber cX12_readNumber 3 (some .boolean), Cond.fieldLink RX12 79 "SignedBridgeModel" "told" "I", Cond.methodLink RX12 75 yX12_isIn, Cond.static yX12_isIn, Cond.code yX12_isIn cX12_isIn 3 (some .boolean), Cond.methodLink RX12 209 yX12_put, Cond.instanceMethod yX12_put, Cond.selects RX12 yX12_put yX12_put, Cond.code yX12_put cX12_put 3 (some .boolean), Cond.methodLink RX12 231 yX12_readSigner, Cond.instanceMethod yX12_readSigner, Cond.selects RX12 yX12_readSigner yX12_readSigner]
def wsL_law0_r25 : List Cond := [Cond.code yX12_readSigner cX12_readSigner 2 (some .boolean), Cond.methodLink RX12 213 yX12_readFirst, Cond.instanceMethod yX12_readFirst, Cond.selects RX12 yX12_readFirst yX12_readFirst, Cond.code yX12_readFirst cX12_readFirst 3 (some .boolean), Cond.methodLink RX12 216 yX12_readNew, Cond.instanceMethod yX12_readNew, Cond.selects RX12 yX12_readNew yX12_readNew, Cond.code yX12_readNew cX12_readNew 2 (some .boolean), Cond.methodLink RX12 190 yX12_isName, Cond.instanceMethod yX12_isName, Cond.selects RX12 yX12_isName yX12_isName, Cond.code yX12_isName cX12_isName 2 (some .boolean), Cond.methodLink RX12 194 yX12_findIn, Cond.static yX12_findIn, Cond.code yX12_findIn cX12_findIn 6 (some .int), Cond.methodLink RX12 234 yX12_readHeir, Cond.instanceMethod yX12_readHeir, Cond.selects RX12 yX12_readHeir yX12_readHeir, Cond.code yX12_readHeir cX12_readHeir 2 (some .boolean), Cond.methodLink RX12 222 yX12_isSignerTold, Cond.instanceMethod yX12_isSignerTold, Cond.selects RX12 yX12_isSignerTold yX12_isSignerTold, Cond.code yX12_isSignerTold cX12_isSignerTold 1 (some .boolean)]
def wsL_law0_r26 : List Cond := [Cond.methodLink RX12 237 yX12_readLovers, Cond.instanceMethod yX12_readLovers, Cond.selects RX12 yX12_readLovers yX12_readLovers, Cond.code yX12_readLovers cX12_readLovers 2 (some .boolean), Cond.methodLink RX12 225 yX12_has, Cond.static yX12_has, Cond.code yX12_has cX12_has 2 (some .boolean), Cond.methodLink RX12 240 yX12_readPlank, Cond.instanceMethod yX12_readPlank, Cond.selects RX12 yX12_readPlank yX12_readPlank, Cond.code yX12_readPlank cX12_readPlank 4 (some .boolean), Cond.methodLink RX12 243 yX12_readLoad, Cond.instanceMethod yX12_readLoad, Cond.selects RX12 yX12_readLoad yX12_readLoad, Cond.code yX12_readLoad cX12_readLoad 2 (some .boolean), Cond.methodLink RX12 255 yX12_readEnd, Cond.instanceMethod yX12_readEnd, Cond.selects RX12 yX12_readEnd yX12_readEnd, Cond.code yX12_readEnd cX12_readEnd 1 (some .boolean), Cond.methodLink RX12 86 yX12_isSign, Cond.instanceMethod yX12_isSign, Cond.selects RX12 yX12_isSign yX12_isSign, Cond.code yX12_isSign cX12_isSign 2 (some .boolean), Cond.methodLink RL 41 yX11_fault]
def wsL_law0_r27 : List Cond := [Cond.instanceMethod yX11_fault, Cond.selects RX11 yX11_fault yX11_fault, Cond.code yX11_fault cX11_fault 1 (some .int), Cond.fieldLink RX11 147 "SignedBridge$Tokens" "faultKind" "I", Cond.methodLink RL 44 yX12_fault, Cond.instanceMethod yX12_fault, Cond.selects RX12 yX12_fault yX12_fault, Cond.code yX12_fault cX12_fault 1 (some .int), Cond.methodLink RL 45 yL_signer, Cond.static yL_signer, Cond.initialized RL, Cond.codeWith yL_signer cL_signer 5 (some .int) [(0, 10, 13, 13)], Cond.classLink RL 13 "java/util/NoSuchElementException", Cond.methodLink RL 7 yX11_signer, Cond.instanceMethod yX11_signer, Cond.selects RX11 yX11_signer yX11_signer, Cond.code yX11_signer cX11_signer 3 (some .int), Cond.classLink RX11 154 "java/util/NoSuchElementException", Cond.initialized "java/util/NoSuchElementException", Cond.fieldLink RX11 157 "SignedBridge$State" "earnest" "[I", Cond.fieldLink RX11 161 "SignedBridge$Plan" "miles" "[I", Cond.fieldLink RX11 164 "SignedBridge$Plan" "forgers" "I", Cond.fieldLink RX11 166 "SignedBridge$Plan" "heir" "[I", Cond.fieldLink RX11 169 "SignedBridge$Plan" "loves" "[I"]
def wsL_law0_r28 : List Cond := [Cond.fieldLink RX11 175 "SignedBridge$State" "held" "[I", Cond.fieldLink RX11 178 "SignedBridge$State" "died" "[I", Cond.methodLink RX11 150 yX11_isSigner, Cond.instanceMethod yX11_isSigner, Cond.selects RX11 yX11_isSigner yX11_isSigner, Cond.code yX11_isSigner cX11_isSigner 2 (some .boolean), Cond.fieldLink RX11 369 "SignedBridge$Plan" "signers" "I", Cond.methodLink RX11 172 yX8_lives, Cond.instanceMethod yX8_lives, Cond.selects RX8 yX8_lives yX8_lives, Cond.code yX8_lives cX8_lives 2 (some .boolean), Cond.methodLink RL 50 yX12_signer, Cond.instanceMethod yX12_signer, Cond.selects RX12 yX12_signer yX12_signer, Cond.code yX12_signer cX12_signer 3 (some .int), Cond.methodLink RX12 277 yX12_isSigner, Cond.instanceMethod yX12_isSigner, Cond.selects RX12 yX12_isSigner yX12_isSigner, Cond.code yX12_isSigner cX12_isSigner 2 (some .boolean), Cond.methodLink RX12 280 yX12_refuse, Cond.instanceMethod yX12_refuse, Cond.selects RX12 yX12_refuse yX12_refuse, Cond.code yX12_refuse cX12_refuse 1 (some .int), Cond.methodLink RX12 283 yX12_isDead]
def wsL_law0_r29 : List Cond := [Cond.instanceMethod yX12_isDead, Cond.selects RX12 yX12_isDead yX12_isDead, Cond.code yX12_isDead cX12_isDead 2 (some .boolean), Cond.methodLink RX12 286 yX12_planksOf, Cond.instanceMethod yX12_planksOf, Cond.selects RX12 yX12_planksOf yX12_planksOf, Cond.code yX12_planksOf cX12_planksOf 4 (some .int), Cond.methodLink RX12 264 yX12_places, Cond.instanceMethod yX12_places, Cond.selects RX12 yX12_places yX12_places, Cond.code yX12_places cX12_places 1 (some .int), Cond.methodLink RL 51 yL_plank, Cond.static yL_plank, Cond.codeWith yL_plank cL_plank 6 (some .int) [(0, 12, 15, 13)], Cond.methodLink RL 15 yX11_plank, Cond.instanceMethod yX11_plank, Cond.selects RX11 yX11_plank yX11_plank, Cond.code yX11_plank cX11_plank 5 (some .int), Cond.fieldLink RX11 185 "SignedBridge$State" "owner" "[I", Cond.methodLink RX11 192 Lib.Math.max.name, Cond.static Lib.Math.max.name, Cond.code Lib.Math.max.name Lib.Math.max.code 2 (some .int), Cond.fieldLink RX11 198 "SignedBridge$State" "singed" "[I", Cond.methodLink RX11 181 yX11_isPlace]
def wsL_law0_r30 : List Cond := [Cond.instanceMethod yX11_isPlace, Cond.selects RX11 yX11_isPlace yX11_isPlace, Cond.code yX11_isPlace cX11_isPlace 3 (some .boolean), Cond.methodLink RX11 279 yX11_isRow, Cond.instanceMethod yX11_isRow, Cond.selects RX11 yX11_isRow yX11_isRow, Cond.code yX11_isRow cX11_isRow 2 (some .boolean), Cond.fieldLink RX11 398 "SignedBridge$Plan" "rows" "I", Cond.methodLink RX11 188 yX10_bearing, Cond.static yX10_bearing, Cond.code yX10_bearing cX10_bearing 7 (some .int), Cond.fieldLink RX10 24 "SignedBridge$State" "owner" "[I", Cond.fieldLink RX10 29 "SignedBridge$State" "earnest" "[I", Cond.fieldLink RX10 32 "SignedBridge$State" "singed" "[I", Cond.methodLink RX10 41 Lib.Math.max.name, Cond.methodLink RX10 35 yX6_areLovers, Cond.methodLink RL 54 yX12_plank, Cond.instanceMethod yX12_plank, Cond.selects RX12 yX12_plank yX12_plank, Cond.code yX12_plank cX12_plank 5 (some .int), Cond.methodLink RX12 289 yX12_isPlace, Cond.instanceMethod yX12_isPlace, Cond.selects RX12 yX12_isPlace yX12_isPlace, Cond.code yX12_isPlace cX12_isPlace 3 (some .boolean)]
def wsL_law0_r31 : List Cond := [Cond.methodLink RX12 261 yX12_isRow, Cond.instanceMethod yX12_isRow, Cond.selects RX12 yX12_isRow yX12_isRow, Cond.code yX12_isRow cX12_isRow 2 (some .boolean), Cond.methodLink RX12 292 yX12_layWhose, Cond.instanceMethod yX12_layWhose, Cond.selects RX12 yX12_layWhose yX12_layWhose, Cond.code yX12_layWhose cX12_layWhose 2 none, Cond.fieldLink RX12 267 "SignedBridgeModel" "forging" "I", Cond.methodLink RX12 274 yX12_bearsAt, Cond.instanceMethod yX12_bearsAt, Cond.selects RX12 yX12_bearsAt yX12_bearsAt, Cond.code yX12_bearsAt cX12_bearsAt 4 (some .int), Cond.methodLink RX12 270 yX12_besides, Cond.instanceMethod yX12_besides, Cond.selects RX12 yX12_besides yX12_besides, Cond.code yX12_besides cX12_besides 3 (some .int), Cond.methodLink RL 55 yL_load, Cond.static yL_load, Cond.codeWith yL_load cL_load 5 (some .int) [(0, 10, 13, 13)], Cond.methodLink RL 19 yX11_load, Cond.instanceMethod yX11_load, Cond.selects RX11 yX11_load yX11_load, Cond.code yX11_load cX11_load 3 (some .int)]
def wsL_law0_r32 : List Cond := [Cond.fieldLink RX11 204 "SignedBridge$Plan" "weight" "[I", Cond.fieldLink RX11 207 "SignedBridge$Plan" "wide" "[I", Cond.fieldLink RX11 210 "SignedBridge$State" "fallen" "I", Cond.fieldLink RX11 213 "SignedBridge$State" "crossed" "[I", Cond.methodLink RX11 201 yX11_isLoad, Cond.instanceMethod yX11_isLoad, Cond.selects RX11 yX11_isLoad yX11_isLoad, Cond.code yX11_isLoad cX11_isLoad 2 (some .boolean), Cond.fieldLink RX11 401 "SignedBridge$Plan" "loads" "I", Cond.methodLink RL 57 yX12_load, Cond.instanceMethod yX12_load, Cond.selects RX12 yX12_load yX12_load, Cond.code yX12_load cX12_load 3 (some .int), Cond.methodLink RX12 295 yX12_isLoad, Cond.instanceMethod yX12_isLoad, Cond.selects RX12 yX12_isLoad yX12_isLoad, Cond.code yX12_isLoad cX12_isLoad 2 (some .boolean), Cond.methodLink RL 58 yX11_now, Cond.instanceMethod yX11_now, Cond.selects RX11 yX11_now yX11_now, Cond.code yX11_now cX11_now 2 (some .int), Cond.fieldLink RX11 216 "SignedBridge$State" "day" "I", Cond.fieldLink RX11 230 "SignedBridge$State" "burnt" "I", Cond.methodLink RX11 219 yX8_deadBits]
def wsL_law0_r33 : List Cond := [Cond.instanceMethod yX8_deadBits, Cond.selects RX8 yX8_deadBits yX8_deadBits, Cond.code yX8_deadBits cX8_deadBits 4 (some .int), Cond.fieldLink RX8 60 "SignedBridge$Plan" "signers" "I", Cond.methodLink RX8 63 yX8_lives, Cond.methodLink RX11 223 yX8_countPlanks, Cond.instanceMethod yX8_countPlanks, Cond.selects RX8 yX8_countPlanks yX8_countPlanks, Cond.code yX8_countPlanks cX8_countPlanks 3 (some .int), Cond.methodLink RX11 227 yX8_countCrossings, Cond.instanceMethod yX8_countCrossings, Cond.selects RX8 yX8_countCrossings yX8_countCrossings, Cond.code yX8_countCrossings cX8_countCrossings 3 (some .int), Cond.methodLink RX11 233 yX10_bearInAll, Cond.instanceMethod yX10_bearInAll, Cond.selects RX10 yX10_bearInAll yX10_bearInAll, Cond.code yX10_bearInAll cX10_bearInAll 5 (some .int), Cond.fieldLink RX10 51 "SignedBridge$Plan" "rows" "I", Cond.methodLink RX10 58 yX10_weigh, Cond.instanceMethod yX10_weigh, Cond.selects RX10 yX10_weigh yX10_weigh, Cond.code yX10_weigh cX10_weigh 4 none, Cond.fieldLink RX10 55 "SignedBridge$Plan" "forgers" "I", Cond.methodLink RX10 47 yX10_bearing]
def wsL_law0_r34 : List Cond := [Cond.methodLink RL 62 yX12_now, Cond.instanceMethod yX12_now, Cond.selects RX12 yX12_now yX12_now, Cond.code yX12_now cX12_now 4 (some .int), Cond.methodLink RL 63 yX11_sign, Cond.instanceMethod yX11_sign, Cond.selects RX11 yX11_sign yX11_sign, Cond.code yX11_sign cX11_sign 4 (some .int), Cond.methodLink RX11 237 yX11_rememberState, Cond.instanceMethod yX11_rememberState, Cond.selects RX11 yX11_rememberState yX11_rememberState, Cond.code yX11_rememberState cX11_rememberState 1 none, Cond.fieldLink RX11 270 "SignedBridge" "pastNext" "I", Cond.methodLink RX11 273 yX8_copyOf, Cond.instanceMethod yX8_copyOf, Cond.selects RX8 yX8_copyOf yX8_copyOf, Cond.code yX8_copyOf cX8_copyOf 2 none, Cond.methodLink RX11 240 yX8_putPlank, Cond.instanceMethod yX8_putPlank, Cond.selects RX8 yX8_putPlank yX8_putPlank, Cond.code yX8_putPlank cX8_putPlank 3 (some .int), Cond.methodLink RX11 243 yX11_keepIfDone, Cond.instanceMethod yX11_keepIfDone, Cond.selects RX11 yX11_keepIfDone yX11_keepIfDone]
def wsL_law0_r35 : List Cond := [Cond.code yX11_keepIfDone cX11_keepIfDone 2 (some .int), Cond.methodLink RX11 263 yX11_keepRemembered, Cond.instanceMethod yX11_keepRemembered, Cond.selects RX11 yX11_keepRemembered yX11_keepRemembered, Cond.code yX11_keepRemembered cX11_keepRemembered 1 none, Cond.methodLink RX11 412 Lib.Math.min.name, Cond.methodLink RL 66 yX12_sign, Cond.instanceMethod yX12_sign, Cond.selects RX12 yX12_sign yX12_sign, Cond.code yX12_sign cX12_sign 5 (some .int), Cond.methodLink RX12 340 yX12_whySign, Cond.instanceMethod yX12_whySign, Cond.selects RX12 yX12_whySign yX12_whySign, Cond.code yX12_whySign cX12_whySign 3 (some .int), Cond.methodLink RX12 343 yX12_snap, Cond.instanceMethod yX12_snap, Cond.selects RX12 yX12_snap yX12_snap, Cond.code yX12_snap cX12_snap 2 none, Cond.methodLink RX12 346 yX12_doSign, Cond.instanceMethod yX12_doSign, Cond.selects RX12 yX12_doSign yX12_doSign, Cond.code yX12_doSign cX12_doSign 3 none, Cond.methodLink RL 67 yX11_burn, Cond.instanceMethod yX11_burn]
def wsL_law0_r36 : List Cond := [Cond.selects RX11 yX11_burn yX11_burn, Cond.code yX11_burn cX11_burn 3 (some .int), Cond.methodLink RX11 247 yX8_burnPlank, Cond.instanceMethod yX8_burnPlank, Cond.selects RX8 yX8_burnPlank yX8_burnPlank, Cond.code yX8_burnPlank cX8_burnPlank 3 (some .int), Cond.methodLink RX8 67 yX8_makeGap, Cond.instanceMethod yX8_makeGap, Cond.selects RX8 yX8_makeGap yX8_makeGap, Cond.code yX8_makeGap cX8_makeGap 2 none, Cond.methodLink RX8 71 yX8_singe, Cond.instanceMethod yX8_singe, Cond.selects RX8 yX8_singe yX8_singe, Cond.code yX8_singe cX8_singe 2 none, Cond.methodLink RL 70 yX12_burn, Cond.instanceMethod yX12_burn, Cond.selects RX12 yX12_burn yX12_burn, Cond.code yX12_burn cX12_burn 3 (some .int), Cond.methodLink RX12 349 yX12_doBurn, Cond.instanceMethod yX12_doBurn, Cond.selects RX12 yX12_doBurn yX12_doBurn, Cond.code yX12_doBurn cX12_doBurn 2 none, Cond.methodLink RX12 325 yX12_open, Cond.instanceMethod yX12_open]
def wsL_law0_r37 : List Cond := [Cond.selects RX12 yX12_open yX12_open, Cond.code yX12_open cX12_open 2 none, Cond.methodLink RX12 328 yX12_singe, Cond.instanceMethod yX12_singe, Cond.selects RX12 yX12_singe yX12_singe, Cond.code yX12_singe cX12_singe 2 none, Cond.methodLink RX12 312 yX12_least, Cond.static yX12_least, Cond.code yX12_least cX12_least 2 (some .int), Cond.methodLink RL 71 yX11_breaks, Cond.instanceMethod yX11_breaks, Cond.selects RX11 yX11_breaks yX11_breaks, Cond.code yX11_breaks cX11_breaks 2 (some .int), Cond.methodLink RX11 250 yX8_breakWord, Cond.instanceMethod yX8_breakWord, Cond.selects RX8 yX8_breakWord yX8_breakWord, Cond.code yX8_breakWord cX8_breakWord 2 (some .int), Cond.methodLink RL 74 yX12_breaks, Cond.instanceMethod yX12_breaks, Cond.selects RX12 yX12_breaks yX12_breaks, Cond.code yX12_breaks cX12_breaks 2 (some .int), Cond.methodLink RL 75 yX11_holds, Cond.instanceMethod yX11_holds, Cond.selects RX11 yX11_holds yX11_holds]
def wsL_law0_r38 : List Cond := [Cond.code yX11_holds cX11_holds 2 (some .int), Cond.methodLink RX11 253 yX8_holdWord, Cond.instanceMethod yX8_holdWord, Cond.selects RX8 yX8_holdWord yX8_holdWord, Cond.code yX8_holdWord cX8_holdWord 2 (some .int), Cond.methodLink RL 78 yX12_holds, Cond.instanceMethod yX12_holds, Cond.selects RX12 yX12_holds yX12_holds, Cond.code yX12_holds cX12_holds 3 (some .int), Cond.methodLink RX12 352 yX12_whyHold, Cond.instanceMethod yX12_whyHold, Cond.selects RX12 yX12_whyHold yX12_whyHold, Cond.code yX12_whyHold cX12_whyHold 2 (some .int), Cond.methodLink RL 79 yX11_die, Cond.instanceMethod yX11_die, Cond.selects RX11 yX11_die yX11_die, Cond.code yX11_die cX11_die 2 (some .int), Cond.methodLink RX11 256 yX8_endLife, Cond.instanceMethod yX8_endLife, Cond.selects RX8 yX8_endLife yX8_endLife, Cond.code yX8_endLife cX8_endLife 2 (some .int), Cond.methodLink RL 82 yX12_die, Cond.instanceMethod yX12_die, Cond.selects RX12 yX12_die yX12_die]
def wsL_law0_r39 : List Cond := [Cond.code yX12_die cX12_die 2 (some .int), Cond.methodLink RX12 355 yX12_doDie, Cond.instanceMethod yX12_doDie, Cond.selects RX12 yX12_doDie yX12_doDie, Cond.code yX12_doDie cX12_doDie 2 none, Cond.methodLink RL 83 yX11_cross, Cond.instanceMethod yX11_cross, Cond.selects RX11 yX11_cross yX11_cross, Cond.code yX11_cross cX11_cross 3 (some .int), Cond.methodLink RX11 259 yX10_tryCrossing, Cond.instanceMethod yX10_tryCrossing, Cond.selects RX10 yX10_tryCrossing yX10_tryCrossing, Cond.code yX10_tryCrossing cX10_tryCrossing 5 (some .int), Cond.fieldLink RX10 85 "SignedBridge$State" "fallen" "I", Cond.fieldLink RX10 88 "SignedBridge$State" "crossed" "[I", Cond.fieldLink RX10 69 "SignedBridge$Plan" "wide" "[I", Cond.methodLink RX10 78 yX10_lostRow, Cond.instanceMethod yX10_lostRow, Cond.selects RX10 yX10_lostRow yX10_lostRow, Cond.code yX10_lostRow cX10_lostRow 6 (some .int), Cond.fieldLink RX10 66 "SignedBridge$Plan" "weight" "[I", Cond.methodLink RX10 72 yX10_possibleSteps, Cond.instanceMethod yX10_possibleSteps, Cond.selects RX10 yX10_possibleSteps yX10_possibleSteps]
def wsL_law0_r40 : List Cond := [Cond.code yX10_possibleSteps cX10_possibleSteps 7 (some .int), Cond.methodLink RX10 62 yX10_bearTogether, Cond.instanceMethod yX10_bearTogether, Cond.selects RX10 yX10_bearTogether yX10_bearTogether, Cond.code yX10_bearTogether cX10_bearTogether 7 (some .int), Cond.methodLink RX10 91 yX10_dropPlanks, Cond.instanceMethod yX10_dropPlanks, Cond.selects RX10 yX10_dropPlanks yX10_dropPlanks, Cond.code yX10_dropPlanks cX10_dropPlanks 8 none, Cond.methodLink RX10 95 yX8_makeGap, Cond.methodLink RL 86 yX12_cross, Cond.instanceMethod yX12_cross, Cond.selects RX12 yX12_cross yX12_cross, Cond.code yX12_cross cX12_cross 2 (some .int), Cond.methodLink RX12 358 yX12_doCross, Cond.instanceMethod yX12_doCross, Cond.selects RX12 yX12_doCross yX12_doCross, Cond.code yX12_doCross cX12_doCross 2 (some .int), Cond.methodLink RX12 334 yX12_hasPath, Cond.instanceMethod yX12_hasPath, Cond.selects RX12 yX12_hasPath yX12_hasPath, Cond.code yX12_hasPath cX12_hasPath 2 (some .boolean), Cond.methodLink RX12 319 yX12_bestOf, Cond.instanceMethod yX12_bestOf]
def wsL_law0_r41 : List Cond := [Cond.selects RX12 yX12_bestOf yX12_bestOf, Cond.code yX12_bestOf cX12_bestOf 4 (some .int), Cond.methodLink RX12 315 yX12_layBest, Cond.instanceMethod yX12_layBest, Cond.selects RX12 yX12_layBest yX12_layBest, Cond.code yX12_layBest cX12_layBest 8 none, Cond.constant RX12 308 (100000), Cond.methodLink RX12 304 yX12_spareAt, Cond.instanceMethod yX12_spareAt, Cond.selects RX12 yX12_spareAt yX12_spareAt, Cond.code yX12_spareAt cX12_spareAt 6 (some .int), Cond.methodLink RX12 298 yX12_sumAt, Cond.instanceMethod yX12_sumAt, Cond.selects RX12 yX12_sumAt yX12_sumAt, Cond.code yX12_sumAt cX12_sumAt 6 (some .int), Cond.methodLink RX12 309 yX12_follows, Cond.static yX12_follows, Cond.code yX12_follows cX12_follows 2 (some .boolean), Cond.methodLink RX12 302 yX12_size, Cond.static yX12_size, Cond.code yX12_size cX12_size 1 (some .int), Cond.methodLink RX12 337 yX12_doFall, Cond.instanceMethod yX12_doFall, Cond.selects RX12 yX12_doFall yX12_doFall]
def wsL_law0_r42 : List Cond := [Cond.code yX12_doFall cX12_doFall 6 none, Cond.methodLink RX12 331 yX12_stuckAt, Cond.instanceMethod yX12_stuckAt, Cond.selects RX12 yX12_stuckAt yX12_stuckAt, Cond.code yX12_stuckAt cX12_stuckAt 8 (some .int), Cond.methodLink RL 87 yX11_days, Cond.instanceMethod yX11_days, Cond.selects RX11 yX11_days yX11_days, Cond.code yX11_days cX11_days 3 (some .int), Cond.methodLink RX11 266 yX8_passDays, Cond.instanceMethod yX8_passDays, Cond.selects RX8 yX8_passDays yX8_passDays, Cond.code yX8_passDays cX8_passDays 4 (some .int), Cond.fieldLink RX8 74 "SignedBridge$Plan" "keeps" "I", Cond.methodLink RX8 77 yX8_passDay, Cond.instanceMethod yX8_passDay, Cond.selects RX8 yX8_passDay yX8_passDay, Cond.code yX8_passDay cX8_passDay 5 (some .boolean), Cond.fieldLink RX8 81 "SignedBridge$Plan" "heir" "[I", Cond.methodLink RX8 84 yX8_handDown, Cond.instanceMethod yX8_handDown, Cond.selects RX8 yX8_handDown yX8_handDown, Cond.code yX8_handDown cX8_handDown 4 none, Cond.methodLink RL 90 yX12_days]
def wsL_law0_r43 : List Cond := [Cond.instanceMethod yX12_days, Cond.selects RX12 yX12_days yX12_days, Cond.code yX12_days cX12_days 2 (some .int), Cond.methodLink RX12 367 yX12_passDays, Cond.instanceMethod yX12_passDays, Cond.selects RX12 yX12_passDays yX12_passDays, Cond.code yX12_passDays cX12_passDays 4 (some .int), Cond.methodLink RX12 364 yX12_oneDay, Cond.instanceMethod yX12_oneDay, Cond.selects RX12 yX12_oneDay yX12_oneDay, Cond.code yX12_oneDay cX12_oneDay 2 none, Cond.methodLink RX12 361 yX12_inherit, Cond.instanceMethod yX12_inherit, Cond.selects RX12 yX12_inherit yX12_inherit, Cond.code yX12_inherit cX12_inherit 4 none, Cond.methodLink RL 91 yX11_undo, Cond.instanceMethod yX11_undo, Cond.selects RX11 yX11_undo yX11_undo, Cond.code yX11_undo cX11_undo 1 (some .int), Cond.methodLink RL 94 yX12_undo, Cond.instanceMethod yX12_undo, Cond.selects RX12 yX12_undo yX12_undo, Cond.code yX12_undo cX12_undo 2 (some .int), Cond.methodLink RL 95 yX11_spare]
def wsL_law0_r44 : List Cond := [Cond.instanceMethod yX11_spare, Cond.selects RX11 yX11_spare yX11_spare, Cond.code yX11_spare cX11_spare 2 (some .int), Cond.methodLink RX11 276 yX10_findSafest, Cond.instanceMethod yX10_findSafest, Cond.selects RX10 yX10_findSafest yX10_findSafest, Cond.code yX10_findSafest cX10_findSafest 5 (some .int), Cond.methodLink RX10 99 yX10_spareSteps, Cond.instanceMethod yX10_spareSteps, Cond.selects RX10 yX10_spareSteps yX10_spareSteps, Cond.code yX10_spareSteps cX10_spareSteps 8 none, Cond.methodLink RX10 103 yX10_greatestLeast, Cond.instanceMethod yX10_greatestLeast, Cond.selects RX10 yX10_greatestLeast yX10_greatestLeast, Cond.code yX10_greatestLeast cX10_greatestLeast 5 (some .int), Cond.methodLink RX10 114 Lib.Math.min.name, Cond.methodLink RX10 111 yX10_bestOpen, Cond.instanceMethod yX10_bestOpen, Cond.selects RX10 yX10_bestOpen yX10_bestOpen, Cond.code yX10_bestOpen cX10_bestOpen 5 (some .int), Cond.methodLink RX10 107 yX10_followFirst, Cond.instanceMethod yX10_followFirst, Cond.selects RX10 yX10_followFirst yX10_followFirst, Cond.code yX10_followFirst cX10_followFirst 6 none]
def wsL_law0_r45 : List Cond := [Cond.methodLink RL 98 yX12_spare, Cond.instanceMethod yX12_spare, Cond.selects RX12 yX12_spare yX12_spare, Cond.code yX12_spare cX12_spare 2 (some .int), Cond.methodLink RL 99 yX11_path, Cond.instanceMethod yX11_path, Cond.selects RX11 yX11_path yX11_path, Cond.code yX11_path cX11_path 3 (some .int), Cond.fieldLink RX11 282 "SignedBridge$Ways" "steps" "[I", Cond.methodLink RL 102 yX12_path, Cond.instanceMethod yX12_path, Cond.selects RX12 yX12_path yX12_path, Cond.code yX12_path cX12_path 3 (some .int), Cond.methodLink RX12 322 yX12_layPath, Cond.instanceMethod yX12_layPath, Cond.selects RX12 yX12_layPath yX12_layPath, Cond.code yX12_layPath cX12_layPath 5 (some .boolean), Cond.methodLink RL 103 yX11_limit, Cond.instanceMethod yX11_limit, Cond.selects RX11 yX11_limit yX11_limit, Cond.code yX11_limit cX11_limit 2 (some .int), Cond.methodLink RX11 285 yX10_mostWeight, Cond.instanceMethod yX10_mostWeight, Cond.selects RX10 yX10_mostWeight yX10_mostWeight]
def wsL_law0_r46 : List Cond := [Cond.code yX10_mostWeight cX10_mostWeight 4 (some .int), Cond.methodLink RL 106 yX12_limit, Cond.instanceMethod yX12_limit, Cond.selects RX12 yX12_limit yX12_limit, Cond.code yX12_limit cX12_limit 6 (some .int), Cond.methodLink RL 107 yX11_asks, Cond.instanceMethod yX11_asks, Cond.selects RX11 yX11_asks yX11_asks, Cond.code yX11_asks cX11_asks 2 (some .int), Cond.methodLink RX11 288 yX0_find, Cond.instanceMethod yX0_find, Cond.selects RX0 yX0_find yX0_find, Cond.code yX0_find cX0_find 6 (some .int), Cond.fieldLink RX0 41 "SignedBridge$Plan" "rows" "I", Cond.fieldLink RX0 51 "SignedBridge$Plan" "weight" "[I", Cond.constant RX0 54 (1000000), Cond.methodLink RX0 37 yX8_copyOf, Cond.methodLink RX0 47 yX0_price, Cond.instanceMethod yX0_price, Cond.selects RX0 yX0_price yX0_price, Cond.code yX0_price cX0_price 13 (some .int), Cond.fieldLink RX0 63 "SignedBridge$Plan" "wide" "[I", Cond.fieldLink RX0 77 "SignedBridge$State" "owner" "[I", Cond.methodLink RX0 80 arraycopyName]
def wsL_law0_r47 : List Cond := [Cond.methodLink RX0 66 yX0_countWays, Cond.instanceMethod yX0_countWays, Cond.selects RX0 yX0_countWays yX0_countWays, Cond.code yX0_countWays cX0_countWays 7 (some .int), Cond.fieldLink RX0 86 "SignedBridge$Plan" "signers" "I", Cond.methodLink RX0 70 yX0_tryWay, Cond.instanceMethod yX0_tryWay, Cond.selects RX0 yX0_tryWay yX0_tryWay, Cond.code yX0_tryWay cX0_tryWay 10 (some .int), Cond.fieldLink RX0 93 "SignedBridge$Plan" "miles" "[I", Cond.methodLink RX0 89 yX8_lives, Cond.methodLink RX0 73 yX0_bearTogether, Cond.instanceMethod yX0_bearTogether, Cond.selects RX0 yX0_bearTogether yX0_bearTogether, Cond.code yX0_bearTogether cX0_bearTogether 6 (some .int), Cond.fieldLink RX0 96 "SignedBridge$Plan" "forgers" "I", Cond.methodLink RX0 99 yX10_bearing, Cond.methodLink RX0 55 yX0_addUp, Cond.instanceMethod yX0_addUp, Cond.selects RX0 yX0_addUp yX0_addUp, Cond.code yX0_addUp cX0_addUp 6 (some .int), Cond.methodLink RX0 111 Lib.Math.min.name, Cond.methodLink RX0 107 yX0_leastOpen, Cond.instanceMethod yX0_leastOpen]
def wsL_law0_r48 : List Cond := [Cond.selects RX0 yX0_leastOpen yX0_leastOpen, Cond.code yX0_leastOpen cX0_leastOpen 5 (some .int), Cond.methodLink RX0 59 yX0_followFirst, Cond.instanceMethod yX0_followFirst, Cond.selects RX0 yX0_followFirst yX0_followFirst, Cond.code yX0_followFirst cX0_followFirst 10 none, Cond.methodLink RL 110 yX12_asks, Cond.instanceMethod yX12_asks, Cond.selects RX12 yX12_asks yX12_asks, Cond.code yX12_asks cX12_asks 9 (some .int), Cond.fieldLink RX12 380 "SignedBridgeModel" "askedRows" "I", Cond.methodLink RX12 377 yX12_priceAt, Cond.instanceMethod yX12_priceAt, Cond.selects RX12 yX12_priceAt yX12_priceAt, Cond.code yX12_priceAt cX12_priceAt 5 (some .int), Cond.fieldLink RX12 370 "SignedBridgeModel" "cheapest" "I", Cond.methodLink RX12 373 yX12_trySigns, Cond.instanceMethod yX12_trySigns, Cond.selects RX12 yX12_trySigns yX12_trySigns, Cond.code yX12_trySigns cX12_trySigns 8 none, Cond.methodLink RL 111 yX11_asked, Cond.instanceMethod yX11_asked, Cond.selects RX11 yX11_asked yX11_asked, Cond.code yX11_asked cX11_asked 3 (some .int)]
def wsL_law0_r49 : List Cond := [Cond.fieldLink RX11 291 "SignedBridge$Asks" "asked" "[I", Cond.methodLink RL 114 yX12_asked, Cond.instanceMethod yX12_asked, Cond.selects RX12 yX12_asked yX12_asked, Cond.code yX12_asked cX12_asked 3 (some .int), Cond.methodLink RL 115 yX11_keystone, Cond.instanceMethod yX11_keystone, Cond.selects RX11 yX11_keystone yX11_keystone, Cond.code yX11_keystone cX11_keystone 1 (some .int), Cond.methodLink RX11 294 yX4_findKeystone, Cond.instanceMethod yX4_findKeystone, Cond.selects RX4 yX4_findKeystone yX4_findKeystone, Cond.code yX4_findKeystone cX4_findKeystone 8 (some .int), Cond.fieldLink RX4 25 "SignedBridge$Plan" "signers" "I", Cond.fieldLink RX4 35 "SignedBridge$State" "owner" "[I", Cond.methodLink RX4 31 yX8_copyOf, Cond.methodLink RX4 38 yX8_makeGap, Cond.methodLink RX4 42 yX10_ableLoads, Cond.instanceMethod yX10_ableLoads, Cond.selects RX10 yX10_ableLoads yX10_ableLoads, Cond.code yX10_ableLoads cX10_ableLoads 5 (some .int), Cond.fieldLink RX10 82 "SignedBridge$Plan" "loads" "I", Cond.methodLink RX4 48 yJ6_bitCount_0f7a4, Cond.static yJ6_bitCount_0f7a4]
def wsL_law0_r50 : List Cond := [Cond.initialized RJ6, Cond.code yJ6_bitCount_0f7a4 cJ6_bitCount_0f7a4 1 (some .int), Cond.constant RJ6 265 (1431655765), Cond.constant RJ6 266 (858993459), Cond.constant RJ6 267 (252645135), Cond.methodLink RL 118 yX12_keystone, Cond.instanceMethod yX12_keystone, Cond.selects RX12 yX12_keystone yX12_keystone, Cond.code yX12_keystone cX12_keystone 5 (some .int), Cond.methodLink RX12 383 yX12_pathsNow, Cond.instanceMethod yX12_pathsNow, Cond.selects RX12 yX12_pathsNow yX12_pathsNow, Cond.code yX12_pathsNow cX12_pathsNow 3 (some .int), Cond.methodLink RL 119 yX11_able, Cond.instanceMethod yX11_able, Cond.selects RX11 yX11_able yX11_able, Cond.code yX11_able cX11_able 1 (some .int), Cond.methodLink RX11 298 yX10_ableLoads, Cond.methodLink RX11 301 yJ6_bitCount_0f7a4, Cond.methodLink RL 122 yX12_able, Cond.instanceMethod yX12_able, Cond.selects RX12 yX12_able yX12_able, Cond.code yX12_able cX12_able 1 (some .int), Cond.methodLink RL 123 yX11_cut]
def wsL_law0_r51 : List Cond := [Cond.instanceMethod yX11_cut, Cond.selects RX11 yX11_cut yX11_cut, Cond.code yX11_cut cX11_cut 2 (some .int), Cond.methodLink RX11 306 yX3_find, Cond.instanceMethod yX3_find, Cond.selects RX3 yX3_find yX3_find, Cond.code yX3_find cX3_find 7 (some .int), Cond.fieldLink RX3 32 "SignedBridge$Plan" "rows" "I", Cond.methodLink RX3 28 yX8_copyOf, Cond.methodLink RX3 38 yX3_stepsWithout, Cond.instanceMethod yX3_stepsWithout, Cond.selects RX3 yX3_stepsWithout yX3_stepsWithout, Cond.code yX3_stepsWithout cX3_stepsWithout 9 (some .int), Cond.fieldLink RX3 50 "SignedBridge$State" "owner" "[I", Cond.fieldLink RX3 53 "SignedBridge$Plan" "forgers" "I", Cond.fieldLink RX3 62 "SignedBridge$Plan" "weight" "[I", Cond.fieldLink RX3 65 "SignedBridge$Plan" "wide" "[I", Cond.methodLink RX3 72 arraycopyName, Cond.methodLink RX3 56 yX10_weighRow, Cond.instanceMethod yX10_weighRow, Cond.selects RX10 yX10_weighRow yX10_weighRow, Cond.code yX10_weighRow cX10_weighRow 7 none, Cond.methodLink RX3 68 yX10_possibleSteps, Cond.methodLink RX3 42 yX3_fillNeed]
def wsL_law0_r52 : List Cond := [Cond.instanceMethod yX3_fillNeed, Cond.selects RX3 yX3_fillNeed yX3_fillNeed, Cond.code yX3_fillNeed cX3_fillNeed 6 none, Cond.methodLink RX3 81 Lib.Math.min.name, Cond.methodLink RX3 78 yX3_needWith, Cond.instanceMethod yX3_needWith, Cond.selects RX3 yX3_needWith yX3_needWith, Cond.code yX3_needWith cX3_needWith 7 (some .int), Cond.methodLink RX3 90 yJ6_bitCount_0f7a4, Cond.methodLink RX3 46 yX3_followFirst, Cond.instanceMethod yX3_followFirst, Cond.selects RX3 yX3_followFirst yX3_followFirst, Cond.code yX3_followFirst cX3_followFirst 7 none, Cond.fieldLink RX3 96 "SignedBridge$Cut" "size" "I", Cond.fieldLink RX3 99 "SignedBridge$Cut" "SETS" "[I", Cond.methodLink RX3 102 yX3_addPlaces, Cond.instanceMethod yX3_addPlaces, Cond.selects RX3 yX3_addPlaces yX3_addPlaces, Cond.code yX3_addPlaces cX3_addPlaces 4 none, Cond.methodLink RL 126 yX12_cut, Cond.instanceMethod yX12_cut, Cond.selects RX12 yX12_cut yX12_cut, Cond.code yX12_cut cX12_cut 4 (some .int), Cond.fieldLink RX12 390 "SignedBridgeModel" "cuts" "I"]
def wsL_law0_r53 : List Cond := [Cond.methodLink RX12 386 yX12_canCut, Cond.instanceMethod yX12_canCut, Cond.selects RX12 yX12_canCut yX12_canCut, Cond.code yX12_canCut cX12_canCut 8 (some .boolean), Cond.methodLink RL 127 yX11_cutAt, Cond.instanceMethod yX11_cutAt, Cond.selects RX11 yX11_cutAt yX11_cutAt, Cond.code yX11_cutAt cX11_cutAt 2 (some .int), Cond.fieldLink RX11 309 "SignedBridge$Cut" "size" "I", Cond.fieldLink RX11 312 "SignedBridge$Cut" "places" "[I", Cond.methodLink RL 130 yX12_cutAt, Cond.instanceMethod yX12_cutAt, Cond.selects RX12 yX12_cutAt yX12_cutAt, Cond.code yX12_cutAt cX12_cutAt 2 (some .int), Cond.methodLink RL 131 yX11_order, Cond.instanceMethod yX11_order, Cond.selects RX11 yX11_order yX11_order, Cond.code yX11_order cX11_order 1 (some .int), Cond.methodLink RX11 315 yX4_findOrder, Cond.instanceMethod yX4_findOrder, Cond.selects RX4 yX4_findOrder yX4_findOrder, Cond.code yX4_findOrder cX4_findOrder 8 (some .int), Cond.fieldLink RX4 54 "SignedBridge$Plan" "loads" "I", Cond.fieldLink RX4 57 "SignedBridge$State" "fallen" "I"]
def wsL_law0_r54 : List Cond := [Cond.fieldLink RX4 60 "SignedBridge$Forecast" "orderSize" "I", Cond.methodLink RX4 63 yX4_nextLoad, Cond.instanceMethod yX4_nextLoad, Cond.selects RX4 yX4_nextLoad yX4_nextLoad, Cond.code yX4_nextLoad cX4_nextLoad 7 (some .int), Cond.methodLink RX4 67 yX10_tryCrossing, Cond.methodLink RL 134 yX12_order, Cond.instanceMethod yX12_order, Cond.selects RX12 yX12_order yX12_order, Cond.code yX12_order cX12_order 2 (some .int), Cond.fieldLink RX12 393 "SignedBridgeModel" "crossMost" "I", Cond.fieldLink RX12 403 "SignedBridgeModel" "orderMany" "I", Cond.methodLink RX12 400 yX12_bits, Cond.static yX12_bits, Cond.code yX12_bits cX12_bits 3 (some .int), Cond.methodLink RX12 396 yX12_orderFrom, Cond.instanceMethod yX12_orderFrom, Cond.selects RX12 yX12_orderFrom yX12_orderFrom, Cond.code yX12_orderFrom cX12_orderFrom 8 none, Cond.methodLink RL 135 yX11_orderAt, Cond.instanceMethod yX11_orderAt, Cond.selects RX11 yX11_orderAt yX11_orderAt, Cond.code yX11_orderAt cX11_orderAt 2 (some .int), Cond.fieldLink RX11 318 "SignedBridge$Forecast" "orderSize" "I"]
def wsL_law0_r55 : List Cond := [Cond.fieldLink RX11 321 "SignedBridge$Forecast" "order" "[I", Cond.methodLink RL 138 yX12_orderAt, Cond.instanceMethod yX12_orderAt, Cond.selects RX12 yX12_orderAt yX12_orderAt, Cond.code yX12_orderAt cX12_orderAt 2 (some .int), Cond.methodLink RL 139 yX11_forgers, Cond.instanceMethod yX11_forgers, Cond.selects RX11 yX11_forgers yX11_forgers, Cond.code yX11_forgers cX11_forgers 2 (some .int), Cond.methodLink RX11 324 yX5_find, Cond.instanceMethod yX5_find, Cond.selects RX5 yX5_find yX5_find, Cond.code yX5_find cX5_find 9 (some .int), Cond.fieldLink RX5 42 "SignedBridge$Plan" "signers" "I", Cond.methodLink RX5 28 yX5_isAsTold, Cond.instanceMethod yX5_isAsTold, Cond.selects RX5 yX5_isAsTold yX5_isAsTold, Cond.code yX5_isAsTold cX5_isAsTold 5 (some .boolean), Cond.fieldLink RX5 67 "SignedBridge$Tokens" "length" "I", Cond.fieldLink RX5 72 "SignedBridge$Tokens" "bytes" "[I", Cond.fieldLink RX5 75 "SignedBridge$Plan" "loads" "I", Cond.methodLink RX5 32 yX5_weighForged, Cond.instanceMethod yX5_weighForged, Cond.selects RX5 yX5_weighForged yX5_weighForged]
def wsL_law0_r56 : List Cond := [Cond.code yX5_weighForged cX5_weighForged 8 none, Cond.fieldLink RX5 78 "SignedBridge$Plan" "rows" "I", Cond.fieldLink RX5 87 "SignedBridge$Ways" "bear" "[I", Cond.fieldLink RX5 90 "SignedBridge$Plan" "weight" "[I", Cond.fieldLink RX5 93 "SignedBridge$Plan" "wide" "[I", Cond.methodLink RX5 81 yX10_weighRow, Cond.methodLink RX5 96 yX10_possibleSteps, Cond.methodLink RX5 36 yJ7_fill_53178, Cond.methodLink RX5 47 yX5_markForged, Cond.instanceMethod yX5_markForged, Cond.selects RX5 yX5_markForged yX5_markForged, Cond.code yX5_markForged cX5_markForged 8 none, Cond.fieldLink RX5 100 "SignedBridge$State" "owner" "[I", Cond.methodLink RX5 51 yX5_ableLoads, Cond.instanceMethod yX5_ableLoads, Cond.selects RX5 yX5_ableLoads yX5_ableLoads, Cond.code yX5_ableLoads cX5_ableLoads 6 (some .int), Cond.methodLink RX5 55 yX5_agrees, Cond.instanceMethod yX5_agrees, Cond.selects RX5 yX5_agrees yX5_agrees, Cond.code yX5_agrees cX5_agrees 4 (some .boolean), Cond.methodLink RX5 59 yX5_addAble, Cond.instanceMethod yX5_addAble, Cond.selects RX5 yX5_addAble yX5_addAble]
def wsL_law0_r57 : List Cond := [Cond.code yX5_addAble cX5_addAble 4 none, Cond.methodLink RX5 63 yX5_mostTelling, Cond.instanceMethod yX5_mostTelling, Cond.selects RX5 yX5_mostTelling yX5_mostTelling, Cond.code yX5_mostTelling cX5_mostTelling 5 (some .int), Cond.methodLink RX5 108 Lib.Math.abs.name, Cond.static Lib.Math.abs.name, Cond.code Lib.Math.abs.name Lib.Math.abs.code 1 (some .int), Cond.methodLink RL 142 yX12_forgers, Cond.instanceMethod yX12_forgers, Cond.selects RX12 yX12_forgers yX12_forgers, Cond.code yX12_forgers cX12_forgers 8 (some .int), Cond.methodLink RX12 406 yX12_loadsOver, Cond.instanceMethod yX12_loadsOver, Cond.selects RX12 yX12_loadsOver yX12_loadsOver, Cond.code yX12_loadsOver cX12_loadsOver 3 (some .int), Cond.methodLink RL 143 yX11_surely, Cond.instanceMethod yX11_surely, Cond.selects RX11 yX11_surely yX11_surely, Cond.code yX11_surely cX11_surely 1 (some .int), Cond.fieldLink RX11 327 "SignedBridge$Forgers" "common" "I", Cond.methodLink RL 146 yX12_surely, Cond.instanceMethod yX12_surely, Cond.selects RX12 yX12_surely yX12_surely]
def wsL_law0_r58 : List Cond := [Cond.code yX12_surely cX12_surely 1 (some .int), Cond.methodLink RL 147 yX11_tells, Cond.instanceMethod yX11_tells, Cond.selects RX11 yX11_tells yX11_tells, Cond.code yX11_tells cX11_tells 1 (some .int), Cond.fieldLink RX11 330 "SignedBridge$Forgers" "telling" "I", Cond.methodLink RL 150 yX12_tells, Cond.instanceMethod yX12_tells, Cond.selects RX12 yX12_tells yX12_tells, Cond.code yX12_tells cX12_tells 1 (some .int), Cond.methodLink RL 151 yX11_law, Cond.instanceMethod yX11_law, Cond.selects RX11 yX11_law yX11_law, Cond.code yX11_law cX11_law 3 (some .int), Cond.methodLink RX11 333 yX4_findLaw, Cond.instanceMethod yX4_findLaw, Cond.selects RX4 yX4_findLaw yX4_findLaw, Cond.code yX4_findLaw cX4_findLaw 9 (some .int), Cond.methodLink RX4 71 yX10_hasPath, Cond.instanceMethod yX10_hasPath, Cond.selects RX10 yX10_hasPath yX10_hasPath, Cond.code yX10_hasPath cX10_hasPath 4 (some .boolean), Cond.methodLink RX4 75 yX8_passDay, Cond.methodLink RL 154 yX12_law]
def wsL_law0_r59 : List Cond := [Cond.instanceMethod yX12_law, Cond.selects RX12 yX12_law yX12_law, Cond.code yX12_law cX12_law 6 (some .int), Cond.methodLink RX12 409 yX12_layAside, Cond.instanceMethod yX12_layAside, Cond.selects RX12 yX12_layAside yX12_layAside, Cond.code yX12_layAside cX12_layAside 2 none, Cond.methodLink RX12 412 yX12_goesOn, Cond.instanceMethod yX12_goesOn, Cond.selects RX12 yX12_goesOn yX12_goesOn, Cond.code yX12_goesOn cX12_goesOn 4 (some .int), Cond.methodLink RX12 415 yX12_takeBack, Cond.instanceMethod yX12_takeBack, Cond.selects RX12 yX12_takeBack yX12_takeBack, Cond.code yX12_takeBack cX12_takeBack 2 none, Cond.methodLink RL 155 yX11_lasts, Cond.instanceMethod yX11_lasts, Cond.selects RX11 yX11_lasts yX11_lasts, Cond.code yX11_lasts cX11_lasts 2 (some .int), Cond.methodLink RX11 337 yX4_findLast, Cond.instanceMethod yX4_findLast, Cond.selects RX4 yX4_findLast yX4_findLast, Cond.code yX4_findLast cX4_findLast 7 (some .int), Cond.fieldLink RX4 79 "SignedBridge$State" "day" "I"]
def wsL_law0_r60 : List Cond := [Cond.fieldLink RX4 82 "SignedBridge$Plan" "keeps" "I", Cond.methodLink RL 158 yX12_lasts, Cond.instanceMethod yX12_lasts, Cond.selects RX12 yX12_lasts yX12_lasts, Cond.code yX12_lasts cX12_lasts 4 (some .int), Cond.methodLink RL 159 yX11_toll, Cond.instanceMethod yX11_toll, Cond.selects RX11 yX11_toll yX11_toll, Cond.code yX11_toll cX11_toll 3 (some .int), Cond.methodLink RX11 340 yX10_countOnPath, Cond.instanceMethod yX10_countOnPath, Cond.selects RX10 yX10_countOnPath yX10_countOnPath, Cond.code yX10_countOnPath cX10_countOnPath 9 (some .int), Cond.methodLink RL 162 yX12_toll, Cond.instanceMethod yX12_toll, Cond.selects RX12 yX12_toll yX12_toll, Cond.code yX12_toll cX12_toll 6 (some .int), Cond.methodLink RL 163 yX11_plate, Cond.instanceMethod yX11_plate, Cond.selects RX11 yX11_plate yX11_plate, Cond.code yX11_plate cX11_plate 4 (some .int), Cond.fieldLink RX11 355 "SignedBridge$Plan" "signerNames" "[J", Cond.methodLink RX11 343 yJ4_setLength_d00df, Cond.instanceMethod yJ4_setLength_d00df]
def wsL_law0_r61 : List Cond := [Cond.selects RJ4 yJ4_setLength_d00df yJ4_setLength_d00df, Cond.code yJ4_setLength_d00df cJ4_setLength_d00df 2 none, Cond.methodLink RJ4 333 yJ5_setLength_d00df, Cond.sameMethod "java/lang/AbstractStringBuilder" "java/lang/AbstractStringBuilder" "setLength" "(I)V", Cond.superclass RJ4 RJ5, Cond.instanceMethod yJ5_setLength_d00df, Cond.code yJ5_setLength_d00df cJ5_setLength_d00df 2 none, Cond.fieldLink RJ5 79 "java/lang/AbstractStringBuilder" "count" "I", Cond.fieldLink RJ5 73 "java/lang/AbstractStringBuilder" "maybeLatin1" "Z", Cond.methodLink RJ5 100 ⟨"java/lang/AbstractStringBuilder", "ensureCapacityInternal", "(I)V"⟩, Cond.sameMethod "java/lang/AbstractStringBuilder" "java/lang/AbstractStringBuilder" "ensureCapacityInternal" "(I)V", Cond.selects RJ4 ⟨"java/lang/AbstractStringBuilder", "ensureCapacityInternal", "(I)V"⟩ yJ5_ensureCapacityInternal_d00df, Cond.instanceMethod yJ5_ensureCapacityInternal_d00df, Cond.code yJ5_ensureCapacityInternal_d00df cJ5_ensureCapacityInternal_d00df 3 none, Cond.methodLink RJ5 104 ⟨"java/lang/AbstractStringBuilder", "newCapacity", "(I)I"⟩, Cond.sameMethod "java/lang/AbstractStringBuilder" "java/lang/AbstractStringBuilder" "newCapacity" "(I)I", Cond.selects RJ4 ⟨"java/lang/AbstractStringBuilder", "newCapacity", "(I)I"⟩ yJ5_newCapacity_0f7a4, Cond.instanceMethod yJ5_newCapacity_0f7a4, Cond.code yJ5_newCapacity_0f7a4 cJ5_newCapacity_0f7a4 6 (some .int), Cond.constant RJ5 39 (2147483647), Cond.methodLink RJ5 114 yJ8_newLength_cabcc, Cond.static yJ8_newLength_cabcc, Cond.initialized RJ8, Cond.code yJ8_newLength_cabcc cJ8_newLength_cabcc 4 (some .int)]
def wsL_law0_r62 : List Cond := [Cond.methodLink RJ8 194 Lib.Math.max.name, Cond.constant RJ8 200 (2147483639), Cond.methodLink RJ8 201 yJ8_hugeLength_7cf53, Cond.static yJ8_hugeLength_7cf53, Cond.code yJ8_hugeLength_7cf53 cJ8_hugeLength_7cf53 3 (some .int), Cond.methodLink RJ5 108 yJ7_copyOf_9075b, Cond.static yJ7_copyOf_9075b, Cond.code yJ7_copyOf_9075b cJ7_copyOf_9075b 3 (some (.array .byte)), Cond.methodLink RJ7 310 ⟨"[B", "clone", "()Ljava/lang/Object;"⟩, Cond.sameMethod "[B" "java/lang/Object" "clone" "()Ljava/lang/Object;", Cond.native ⟨"java/lang/Object", "clone", "()Ljava/lang/Object;"⟩, Cond.instanceMethod ⟨"java/lang/Object", "clone", "()Ljava/lang/Object;"⟩, Cond.selects "[B" ⟨"[B", "clone", "()Ljava/lang/Object;"⟩ ⟨"java/lang/Object", "clone", "()Ljava/lang/Object;"⟩, Cond.classLink RJ7 311 "[B", Cond.methodLink RJ7 304 Lib.Math.min.name, Cond.methodLink RJ7 150 arraycopyName, Cond.methodLink RJ5 83 ⟨"java/lang/AbstractStringBuilder", "isLatin1", "()Z"⟩, Cond.sameMethod "java/lang/AbstractStringBuilder" "java/lang/AbstractStringBuilder" "isLatin1" "()Z", Cond.selects RJ4 ⟨"java/lang/AbstractStringBuilder", "isLatin1", "()Z"⟩ yJ5_isLatin1_aae02, Cond.instanceMethod yJ5_isLatin1_aae02, Cond.code yJ5_isLatin1_aae02 cJ5_isLatin1_aae02 1 (some .boolean), Cond.methodLink RJ5 133 yJ1_fillNull_b72d1, Cond.static yJ1_fillNull_b72d1, Cond.code yJ1_fillNull_b72d1 cJ1_fillNull_b72d1 3 none]
def wsL_law0_r63 : List Cond := [Cond.methodLink RJ1 236 yJ7_fill_eb02e, Cond.static yJ7_fill_eb02e, Cond.code yJ7_fill_eb02e cJ7_fill_eb02e 5 none, Cond.methodLink RJ7 13 yJ7_rangeCheck_23922, Cond.static yJ7_rangeCheck_23922, Cond.code yJ7_rangeCheck_23922 cJ7_rangeCheck_23922 3 none, Cond.methodLink RJ5 137 yJ2_fillNull_b72d1, Cond.static yJ2_fillNull_b72d1, Cond.code yJ2_fillNull_b72d1 cJ2_fillNull_b72d1 3 none, Cond.methodLink RJ2 380 yJ7_fill_eb02e, Cond.methodLink RX11 346 yJ4_append_cf468, Cond.instanceMethod yJ4_append_cf468, Cond.selects RJ4 yJ4_append_cf468 yJ4_append_cf468, Cond.code yJ4_append_cf468 cJ4_append_cf468 2 (some (.object "java/lang/StringBuilder")), Cond.methodLink RJ4 50 yJ5_append_3fe6f, Cond.sameMethod "java/lang/AbstractStringBuilder" "java/lang/AbstractStringBuilder" "append" "(C)Ljava/lang/AbstractStringBuilder;", Cond.instanceMethod yJ5_append_3fe6f, Cond.code yJ5_append_3fe6f cJ5_append_3fe6f 2 (some (.object "java/lang/AbstractStringBuilder")), Cond.methodLink RJ5 191 yJ1_canEncode_fc78d, Cond.static yJ1_canEncode_fc78d, Cond.code yJ1_canEncode_fc78d cJ1_canEncode_fc78d 1 (some .boolean), Cond.methodLink RJ5 195 ⟨"java/lang/AbstractStringBuilder", "inflate", "()V"⟩, Cond.sameMethod "java/lang/AbstractStringBuilder" "java/lang/AbstractStringBuilder" "inflate" "()V", Cond.selects RJ4 ⟨"java/lang/AbstractStringBuilder", "inflate", "()V"⟩ yJ5_inflate_da8c8]
def wsL_law0_r64 : List Cond := [Cond.instanceMethod yJ5_inflate_da8c8, Cond.code yJ5_inflate_da8c8 cJ5_inflate_da8c8 2 none, Cond.methodLink RJ5 125 yJ1_inflate_0e8fd, Cond.static yJ1_inflate_0e8fd, Cond.code yJ1_inflate_0e8fd cJ1_inflate_0e8fd 5 none, Cond.methodLink RJ1 240 yJ2_inflate_0e8fd, Cond.static yJ2_inflate_0e8fd, Cond.code yJ2_inflate_0e8fd cJ2_inflate_0e8fd 6 none, Cond.methodLink RJ2 173 yJ2_checkBoundsOffCount_d044e, Cond.static yJ2_checkBoundsOffCount_d044e, Cond.code yJ2_checkBoundsOffCount_d044e cJ2_checkBoundsOffCount_d044e 3 none, Cond.methodLink RJ2 419 yJ0_checkBoundsOffCount_cabcc, Cond.static yJ0_checkBoundsOffCount_cabcc, Cond.code yJ0_checkBoundsOffCount_cabcc cJ0_checkBoundsOffCount_cabcc 3 (some .int), Cond.methodLink RJ0 1065 yJ3_checkFromIndexSize_8c36e, Cond.static yJ3_checkFromIndexSize_8c36e, Cond.code yJ3_checkFromIndexSize_8c36e cJ3_checkFromIndexSize_8c36e 4 (some .int), Cond.methodLink RJ2 111 yJ2_putChar_b72d1, Cond.static yJ2_putChar_b72d1, Cond.code yJ2_putChar_b72d1 cJ2_putChar_b72d1 3 none, Cond.methodLink RJ5 197 yJ2_putCharSB_b72d1, Cond.static yJ2_putCharSB_b72d1, Cond.code yJ2_putCharSB_b72d1 cJ2_putCharSB_b72d1 3 none, Cond.methodLink RX11 352 yJ4_append_15ec4]
def wsL_law0_r65 : List Cond := [Cond.instanceMethod yJ4_append_15ec4, Cond.selects RJ4 yJ4_append_15ec4 yJ4_append_15ec4, Cond.code yJ4_append_15ec4 cJ4_append_15ec4 2 (some (.object "java/lang/StringBuilder")), Cond.methodLink RJ4 29 yJ5_append_cf1ce, Cond.sameMethod "java/lang/AbstractStringBuilder" "java/lang/AbstractStringBuilder" "append" "(Ljava/lang/String;)Ljava/lang/AbstractStringBuilder;", Cond.instanceMethod yJ5_append_cf1ce, Cond.code yJ5_append_cf1ce cJ5_append_cf1ce 3 (some (.object "java/lang/AbstractStringBuilder")), Cond.methodLink RJ5 204 ⟨"java/lang/AbstractStringBuilder", "appendNull", "()Ljava/lang/AbstractStringBuilder;"⟩, Cond.sameMethod "java/lang/AbstractStringBuilder" "java/lang/AbstractStringBuilder" "appendNull" "()Ljava/lang/AbstractStringBuilder;", Cond.selects RJ4 ⟨"java/lang/AbstractStringBuilder", "appendNull", "()Ljava/lang/AbstractStringBuilder;"⟩ yJ5_appendNull_278bc, Cond.instanceMethod yJ5_appendNull_278bc, Cond.code yJ5_appendNull_278bc cJ5_appendNull_278bc 3 (some (.object "java/lang/AbstractStringBuilder")), Cond.methodLink RJ5 226 yJ2_putCharsAt_cd4e5, Cond.static yJ2_putCharsAt_cd4e5, Cond.code yJ2_putCharsAt_cd4e5 cJ2_putCharsAt_cd4e5 7 (some .int), Cond.methodLink RJ2 96 yJ2_checkBoundsBeginEnd_d044e, Cond.static yJ2_checkBoundsBeginEnd_d044e, Cond.code yJ2_checkBoundsBeginEnd_d044e cJ2_checkBoundsBeginEnd_d044e 3 none, Cond.methodLink RJ2 241 yJ0_checkBoundsBeginEnd_23922, Cond.static yJ0_checkBoundsBeginEnd_23922, Cond.code yJ0_checkBoundsBeginEnd_23922 cJ0_checkBoundsBeginEnd_23922 3 none, Cond.methodLink RJ0 1062 yJ3_checkFromToIndex_8c36e, Cond.static yJ3_checkFromToIndex_8c36e, Cond.code yJ3_checkFromToIndex_8c36e cJ3_checkFromToIndex_8c36e 4 (some .int)]
def wsL_law0_r66 : List Cond := [Cond.methodLink RJ5 32 yJ0_length_8abf5, Cond.instanceMethod yJ0_length_8abf5, Cond.selects RJ0 yJ0_length_8abf5 yJ0_length_8abf5, Cond.code yJ0_length_8abf5 cJ0_length_8abf5 1 (some .int), Cond.methodLink RJ0 335 yJ0_coder_7d493, Cond.instanceMethod yJ0_coder_7d493, Cond.selects RJ0 yJ0_coder_7d493 yJ0_coder_7d493, Cond.code yJ0_coder_7d493 cJ0_coder_7d493 1 (some .byte), Cond.methodLink RJ5 208 ⟨"java/lang/AbstractStringBuilder", "putStringAt", "(ILjava/lang/String;)V"⟩, Cond.sameMethod "java/lang/AbstractStringBuilder" "java/lang/AbstractStringBuilder" "putStringAt" "(ILjava/lang/String;)V", Cond.selects RJ4 ⟨"java/lang/AbstractStringBuilder", "putStringAt", "(ILjava/lang/String;)V"⟩ yJ5_putStringAt_47b60, Cond.instanceMethod yJ5_putStringAt_47b60, Cond.code yJ5_putStringAt_47b60 cJ5_putStringAt_47b60 3 none, Cond.methodLink RJ5 397 ⟨"java/lang/AbstractStringBuilder", "inflateIfNeededFor", "(Ljava/lang/String;)V"⟩, Cond.sameMethod "java/lang/AbstractStringBuilder" "java/lang/AbstractStringBuilder" "inflateIfNeededFor" "(Ljava/lang/String;)V", Cond.selects RJ4 ⟨"java/lang/AbstractStringBuilder", "inflateIfNeededFor", "(Ljava/lang/String;)V"⟩ yJ5_inflateIfNeededFor_a7421, Cond.instanceMethod yJ5_inflateIfNeededFor_a7421, Cond.code yJ5_inflateIfNeededFor_a7421 cJ5_inflateIfNeededFor_a7421 2 none, Cond.methodLink RJ5 40 yJ0_coder_7d493, Cond.methodLink RJ5 399 yJ0_getBytes_840e7, Cond.instanceMethod yJ0_getBytes_840e7, Cond.selects RJ0 yJ0_getBytes_840e7 yJ0_getBytes_840e7, Cond.code yJ0_getBytes_840e7 cJ0_getBytes_840e7 4 none, Cond.methodLink RJ0 212 arraycopyName]
def wsL_law0_r67 : List Cond := [Cond.methodLink RJ0 106 yJ1_inflate_0e8fd, Cond.methodLink RX11 359 yX11_writeName, Cond.instanceMethod yX11_writeName, Cond.selects RX11 yX11_writeName yX11_writeName, Cond.code yX11_writeName cX11_writeName 5 none, Cond.constantLong RX11 410 (31), Cond.methodLink RX11 363 yJ4_length_8abf5, Cond.instanceMethod yJ4_length_8abf5, Cond.selects RJ4 yJ4_length_8abf5 yJ4_length_8abf5, Cond.code yJ4_length_8abf5 cJ4_length_8abf5 1 (some .int), Cond.methodLink RJ4 343 yJ5_length_8abf5, Cond.sameMethod "java/lang/AbstractStringBuilder" "java/lang/AbstractStringBuilder" "length" "()I", Cond.instanceMethod yJ5_length_8abf5, Cond.code yJ5_length_8abf5 cJ5_length_8abf5 1 (some .int), Cond.methodLink RL 166 yX12_plate, Cond.instanceMethod yX12_plate, Cond.selects RX12 yX12_plate yX12_plate, Cond.code yX12_plate cX12_plate 4 (some .int), Cond.fieldLink RX12 418 "SignedBridgeModel" "texts" "I", Cond.methodLink RX12 425 yX12_write, Cond.instanceMethod yX12_write, Cond.selects RX12 yX12_write yX12_write, Cond.code yX12_write cX12_write 2 none, Cond.methodLink RX12 421 yX12_writeWord]
def wsL_law0_r68 : List Cond := [Cond.instanceMethod yX12_writeWord, Cond.selects RX12 yX12_writeWord yX12_writeWord, Cond.code yX12_writeWord cX12_writeWord 3 none, Cond.methodLink RL 167 yX11_byteAt, Cond.instanceMethod yX11_byteAt, Cond.selects RX11 yX11_byteAt yX11_byteAt, Cond.code yX11_byteAt cX11_byteAt 2 (some .int), Cond.methodLink RX11 365 yJ4_charAt_5068e, Cond.instanceMethod yJ4_charAt_5068e, Cond.selects RJ4 yJ4_charAt_5068e yJ4_charAt_5068e, Cond.code yJ4_charAt_5068e cJ4_charAt_5068e 2 (some .char), Cond.methodLink RJ4 329 yJ5_charAt_5068e, Cond.sameMethod "java/lang/AbstractStringBuilder" "java/lang/AbstractStringBuilder" "charAt" "(I)C", Cond.instanceMethod yJ5_charAt_5068e, Cond.code yJ5_charAt_5068e cJ5_charAt_5068e 5 (some .char), Cond.methodLink RJ5 138 Lib.Math.min.name, Cond.methodLink RJ5 144 yJ0_checkIndex_df160, Cond.methodLink RJ5 148 yJ2_getChar_3b067, Cond.methodLink RL 170 yX12_byteAt, Cond.instanceMethod yX12_byteAt, Cond.selects RX12 yX12_byteAt yX12_byteAt, Cond.code yX12_byteAt cX12_byteAt 2 (some .int), Cond.methodLink RL 171 yX11_drawn, Cond.instanceMethod yX11_drawn]
def wsL_law0_r69 : List Cond := [Cond.selects RX11 yX11_drawn yX11_drawn, Cond.code yX11_drawn cX11_drawn 4 (some .int), Cond.methodLink RX11 372 yX4_drawDays, Cond.instanceMethod yX4_drawDays, Cond.selects RX4 yX4_drawDays yX4_drawDays, Cond.code yX4_drawDays cX4_drawDays 8 (some .int), Cond.fieldLink RX4 89 "SignedBridge$Forecast" "seed" "I", Cond.methodLink RX4 92 yX4_drawDeed, Cond.instanceMethod yX4_drawDeed, Cond.selects RX4 yX4_drawDeed yX4_drawDeed, Cond.code yX4_drawDeed cX4_drawDeed 4 none, Cond.fieldLink RX4 108 "SignedBridge$Plan" "rows" "I", Cond.methodLink RX4 96 yX4_draw, Cond.instanceMethod yX4_draw, Cond.selects RX4 yX4_draw yX4_draw, Cond.code yX4_draw cX4_draw 2 (some .int), Cond.constant RX4 115 (1103515245), Cond.methodLink RX4 99 yX8_breakWord, Cond.methodLink RX4 102 yX8_holdWord, Cond.methodLink RX4 105 yX8_endLife, Cond.methodLink RX4 111 yX8_putPlank, Cond.methodLink RL 174 yX12_drawn, Cond.instanceMethod yX12_drawn, Cond.selects RX12 yX12_drawn yX12_drawn]
def wsL_law0_r70 : List Cond := [Cond.code yX12_drawn cX12_drawn 3 (some .int), Cond.methodLink RX12 438 yX12_drawDays, Cond.instanceMethod yX12_drawDays, Cond.selects RX12 yX12_drawDays yX12_drawDays, Cond.code yX12_drawDays cX12_drawDays 6 (some .int), Cond.fieldLink RX12 428 "SignedBridgeModel" "seed" "I", Cond.methodLink RX12 435 yX12_drawFor, Cond.instanceMethod yX12_drawFor, Cond.selects RX12 yX12_drawFor yX12_drawFor, Cond.code yX12_drawFor cX12_drawFor 4 none, Cond.methodLink RX12 432 yX12_draw, Cond.instanceMethod yX12_draw, Cond.selects RX12 yX12_draw yX12_draw, Cond.code yX12_draw cX12_draw 2 (some .int), Cond.constant RX12 431 (1103515245), Cond.methodLink RL 175 yX11_odds, Cond.instanceMethod yX11_odds, Cond.selects RX11 yX11_odds yX11_odds, Cond.code yX11_odds cX11_odds 4 (some .int), Cond.methodLink RX11 375 yX4_countOdds, Cond.instanceMethod yX4_countOdds, Cond.selects RX4 yX4_countOdds yX4_countOdds, Cond.code yX4_countOdds cX4_countOdds 9 (some .int), Cond.methodLink RX4 85 yX4_drawDays]
def wsL_law0_r71 : List Cond := [Cond.methodLink RL 178 yX12_odds, Cond.instanceMethod yX12_odds, Cond.selects RX12 yX12_odds yX12_odds, Cond.code yX12_odds cX12_odds 6 (some .int), Cond.methodLink RL 179 yX11_book, Cond.instanceMethod yX11_book, Cond.selects RX11 yX11_book yX11_book, Cond.code yX11_book cX11_book 4 (some .int), Cond.methodLink RX11 379 yX1_read, Cond.instanceMethod yX1_read, Cond.selects RX1 yX1_read yX1_read, Cond.code yX1_read cX1_read 3 (some .boolean), Cond.fieldLink RX1 33 "SignedBridge$Book" "lines" "I", Cond.fieldLink RX1 37 "SignedBridge$Tokens" "kind" "I", Cond.methodLink RX1 27 yX9_begin, Cond.methodLink RX1 40 yX1_readLine, Cond.instanceMethod yX1_readLine, Cond.selects RX1 yX1_readLine yX1_readLine, Cond.code yX1_readLine cX1_readLine 6 (some .boolean), Cond.fieldLink RX1 58 "SignedBridge$Tokens" "name" "J", Cond.fieldLink RX1 78 "SignedBridge$Tokens" "value" "I", Cond.methodLink RX1 52 yX9_isKey, Cond.methodLink RX1 55 yX9_refuse, Cond.methodLink RX1 62 yX6_signerNamed]
def wsL_law0_r72 : List Cond := [Cond.methodLink RX1 68 yX6_loadNamed, Cond.methodLink RX1 71 yX9_advance, Cond.methodLink RX1 74 yX1_isSignersDeed, Cond.static yX1_isSignersDeed, Cond.code yX1_isSignersDeed cX1_isSignersDeed 1 (some .boolean), Cond.methodLink RX1 81 yX1_readPlace, Cond.instanceMethod yX1_readPlace, Cond.selects RX1 yX1_readPlace yX1_readPlace, Cond.code yX1_readPlace cX1_readPlace 2 (some .boolean), Cond.fieldLink RX1 91 "SignedBridge$Tokens" "taken" "I", Cond.methodLink RX1 87 yX9_takeNumber, Cond.methodLink RX1 84 yX1_readDays, Cond.instanceMethod yX1_readDays, Cond.selects RX1 yX1_readDays yX1_readDays, Cond.code yX1_readDays cX1_readDays 2 (some .boolean), Cond.methodLink RX1 44 yX9_takeSign, Cond.methodLink RX1 48 yX9_takeEnd, Cond.methodLink RX11 382 yX1_live, Cond.instanceMethod yX1_live, Cond.selects RX1 yX1_live yX1_live, Cond.code yX1_live cX1_live 6 (some .int), Cond.fieldLink RX1 98 "SignedBridge$State" "day" "I", Cond.fieldLink RX1 103 "SignedBridge$State" "fallen" "I", Cond.methodLink RX1 94 yX1_liveLine]
def wsL_law0_r73 : List Cond := [Cond.instanceMethod yX1_liveLine, Cond.selects RX1 yX1_liveLine yX1_liveLine, Cond.code yX1_liveLine cX1_liveLine 7 (some .int), Cond.fieldLink RX1 106 "SignedBridge$Plan" "rows" "I", Cond.methodLink RX1 109 yX8_putPlank, Cond.methodLink RX1 113 yX8_burnPlank, Cond.methodLink RX1 117 yX1_behind, Cond.static yX1_behind, Cond.code yX1_behind cX1_behind 2 (some .int), Cond.methodLink RX1 120 yX8_breakWord, Cond.methodLink RX1 123 yX8_holdWord, Cond.methodLink RX1 126 yX8_endLife, Cond.methodLink RX1 129 yX10_tryCrossing, Cond.methodLink RX1 135 yX8_passDays, Cond.methodLink RL 182 yX12_book, Cond.instanceMethod yX12_book, Cond.selects RX12 yX12_book yX12_book, Cond.code yX12_book cX12_book 4 (some .int), Cond.fieldLink RX12 450 "SignedBridgeModel" "lineMany" "I", Cond.fieldLink RX12 465 "SignedBridgeModel" "hasWritten" "Z", Cond.methodLink RX12 456 yX12_readBookLine, Cond.instanceMethod yX12_readBookLine, Cond.selects RX12 yX12_readBookLine yX12_readBookLine, Cond.code yX12_readBookLine cX12_readBookLine 1 (some .boolean)]
def wsL_law0_r74 : List Cond := [Cond.methodLink RX12 453 yX12_readDoes, Cond.instanceMethod yX12_readDoes, Cond.selects RX12 yX12_readDoes yX12_readDoes, Cond.code yX12_readDoes cX12_readDoes 4 (some .boolean), Cond.methodLink RX12 441 yX12_readSet, Cond.instanceMethod yX12_readSet, Cond.selects RX12 yX12_readSet yX12_readSet, Cond.code yX12_readSet cX12_readSet 4 (some .boolean), Cond.methodLink RX12 444 yX12_readPlace, Cond.instanceMethod yX12_readPlace, Cond.selects RX12 yX12_readPlace yX12_readPlace, Cond.code yX12_readPlace cX12_readPlace 2 (some .boolean), Cond.methodLink RX12 447 yX12_readSignerDoes, Cond.instanceMethod yX12_readSignerDoes, Cond.selects RX12 yX12_readSignerDoes yX12_readSignerDoes, Cond.code yX12_readSignerDoes cX12_readSignerDoes 3 (some .boolean), Cond.methodLink RX12 459 yX12_whyLine, Cond.instanceMethod yX12_whyLine, Cond.selects RX12 yX12_whyLine yX12_whyLine, Cond.code yX12_whyLine cX12_whyLine 4 (some .int), Cond.methodLink RX12 462 yX12_live, Cond.instanceMethod yX12_live, Cond.selects RX12 yX12_live yX12_live, Cond.code yX12_live cX12_live 4 none]
def wsL_law0_r75 : List Cond := [Cond.methodLink RX12 468 yX12_stay, Cond.instanceMethod yX12_stay, Cond.selects RX12 yX12_stay yX12_stay, Cond.code yX12_stay cX12_stay 4 none, Cond.methodLink RL 183 yX11_told, Cond.instanceMethod yX11_told, Cond.selects RX11 yX11_told yX11_told, Cond.code yX11_told cX11_told 2 (some .int), Cond.fieldLink RX11 385 "SignedBridge$Book" "verdict" "[I", Cond.methodLink RL 186 yX12_told, Cond.instanceMethod yX12_told, Cond.selects RX12 yX12_told yX12_told, Cond.code yX12_told cX12_told 2 (some .int), Cond.methodLink RL 187 yX11_sentence, Cond.instanceMethod yX11_sentence, Cond.selects RX11 yX11_sentence yX11_sentence, Cond.code yX11_sentence cX11_sentence 3 (some .int), Cond.fieldLink RX11 389 "SignedBridge$Sentence" "ones" "I", Cond.methodLink RX11 388 yX7_read, Cond.instanceMethod yX7_read, Cond.selects RX7 yX7_read yX7_read, Cond.code yX7_read cX7_read 5 (some .boolean), Cond.fieldLink RX7 43 "SignedBridge$Sentence" "delays" "I", Cond.fieldLink RX7 46 "SignedBridge$Sentence" "within" "I"]
def wsL_law0_r76 : List Cond := [Cond.methodLink RX7 40 yX7_forget, Cond.methodLink RX7 49 yX9_begin, Cond.methodLink RX7 55 yX7_readOne, Cond.instanceMethod yX7_readOne, Cond.selects RX7 yX7_readOne yX7_readOne, Cond.code yX7_readOne cX7_readOne 5 (some .boolean), Cond.methodLink RX7 78 yX7_beginsOne, Cond.static yX7_beginsOne, Cond.code yX7_beginsOne cX7_beginsOne 1 (some .boolean), Cond.fieldLink RX7 99 "SignedBridge$Tokens" "kind" "I", Cond.fieldLink RX7 102 "SignedBridge$Tokens" "value" "I", Cond.methodLink RX7 84 yX9_isSignOf, Cond.methodLink RX7 67 yX9_refuse, Cond.methodLink RX7 81 yX9_isKey, Cond.methodLink RX7 87 yX7_readSaying, Cond.instanceMethod yX7_readSaying, Cond.selects RX7 yX7_readSaying yX7_readSaying, Cond.code yX7_readSaying cX7_readSaying 5 (some .boolean), Cond.fieldLink RX7 105 "SignedBridge$Tokens" "taken" "I", Cond.methodLink RX7 96 yX9_advance, Cond.methodLink RX7 108 yX9_takeSigner, Cond.methodLink RX7 112 yX9_takeNumber, Cond.methodLink RX7 116 yX7_isRelation, Cond.static yX7_isRelation]
def wsL_law0_r77 : List Cond := [Cond.code yX7_isRelation cX7_isRelation 1 (some .boolean), Cond.methodLink RX7 119 yX7_put, Cond.instanceMethod yX7_put, Cond.selects RX7 yX7_put yX7_put, Cond.code yX7_put cX7_put 4 none, Cond.methodLink RX7 90 yX7_settleNots, Cond.instanceMethod yX7_settleNots, Cond.selects RX7 yX7_settleNots yX7_settleNots, Cond.code yX7_settleNots cX7_settleNots 2 (some .boolean), Cond.methodLink RX7 93 yX7_delay, Cond.instanceMethod yX7_delay, Cond.selects RX7 yX7_delay yX7_delay, Cond.code yX7_delay cX7_delay 2 none, Cond.methodLink RX7 59 yX7_closeBrackets, Cond.instanceMethod yX7_closeBrackets, Cond.selects RX7 yX7_closeBrackets yX7_closeBrackets, Cond.code yX7_closeBrackets cX7_closeBrackets 3 none, Cond.methodLink RX7 71 yX7_settle, Cond.instanceMethod yX7_settle, Cond.selects RX7 yX7_settle yX7_settle, Cond.code yX7_settle cX7_settle 4 none, Cond.methodLink RX7 63 yX7_readJoin, Cond.instanceMethod yX7_readJoin, Cond.selects RX7 yX7_readJoin yX7_readJoin]
def wsL_law0_r78 : List Cond := [Cond.code yX7_readJoin cX7_readJoin 2 (some .boolean), Cond.methodLink RX7 74 yX9_takeEnd, Cond.methodLink RL 190 yX12_sentence, Cond.instanceMethod yX12_sentence, Cond.selects RX12 yX12_sentence yX12_sentence, Cond.code yX12_sentence cX12_sentence 2 (some .int), Cond.fieldLink RX12 472 "SignedBridgeModel" "nodes" "I", Cond.fieldLink RX12 487 "SignedBridgeModel" "onesMany" "I", Cond.fieldLink RX12 490 "SignedBridgeModel" "within" "I", Cond.fieldLink RX12 478 "SignedBridgeModel" "top" "I", Cond.methodLink RX12 505 yX12_readOr, Cond.instanceMethod yX12_readOr, Cond.selects RX12 yX12_readOr yX12_readOr, Cond.code yX12_readOr cX12_readOr 2 (some .boolean), Cond.methodLink RX12 475 yX12_readAnd, Cond.instanceMethod yX12_readAnd, Cond.selects RX12 yX12_readAnd yX12_readAnd, Cond.methodLink RX12 481 yX12_saysOne, Cond.instanceMethod yX12_saysOne, Cond.selects RX12 yX12_saysOne yX12_saysOne, Cond.code yX12_saysOne cX12_saysOne 6 (some .int), Cond.code yX12_readAnd cX12_readAnd 2 (some .boolean), Cond.methodLink RX12 484 yX12_readSaid, Cond.instanceMethod yX12_readSaid]
def wsL_law0_r79 : List Cond := [Cond.selects RX12 yX12_readSaid yX12_readSaid, Cond.code yX12_readBracket cX12_readBracket 1 (some .boolean), Cond.code yX12_readNot cX12_readNot 1 (some .boolean), Cond.code yX12_readSaid cX12_readSaid 4 (some .boolean), Cond.methodLink RX12 493 yX12_readBracket, Cond.instanceMethod yX12_readBracket, Cond.selects RX12 yX12_readBracket yX12_readBracket, Cond.methodLink RX12 496 yX12_readNot, Cond.instanceMethod yX12_readNot, Cond.selects RX12 yX12_readNot yX12_readNot, Cond.methodLink RX12 499 yX12_readOf, Cond.instanceMethod yX12_readOf, Cond.selects RX12 yX12_readOf yX12_readOf, Cond.code yX12_readOf cX12_readOf 2 (some .boolean), Cond.methodLink RX12 508 yX12_readWhom, Cond.instanceMethod yX12_readWhom, Cond.selects RX12 yX12_readWhom yX12_readWhom, Cond.code yX12_readWhom cX12_readWhom 2 (some .boolean), Cond.methodLink RX12 502 yX12_readCompare, Cond.instanceMethod yX12_readCompare, Cond.selects RX12 yX12_readCompare yX12_readCompare, Cond.code yX12_readCompare cX12_readCompare 3 (some .boolean), Cond.methodLink RL 191 yX11_said, Cond.instanceMethod yX11_said]
def wsL_law0_r80 : List Cond := [Cond.selects RX11 yX11_said yX11_said, Cond.code yX11_said cX11_said 5 (some .int), Cond.methodLink RX11 392 yX7_judge, Cond.instanceMethod yX7_judge, Cond.selects RX7 yX7_judge yX7_judge, Cond.code yX7_judge cX7_judge 6 (some .int), Cond.fieldLink RX7 123 "SignedBridge$Plan" "signers" "I", Cond.methodLink RX7 128 yX7_sayOfAll, Cond.instanceMethod yX7_sayOfAll, Cond.selects RX7 yX7_sayOfAll yX7_sayOfAll, Cond.code yX7_sayOfAll cX7_sayOfAll 6 (some .int), Cond.methodLink RX7 132 yX7_isTrueOf, Cond.instanceMethod yX7_isTrueOf, Cond.selects RX7 yX7_isTrueOf yX7_isTrueOf, Cond.code yX7_isTrueOf cX7_isTrueOf 5 (some .boolean), Cond.fieldLink RX7 141 "SignedBridge$Plan" "forgers" "I", Cond.fieldLink RX7 147 "SignedBridge$Plan" "heir" "[I", Cond.fieldLink RX7 154 "SignedBridge$State" "earnest" "[I", Cond.fieldLink RX7 160 "SignedBridge$State" "held" "[I", Cond.fieldLink RX7 163 "SignedBridge$Plan" "miles" "[I", Cond.methodLink RX7 136 yX8_lives, Cond.methodLink RX7 144 yX6_areLovers, Cond.methodLink RX7 150 yX7_isOn, Cond.static yX7_isOn]
def wsL_law0_r81 : List Cond := [Cond.code yX7_isOn cX7_isOn 4 (some .boolean), Cond.fieldLink RX7 166 "SignedBridge$State" "owner" "[I", Cond.methodLink RX7 157 yX7_compares, Cond.instanceMethod yX7_compares, Cond.selects RX7 yX7_compares yX7_compares, Cond.code yX7_compares cX7_compares 3 (some .boolean), Cond.methodLink RL 194 yX12_said, Cond.instanceMethod yX12_said, Cond.selects RX12 yX12_said yX12_said, Cond.code yX12_said cX12_said 4 (some .int), Cond.methodLink RX12 511 yX12_holds_, Cond.instanceMethod yX12_holds_, Cond.selects RX12 yX12_holds_ yX12_holds_, Cond.code yX12_holds_ cX12_holds_ 8 (some .boolean), Cond.methodLink RX12 514 yX12_isOn, Cond.instanceMethod yX12_isOn, Cond.selects RX12 yX12_isOn yX12_isOn, Cond.code yX12_isOn cX12_isOn 4 (some .boolean), Cond.methodLink RL 195 yX11_image, Cond.instanceMethod yX11_image, Cond.selects RX11 yX11_image yX11_image, Cond.code yX11_image cX11_image 2 (some .boolean), Cond.methodLink RX11 395 yX7_copyOf, Cond.instanceMethod yX7_copyOf]
def wsL_law0_r82 : List Cond := [Cond.selects RX7 yX7_copyOf yX7_copyOf, Cond.code yX7_copyOf cX7_copyOf 2 none, Cond.methodLink RX7 34 arraycopyName, Cond.methodLink RL 198 yX12_image, Cond.instanceMethod yX12_image, Cond.selects RX12 yX12_image yX12_image, Cond.code yX12_image cX12_image 3 (some .boolean), Cond.methodLink RL 199 yX11_restore, Cond.instanceMethod yX11_restore, Cond.selects RX11 yX11_restore yX11_restore, Cond.code yX11_restore cX11_restore 2 (some .boolean), Cond.methodLink RL 202 yX12_restore, Cond.instanceMethod yX12_restore, Cond.selects RX12 yX12_restore yX12_restore, Cond.code yX12_restore cX12_restore 3 (some .boolean), Cond.methodLink RL 203 yX11_count, Cond.instanceMethod yX11_count, Cond.selects RX11 yX11_count yX11_count, Cond.code yX11_count cX11_count 2 (some .int), Cond.fieldLink RX11 404 "SignedBridge$Plan" "lovers" "I", Cond.fieldLink RX11 407 "SignedBridge$Plan" "keeps" "I", Cond.methodLink RL 206 yX12_count, Cond.instanceMethod yX12_count, Cond.selects RX12 yX12_count yX12_count]
def wsL_law0_r83 : List Cond := [Cond.code yX12_count cX12_count 2 (some .int)]
def wsL_law0 : List Cond := (wsL_law0_r1 ++ (wsL_law0_r2 ++ (wsL_law0_r3 ++ (wsL_law0_r4 ++ (wsL_law0_r5 ++ (wsL_law0_r6 ++ (wsL_law0_r7 ++ (wsL_law0_r8 ++ (wsL_law0_r9 ++ (wsL_law0_r10 ++ (wsL_law0_r11 ++ (wsL_law0_r12 ++ (wsL_law0_r13 ++ (wsL_law0_r14 ++ (wsL_law0_r15 ++ (wsL_law0_r16 ++ (wsL_law0_r17 ++ (wsL_law0_r18 ++ (wsL_law0_r19 ++ (wsL_law0_r20 ++ (wsL_law0_r21 ++ (wsL_law0_r22 ++ (wsL_law0_r23 ++ (wsL_law0_r24 ++ (wsL_law0_r25 ++ (wsL_law0_r26 ++ (wsL_law0_r27 ++ (wsL_law0_r28 ++ (wsL_law0_r29 ++ (wsL_law0_r30 ++ (wsL_law0_r31 ++ (wsL_law0_r32 ++ (wsL_law0_r33 ++ (wsL_law0_r34 ++ (wsL_law0_r35 ++ (wsL_law0_r36 ++ (wsL_law0_r37 ++ (wsL_law0_r38 ++ (wsL_law0_r39 ++ (wsL_law0_r40 ++ (wsL_law0_r41 ++ (wsL_law0_r42 ++ (wsL_law0_r43 ++ (wsL_law0_r44 ++ (wsL_law0_r45 ++ (wsL_law0_r46 ++ (wsL_law0_r47 ++ (wsL_law0_r48 ++ (wsL_law0_r49 ++ (wsL_law0_r50 ++ (wsL_law0_r51 ++ (wsL_law0_r52 ++ (wsL_law0_r53 ++ (wsL_law0_r54 ++ (wsL_law0_r55 ++ (wsL_law0_r56 ++ (wsL_law0_r57 ++ (wsL_law0_r58 ++ (wsL_law0_r59 ++ (wsL_law0_r60 ++ (wsL_law0_r61 ++ (wsL_law0_r62 ++ (wsL_law0_r63 ++ (wsL_law0_r64 ++ (wsL_law0_r65 ++ (wsL_law0_r66 ++ (wsL_law0_r67 ++ (wsL_law0_r68 ++ (wsL_law0_r69 ++ (wsL_law0_r70 ++ (wsL_law0_r71 ++ (wsL_law0_r72 ++ (wsL_law0_r73 ++ (wsL_law0_r74 ++ (wsL_law0_r75 ++ (wsL_law0_r76 ++ (wsL_law0_r77 ++ (wsL_law0_r78 ++ (wsL_law0_r79 ++ (wsL_law0_r80 ++ (wsL_law0_r81 ++ (wsL_law0_r82 ++ wsL_law0_r83)))))))))))))))))))))))))))))))))))))))))))))))))))))))))))))))))))))))))))))))))) ++ wsX110 ++ wsX120 ++ wsX90 ++ wsX20 ++ wsX60 ++ wsX80 ++ wsX70 ++ wsX10 ++ wsX100 ++ wsX00 ++ wsX30 ++ wsX50 ++ wsX40 ++ wsJ40 ++ ([] : List Cond)
theorem inJx145de : ∀ w ∈ wsJx145de0, w ∈ lw_tbl := by decide +kernel
theorem inJx2cfe8 : ∀ w ∈ wsJx2cfe80, w ∈ lw_tbl := by decide +kernel
theorem inJx9f9b0 : ∀ w ∈ wsJx9f9b00, w ∈ lw_tbl := by decide +kernel
theorem inJx8e188 : ∀ w ∈ wsJx8e1880, w ∈ lw_tbl := by decide +kernel
theorem inJxb160c : ∀ w ∈ wsJxb160c0, w ∈ lw_tbl := by decide +kernel
theorem inJxfd54e : ∀ w ∈ wsJxfd54e0, w ∈ lw_tbl := by decide +kernel
theorem inJx3cf43 : ∀ w ∈ wsJx3cf430, w ∈ lw_tbl := by decide +kernel
abbrev vwCl : List vw_C := [(RJ4, TJ4, 4), (RX0, TX0, 5), (RX1, TX1, 6), (RX2, TX2, 5), (RX3, TX3, 5), (RX4, TX4, 5), (RX5, TX5, 5), (RX6, TX6, 15), (RX7, TX7, 9), (RX8, TX8, 9), (RX9, TX9, 13), (RX10, TX10, 4), (RX11, TX11, 20), (RX12, TX12, 60)]

def wsL_law : List Cond := wsL_law0 ++ (vx_at0 RX11 156 "java/util/NoSuchElementException" ["java/lang/RuntimeException", "java/lang/Exception"]).filter goodWord
theorem inR1 : ∀ w ∈ wsL_law0_r1, w ∈ wsL_law := fun _ h => List.mem_append_left _ (List.mem_append_left _ (List.mem_append_left _ (List.mem_append_left _ (List.mem_append_left _ (List.mem_append_left _ (List.mem_append_left _ (List.mem_append_left _ (List.mem_append_left _ (List.mem_append_left _ (List.mem_append_left _ (List.mem_append_left _ (List.mem_append_left _ (List.mem_append_left _ (List.mem_append_left _ (List.mem_append_left _ (List.mem_append_left _ h))))))))))))))))
theorem inR2 : ∀ w ∈ wsL_law0_r2, w ∈ wsL_law := fun _ h => List.mem_append_left _ (List.mem_append_left _ (List.mem_append_left _ (List.mem_append_left _ (List.mem_append_left _ (List.mem_append_left _ (List.mem_append_left _ (List.mem_append_left _ (List.mem_append_left _ (List.mem_append_left _ (List.mem_append_left _ (List.mem_append_left _ (List.mem_append_left _ (List.mem_append_left _ (List.mem_append_left _ (List.mem_append_left _ (List.mem_append_right _ (List.mem_append_left _ h)))))))))))))))))
theorem inR3 : ∀ w ∈ wsL_law0_r3, w ∈ wsL_law := fun _ h => List.mem_append_left _ (List.mem_append_left _ (List.mem_append_left _ (List.mem_append_left _ (List.mem_append_left _ (List.mem_append_left _ (List.mem_append_left _ (List.mem_append_left _ (List.mem_append_left _ (List.mem_append_left _ (List.mem_append_left _ (List.mem_append_left _ (List.mem_append_left _ (List.mem_append_left _ (List.mem_append_left _ (List.mem_append_left _ (List.mem_append_right _ (List.mem_append_right _ (List.mem_append_left _ h))))))))))))))))))
theorem inR4 : ∀ w ∈ wsL_law0_r4, w ∈ wsL_law := fun _ h => List.mem_append_left _ (List.mem_append_left _ (List.mem_append_left _ (List.mem_append_left _ (List.mem_append_left _ (List.mem_append_left _ (List.mem_append_left _ (List.mem_append_left _ (List.mem_append_left _ (List.mem_append_left _ (List.mem_append_left _ (List.mem_append_left _ (List.mem_append_left _ (List.mem_append_left _ (List.mem_append_left _ (List.mem_append_left _ (List.mem_append_right _ (List.mem_append_right _ (List.mem_append_right _ (List.mem_append_left _ h)))))))))))))))))))
theorem inR5 : ∀ w ∈ wsL_law0_r5, w ∈ wsL_law := fun _ h => List.mem_append_left _ (List.mem_append_left _ (List.mem_append_left _ (List.mem_append_left _ (List.mem_append_left _ (List.mem_append_left _ (List.mem_append_left _ (List.mem_append_left _ (List.mem_append_left _ (List.mem_append_left _ (List.mem_append_left _ (List.mem_append_left _ (List.mem_append_left _ (List.mem_append_left _ (List.mem_append_left _ (List.mem_append_left _ (List.mem_append_right _ (List.mem_append_right _ (List.mem_append_right _ (List.mem_append_right _ (List.mem_append_left _ h))))))))))))))))))))
theorem inR6 : ∀ w ∈ wsL_law0_r6, w ∈ wsL_law := fun _ h => List.mem_append_left _ (List.mem_append_left _ (List.mem_append_left _ (List.mem_append_left _ (List.mem_append_left _ (List.mem_append_left _ (List.mem_append_left _ (List.mem_append_left _ (List.mem_append_left _ (List.mem_append_left _ (List.mem_append_left _ (List.mem_append_left _ (List.mem_append_left _ (List.mem_append_left _ (List.mem_append_left _ (List.mem_append_left _ (List.mem_append_right _ (List.mem_append_right _ (List.mem_append_right _ (List.mem_append_right _ (List.mem_append_right _ (List.mem_append_left _ h)))))))))))))))))))))
theorem inR7 : ∀ w ∈ wsL_law0_r7, w ∈ wsL_law := fun _ h => List.mem_append_left _ (List.mem_append_left _ (List.mem_append_left _ (List.mem_append_left _ (List.mem_append_left _ (List.mem_append_left _ (List.mem_append_left _ (List.mem_append_left _ (List.mem_append_left _ (List.mem_append_left _ (List.mem_append_left _ (List.mem_append_left _ (List.mem_append_left _ (List.mem_append_left _ (List.mem_append_left _ (List.mem_append_left _ (List.mem_append_right _ (List.mem_append_right _ (List.mem_append_right _ (List.mem_append_right _ (List.mem_append_right _ (List.mem_append_right _ (List.mem_append_left _ h))))))))))))))))))))))
theorem inR8 : ∀ w ∈ wsL_law0_r8, w ∈ wsL_law := fun _ h => List.mem_append_left _ (List.mem_append_left _ (List.mem_append_left _ (List.mem_append_left _ (List.mem_append_left _ (List.mem_append_left _ (List.mem_append_left _ (List.mem_append_left _ (List.mem_append_left _ (List.mem_append_left _ (List.mem_append_left _ (List.mem_append_left _ (List.mem_append_left _ (List.mem_append_left _ (List.mem_append_left _ (List.mem_append_left _ (List.mem_append_right _ (List.mem_append_right _ (List.mem_append_right _ (List.mem_append_right _ (List.mem_append_right _ (List.mem_append_right _ (List.mem_append_right _ (List.mem_append_left _ h)))))))))))))))))))))))
theorem inR9 : ∀ w ∈ wsL_law0_r9, w ∈ wsL_law := fun _ h => List.mem_append_left _ (List.mem_append_left _ (List.mem_append_left _ (List.mem_append_left _ (List.mem_append_left _ (List.mem_append_left _ (List.mem_append_left _ (List.mem_append_left _ (List.mem_append_left _ (List.mem_append_left _ (List.mem_append_left _ (List.mem_append_left _ (List.mem_append_left _ (List.mem_append_left _ (List.mem_append_left _ (List.mem_append_left _ (List.mem_append_right _ (List.mem_append_right _ (List.mem_append_right _ (List.mem_append_right _ (List.mem_append_right _ (List.mem_append_right _ (List.mem_append_right _ (List.mem_append_right _ (List.mem_append_left _ h))))))))))))))))))))))))
theorem inR10 : ∀ w ∈ wsL_law0_r10, w ∈ wsL_law := fun _ h => List.mem_append_left _ (List.mem_append_left _ (List.mem_append_left _ (List.mem_append_left _ (List.mem_append_left _ (List.mem_append_left _ (List.mem_append_left _ (List.mem_append_left _ (List.mem_append_left _ (List.mem_append_left _ (List.mem_append_left _ (List.mem_append_left _ (List.mem_append_left _ (List.mem_append_left _ (List.mem_append_left _ (List.mem_append_left _ (List.mem_append_right _ (List.mem_append_right _ (List.mem_append_right _ (List.mem_append_right _ (List.mem_append_right _ (List.mem_append_right _ (List.mem_append_right _ (List.mem_append_right _ (List.mem_append_right _ (List.mem_append_left _ h)))))))))))))))))))))))))
theorem inR11 : ∀ w ∈ wsL_law0_r11, w ∈ wsL_law := fun _ h => List.mem_append_left _ (List.mem_append_left _ (List.mem_append_left _ (List.mem_append_left _ (List.mem_append_left _ (List.mem_append_left _ (List.mem_append_left _ (List.mem_append_left _ (List.mem_append_left _ (List.mem_append_left _ (List.mem_append_left _ (List.mem_append_left _ (List.mem_append_left _ (List.mem_append_left _ (List.mem_append_left _ (List.mem_append_left _ (List.mem_append_right _ (List.mem_append_right _ (List.mem_append_right _ (List.mem_append_right _ (List.mem_append_right _ (List.mem_append_right _ (List.mem_append_right _ (List.mem_append_right _ (List.mem_append_right _ (List.mem_append_right _ (List.mem_append_left _ h))))))))))))))))))))))))))
theorem inR12 : ∀ w ∈ wsL_law0_r12, w ∈ wsL_law := fun _ h => List.mem_append_left _ (List.mem_append_left _ (List.mem_append_left _ (List.mem_append_left _ (List.mem_append_left _ (List.mem_append_left _ (List.mem_append_left _ (List.mem_append_left _ (List.mem_append_left _ (List.mem_append_left _ (List.mem_append_left _ (List.mem_append_left _ (List.mem_append_left _ (List.mem_append_left _ (List.mem_append_left _ (List.mem_append_left _ (List.mem_append_right _ (List.mem_append_right _ (List.mem_append_right _ (List.mem_append_right _ (List.mem_append_right _ (List.mem_append_right _ (List.mem_append_right _ (List.mem_append_right _ (List.mem_append_right _ (List.mem_append_right _ (List.mem_append_right _ (List.mem_append_left _ h)))))))))))))))))))))))))))
theorem inR13 : ∀ w ∈ wsL_law0_r13, w ∈ wsL_law := fun _ h => List.mem_append_left _ (List.mem_append_left _ (List.mem_append_left _ (List.mem_append_left _ (List.mem_append_left _ (List.mem_append_left _ (List.mem_append_left _ (List.mem_append_left _ (List.mem_append_left _ (List.mem_append_left _ (List.mem_append_left _ (List.mem_append_left _ (List.mem_append_left _ (List.mem_append_left _ (List.mem_append_left _ (List.mem_append_left _ (List.mem_append_right _ (List.mem_append_right _ (List.mem_append_right _ (List.mem_append_right _ (List.mem_append_right _ (List.mem_append_right _ (List.mem_append_right _ (List.mem_append_right _ (List.mem_append_right _ (List.mem_append_right _ (List.mem_append_right _ (List.mem_append_right _ (List.mem_append_left _ h))))))))))))))))))))))))))))
theorem inR14 : ∀ w ∈ wsL_law0_r14, w ∈ wsL_law := fun _ h => List.mem_append_left _ (List.mem_append_left _ (List.mem_append_left _ (List.mem_append_left _ (List.mem_append_left _ (List.mem_append_left _ (List.mem_append_left _ (List.mem_append_left _ (List.mem_append_left _ (List.mem_append_left _ (List.mem_append_left _ (List.mem_append_left _ (List.mem_append_left _ (List.mem_append_left _ (List.mem_append_left _ (List.mem_append_left _ (List.mem_append_right _ (List.mem_append_right _ (List.mem_append_right _ (List.mem_append_right _ (List.mem_append_right _ (List.mem_append_right _ (List.mem_append_right _ (List.mem_append_right _ (List.mem_append_right _ (List.mem_append_right _ (List.mem_append_right _ (List.mem_append_right _ (List.mem_append_right _ (List.mem_append_left _ h)))))))))))))))))))))))))))))
theorem inR15 : ∀ w ∈ wsL_law0_r15, w ∈ wsL_law := fun _ h => List.mem_append_left _ (List.mem_append_left _ (List.mem_append_left _ (List.mem_append_left _ (List.mem_append_left _ (List.mem_append_left _ (List.mem_append_left _ (List.mem_append_left _ (List.mem_append_left _ (List.mem_append_left _ (List.mem_append_left _ (List.mem_append_left _ (List.mem_append_left _ (List.mem_append_left _ (List.mem_append_left _ (List.mem_append_left _ (List.mem_append_right _ (List.mem_append_right _ (List.mem_append_right _ (List.mem_append_right _ (List.mem_append_right _ (List.mem_append_right _ (List.mem_append_right _ (List.mem_append_right _ (List.mem_append_right _ (List.mem_append_right _ (List.mem_append_right _ (List.mem_append_right _ (List.mem_append_right _ (List.mem_append_right _ (List.mem_append_left _ h))))))))))))))))))))))))))))))
theorem inR16 : ∀ w ∈ wsL_law0_r16, w ∈ wsL_law := fun _ h => List.mem_append_left _ (List.mem_append_left _ (List.mem_append_left _ (List.mem_append_left _ (List.mem_append_left _ (List.mem_append_left _ (List.mem_append_left _ (List.mem_append_left _ (List.mem_append_left _ (List.mem_append_left _ (List.mem_append_left _ (List.mem_append_left _ (List.mem_append_left _ (List.mem_append_left _ (List.mem_append_left _ (List.mem_append_left _ (List.mem_append_right _ (List.mem_append_right _ (List.mem_append_right _ (List.mem_append_right _ (List.mem_append_right _ (List.mem_append_right _ (List.mem_append_right _ (List.mem_append_right _ (List.mem_append_right _ (List.mem_append_right _ (List.mem_append_right _ (List.mem_append_right _ (List.mem_append_right _ (List.mem_append_right _ (List.mem_append_right _ (List.mem_append_left _ h)))))))))))))))))))))))))))))))
theorem inR17 : ∀ w ∈ wsL_law0_r17, w ∈ wsL_law := fun _ h => List.mem_append_left _ (List.mem_append_left _ (List.mem_append_left _ (List.mem_append_left _ (List.mem_append_left _ (List.mem_append_left _ (List.mem_append_left _ (List.mem_append_left _ (List.mem_append_left _ (List.mem_append_left _ (List.mem_append_left _ (List.mem_append_left _ (List.mem_append_left _ (List.mem_append_left _ (List.mem_append_left _ (List.mem_append_left _ (List.mem_append_right _ (List.mem_append_right _ (List.mem_append_right _ (List.mem_append_right _ (List.mem_append_right _ (List.mem_append_right _ (List.mem_append_right _ (List.mem_append_right _ (List.mem_append_right _ (List.mem_append_right _ (List.mem_append_right _ (List.mem_append_right _ (List.mem_append_right _ (List.mem_append_right _ (List.mem_append_right _ (List.mem_append_right _ (List.mem_append_left _ h))))))))))))))))))))))))))))))))
theorem inR18 : ∀ w ∈ wsL_law0_r18, w ∈ wsL_law := fun _ h => List.mem_append_left _ (List.mem_append_left _ (List.mem_append_left _ (List.mem_append_left _ (List.mem_append_left _ (List.mem_append_left _ (List.mem_append_left _ (List.mem_append_left _ (List.mem_append_left _ (List.mem_append_left _ (List.mem_append_left _ (List.mem_append_left _ (List.mem_append_left _ (List.mem_append_left _ (List.mem_append_left _ (List.mem_append_left _ (List.mem_append_right _ (List.mem_append_right _ (List.mem_append_right _ (List.mem_append_right _ (List.mem_append_right _ (List.mem_append_right _ (List.mem_append_right _ (List.mem_append_right _ (List.mem_append_right _ (List.mem_append_right _ (List.mem_append_right _ (List.mem_append_right _ (List.mem_append_right _ (List.mem_append_right _ (List.mem_append_right _ (List.mem_append_right _ (List.mem_append_right _ (List.mem_append_left _ h)))))))))))))))))))))))))))))))))
theorem inR19 : ∀ w ∈ wsL_law0_r19, w ∈ wsL_law := fun _ h => List.mem_append_left _ (List.mem_append_left _ (List.mem_append_left _ (List.mem_append_left _ (List.mem_append_left _ (List.mem_append_left _ (List.mem_append_left _ (List.mem_append_left _ (List.mem_append_left _ (List.mem_append_left _ (List.mem_append_left _ (List.mem_append_left _ (List.mem_append_left _ (List.mem_append_left _ (List.mem_append_left _ (List.mem_append_left _ (List.mem_append_right _ (List.mem_append_right _ (List.mem_append_right _ (List.mem_append_right _ (List.mem_append_right _ (List.mem_append_right _ (List.mem_append_right _ (List.mem_append_right _ (List.mem_append_right _ (List.mem_append_right _ (List.mem_append_right _ (List.mem_append_right _ (List.mem_append_right _ (List.mem_append_right _ (List.mem_append_right _ (List.mem_append_right _ (List.mem_append_right _ (List.mem_append_right _ (List.mem_append_left _ h))))))))))))))))))))))))))))))))))
theorem inR20 : ∀ w ∈ wsL_law0_r20, w ∈ wsL_law := fun _ h => List.mem_append_left _ (List.mem_append_left _ (List.mem_append_left _ (List.mem_append_left _ (List.mem_append_left _ (List.mem_append_left _ (List.mem_append_left _ (List.mem_append_left _ (List.mem_append_left _ (List.mem_append_left _ (List.mem_append_left _ (List.mem_append_left _ (List.mem_append_left _ (List.mem_append_left _ (List.mem_append_left _ (List.mem_append_left _ (List.mem_append_right _ (List.mem_append_right _ (List.mem_append_right _ (List.mem_append_right _ (List.mem_append_right _ (List.mem_append_right _ (List.mem_append_right _ (List.mem_append_right _ (List.mem_append_right _ (List.mem_append_right _ (List.mem_append_right _ (List.mem_append_right _ (List.mem_append_right _ (List.mem_append_right _ (List.mem_append_right _ (List.mem_append_right _ (List.mem_append_right _ (List.mem_append_right _ (List.mem_append_right _ (List.mem_append_left _ h)))))))))))))))))))))))))))))))))))
theorem inR21 : ∀ w ∈ wsL_law0_r21, w ∈ wsL_law := fun _ h => List.mem_append_left _ (List.mem_append_left _ (List.mem_append_left _ (List.mem_append_left _ (List.mem_append_left _ (List.mem_append_left _ (List.mem_append_left _ (List.mem_append_left _ (List.mem_append_left _ (List.mem_append_left _ (List.mem_append_left _ (List.mem_append_left _ (List.mem_append_left _ (List.mem_append_left _ (List.mem_append_left _ (List.mem_append_left _ (List.mem_append_right _ (List.mem_append_right _ (List.mem_append_right _ (List.mem_append_right _ (List.mem_append_right _ (List.mem_append_right _ (List.mem_append_right _ (List.mem_append_right _ (List.mem_append_right _ (List.mem_append_right _ (List.mem_append_right _ (List.mem_append_right _ (List.mem_append_right _ (List.mem_append_right _ (List.mem_append_right _ (List.mem_append_right _ (List.mem_append_right _ (List.mem_append_right _ (List.mem_append_right _ (List.mem_append_right _ (List.mem_append_left _ h))))))))))))))))))))))))))))))))))))
theorem inR22 : ∀ w ∈ wsL_law0_r22, w ∈ wsL_law := fun _ h => List.mem_append_left _ (List.mem_append_left _ (List.mem_append_left _ (List.mem_append_left _ (List.mem_append_left _ (List.mem_append_left _ (List.mem_append_left _ (List.mem_append_left _ (List.mem_append_left _ (List.mem_append_left _ (List.mem_append_left _ (List.mem_append_left _ (List.mem_append_left _ (List.mem_append_left _ (List.mem_append_left _ (List.mem_append_left _ (List.mem_append_right _ (List.mem_append_right _ (List.mem_append_right _ (List.mem_append_right _ (List.mem_append_right _ (List.mem_append_right _ (List.mem_append_right _ (List.mem_append_right _ (List.mem_append_right _ (List.mem_append_right _ (List.mem_append_right _ (List.mem_append_right _ (List.mem_append_right _ (List.mem_append_right _ (List.mem_append_right _ (List.mem_append_right _ (List.mem_append_right _ (List.mem_append_right _ (List.mem_append_right _ (List.mem_append_right _ (List.mem_append_right _ (List.mem_append_left _ h)))))))))))))))))))))))))))))))))))))
theorem inR23 : ∀ w ∈ wsL_law0_r23, w ∈ wsL_law := fun _ h => List.mem_append_left _ (List.mem_append_left _ (List.mem_append_left _ (List.mem_append_left _ (List.mem_append_left _ (List.mem_append_left _ (List.mem_append_left _ (List.mem_append_left _ (List.mem_append_left _ (List.mem_append_left _ (List.mem_append_left _ (List.mem_append_left _ (List.mem_append_left _ (List.mem_append_left _ (List.mem_append_left _ (List.mem_append_left _ (List.mem_append_right _ (List.mem_append_right _ (List.mem_append_right _ (List.mem_append_right _ (List.mem_append_right _ (List.mem_append_right _ (List.mem_append_right _ (List.mem_append_right _ (List.mem_append_right _ (List.mem_append_right _ (List.mem_append_right _ (List.mem_append_right _ (List.mem_append_right _ (List.mem_append_right _ (List.mem_append_right _ (List.mem_append_right _ (List.mem_append_right _ (List.mem_append_right _ (List.mem_append_right _ (List.mem_append_right _ (List.mem_append_right _ (List.mem_append_right _ (List.mem_append_left _ h))))))))))))))))))))))))))))))))))))))
theorem inR24 : ∀ w ∈ wsL_law0_r24, w ∈ wsL_law := fun _ h => List.mem_append_left _ (List.mem_append_left _ (List.mem_append_left _ (List.mem_append_left _ (List.mem_append_left _ (List.mem_append_left _ (List.mem_append_left _ (List.mem_append_left _ (List.mem_append_left _ (List.mem_append_left _ (List.mem_append_left _ (List.mem_append_left _ (List.mem_append_left _ (List.mem_append_left _ (List.mem_append_left _ (List.mem_append_left _ (List.mem_append_right _ (List.mem_append_right _ (List.mem_append_right _ (List.mem_append_right _ (List.mem_append_right _ (List.mem_append_right _ (List.mem_append_right _ (List.mem_append_right _ (List.mem_append_right _ (List.mem_append_right _ (List.mem_append_right _ (List.mem_append_right _ (List.mem_append_right _ (List.mem_append_right _ (List.mem_append_right _ (List.mem_append_right _ (List.mem_append_right _ (List.mem_append_right _ (List.mem_append_right _ (List.mem_append_right _ (List.mem_append_right _ (List.mem_append_right _ (List.mem_append_right _ (List.mem_append_left _ h)))))))))))))))))))))))))))))))))))))))
theorem inR25 : ∀ w ∈ wsL_law0_r25, w ∈ wsL_law := fun _ h => List.mem_append_left _ (List.mem_append_left _ (List.mem_append_left _ (List.mem_append_left _ (List.mem_append_left _ (List.mem_append_left _ (List.mem_append_left _ (List.mem_append_left _ (List.mem_append_left _ (List.mem_append_left _ (List.mem_append_left _ (List.mem_append_left _ (List.mem_append_left _ (List.mem_append_left _ (List.mem_append_left _ (List.mem_append_left _ (List.mem_append_right _ (List.mem_append_right _ (List.mem_append_right _ (List.mem_append_right _ (List.mem_append_right _ (List.mem_append_right _ (List.mem_append_right _ (List.mem_append_right _ (List.mem_append_right _ (List.mem_append_right _ (List.mem_append_right _ (List.mem_append_right _ (List.mem_append_right _ (List.mem_append_right _ (List.mem_append_right _ (List.mem_append_right _ (List.mem_append_right _ (List.mem_append_right _ (List.mem_append_right _ (List.mem_append_right _ (List.mem_append_right _ (List.mem_append_right _ (List.mem_append_right _ (List.mem_append_right _ (List.mem_append_left _ h))))))))))))))))))))))))))))))))))))))))
theorem inR26 : ∀ w ∈ wsL_law0_r26, w ∈ wsL_law := fun _ h => List.mem_append_left _ (List.mem_append_left _ (List.mem_append_left _ (List.mem_append_left _ (List.mem_append_left _ (List.mem_append_left _ (List.mem_append_left _ (List.mem_append_left _ (List.mem_append_left _ (List.mem_append_left _ (List.mem_append_left _ (List.mem_append_left _ (List.mem_append_left _ (List.mem_append_left _ (List.mem_append_left _ (List.mem_append_left _ (List.mem_append_right _ (List.mem_append_right _ (List.mem_append_right _ (List.mem_append_right _ (List.mem_append_right _ (List.mem_append_right _ (List.mem_append_right _ (List.mem_append_right _ (List.mem_append_right _ (List.mem_append_right _ (List.mem_append_right _ (List.mem_append_right _ (List.mem_append_right _ (List.mem_append_right _ (List.mem_append_right _ (List.mem_append_right _ (List.mem_append_right _ (List.mem_append_right _ (List.mem_append_right _ (List.mem_append_right _ (List.mem_append_right _ (List.mem_append_right _ (List.mem_append_right _ (List.mem_append_right _ (List.mem_append_right _ (List.mem_append_left _ h)))))))))))))))))))))))))))))))))))))))))
theorem inR27 : ∀ w ∈ wsL_law0_r27, w ∈ wsL_law := fun _ h => List.mem_append_left _ (List.mem_append_left _ (List.mem_append_left _ (List.mem_append_left _ (List.mem_append_left _ (List.mem_append_left _ (List.mem_append_left _ (List.mem_append_left _ (List.mem_append_left _ (List.mem_append_left _ (List.mem_append_left _ (List.mem_append_left _ (List.mem_append_left _ (List.mem_append_left _ (List.mem_append_left _ (List.mem_append_left _ (List.mem_append_right _ (List.mem_append_right _ (List.mem_append_right _ (List.mem_append_right _ (List.mem_append_right _ (List.mem_append_right _ (List.mem_append_right _ (List.mem_append_right _ (List.mem_append_right _ (List.mem_append_right _ (List.mem_append_right _ (List.mem_append_right _ (List.mem_append_right _ (List.mem_append_right _ (List.mem_append_right _ (List.mem_append_right _ (List.mem_append_right _ (List.mem_append_right _ (List.mem_append_right _ (List.mem_append_right _ (List.mem_append_right _ (List.mem_append_right _ (List.mem_append_right _ (List.mem_append_right _ (List.mem_append_right _ (List.mem_append_right _ (List.mem_append_left _ h))))))))))))))))))))))))))))))))))))))))))
theorem inR28 : ∀ w ∈ wsL_law0_r28, w ∈ wsL_law := fun _ h => List.mem_append_left _ (List.mem_append_left _ (List.mem_append_left _ (List.mem_append_left _ (List.mem_append_left _ (List.mem_append_left _ (List.mem_append_left _ (List.mem_append_left _ (List.mem_append_left _ (List.mem_append_left _ (List.mem_append_left _ (List.mem_append_left _ (List.mem_append_left _ (List.mem_append_left _ (List.mem_append_left _ (List.mem_append_left _ (List.mem_append_right _ (List.mem_append_right _ (List.mem_append_right _ (List.mem_append_right _ (List.mem_append_right _ (List.mem_append_right _ (List.mem_append_right _ (List.mem_append_right _ (List.mem_append_right _ (List.mem_append_right _ (List.mem_append_right _ (List.mem_append_right _ (List.mem_append_right _ (List.mem_append_right _ (List.mem_append_right _ (List.mem_append_right _ (List.mem_append_right _ (List.mem_append_right _ (List.mem_append_right _ (List.mem_append_right _ (List.mem_append_right _ (List.mem_append_right _ (List.mem_append_right _ (List.mem_append_right _ (List.mem_append_right _ (List.mem_append_right _ (List.mem_append_right _ (List.mem_append_left _ h)))))))))))))))))))))))))))))))))))))))))))
theorem inR29 : ∀ w ∈ wsL_law0_r29, w ∈ wsL_law := fun _ h => List.mem_append_left _ (List.mem_append_left _ (List.mem_append_left _ (List.mem_append_left _ (List.mem_append_left _ (List.mem_append_left _ (List.mem_append_left _ (List.mem_append_left _ (List.mem_append_left _ (List.mem_append_left _ (List.mem_append_left _ (List.mem_append_left _ (List.mem_append_left _ (List.mem_append_left _ (List.mem_append_left _ (List.mem_append_left _ (List.mem_append_right _ (List.mem_append_right _ (List.mem_append_right _ (List.mem_append_right _ (List.mem_append_right _ (List.mem_append_right _ (List.mem_append_right _ (List.mem_append_right _ (List.mem_append_right _ (List.mem_append_right _ (List.mem_append_right _ (List.mem_append_right _ (List.mem_append_right _ (List.mem_append_right _ (List.mem_append_right _ (List.mem_append_right _ (List.mem_append_right _ (List.mem_append_right _ (List.mem_append_right _ (List.mem_append_right _ (List.mem_append_right _ (List.mem_append_right _ (List.mem_append_right _ (List.mem_append_right _ (List.mem_append_right _ (List.mem_append_right _ (List.mem_append_right _ (List.mem_append_right _ (List.mem_append_left _ h))))))))))))))))))))))))))))))))))))))))))))
theorem inR30 : ∀ w ∈ wsL_law0_r30, w ∈ wsL_law := fun _ h => List.mem_append_left _ (List.mem_append_left _ (List.mem_append_left _ (List.mem_append_left _ (List.mem_append_left _ (List.mem_append_left _ (List.mem_append_left _ (List.mem_append_left _ (List.mem_append_left _ (List.mem_append_left _ (List.mem_append_left _ (List.mem_append_left _ (List.mem_append_left _ (List.mem_append_left _ (List.mem_append_left _ (List.mem_append_left _ (List.mem_append_right _ (List.mem_append_right _ (List.mem_append_right _ (List.mem_append_right _ (List.mem_append_right _ (List.mem_append_right _ (List.mem_append_right _ (List.mem_append_right _ (List.mem_append_right _ (List.mem_append_right _ (List.mem_append_right _ (List.mem_append_right _ (List.mem_append_right _ (List.mem_append_right _ (List.mem_append_right _ (List.mem_append_right _ (List.mem_append_right _ (List.mem_append_right _ (List.mem_append_right _ (List.mem_append_right _ (List.mem_append_right _ (List.mem_append_right _ (List.mem_append_right _ (List.mem_append_right _ (List.mem_append_right _ (List.mem_append_right _ (List.mem_append_right _ (List.mem_append_right _ (List.mem_append_right _ (List.mem_append_left _ h)))))))))))))))))))))))))))))))))))))))))))))
theorem inR31 : ∀ w ∈ wsL_law0_r31, w ∈ wsL_law := fun _ h => List.mem_append_left _ (List.mem_append_left _ (List.mem_append_left _ (List.mem_append_left _ (List.mem_append_left _ (List.mem_append_left _ (List.mem_append_left _ (List.mem_append_left _ (List.mem_append_left _ (List.mem_append_left _ (List.mem_append_left _ (List.mem_append_left _ (List.mem_append_left _ (List.mem_append_left _ (List.mem_append_left _ (List.mem_append_left _ (List.mem_append_right _ (List.mem_append_right _ (List.mem_append_right _ (List.mem_append_right _ (List.mem_append_right _ (List.mem_append_right _ (List.mem_append_right _ (List.mem_append_right _ (List.mem_append_right _ (List.mem_append_right _ (List.mem_append_right _ (List.mem_append_right _ (List.mem_append_right _ (List.mem_append_right _ (List.mem_append_right _ (List.mem_append_right _ (List.mem_append_right _ (List.mem_append_right _ (List.mem_append_right _ (List.mem_append_right _ (List.mem_append_right _ (List.mem_append_right _ (List.mem_append_right _ (List.mem_append_right _ (List.mem_append_right _ (List.mem_append_right _ (List.mem_append_right _ (List.mem_append_right _ (List.mem_append_right _ (List.mem_append_right _ (List.mem_append_left _ h))))))))))))))))))))))))))))))))))))))))))))))
theorem inR32 : ∀ w ∈ wsL_law0_r32, w ∈ wsL_law := fun _ h => List.mem_append_left _ (List.mem_append_left _ (List.mem_append_left _ (List.mem_append_left _ (List.mem_append_left _ (List.mem_append_left _ (List.mem_append_left _ (List.mem_append_left _ (List.mem_append_left _ (List.mem_append_left _ (List.mem_append_left _ (List.mem_append_left _ (List.mem_append_left _ (List.mem_append_left _ (List.mem_append_left _ (List.mem_append_left _ (List.mem_append_right _ (List.mem_append_right _ (List.mem_append_right _ (List.mem_append_right _ (List.mem_append_right _ (List.mem_append_right _ (List.mem_append_right _ (List.mem_append_right _ (List.mem_append_right _ (List.mem_append_right _ (List.mem_append_right _ (List.mem_append_right _ (List.mem_append_right _ (List.mem_append_right _ (List.mem_append_right _ (List.mem_append_right _ (List.mem_append_right _ (List.mem_append_right _ (List.mem_append_right _ (List.mem_append_right _ (List.mem_append_right _ (List.mem_append_right _ (List.mem_append_right _ (List.mem_append_right _ (List.mem_append_right _ (List.mem_append_right _ (List.mem_append_right _ (List.mem_append_right _ (List.mem_append_right _ (List.mem_append_right _ (List.mem_append_right _ (List.mem_append_left _ h)))))))))))))))))))))))))))))))))))))))))))))))
theorem inR33 : ∀ w ∈ wsL_law0_r33, w ∈ wsL_law := fun _ h => List.mem_append_left _ (List.mem_append_left _ (List.mem_append_left _ (List.mem_append_left _ (List.mem_append_left _ (List.mem_append_left _ (List.mem_append_left _ (List.mem_append_left _ (List.mem_append_left _ (List.mem_append_left _ (List.mem_append_left _ (List.mem_append_left _ (List.mem_append_left _ (List.mem_append_left _ (List.mem_append_left _ (List.mem_append_left _ (List.mem_append_right _ (List.mem_append_right _ (List.mem_append_right _ (List.mem_append_right _ (List.mem_append_right _ (List.mem_append_right _ (List.mem_append_right _ (List.mem_append_right _ (List.mem_append_right _ (List.mem_append_right _ (List.mem_append_right _ (List.mem_append_right _ (List.mem_append_right _ (List.mem_append_right _ (List.mem_append_right _ (List.mem_append_right _ (List.mem_append_right _ (List.mem_append_right _ (List.mem_append_right _ (List.mem_append_right _ (List.mem_append_right _ (List.mem_append_right _ (List.mem_append_right _ (List.mem_append_right _ (List.mem_append_right _ (List.mem_append_right _ (List.mem_append_right _ (List.mem_append_right _ (List.mem_append_right _ (List.mem_append_right _ (List.mem_append_right _ (List.mem_append_right _ (List.mem_append_left _ h))))))))))))))))))))))))))))))))))))))))))))))))
theorem inR34 : ∀ w ∈ wsL_law0_r34, w ∈ wsL_law := fun _ h => List.mem_append_left _ (List.mem_append_left _ (List.mem_append_left _ (List.mem_append_left _ (List.mem_append_left _ (List.mem_append_left _ (List.mem_append_left _ (List.mem_append_left _ (List.mem_append_left _ (List.mem_append_left _ (List.mem_append_left _ (List.mem_append_left _ (List.mem_append_left _ (List.mem_append_left _ (List.mem_append_left _ (List.mem_append_left _ (List.mem_append_right _ (List.mem_append_right _ (List.mem_append_right _ (List.mem_append_right _ (List.mem_append_right _ (List.mem_append_right _ (List.mem_append_right _ (List.mem_append_right _ (List.mem_append_right _ (List.mem_append_right _ (List.mem_append_right _ (List.mem_append_right _ (List.mem_append_right _ (List.mem_append_right _ (List.mem_append_right _ (List.mem_append_right _ (List.mem_append_right _ (List.mem_append_right _ (List.mem_append_right _ (List.mem_append_right _ (List.mem_append_right _ (List.mem_append_right _ (List.mem_append_right _ (List.mem_append_right _ (List.mem_append_right _ (List.mem_append_right _ (List.mem_append_right _ (List.mem_append_right _ (List.mem_append_right _ (List.mem_append_right _ (List.mem_append_right _ (List.mem_append_right _ (List.mem_append_right _ (List.mem_append_left _ h)))))))))))))))))))))))))))))))))))))))))))))))))
theorem inR35 : ∀ w ∈ wsL_law0_r35, w ∈ wsL_law := fun _ h => List.mem_append_left _ (List.mem_append_left _ (List.mem_append_left _ (List.mem_append_left _ (List.mem_append_left _ (List.mem_append_left _ (List.mem_append_left _ (List.mem_append_left _ (List.mem_append_left _ (List.mem_append_left _ (List.mem_append_left _ (List.mem_append_left _ (List.mem_append_left _ (List.mem_append_left _ (List.mem_append_left _ (List.mem_append_left _ (List.mem_append_right _ (List.mem_append_right _ (List.mem_append_right _ (List.mem_append_right _ (List.mem_append_right _ (List.mem_append_right _ (List.mem_append_right _ (List.mem_append_right _ (List.mem_append_right _ (List.mem_append_right _ (List.mem_append_right _ (List.mem_append_right _ (List.mem_append_right _ (List.mem_append_right _ (List.mem_append_right _ (List.mem_append_right _ (List.mem_append_right _ (List.mem_append_right _ (List.mem_append_right _ (List.mem_append_right _ (List.mem_append_right _ (List.mem_append_right _ (List.mem_append_right _ (List.mem_append_right _ (List.mem_append_right _ (List.mem_append_right _ (List.mem_append_right _ (List.mem_append_right _ (List.mem_append_right _ (List.mem_append_right _ (List.mem_append_right _ (List.mem_append_right _ (List.mem_append_right _ (List.mem_append_right _ (List.mem_append_left _ h))))))))))))))))))))))))))))))))))))))))))))))))))
theorem inR36 : ∀ w ∈ wsL_law0_r36, w ∈ wsL_law := fun _ h => List.mem_append_left _ (List.mem_append_left _ (List.mem_append_left _ (List.mem_append_left _ (List.mem_append_left _ (List.mem_append_left _ (List.mem_append_left _ (List.mem_append_left _ (List.mem_append_left _ (List.mem_append_left _ (List.mem_append_left _ (List.mem_append_left _ (List.mem_append_left _ (List.mem_append_left _ (List.mem_append_left _ (List.mem_append_left _ (List.mem_append_right _ (List.mem_append_right _ (List.mem_append_right _ (List.mem_append_right _ (List.mem_append_right _ (List.mem_append_right _ (List.mem_append_right _ (List.mem_append_right _ (List.mem_append_right _ (List.mem_append_right _ (List.mem_append_right _ (List.mem_append_right _ (List.mem_append_right _ (List.mem_append_right _ (List.mem_append_right _ (List.mem_append_right _ (List.mem_append_right _ (List.mem_append_right _ (List.mem_append_right _ (List.mem_append_right _ (List.mem_append_right _ (List.mem_append_right _ (List.mem_append_right _ (List.mem_append_right _ (List.mem_append_right _ (List.mem_append_right _ (List.mem_append_right _ (List.mem_append_right _ (List.mem_append_right _ (List.mem_append_right _ (List.mem_append_right _ (List.mem_append_right _ (List.mem_append_right _ (List.mem_append_right _ (List.mem_append_right _ (List.mem_append_left _ h)))))))))))))))))))))))))))))))))))))))))))))))))))
theorem inR37 : ∀ w ∈ wsL_law0_r37, w ∈ wsL_law := fun _ h => List.mem_append_left _ (List.mem_append_left _ (List.mem_append_left _ (List.mem_append_left _ (List.mem_append_left _ (List.mem_append_left _ (List.mem_append_left _ (List.mem_append_left _ (List.mem_append_left _ (List.mem_append_left _ (List.mem_append_left _ (List.mem_append_left _ (List.mem_append_left _ (List.mem_append_left _ (List.mem_append_left _ (List.mem_append_left _ (List.mem_append_right _ (List.mem_append_right _ (List.mem_append_right _ (List.mem_append_right _ (List.mem_append_right _ (List.mem_append_right _ (List.mem_append_right _ (List.mem_append_right _ (List.mem_append_right _ (List.mem_append_right _ (List.mem_append_right _ (List.mem_append_right _ (List.mem_append_right _ (List.mem_append_right _ (List.mem_append_right _ (List.mem_append_right _ (List.mem_append_right _ (List.mem_append_right _ (List.mem_append_right _ (List.mem_append_right _ (List.mem_append_right _ (List.mem_append_right _ (List.mem_append_right _ (List.mem_append_right _ (List.mem_append_right _ (List.mem_append_right _ (List.mem_append_right _ (List.mem_append_right _ (List.mem_append_right _ (List.mem_append_right _ (List.mem_append_right _ (List.mem_append_right _ (List.mem_append_right _ (List.mem_append_right _ (List.mem_append_right _ (List.mem_append_right _ (List.mem_append_left _ h))))))))))))))))))))))))))))))))))))))))))))))))))))
theorem inR38 : ∀ w ∈ wsL_law0_r38, w ∈ wsL_law := fun _ h => List.mem_append_left _ (List.mem_append_left _ (List.mem_append_left _ (List.mem_append_left _ (List.mem_append_left _ (List.mem_append_left _ (List.mem_append_left _ (List.mem_append_left _ (List.mem_append_left _ (List.mem_append_left _ (List.mem_append_left _ (List.mem_append_left _ (List.mem_append_left _ (List.mem_append_left _ (List.mem_append_left _ (List.mem_append_left _ (List.mem_append_right _ (List.mem_append_right _ (List.mem_append_right _ (List.mem_append_right _ (List.mem_append_right _ (List.mem_append_right _ (List.mem_append_right _ (List.mem_append_right _ (List.mem_append_right _ (List.mem_append_right _ (List.mem_append_right _ (List.mem_append_right _ (List.mem_append_right _ (List.mem_append_right _ (List.mem_append_right _ (List.mem_append_right _ (List.mem_append_right _ (List.mem_append_right _ (List.mem_append_right _ (List.mem_append_right _ (List.mem_append_right _ (List.mem_append_right _ (List.mem_append_right _ (List.mem_append_right _ (List.mem_append_right _ (List.mem_append_right _ (List.mem_append_right _ (List.mem_append_right _ (List.mem_append_right _ (List.mem_append_right _ (List.mem_append_right _ (List.mem_append_right _ (List.mem_append_right _ (List.mem_append_right _ (List.mem_append_right _ (List.mem_append_right _ (List.mem_append_right _ (List.mem_append_left _ h)))))))))))))))))))))))))))))))))))))))))))))))))))))
theorem inR39 : ∀ w ∈ wsL_law0_r39, w ∈ wsL_law := fun _ h => List.mem_append_left _ (List.mem_append_left _ (List.mem_append_left _ (List.mem_append_left _ (List.mem_append_left _ (List.mem_append_left _ (List.mem_append_left _ (List.mem_append_left _ (List.mem_append_left _ (List.mem_append_left _ (List.mem_append_left _ (List.mem_append_left _ (List.mem_append_left _ (List.mem_append_left _ (List.mem_append_left _ (List.mem_append_left _ (List.mem_append_right _ (List.mem_append_right _ (List.mem_append_right _ (List.mem_append_right _ (List.mem_append_right _ (List.mem_append_right _ (List.mem_append_right _ (List.mem_append_right _ (List.mem_append_right _ (List.mem_append_right _ (List.mem_append_right _ (List.mem_append_right _ (List.mem_append_right _ (List.mem_append_right _ (List.mem_append_right _ (List.mem_append_right _ (List.mem_append_right _ (List.mem_append_right _ (List.mem_append_right _ (List.mem_append_right _ (List.mem_append_right _ (List.mem_append_right _ (List.mem_append_right _ (List.mem_append_right _ (List.mem_append_right _ (List.mem_append_right _ (List.mem_append_right _ (List.mem_append_right _ (List.mem_append_right _ (List.mem_append_right _ (List.mem_append_right _ (List.mem_append_right _ (List.mem_append_right _ (List.mem_append_right _ (List.mem_append_right _ (List.mem_append_right _ (List.mem_append_right _ (List.mem_append_right _ (List.mem_append_left _ h))))))))))))))))))))))))))))))))))))))))))))))))))))))
theorem inR40 : ∀ w ∈ wsL_law0_r40, w ∈ wsL_law := fun _ h => List.mem_append_left _ (List.mem_append_left _ (List.mem_append_left _ (List.mem_append_left _ (List.mem_append_left _ (List.mem_append_left _ (List.mem_append_left _ (List.mem_append_left _ (List.mem_append_left _ (List.mem_append_left _ (List.mem_append_left _ (List.mem_append_left _ (List.mem_append_left _ (List.mem_append_left _ (List.mem_append_left _ (List.mem_append_left _ (List.mem_append_right _ (List.mem_append_right _ (List.mem_append_right _ (List.mem_append_right _ (List.mem_append_right _ (List.mem_append_right _ (List.mem_append_right _ (List.mem_append_right _ (List.mem_append_right _ (List.mem_append_right _ (List.mem_append_right _ (List.mem_append_right _ (List.mem_append_right _ (List.mem_append_right _ (List.mem_append_right _ (List.mem_append_right _ (List.mem_append_right _ (List.mem_append_right _ (List.mem_append_right _ (List.mem_append_right _ (List.mem_append_right _ (List.mem_append_right _ (List.mem_append_right _ (List.mem_append_right _ (List.mem_append_right _ (List.mem_append_right _ (List.mem_append_right _ (List.mem_append_right _ (List.mem_append_right _ (List.mem_append_right _ (List.mem_append_right _ (List.mem_append_right _ (List.mem_append_right _ (List.mem_append_right _ (List.mem_append_right _ (List.mem_append_right _ (List.mem_append_right _ (List.mem_append_right _ (List.mem_append_right _ (List.mem_append_left _ h)))))))))))))))))))))))))))))))))))))))))))))))))))))))
theorem inR41 : ∀ w ∈ wsL_law0_r41, w ∈ wsL_law := fun _ h => List.mem_append_left _ (List.mem_append_left _ (List.mem_append_left _ (List.mem_append_left _ (List.mem_append_left _ (List.mem_append_left _ (List.mem_append_left _ (List.mem_append_left _ (List.mem_append_left _ (List.mem_append_left _ (List.mem_append_left _ (List.mem_append_left _ (List.mem_append_left _ (List.mem_append_left _ (List.mem_append_left _ (List.mem_append_left _ (List.mem_append_right _ (List.mem_append_right _ (List.mem_append_right _ (List.mem_append_right _ (List.mem_append_right _ (List.mem_append_right _ (List.mem_append_right _ (List.mem_append_right _ (List.mem_append_right _ (List.mem_append_right _ (List.mem_append_right _ (List.mem_append_right _ (List.mem_append_right _ (List.mem_append_right _ (List.mem_append_right _ (List.mem_append_right _ (List.mem_append_right _ (List.mem_append_right _ (List.mem_append_right _ (List.mem_append_right _ (List.mem_append_right _ (List.mem_append_right _ (List.mem_append_right _ (List.mem_append_right _ (List.mem_append_right _ (List.mem_append_right _ (List.mem_append_right _ (List.mem_append_right _ (List.mem_append_right _ (List.mem_append_right _ (List.mem_append_right _ (List.mem_append_right _ (List.mem_append_right _ (List.mem_append_right _ (List.mem_append_right _ (List.mem_append_right _ (List.mem_append_right _ (List.mem_append_right _ (List.mem_append_right _ (List.mem_append_right _ (List.mem_append_left _ h))))))))))))))))))))))))))))))))))))))))))))))))))))))))
theorem inR42 : ∀ w ∈ wsL_law0_r42, w ∈ wsL_law := fun _ h => List.mem_append_left _ (List.mem_append_left _ (List.mem_append_left _ (List.mem_append_left _ (List.mem_append_left _ (List.mem_append_left _ (List.mem_append_left _ (List.mem_append_left _ (List.mem_append_left _ (List.mem_append_left _ (List.mem_append_left _ (List.mem_append_left _ (List.mem_append_left _ (List.mem_append_left _ (List.mem_append_left _ (List.mem_append_left _ (List.mem_append_right _ (List.mem_append_right _ (List.mem_append_right _ (List.mem_append_right _ (List.mem_append_right _ (List.mem_append_right _ (List.mem_append_right _ (List.mem_append_right _ (List.mem_append_right _ (List.mem_append_right _ (List.mem_append_right _ (List.mem_append_right _ (List.mem_append_right _ (List.mem_append_right _ (List.mem_append_right _ (List.mem_append_right _ (List.mem_append_right _ (List.mem_append_right _ (List.mem_append_right _ (List.mem_append_right _ (List.mem_append_right _ (List.mem_append_right _ (List.mem_append_right _ (List.mem_append_right _ (List.mem_append_right _ (List.mem_append_right _ (List.mem_append_right _ (List.mem_append_right _ (List.mem_append_right _ (List.mem_append_right _ (List.mem_append_right _ (List.mem_append_right _ (List.mem_append_right _ (List.mem_append_right _ (List.mem_append_right _ (List.mem_append_right _ (List.mem_append_right _ (List.mem_append_right _ (List.mem_append_right _ (List.mem_append_right _ (List.mem_append_right _ (List.mem_append_left _ h)))))))))))))))))))))))))))))))))))))))))))))))))))))))))
theorem inR43 : ∀ w ∈ wsL_law0_r43, w ∈ wsL_law := fun _ h => List.mem_append_left _ (List.mem_append_left _ (List.mem_append_left _ (List.mem_append_left _ (List.mem_append_left _ (List.mem_append_left _ (List.mem_append_left _ (List.mem_append_left _ (List.mem_append_left _ (List.mem_append_left _ (List.mem_append_left _ (List.mem_append_left _ (List.mem_append_left _ (List.mem_append_left _ (List.mem_append_left _ (List.mem_append_left _ (List.mem_append_right _ (List.mem_append_right _ (List.mem_append_right _ (List.mem_append_right _ (List.mem_append_right _ (List.mem_append_right _ (List.mem_append_right _ (List.mem_append_right _ (List.mem_append_right _ (List.mem_append_right _ (List.mem_append_right _ (List.mem_append_right _ (List.mem_append_right _ (List.mem_append_right _ (List.mem_append_right _ (List.mem_append_right _ (List.mem_append_right _ (List.mem_append_right _ (List.mem_append_right _ (List.mem_append_right _ (List.mem_append_right _ (List.mem_append_right _ (List.mem_append_right _ (List.mem_append_right _ (List.mem_append_right _ (List.mem_append_right _ (List.mem_append_right _ (List.mem_append_right _ (List.mem_append_right _ (List.mem_append_right _ (List.mem_append_right _ (List.mem_append_right _ (List.mem_append_right _ (List.mem_append_right _ (List.mem_append_right _ (List.mem_append_right _ (List.mem_append_right _ (List.mem_append_right _ (List.mem_append_right _ (List.mem_append_right _ (List.mem_append_right _ (List.mem_append_right _ (List.mem_append_left _ h))))))))))))))))))))))))))))))))))))))))))))))))))))))))))
theorem inR44 : ∀ w ∈ wsL_law0_r44, w ∈ wsL_law := fun _ h => List.mem_append_left _ (List.mem_append_left _ (List.mem_append_left _ (List.mem_append_left _ (List.mem_append_left _ (List.mem_append_left _ (List.mem_append_left _ (List.mem_append_left _ (List.mem_append_left _ (List.mem_append_left _ (List.mem_append_left _ (List.mem_append_left _ (List.mem_append_left _ (List.mem_append_left _ (List.mem_append_left _ (List.mem_append_left _ (List.mem_append_right _ (List.mem_append_right _ (List.mem_append_right _ (List.mem_append_right _ (List.mem_append_right _ (List.mem_append_right _ (List.mem_append_right _ (List.mem_append_right _ (List.mem_append_right _ (List.mem_append_right _ (List.mem_append_right _ (List.mem_append_right _ (List.mem_append_right _ (List.mem_append_right _ (List.mem_append_right _ (List.mem_append_right _ (List.mem_append_right _ (List.mem_append_right _ (List.mem_append_right _ (List.mem_append_right _ (List.mem_append_right _ (List.mem_append_right _ (List.mem_append_right _ (List.mem_append_right _ (List.mem_append_right _ (List.mem_append_right _ (List.mem_append_right _ (List.mem_append_right _ (List.mem_append_right _ (List.mem_append_right _ (List.mem_append_right _ (List.mem_append_right _ (List.mem_append_right _ (List.mem_append_right _ (List.mem_append_right _ (List.mem_append_right _ (List.mem_append_right _ (List.mem_append_right _ (List.mem_append_right _ (List.mem_append_right _ (List.mem_append_right _ (List.mem_append_right _ (List.mem_append_right _ (List.mem_append_left _ h)))))))))))))))))))))))))))))))))))))))))))))))))))))))))))
theorem inR45 : ∀ w ∈ wsL_law0_r45, w ∈ wsL_law := fun _ h => List.mem_append_left _ (List.mem_append_left _ (List.mem_append_left _ (List.mem_append_left _ (List.mem_append_left _ (List.mem_append_left _ (List.mem_append_left _ (List.mem_append_left _ (List.mem_append_left _ (List.mem_append_left _ (List.mem_append_left _ (List.mem_append_left _ (List.mem_append_left _ (List.mem_append_left _ (List.mem_append_left _ (List.mem_append_left _ (List.mem_append_right _ (List.mem_append_right _ (List.mem_append_right _ (List.mem_append_right _ (List.mem_append_right _ (List.mem_append_right _ (List.mem_append_right _ (List.mem_append_right _ (List.mem_append_right _ (List.mem_append_right _ (List.mem_append_right _ (List.mem_append_right _ (List.mem_append_right _ (List.mem_append_right _ (List.mem_append_right _ (List.mem_append_right _ (List.mem_append_right _ (List.mem_append_right _ (List.mem_append_right _ (List.mem_append_right _ (List.mem_append_right _ (List.mem_append_right _ (List.mem_append_right _ (List.mem_append_right _ (List.mem_append_right _ (List.mem_append_right _ (List.mem_append_right _ (List.mem_append_right _ (List.mem_append_right _ (List.mem_append_right _ (List.mem_append_right _ (List.mem_append_right _ (List.mem_append_right _ (List.mem_append_right _ (List.mem_append_right _ (List.mem_append_right _ (List.mem_append_right _ (List.mem_append_right _ (List.mem_append_right _ (List.mem_append_right _ (List.mem_append_right _ (List.mem_append_right _ (List.mem_append_right _ (List.mem_append_right _ (List.mem_append_left _ h))))))))))))))))))))))))))))))))))))))))))))))))))))))))))))
theorem inR46 : ∀ w ∈ wsL_law0_r46, w ∈ wsL_law := fun _ h => List.mem_append_left _ (List.mem_append_left _ (List.mem_append_left _ (List.mem_append_left _ (List.mem_append_left _ (List.mem_append_left _ (List.mem_append_left _ (List.mem_append_left _ (List.mem_append_left _ (List.mem_append_left _ (List.mem_append_left _ (List.mem_append_left _ (List.mem_append_left _ (List.mem_append_left _ (List.mem_append_left _ (List.mem_append_left _ (List.mem_append_right _ (List.mem_append_right _ (List.mem_append_right _ (List.mem_append_right _ (List.mem_append_right _ (List.mem_append_right _ (List.mem_append_right _ (List.mem_append_right _ (List.mem_append_right _ (List.mem_append_right _ (List.mem_append_right _ (List.mem_append_right _ (List.mem_append_right _ (List.mem_append_right _ (List.mem_append_right _ (List.mem_append_right _ (List.mem_append_right _ (List.mem_append_right _ (List.mem_append_right _ (List.mem_append_right _ (List.mem_append_right _ (List.mem_append_right _ (List.mem_append_right _ (List.mem_append_right _ (List.mem_append_right _ (List.mem_append_right _ (List.mem_append_right _ (List.mem_append_right _ (List.mem_append_right _ (List.mem_append_right _ (List.mem_append_right _ (List.mem_append_right _ (List.mem_append_right _ (List.mem_append_right _ (List.mem_append_right _ (List.mem_append_right _ (List.mem_append_right _ (List.mem_append_right _ (List.mem_append_right _ (List.mem_append_right _ (List.mem_append_right _ (List.mem_append_right _ (List.mem_append_right _ (List.mem_append_right _ (List.mem_append_right _ (List.mem_append_left _ h)))))))))))))))))))))))))))))))))))))))))))))))))))))))))))))
theorem inR47 : ∀ w ∈ wsL_law0_r47, w ∈ wsL_law := fun _ h => List.mem_append_left _ (List.mem_append_left _ (List.mem_append_left _ (List.mem_append_left _ (List.mem_append_left _ (List.mem_append_left _ (List.mem_append_left _ (List.mem_append_left _ (List.mem_append_left _ (List.mem_append_left _ (List.mem_append_left _ (List.mem_append_left _ (List.mem_append_left _ (List.mem_append_left _ (List.mem_append_left _ (List.mem_append_left _ (List.mem_append_right _ (List.mem_append_right _ (List.mem_append_right _ (List.mem_append_right _ (List.mem_append_right _ (List.mem_append_right _ (List.mem_append_right _ (List.mem_append_right _ (List.mem_append_right _ (List.mem_append_right _ (List.mem_append_right _ (List.mem_append_right _ (List.mem_append_right _ (List.mem_append_right _ (List.mem_append_right _ (List.mem_append_right _ (List.mem_append_right _ (List.mem_append_right _ (List.mem_append_right _ (List.mem_append_right _ (List.mem_append_right _ (List.mem_append_right _ (List.mem_append_right _ (List.mem_append_right _ (List.mem_append_right _ (List.mem_append_right _ (List.mem_append_right _ (List.mem_append_right _ (List.mem_append_right _ (List.mem_append_right _ (List.mem_append_right _ (List.mem_append_right _ (List.mem_append_right _ (List.mem_append_right _ (List.mem_append_right _ (List.mem_append_right _ (List.mem_append_right _ (List.mem_append_right _ (List.mem_append_right _ (List.mem_append_right _ (List.mem_append_right _ (List.mem_append_right _ (List.mem_append_right _ (List.mem_append_right _ (List.mem_append_right _ (List.mem_append_right _ (List.mem_append_left _ h))))))))))))))))))))))))))))))))))))))))))))))))))))))))))))))
theorem inR48 : ∀ w ∈ wsL_law0_r48, w ∈ wsL_law := fun _ h => List.mem_append_left _ (List.mem_append_left _ (List.mem_append_left _ (List.mem_append_left _ (List.mem_append_left _ (List.mem_append_left _ (List.mem_append_left _ (List.mem_append_left _ (List.mem_append_left _ (List.mem_append_left _ (List.mem_append_left _ (List.mem_append_left _ (List.mem_append_left _ (List.mem_append_left _ (List.mem_append_left _ (List.mem_append_left _ (List.mem_append_right _ (List.mem_append_right _ (List.mem_append_right _ (List.mem_append_right _ (List.mem_append_right _ (List.mem_append_right _ (List.mem_append_right _ (List.mem_append_right _ (List.mem_append_right _ (List.mem_append_right _ (List.mem_append_right _ (List.mem_append_right _ (List.mem_append_right _ (List.mem_append_right _ (List.mem_append_right _ (List.mem_append_right _ (List.mem_append_right _ (List.mem_append_right _ (List.mem_append_right _ (List.mem_append_right _ (List.mem_append_right _ (List.mem_append_right _ (List.mem_append_right _ (List.mem_append_right _ (List.mem_append_right _ (List.mem_append_right _ (List.mem_append_right _ (List.mem_append_right _ (List.mem_append_right _ (List.mem_append_right _ (List.mem_append_right _ (List.mem_append_right _ (List.mem_append_right _ (List.mem_append_right _ (List.mem_append_right _ (List.mem_append_right _ (List.mem_append_right _ (List.mem_append_right _ (List.mem_append_right _ (List.mem_append_right _ (List.mem_append_right _ (List.mem_append_right _ (List.mem_append_right _ (List.mem_append_right _ (List.mem_append_right _ (List.mem_append_right _ (List.mem_append_right _ (List.mem_append_left _ h)))))))))))))))))))))))))))))))))))))))))))))))))))))))))))))))
theorem inR49 : ∀ w ∈ wsL_law0_r49, w ∈ wsL_law := fun _ h => List.mem_append_left _ (List.mem_append_left _ (List.mem_append_left _ (List.mem_append_left _ (List.mem_append_left _ (List.mem_append_left _ (List.mem_append_left _ (List.mem_append_left _ (List.mem_append_left _ (List.mem_append_left _ (List.mem_append_left _ (List.mem_append_left _ (List.mem_append_left _ (List.mem_append_left _ (List.mem_append_left _ (List.mem_append_left _ (List.mem_append_right _ (List.mem_append_right _ (List.mem_append_right _ (List.mem_append_right _ (List.mem_append_right _ (List.mem_append_right _ (List.mem_append_right _ (List.mem_append_right _ (List.mem_append_right _ (List.mem_append_right _ (List.mem_append_right _ (List.mem_append_right _ (List.mem_append_right _ (List.mem_append_right _ (List.mem_append_right _ (List.mem_append_right _ (List.mem_append_right _ (List.mem_append_right _ (List.mem_append_right _ (List.mem_append_right _ (List.mem_append_right _ (List.mem_append_right _ (List.mem_append_right _ (List.mem_append_right _ (List.mem_append_right _ (List.mem_append_right _ (List.mem_append_right _ (List.mem_append_right _ (List.mem_append_right _ (List.mem_append_right _ (List.mem_append_right _ (List.mem_append_right _ (List.mem_append_right _ (List.mem_append_right _ (List.mem_append_right _ (List.mem_append_right _ (List.mem_append_right _ (List.mem_append_right _ (List.mem_append_right _ (List.mem_append_right _ (List.mem_append_right _ (List.mem_append_right _ (List.mem_append_right _ (List.mem_append_right _ (List.mem_append_right _ (List.mem_append_right _ (List.mem_append_right _ (List.mem_append_right _ (List.mem_append_left _ h))))))))))))))))))))))))))))))))))))))))))))))))))))))))))))))))
theorem inR50 : ∀ w ∈ wsL_law0_r50, w ∈ wsL_law := fun _ h => List.mem_append_left _ (List.mem_append_left _ (List.mem_append_left _ (List.mem_append_left _ (List.mem_append_left _ (List.mem_append_left _ (List.mem_append_left _ (List.mem_append_left _ (List.mem_append_left _ (List.mem_append_left _ (List.mem_append_left _ (List.mem_append_left _ (List.mem_append_left _ (List.mem_append_left _ (List.mem_append_left _ (List.mem_append_left _ (List.mem_append_right _ (List.mem_append_right _ (List.mem_append_right _ (List.mem_append_right _ (List.mem_append_right _ (List.mem_append_right _ (List.mem_append_right _ (List.mem_append_right _ (List.mem_append_right _ (List.mem_append_right _ (List.mem_append_right _ (List.mem_append_right _ (List.mem_append_right _ (List.mem_append_right _ (List.mem_append_right _ (List.mem_append_right _ (List.mem_append_right _ (List.mem_append_right _ (List.mem_append_right _ (List.mem_append_right _ (List.mem_append_right _ (List.mem_append_right _ (List.mem_append_right _ (List.mem_append_right _ (List.mem_append_right _ (List.mem_append_right _ (List.mem_append_right _ (List.mem_append_right _ (List.mem_append_right _ (List.mem_append_right _ (List.mem_append_right _ (List.mem_append_right _ (List.mem_append_right _ (List.mem_append_right _ (List.mem_append_right _ (List.mem_append_right _ (List.mem_append_right _ (List.mem_append_right _ (List.mem_append_right _ (List.mem_append_right _ (List.mem_append_right _ (List.mem_append_right _ (List.mem_append_right _ (List.mem_append_right _ (List.mem_append_right _ (List.mem_append_right _ (List.mem_append_right _ (List.mem_append_right _ (List.mem_append_right _ (List.mem_append_left _ h)))))))))))))))))))))))))))))))))))))))))))))))))))))))))))))))))
theorem inR51 : ∀ w ∈ wsL_law0_r51, w ∈ wsL_law := fun _ h => List.mem_append_left _ (List.mem_append_left _ (List.mem_append_left _ (List.mem_append_left _ (List.mem_append_left _ (List.mem_append_left _ (List.mem_append_left _ (List.mem_append_left _ (List.mem_append_left _ (List.mem_append_left _ (List.mem_append_left _ (List.mem_append_left _ (List.mem_append_left _ (List.mem_append_left _ (List.mem_append_left _ (List.mem_append_left _ (List.mem_append_right _ (List.mem_append_right _ (List.mem_append_right _ (List.mem_append_right _ (List.mem_append_right _ (List.mem_append_right _ (List.mem_append_right _ (List.mem_append_right _ (List.mem_append_right _ (List.mem_append_right _ (List.mem_append_right _ (List.mem_append_right _ (List.mem_append_right _ (List.mem_append_right _ (List.mem_append_right _ (List.mem_append_right _ (List.mem_append_right _ (List.mem_append_right _ (List.mem_append_right _ (List.mem_append_right _ (List.mem_append_right _ (List.mem_append_right _ (List.mem_append_right _ (List.mem_append_right _ (List.mem_append_right _ (List.mem_append_right _ (List.mem_append_right _ (List.mem_append_right _ (List.mem_append_right _ (List.mem_append_right _ (List.mem_append_right _ (List.mem_append_right _ (List.mem_append_right _ (List.mem_append_right _ (List.mem_append_right _ (List.mem_append_right _ (List.mem_append_right _ (List.mem_append_right _ (List.mem_append_right _ (List.mem_append_right _ (List.mem_append_right _ (List.mem_append_right _ (List.mem_append_right _ (List.mem_append_right _ (List.mem_append_right _ (List.mem_append_right _ (List.mem_append_right _ (List.mem_append_right _ (List.mem_append_right _ (List.mem_append_right _ (List.mem_append_left _ h))))))))))))))))))))))))))))))))))))))))))))))))))))))))))))))))))
theorem inR52 : ∀ w ∈ wsL_law0_r52, w ∈ wsL_law := fun _ h => List.mem_append_left _ (List.mem_append_left _ (List.mem_append_left _ (List.mem_append_left _ (List.mem_append_left _ (List.mem_append_left _ (List.mem_append_left _ (List.mem_append_left _ (List.mem_append_left _ (List.mem_append_left _ (List.mem_append_left _ (List.mem_append_left _ (List.mem_append_left _ (List.mem_append_left _ (List.mem_append_left _ (List.mem_append_left _ (List.mem_append_right _ (List.mem_append_right _ (List.mem_append_right _ (List.mem_append_right _ (List.mem_append_right _ (List.mem_append_right _ (List.mem_append_right _ (List.mem_append_right _ (List.mem_append_right _ (List.mem_append_right _ (List.mem_append_right _ (List.mem_append_right _ (List.mem_append_right _ (List.mem_append_right _ (List.mem_append_right _ (List.mem_append_right _ (List.mem_append_right _ (List.mem_append_right _ (List.mem_append_right _ (List.mem_append_right _ (List.mem_append_right _ (List.mem_append_right _ (List.mem_append_right _ (List.mem_append_right _ (List.mem_append_right _ (List.mem_append_right _ (List.mem_append_right _ (List.mem_append_right _ (List.mem_append_right _ (List.mem_append_right _ (List.mem_append_right _ (List.mem_append_right _ (List.mem_append_right _ (List.mem_append_right _ (List.mem_append_right _ (List.mem_append_right _ (List.mem_append_right _ (List.mem_append_right _ (List.mem_append_right _ (List.mem_append_right _ (List.mem_append_right _ (List.mem_append_right _ (List.mem_append_right _ (List.mem_append_right _ (List.mem_append_right _ (List.mem_append_right _ (List.mem_append_right _ (List.mem_append_right _ (List.mem_append_right _ (List.mem_append_right _ (List.mem_append_right _ (List.mem_append_left _ h)))))))))))))))))))))))))))))))))))))))))))))))))))))))))))))))))))
theorem inR53 : ∀ w ∈ wsL_law0_r53, w ∈ wsL_law := fun _ h => List.mem_append_left _ (List.mem_append_left _ (List.mem_append_left _ (List.mem_append_left _ (List.mem_append_left _ (List.mem_append_left _ (List.mem_append_left _ (List.mem_append_left _ (List.mem_append_left _ (List.mem_append_left _ (List.mem_append_left _ (List.mem_append_left _ (List.mem_append_left _ (List.mem_append_left _ (List.mem_append_left _ (List.mem_append_left _ (List.mem_append_right _ (List.mem_append_right _ (List.mem_append_right _ (List.mem_append_right _ (List.mem_append_right _ (List.mem_append_right _ (List.mem_append_right _ (List.mem_append_right _ (List.mem_append_right _ (List.mem_append_right _ (List.mem_append_right _ (List.mem_append_right _ (List.mem_append_right _ (List.mem_append_right _ (List.mem_append_right _ (List.mem_append_right _ (List.mem_append_right _ (List.mem_append_right _ (List.mem_append_right _ (List.mem_append_right _ (List.mem_append_right _ (List.mem_append_right _ (List.mem_append_right _ (List.mem_append_right _ (List.mem_append_right _ (List.mem_append_right _ (List.mem_append_right _ (List.mem_append_right _ (List.mem_append_right _ (List.mem_append_right _ (List.mem_append_right _ (List.mem_append_right _ (List.mem_append_right _ (List.mem_append_right _ (List.mem_append_right _ (List.mem_append_right _ (List.mem_append_right _ (List.mem_append_right _ (List.mem_append_right _ (List.mem_append_right _ (List.mem_append_right _ (List.mem_append_right _ (List.mem_append_right _ (List.mem_append_right _ (List.mem_append_right _ (List.mem_append_right _ (List.mem_append_right _ (List.mem_append_right _ (List.mem_append_right _ (List.mem_append_right _ (List.mem_append_right _ (List.mem_append_right _ (List.mem_append_left _ h))))))))))))))))))))))))))))))))))))))))))))))))))))))))))))))))))))
theorem inR54 : ∀ w ∈ wsL_law0_r54, w ∈ wsL_law := fun _ h => List.mem_append_left _ (List.mem_append_left _ (List.mem_append_left _ (List.mem_append_left _ (List.mem_append_left _ (List.mem_append_left _ (List.mem_append_left _ (List.mem_append_left _ (List.mem_append_left _ (List.mem_append_left _ (List.mem_append_left _ (List.mem_append_left _ (List.mem_append_left _ (List.mem_append_left _ (List.mem_append_left _ (List.mem_append_left _ (List.mem_append_right _ (List.mem_append_right _ (List.mem_append_right _ (List.mem_append_right _ (List.mem_append_right _ (List.mem_append_right _ (List.mem_append_right _ (List.mem_append_right _ (List.mem_append_right _ (List.mem_append_right _ (List.mem_append_right _ (List.mem_append_right _ (List.mem_append_right _ (List.mem_append_right _ (List.mem_append_right _ (List.mem_append_right _ (List.mem_append_right _ (List.mem_append_right _ (List.mem_append_right _ (List.mem_append_right _ (List.mem_append_right _ (List.mem_append_right _ (List.mem_append_right _ (List.mem_append_right _ (List.mem_append_right _ (List.mem_append_right _ (List.mem_append_right _ (List.mem_append_right _ (List.mem_append_right _ (List.mem_append_right _ (List.mem_append_right _ (List.mem_append_right _ (List.mem_append_right _ (List.mem_append_right _ (List.mem_append_right _ (List.mem_append_right _ (List.mem_append_right _ (List.mem_append_right _ (List.mem_append_right _ (List.mem_append_right _ (List.mem_append_right _ (List.mem_append_right _ (List.mem_append_right _ (List.mem_append_right _ (List.mem_append_right _ (List.mem_append_right _ (List.mem_append_right _ (List.mem_append_right _ (List.mem_append_right _ (List.mem_append_right _ (List.mem_append_right _ (List.mem_append_right _ (List.mem_append_right _ (List.mem_append_left _ h)))))))))))))))))))))))))))))))))))))))))))))))))))))))))))))))))))))
theorem inR55 : ∀ w ∈ wsL_law0_r55, w ∈ wsL_law := fun _ h => List.mem_append_left _ (List.mem_append_left _ (List.mem_append_left _ (List.mem_append_left _ (List.mem_append_left _ (List.mem_append_left _ (List.mem_append_left _ (List.mem_append_left _ (List.mem_append_left _ (List.mem_append_left _ (List.mem_append_left _ (List.mem_append_left _ (List.mem_append_left _ (List.mem_append_left _ (List.mem_append_left _ (List.mem_append_left _ (List.mem_append_right _ (List.mem_append_right _ (List.mem_append_right _ (List.mem_append_right _ (List.mem_append_right _ (List.mem_append_right _ (List.mem_append_right _ (List.mem_append_right _ (List.mem_append_right _ (List.mem_append_right _ (List.mem_append_right _ (List.mem_append_right _ (List.mem_append_right _ (List.mem_append_right _ (List.mem_append_right _ (List.mem_append_right _ (List.mem_append_right _ (List.mem_append_right _ (List.mem_append_right _ (List.mem_append_right _ (List.mem_append_right _ (List.mem_append_right _ (List.mem_append_right _ (List.mem_append_right _ (List.mem_append_right _ (List.mem_append_right _ (List.mem_append_right _ (List.mem_append_right _ (List.mem_append_right _ (List.mem_append_right _ (List.mem_append_right _ (List.mem_append_right _ (List.mem_append_right _ (List.mem_append_right _ (List.mem_append_right _ (List.mem_append_right _ (List.mem_append_right _ (List.mem_append_right _ (List.mem_append_right _ (List.mem_append_right _ (List.mem_append_right _ (List.mem_append_right _ (List.mem_append_right _ (List.mem_append_right _ (List.mem_append_right _ (List.mem_append_right _ (List.mem_append_right _ (List.mem_append_right _ (List.mem_append_right _ (List.mem_append_right _ (List.mem_append_right _ (List.mem_append_right _ (List.mem_append_right _ (List.mem_append_right _ (List.mem_append_left _ h))))))))))))))))))))))))))))))))))))))))))))))))))))))))))))))))))))))
theorem inR56 : ∀ w ∈ wsL_law0_r56, w ∈ wsL_law := fun _ h => List.mem_append_left _ (List.mem_append_left _ (List.mem_append_left _ (List.mem_append_left _ (List.mem_append_left _ (List.mem_append_left _ (List.mem_append_left _ (List.mem_append_left _ (List.mem_append_left _ (List.mem_append_left _ (List.mem_append_left _ (List.mem_append_left _ (List.mem_append_left _ (List.mem_append_left _ (List.mem_append_left _ (List.mem_append_left _ (List.mem_append_right _ (List.mem_append_right _ (List.mem_append_right _ (List.mem_append_right _ (List.mem_append_right _ (List.mem_append_right _ (List.mem_append_right _ (List.mem_append_right _ (List.mem_append_right _ (List.mem_append_right _ (List.mem_append_right _ (List.mem_append_right _ (List.mem_append_right _ (List.mem_append_right _ (List.mem_append_right _ (List.mem_append_right _ (List.mem_append_right _ (List.mem_append_right _ (List.mem_append_right _ (List.mem_append_right _ (List.mem_append_right _ (List.mem_append_right _ (List.mem_append_right _ (List.mem_append_right _ (List.mem_append_right _ (List.mem_append_right _ (List.mem_append_right _ (List.mem_append_right _ (List.mem_append_right _ (List.mem_append_right _ (List.mem_append_right _ (List.mem_append_right _ (List.mem_append_right _ (List.mem_append_right _ (List.mem_append_right _ (List.mem_append_right _ (List.mem_append_right _ (List.mem_append_right _ (List.mem_append_right _ (List.mem_append_right _ (List.mem_append_right _ (List.mem_append_right _ (List.mem_append_right _ (List.mem_append_right _ (List.mem_append_right _ (List.mem_append_right _ (List.mem_append_right _ (List.mem_append_right _ (List.mem_append_right _ (List.mem_append_right _ (List.mem_append_right _ (List.mem_append_right _ (List.mem_append_right _ (List.mem_append_right _ (List.mem_append_right _ (List.mem_append_left _ h)))))))))))))))))))))))))))))))))))))))))))))))))))))))))))))))))))))))
theorem inR57 : ∀ w ∈ wsL_law0_r57, w ∈ wsL_law := fun _ h => List.mem_append_left _ (List.mem_append_left _ (List.mem_append_left _ (List.mem_append_left _ (List.mem_append_left _ (List.mem_append_left _ (List.mem_append_left _ (List.mem_append_left _ (List.mem_append_left _ (List.mem_append_left _ (List.mem_append_left _ (List.mem_append_left _ (List.mem_append_left _ (List.mem_append_left _ (List.mem_append_left _ (List.mem_append_left _ (List.mem_append_right _ (List.mem_append_right _ (List.mem_append_right _ (List.mem_append_right _ (List.mem_append_right _ (List.mem_append_right _ (List.mem_append_right _ (List.mem_append_right _ (List.mem_append_right _ (List.mem_append_right _ (List.mem_append_right _ (List.mem_append_right _ (List.mem_append_right _ (List.mem_append_right _ (List.mem_append_right _ (List.mem_append_right _ (List.mem_append_right _ (List.mem_append_right _ (List.mem_append_right _ (List.mem_append_right _ (List.mem_append_right _ (List.mem_append_right _ (List.mem_append_right _ (List.mem_append_right _ (List.mem_append_right _ (List.mem_append_right _ (List.mem_append_right _ (List.mem_append_right _ (List.mem_append_right _ (List.mem_append_right _ (List.mem_append_right _ (List.mem_append_right _ (List.mem_append_right _ (List.mem_append_right _ (List.mem_append_right _ (List.mem_append_right _ (List.mem_append_right _ (List.mem_append_right _ (List.mem_append_right _ (List.mem_append_right _ (List.mem_append_right _ (List.mem_append_right _ (List.mem_append_right _ (List.mem_append_right _ (List.mem_append_right _ (List.mem_append_right _ (List.mem_append_right _ (List.mem_append_right _ (List.mem_append_right _ (List.mem_append_right _ (List.mem_append_right _ (List.mem_append_right _ (List.mem_append_right _ (List.mem_append_right _ (List.mem_append_right _ (List.mem_append_right _ (List.mem_append_left _ h))))))))))))))))))))))))))))))))))))))))))))))))))))))))))))))))))))))))
theorem inR58 : ∀ w ∈ wsL_law0_r58, w ∈ wsL_law := fun _ h => List.mem_append_left _ (List.mem_append_left _ (List.mem_append_left _ (List.mem_append_left _ (List.mem_append_left _ (List.mem_append_left _ (List.mem_append_left _ (List.mem_append_left _ (List.mem_append_left _ (List.mem_append_left _ (List.mem_append_left _ (List.mem_append_left _ (List.mem_append_left _ (List.mem_append_left _ (List.mem_append_left _ (List.mem_append_left _ (List.mem_append_right _ (List.mem_append_right _ (List.mem_append_right _ (List.mem_append_right _ (List.mem_append_right _ (List.mem_append_right _ (List.mem_append_right _ (List.mem_append_right _ (List.mem_append_right _ (List.mem_append_right _ (List.mem_append_right _ (List.mem_append_right _ (List.mem_append_right _ (List.mem_append_right _ (List.mem_append_right _ (List.mem_append_right _ (List.mem_append_right _ (List.mem_append_right _ (List.mem_append_right _ (List.mem_append_right _ (List.mem_append_right _ (List.mem_append_right _ (List.mem_append_right _ (List.mem_append_right _ (List.mem_append_right _ (List.mem_append_right _ (List.mem_append_right _ (List.mem_append_right _ (List.mem_append_right _ (List.mem_append_right _ (List.mem_append_right _ (List.mem_append_right _ (List.mem_append_right _ (List.mem_append_right _ (List.mem_append_right _ (List.mem_append_right _ (List.mem_append_right _ (List.mem_append_right _ (List.mem_append_right _ (List.mem_append_right _ (List.mem_append_right _ (List.mem_append_right _ (List.mem_append_right _ (List.mem_append_right _ (List.mem_append_right _ (List.mem_append_right _ (List.mem_append_right _ (List.mem_append_right _ (List.mem_append_right _ (List.mem_append_right _ (List.mem_append_right _ (List.mem_append_right _ (List.mem_append_right _ (List.mem_append_right _ (List.mem_append_right _ (List.mem_append_right _ (List.mem_append_right _ (List.mem_append_left _ h)))))))))))))))))))))))))))))))))))))))))))))))))))))))))))))))))))))))))
theorem inR59 : ∀ w ∈ wsL_law0_r59, w ∈ wsL_law := fun _ h => List.mem_append_left _ (List.mem_append_left _ (List.mem_append_left _ (List.mem_append_left _ (List.mem_append_left _ (List.mem_append_left _ (List.mem_append_left _ (List.mem_append_left _ (List.mem_append_left _ (List.mem_append_left _ (List.mem_append_left _ (List.mem_append_left _ (List.mem_append_left _ (List.mem_append_left _ (List.mem_append_left _ (List.mem_append_left _ (List.mem_append_right _ (List.mem_append_right _ (List.mem_append_right _ (List.mem_append_right _ (List.mem_append_right _ (List.mem_append_right _ (List.mem_append_right _ (List.mem_append_right _ (List.mem_append_right _ (List.mem_append_right _ (List.mem_append_right _ (List.mem_append_right _ (List.mem_append_right _ (List.mem_append_right _ (List.mem_append_right _ (List.mem_append_right _ (List.mem_append_right _ (List.mem_append_right _ (List.mem_append_right _ (List.mem_append_right _ (List.mem_append_right _ (List.mem_append_right _ (List.mem_append_right _ (List.mem_append_right _ (List.mem_append_right _ (List.mem_append_right _ (List.mem_append_right _ (List.mem_append_right _ (List.mem_append_right _ (List.mem_append_right _ (List.mem_append_right _ (List.mem_append_right _ (List.mem_append_right _ (List.mem_append_right _ (List.mem_append_right _ (List.mem_append_right _ (List.mem_append_right _ (List.mem_append_right _ (List.mem_append_right _ (List.mem_append_right _ (List.mem_append_right _ (List.mem_append_right _ (List.mem_append_right _ (List.mem_append_right _ (List.mem_append_right _ (List.mem_append_right _ (List.mem_append_right _ (List.mem_append_right _ (List.mem_append_right _ (List.mem_append_right _ (List.mem_append_right _ (List.mem_append_right _ (List.mem_append_right _ (List.mem_append_right _ (List.mem_append_right _ (List.mem_append_right _ (List.mem_append_right _ (List.mem_append_right _ (List.mem_append_left _ h))))))))))))))))))))))))))))))))))))))))))))))))))))))))))))))))))))))))))
theorem inR60 : ∀ w ∈ wsL_law0_r60, w ∈ wsL_law := fun _ h => List.mem_append_left _ (List.mem_append_left _ (List.mem_append_left _ (List.mem_append_left _ (List.mem_append_left _ (List.mem_append_left _ (List.mem_append_left _ (List.mem_append_left _ (List.mem_append_left _ (List.mem_append_left _ (List.mem_append_left _ (List.mem_append_left _ (List.mem_append_left _ (List.mem_append_left _ (List.mem_append_left _ (List.mem_append_left _ (List.mem_append_right _ (List.mem_append_right _ (List.mem_append_right _ (List.mem_append_right _ (List.mem_append_right _ (List.mem_append_right _ (List.mem_append_right _ (List.mem_append_right _ (List.mem_append_right _ (List.mem_append_right _ (List.mem_append_right _ (List.mem_append_right _ (List.mem_append_right _ (List.mem_append_right _ (List.mem_append_right _ (List.mem_append_right _ (List.mem_append_right _ (List.mem_append_right _ (List.mem_append_right _ (List.mem_append_right _ (List.mem_append_right _ (List.mem_append_right _ (List.mem_append_right _ (List.mem_append_right _ (List.mem_append_right _ (List.mem_append_right _ (List.mem_append_right _ (List.mem_append_right _ (List.mem_append_right _ (List.mem_append_right _ (List.mem_append_right _ (List.mem_append_right _ (List.mem_append_right _ (List.mem_append_right _ (List.mem_append_right _ (List.mem_append_right _ (List.mem_append_right _ (List.mem_append_right _ (List.mem_append_right _ (List.mem_append_right _ (List.mem_append_right _ (List.mem_append_right _ (List.mem_append_right _ (List.mem_append_right _ (List.mem_append_right _ (List.mem_append_right _ (List.mem_append_right _ (List.mem_append_right _ (List.mem_append_right _ (List.mem_append_right _ (List.mem_append_right _ (List.mem_append_right _ (List.mem_append_right _ (List.mem_append_right _ (List.mem_append_right _ (List.mem_append_right _ (List.mem_append_right _ (List.mem_append_right _ (List.mem_append_right _ (List.mem_append_left _ h)))))))))))))))))))))))))))))))))))))))))))))))))))))))))))))))))))))))))))
theorem inR61 : ∀ w ∈ wsL_law0_r61, w ∈ wsL_law := fun _ h => List.mem_append_left _ (List.mem_append_left _ (List.mem_append_left _ (List.mem_append_left _ (List.mem_append_left _ (List.mem_append_left _ (List.mem_append_left _ (List.mem_append_left _ (List.mem_append_left _ (List.mem_append_left _ (List.mem_append_left _ (List.mem_append_left _ (List.mem_append_left _ (List.mem_append_left _ (List.mem_append_left _ (List.mem_append_left _ (List.mem_append_right _ (List.mem_append_right _ (List.mem_append_right _ (List.mem_append_right _ (List.mem_append_right _ (List.mem_append_right _ (List.mem_append_right _ (List.mem_append_right _ (List.mem_append_right _ (List.mem_append_right _ (List.mem_append_right _ (List.mem_append_right _ (List.mem_append_right _ (List.mem_append_right _ (List.mem_append_right _ (List.mem_append_right _ (List.mem_append_right _ (List.mem_append_right _ (List.mem_append_right _ (List.mem_append_right _ (List.mem_append_right _ (List.mem_append_right _ (List.mem_append_right _ (List.mem_append_right _ (List.mem_append_right _ (List.mem_append_right _ (List.mem_append_right _ (List.mem_append_right _ (List.mem_append_right _ (List.mem_append_right _ (List.mem_append_right _ (List.mem_append_right _ (List.mem_append_right _ (List.mem_append_right _ (List.mem_append_right _ (List.mem_append_right _ (List.mem_append_right _ (List.mem_append_right _ (List.mem_append_right _ (List.mem_append_right _ (List.mem_append_right _ (List.mem_append_right _ (List.mem_append_right _ (List.mem_append_right _ (List.mem_append_right _ (List.mem_append_right _ (List.mem_append_right _ (List.mem_append_right _ (List.mem_append_right _ (List.mem_append_right _ (List.mem_append_right _ (List.mem_append_right _ (List.mem_append_right _ (List.mem_append_right _ (List.mem_append_right _ (List.mem_append_right _ (List.mem_append_right _ (List.mem_append_right _ (List.mem_append_right _ (List.mem_append_right _ (List.mem_append_left _ h))))))))))))))))))))))))))))))))))))))))))))))))))))))))))))))))))))))))))))
theorem inR62 : ∀ w ∈ wsL_law0_r62, w ∈ wsL_law := fun _ h => List.mem_append_left _ (List.mem_append_left _ (List.mem_append_left _ (List.mem_append_left _ (List.mem_append_left _ (List.mem_append_left _ (List.mem_append_left _ (List.mem_append_left _ (List.mem_append_left _ (List.mem_append_left _ (List.mem_append_left _ (List.mem_append_left _ (List.mem_append_left _ (List.mem_append_left _ (List.mem_append_left _ (List.mem_append_left _ (List.mem_append_right _ (List.mem_append_right _ (List.mem_append_right _ (List.mem_append_right _ (List.mem_append_right _ (List.mem_append_right _ (List.mem_append_right _ (List.mem_append_right _ (List.mem_append_right _ (List.mem_append_right _ (List.mem_append_right _ (List.mem_append_right _ (List.mem_append_right _ (List.mem_append_right _ (List.mem_append_right _ (List.mem_append_right _ (List.mem_append_right _ (List.mem_append_right _ (List.mem_append_right _ (List.mem_append_right _ (List.mem_append_right _ (List.mem_append_right _ (List.mem_append_right _ (List.mem_append_right _ (List.mem_append_right _ (List.mem_append_right _ (List.mem_append_right _ (List.mem_append_right _ (List.mem_append_right _ (List.mem_append_right _ (List.mem_append_right _ (List.mem_append_right _ (List.mem_append_right _ (List.mem_append_right _ (List.mem_append_right _ (List.mem_append_right _ (List.mem_append_right _ (List.mem_append_right _ (List.mem_append_right _ (List.mem_append_right _ (List.mem_append_right _ (List.mem_append_right _ (List.mem_append_right _ (List.mem_append_right _ (List.mem_append_right _ (List.mem_append_right _ (List.mem_append_right _ (List.mem_append_right _ (List.mem_append_right _ (List.mem_append_right _ (List.mem_append_right _ (List.mem_append_right _ (List.mem_append_right _ (List.mem_append_right _ (List.mem_append_right _ (List.mem_append_right _ (List.mem_append_right _ (List.mem_append_right _ (List.mem_append_right _ (List.mem_append_right _ (List.mem_append_right _ (List.mem_append_left _ h)))))))))))))))))))))))))))))))))))))))))))))))))))))))))))))))))))))))))))))
theorem inR63 : ∀ w ∈ wsL_law0_r63, w ∈ wsL_law := fun _ h => List.mem_append_left _ (List.mem_append_left _ (List.mem_append_left _ (List.mem_append_left _ (List.mem_append_left _ (List.mem_append_left _ (List.mem_append_left _ (List.mem_append_left _ (List.mem_append_left _ (List.mem_append_left _ (List.mem_append_left _ (List.mem_append_left _ (List.mem_append_left _ (List.mem_append_left _ (List.mem_append_left _ (List.mem_append_left _ (List.mem_append_right _ (List.mem_append_right _ (List.mem_append_right _ (List.mem_append_right _ (List.mem_append_right _ (List.mem_append_right _ (List.mem_append_right _ (List.mem_append_right _ (List.mem_append_right _ (List.mem_append_right _ (List.mem_append_right _ (List.mem_append_right _ (List.mem_append_right _ (List.mem_append_right _ (List.mem_append_right _ (List.mem_append_right _ (List.mem_append_right _ (List.mem_append_right _ (List.mem_append_right _ (List.mem_append_right _ (List.mem_append_right _ (List.mem_append_right _ (List.mem_append_right _ (List.mem_append_right _ (List.mem_append_right _ (List.mem_append_right _ (List.mem_append_right _ (List.mem_append_right _ (List.mem_append_right _ (List.mem_append_right _ (List.mem_append_right _ (List.mem_append_right _ (List.mem_append_right _ (List.mem_append_right _ (List.mem_append_right _ (List.mem_append_right _ (List.mem_append_right _ (List.mem_append_right _ (List.mem_append_right _ (List.mem_append_right _ (List.mem_append_right _ (List.mem_append_right _ (List.mem_append_right _ (List.mem_append_right _ (List.mem_append_right _ (List.mem_append_right _ (List.mem_append_right _ (List.mem_append_right _ (List.mem_append_right _ (List.mem_append_right _ (List.mem_append_right _ (List.mem_append_right _ (List.mem_append_right _ (List.mem_append_right _ (List.mem_append_right _ (List.mem_append_right _ (List.mem_append_right _ (List.mem_append_right _ (List.mem_append_right _ (List.mem_append_right _ (List.mem_append_right _ (List.mem_append_right _ (List.mem_append_left _ h))))))))))))))))))))))))))))))))))))))))))))))))))))))))))))))))))))))))))))))
theorem inR64 : ∀ w ∈ wsL_law0_r64, w ∈ wsL_law := fun _ h => List.mem_append_left _ (List.mem_append_left _ (List.mem_append_left _ (List.mem_append_left _ (List.mem_append_left _ (List.mem_append_left _ (List.mem_append_left _ (List.mem_append_left _ (List.mem_append_left _ (List.mem_append_left _ (List.mem_append_left _ (List.mem_append_left _ (List.mem_append_left _ (List.mem_append_left _ (List.mem_append_left _ (List.mem_append_left _ (List.mem_append_right _ (List.mem_append_right _ (List.mem_append_right _ (List.mem_append_right _ (List.mem_append_right _ (List.mem_append_right _ (List.mem_append_right _ (List.mem_append_right _ (List.mem_append_right _ (List.mem_append_right _ (List.mem_append_right _ (List.mem_append_right _ (List.mem_append_right _ (List.mem_append_right _ (List.mem_append_right _ (List.mem_append_right _ (List.mem_append_right _ (List.mem_append_right _ (List.mem_append_right _ (List.mem_append_right _ (List.mem_append_right _ (List.mem_append_right _ (List.mem_append_right _ (List.mem_append_right _ (List.mem_append_right _ (List.mem_append_right _ (List.mem_append_right _ (List.mem_append_right _ (List.mem_append_right _ (List.mem_append_right _ (List.mem_append_right _ (List.mem_append_right _ (List.mem_append_right _ (List.mem_append_right _ (List.mem_append_right _ (List.mem_append_right _ (List.mem_append_right _ (List.mem_append_right _ (List.mem_append_right _ (List.mem_append_right _ (List.mem_append_right _ (List.mem_append_right _ (List.mem_append_right _ (List.mem_append_right _ (List.mem_append_right _ (List.mem_append_right _ (List.mem_append_right _ (List.mem_append_right _ (List.mem_append_right _ (List.mem_append_right _ (List.mem_append_right _ (List.mem_append_right _ (List.mem_append_right _ (List.mem_append_right _ (List.mem_append_right _ (List.mem_append_right _ (List.mem_append_right _ (List.mem_append_right _ (List.mem_append_right _ (List.mem_append_right _ (List.mem_append_right _ (List.mem_append_right _ (List.mem_append_right _ (List.mem_append_left _ h)))))))))))))))))))))))))))))))))))))))))))))))))))))))))))))))))))))))))))))))
theorem inR65 : ∀ w ∈ wsL_law0_r65, w ∈ wsL_law := fun _ h => List.mem_append_left _ (List.mem_append_left _ (List.mem_append_left _ (List.mem_append_left _ (List.mem_append_left _ (List.mem_append_left _ (List.mem_append_left _ (List.mem_append_left _ (List.mem_append_left _ (List.mem_append_left _ (List.mem_append_left _ (List.mem_append_left _ (List.mem_append_left _ (List.mem_append_left _ (List.mem_append_left _ (List.mem_append_left _ (List.mem_append_right _ (List.mem_append_right _ (List.mem_append_right _ (List.mem_append_right _ (List.mem_append_right _ (List.mem_append_right _ (List.mem_append_right _ (List.mem_append_right _ (List.mem_append_right _ (List.mem_append_right _ (List.mem_append_right _ (List.mem_append_right _ (List.mem_append_right _ (List.mem_append_right _ (List.mem_append_right _ (List.mem_append_right _ (List.mem_append_right _ (List.mem_append_right _ (List.mem_append_right _ (List.mem_append_right _ (List.mem_append_right _ (List.mem_append_right _ (List.mem_append_right _ (List.mem_append_right _ (List.mem_append_right _ (List.mem_append_right _ (List.mem_append_right _ (List.mem_append_right _ (List.mem_append_right _ (List.mem_append_right _ (List.mem_append_right _ (List.mem_append_right _ (List.mem_append_right _ (List.mem_append_right _ (List.mem_append_right _ (List.mem_append_right _ (List.mem_append_right _ (List.mem_append_right _ (List.mem_append_right _ (List.mem_append_right _ (List.mem_append_right _ (List.mem_append_right _ (List.mem_append_right _ (List.mem_append_right _ (List.mem_append_right _ (List.mem_append_right _ (List.mem_append_right _ (List.mem_append_right _ (List.mem_append_right _ (List.mem_append_right _ (List.mem_append_right _ (List.mem_append_right _ (List.mem_append_right _ (List.mem_append_right _ (List.mem_append_right _ (List.mem_append_right _ (List.mem_append_right _ (List.mem_append_right _ (List.mem_append_right _ (List.mem_append_right _ (List.mem_append_right _ (List.mem_append_right _ (List.mem_append_right _ (List.mem_append_right _ (List.mem_append_left _ h))))))))))))))))))))))))))))))))))))))))))))))))))))))))))))))))))))))))))))))))
theorem inR66 : ∀ w ∈ wsL_law0_r66, w ∈ wsL_law := fun _ h => List.mem_append_left _ (List.mem_append_left _ (List.mem_append_left _ (List.mem_append_left _ (List.mem_append_left _ (List.mem_append_left _ (List.mem_append_left _ (List.mem_append_left _ (List.mem_append_left _ (List.mem_append_left _ (List.mem_append_left _ (List.mem_append_left _ (List.mem_append_left _ (List.mem_append_left _ (List.mem_append_left _ (List.mem_append_left _ (List.mem_append_right _ (List.mem_append_right _ (List.mem_append_right _ (List.mem_append_right _ (List.mem_append_right _ (List.mem_append_right _ (List.mem_append_right _ (List.mem_append_right _ (List.mem_append_right _ (List.mem_append_right _ (List.mem_append_right _ (List.mem_append_right _ (List.mem_append_right _ (List.mem_append_right _ (List.mem_append_right _ (List.mem_append_right _ (List.mem_append_right _ (List.mem_append_right _ (List.mem_append_right _ (List.mem_append_right _ (List.mem_append_right _ (List.mem_append_right _ (List.mem_append_right _ (List.mem_append_right _ (List.mem_append_right _ (List.mem_append_right _ (List.mem_append_right _ (List.mem_append_right _ (List.mem_append_right _ (List.mem_append_right _ (List.mem_append_right _ (List.mem_append_right _ (List.mem_append_right _ (List.mem_append_right _ (List.mem_append_right _ (List.mem_append_right _ (List.mem_append_right _ (List.mem_append_right _ (List.mem_append_right _ (List.mem_append_right _ (List.mem_append_right _ (List.mem_append_right _ (List.mem_append_right _ (List.mem_append_right _ (List.mem_append_right _ (List.mem_append_right _ (List.mem_append_right _ (List.mem_append_right _ (List.mem_append_right _ (List.mem_append_right _ (List.mem_append_right _ (List.mem_append_right _ (List.mem_append_right _ (List.mem_append_right _ (List.mem_append_right _ (List.mem_append_right _ (List.mem_append_right _ (List.mem_append_right _ (List.mem_append_right _ (List.mem_append_right _ (List.mem_append_right _ (List.mem_append_right _ (List.mem_append_right _ (List.mem_append_right _ (List.mem_append_right _ (List.mem_append_left _ h)))))))))))))))))))))))))))))))))))))))))))))))))))))))))))))))))))))))))))))))))
theorem inR67 : ∀ w ∈ wsL_law0_r67, w ∈ wsL_law := fun _ h => List.mem_append_left _ (List.mem_append_left _ (List.mem_append_left _ (List.mem_append_left _ (List.mem_append_left _ (List.mem_append_left _ (List.mem_append_left _ (List.mem_append_left _ (List.mem_append_left _ (List.mem_append_left _ (List.mem_append_left _ (List.mem_append_left _ (List.mem_append_left _ (List.mem_append_left _ (List.mem_append_left _ (List.mem_append_left _ (List.mem_append_right _ (List.mem_append_right _ (List.mem_append_right _ (List.mem_append_right _ (List.mem_append_right _ (List.mem_append_right _ (List.mem_append_right _ (List.mem_append_right _ (List.mem_append_right _ (List.mem_append_right _ (List.mem_append_right _ (List.mem_append_right _ (List.mem_append_right _ (List.mem_append_right _ (List.mem_append_right _ (List.mem_append_right _ (List.mem_append_right _ (List.mem_append_right _ (List.mem_append_right _ (List.mem_append_right _ (List.mem_append_right _ (List.mem_append_right _ (List.mem_append_right _ (List.mem_append_right _ (List.mem_append_right _ (List.mem_append_right _ (List.mem_append_right _ (List.mem_append_right _ (List.mem_append_right _ (List.mem_append_right _ (List.mem_append_right _ (List.mem_append_right _ (List.mem_append_right _ (List.mem_append_right _ (List.mem_append_right _ (List.mem_append_right _ (List.mem_append_right _ (List.mem_append_right _ (List.mem_append_right _ (List.mem_append_right _ (List.mem_append_right _ (List.mem_append_right _ (List.mem_append_right _ (List.mem_append_right _ (List.mem_append_right _ (List.mem_append_right _ (List.mem_append_right _ (List.mem_append_right _ (List.mem_append_right _ (List.mem_append_right _ (List.mem_append_right _ (List.mem_append_right _ (List.mem_append_right _ (List.mem_append_right _ (List.mem_append_right _ (List.mem_append_right _ (List.mem_append_right _ (List.mem_append_right _ (List.mem_append_right _ (List.mem_append_right _ (List.mem_append_right _ (List.mem_append_right _ (List.mem_append_right _ (List.mem_append_right _ (List.mem_append_right _ (List.mem_append_right _ (List.mem_append_left _ h))))))))))))))))))))))))))))))))))))))))))))))))))))))))))))))))))))))))))))))))))
theorem inR68 : ∀ w ∈ wsL_law0_r68, w ∈ wsL_law := fun _ h => List.mem_append_left _ (List.mem_append_left _ (List.mem_append_left _ (List.mem_append_left _ (List.mem_append_left _ (List.mem_append_left _ (List.mem_append_left _ (List.mem_append_left _ (List.mem_append_left _ (List.mem_append_left _ (List.mem_append_left _ (List.mem_append_left _ (List.mem_append_left _ (List.mem_append_left _ (List.mem_append_left _ (List.mem_append_left _ (List.mem_append_right _ (List.mem_append_right _ (List.mem_append_right _ (List.mem_append_right _ (List.mem_append_right _ (List.mem_append_right _ (List.mem_append_right _ (List.mem_append_right _ (List.mem_append_right _ (List.mem_append_right _ (List.mem_append_right _ (List.mem_append_right _ (List.mem_append_right _ (List.mem_append_right _ (List.mem_append_right _ (List.mem_append_right _ (List.mem_append_right _ (List.mem_append_right _ (List.mem_append_right _ (List.mem_append_right _ (List.mem_append_right _ (List.mem_append_right _ (List.mem_append_right _ (List.mem_append_right _ (List.mem_append_right _ (List.mem_append_right _ (List.mem_append_right _ (List.mem_append_right _ (List.mem_append_right _ (List.mem_append_right _ (List.mem_append_right _ (List.mem_append_right _ (List.mem_append_right _ (List.mem_append_right _ (List.mem_append_right _ (List.mem_append_right _ (List.mem_append_right _ (List.mem_append_right _ (List.mem_append_right _ (List.mem_append_right _ (List.mem_append_right _ (List.mem_append_right _ (List.mem_append_right _ (List.mem_append_right _ (List.mem_append_right _ (List.mem_append_right _ (List.mem_append_right _ (List.mem_append_right _ (List.mem_append_right _ (List.mem_append_right _ (List.mem_append_right _ (List.mem_append_right _ (List.mem_append_right _ (List.mem_append_right _ (List.mem_append_right _ (List.mem_append_right _ (List.mem_append_right _ (List.mem_append_right _ (List.mem_append_right _ (List.mem_append_right _ (List.mem_append_right _ (List.mem_append_right _ (List.mem_append_right _ (List.mem_append_right _ (List.mem_append_right _ (List.mem_append_right _ (List.mem_append_right _ (List.mem_append_left _ h)))))))))))))))))))))))))))))))))))))))))))))))))))))))))))))))))))))))))))))))))))
theorem inR69 : ∀ w ∈ wsL_law0_r69, w ∈ wsL_law := fun _ h => List.mem_append_left _ (List.mem_append_left _ (List.mem_append_left _ (List.mem_append_left _ (List.mem_append_left _ (List.mem_append_left _ (List.mem_append_left _ (List.mem_append_left _ (List.mem_append_left _ (List.mem_append_left _ (List.mem_append_left _ (List.mem_append_left _ (List.mem_append_left _ (List.mem_append_left _ (List.mem_append_left _ (List.mem_append_left _ (List.mem_append_right _ (List.mem_append_right _ (List.mem_append_right _ (List.mem_append_right _ (List.mem_append_right _ (List.mem_append_right _ (List.mem_append_right _ (List.mem_append_right _ (List.mem_append_right _ (List.mem_append_right _ (List.mem_append_right _ (List.mem_append_right _ (List.mem_append_right _ (List.mem_append_right _ (List.mem_append_right _ (List.mem_append_right _ (List.mem_append_right _ (List.mem_append_right _ (List.mem_append_right _ (List.mem_append_right _ (List.mem_append_right _ (List.mem_append_right _ (List.mem_append_right _ (List.mem_append_right _ (List.mem_append_right _ (List.mem_append_right _ (List.mem_append_right _ (List.mem_append_right _ (List.mem_append_right _ (List.mem_append_right _ (List.mem_append_right _ (List.mem_append_right _ (List.mem_append_right _ (List.mem_append_right _ (List.mem_append_right _ (List.mem_append_right _ (List.mem_append_right _ (List.mem_append_right _ (List.mem_append_right _ (List.mem_append_right _ (List.mem_append_right _ (List.mem_append_right _ (List.mem_append_right _ (List.mem_append_right _ (List.mem_append_right _ (List.mem_append_right _ (List.mem_append_right _ (List.mem_append_right _ (List.mem_append_right _ (List.mem_append_right _ (List.mem_append_right _ (List.mem_append_right _ (List.mem_append_right _ (List.mem_append_right _ (List.mem_append_right _ (List.mem_append_right _ (List.mem_append_right _ (List.mem_append_right _ (List.mem_append_right _ (List.mem_append_right _ (List.mem_append_right _ (List.mem_append_right _ (List.mem_append_right _ (List.mem_append_right _ (List.mem_append_right _ (List.mem_append_right _ (List.mem_append_right _ (List.mem_append_right _ (List.mem_append_left _ h))))))))))))))))))))))))))))))))))))))))))))))))))))))))))))))))))))))))))))))))))))
theorem inR70 : ∀ w ∈ wsL_law0_r70, w ∈ wsL_law := fun _ h => List.mem_append_left _ (List.mem_append_left _ (List.mem_append_left _ (List.mem_append_left _ (List.mem_append_left _ (List.mem_append_left _ (List.mem_append_left _ (List.mem_append_left _ (List.mem_append_left _ (List.mem_append_left _ (List.mem_append_left _ (List.mem_append_left _ (List.mem_append_left _ (List.mem_append_left _ (List.mem_append_left _ (List.mem_append_left _ (List.mem_append_right _ (List.mem_append_right _ (List.mem_append_right _ (List.mem_append_right _ (List.mem_append_right _ (List.mem_append_right _ (List.mem_append_right _ (List.mem_append_right _ (List.mem_append_right _ (List.mem_append_right _ (List.mem_append_right _ (List.mem_append_right _ (List.mem_append_right _ (List.mem_append_right _ (List.mem_append_right _ (List.mem_append_right _ (List.mem_append_right _ (List.mem_append_right _ (List.mem_append_right _ (List.mem_append_right _ (List.mem_append_right _ (List.mem_append_right _ (List.mem_append_right _ (List.mem_append_right _ (List.mem_append_right _ (List.mem_append_right _ (List.mem_append_right _ (List.mem_append_right _ (List.mem_append_right _ (List.mem_append_right _ (List.mem_append_right _ (List.mem_append_right _ (List.mem_append_right _ (List.mem_append_right _ (List.mem_append_right _ (List.mem_append_right _ (List.mem_append_right _ (List.mem_append_right _ (List.mem_append_right _ (List.mem_append_right _ (List.mem_append_right _ (List.mem_append_right _ (List.mem_append_right _ (List.mem_append_right _ (List.mem_append_right _ (List.mem_append_right _ (List.mem_append_right _ (List.mem_append_right _ (List.mem_append_right _ (List.mem_append_right _ (List.mem_append_right _ (List.mem_append_right _ (List.mem_append_right _ (List.mem_append_right _ (List.mem_append_right _ (List.mem_append_right _ (List.mem_append_right _ (List.mem_append_right _ (List.mem_append_right _ (List.mem_append_right _ (List.mem_append_right _ (List.mem_append_right _ (List.mem_append_right _ (List.mem_append_right _ (List.mem_append_right _ (List.mem_append_right _ (List.mem_append_right _ (List.mem_append_right _ (List.mem_append_right _ (List.mem_append_left _ h)))))))))))))))))))))))))))))))))))))))))))))))))))))))))))))))))))))))))))))))))))))
theorem inR71 : ∀ w ∈ wsL_law0_r71, w ∈ wsL_law := fun _ h => List.mem_append_left _ (List.mem_append_left _ (List.mem_append_left _ (List.mem_append_left _ (List.mem_append_left _ (List.mem_append_left _ (List.mem_append_left _ (List.mem_append_left _ (List.mem_append_left _ (List.mem_append_left _ (List.mem_append_left _ (List.mem_append_left _ (List.mem_append_left _ (List.mem_append_left _ (List.mem_append_left _ (List.mem_append_left _ (List.mem_append_right _ (List.mem_append_right _ (List.mem_append_right _ (List.mem_append_right _ (List.mem_append_right _ (List.mem_append_right _ (List.mem_append_right _ (List.mem_append_right _ (List.mem_append_right _ (List.mem_append_right _ (List.mem_append_right _ (List.mem_append_right _ (List.mem_append_right _ (List.mem_append_right _ (List.mem_append_right _ (List.mem_append_right _ (List.mem_append_right _ (List.mem_append_right _ (List.mem_append_right _ (List.mem_append_right _ (List.mem_append_right _ (List.mem_append_right _ (List.mem_append_right _ (List.mem_append_right _ (List.mem_append_right _ (List.mem_append_right _ (List.mem_append_right _ (List.mem_append_right _ (List.mem_append_right _ (List.mem_append_right _ (List.mem_append_right _ (List.mem_append_right _ (List.mem_append_right _ (List.mem_append_right _ (List.mem_append_right _ (List.mem_append_right _ (List.mem_append_right _ (List.mem_append_right _ (List.mem_append_right _ (List.mem_append_right _ (List.mem_append_right _ (List.mem_append_right _ (List.mem_append_right _ (List.mem_append_right _ (List.mem_append_right _ (List.mem_append_right _ (List.mem_append_right _ (List.mem_append_right _ (List.mem_append_right _ (List.mem_append_right _ (List.mem_append_right _ (List.mem_append_right _ (List.mem_append_right _ (List.mem_append_right _ (List.mem_append_right _ (List.mem_append_right _ (List.mem_append_right _ (List.mem_append_right _ (List.mem_append_right _ (List.mem_append_right _ (List.mem_append_right _ (List.mem_append_right _ (List.mem_append_right _ (List.mem_append_right _ (List.mem_append_right _ (List.mem_append_right _ (List.mem_append_right _ (List.mem_append_right _ (List.mem_append_right _ (List.mem_append_right _ (List.mem_append_left _ h))))))))))))))))))))))))))))))))))))))))))))))))))))))))))))))))))))))))))))))))))))))
theorem inR72 : ∀ w ∈ wsL_law0_r72, w ∈ wsL_law := fun _ h => List.mem_append_left _ (List.mem_append_left _ (List.mem_append_left _ (List.mem_append_left _ (List.mem_append_left _ (List.mem_append_left _ (List.mem_append_left _ (List.mem_append_left _ (List.mem_append_left _ (List.mem_append_left _ (List.mem_append_left _ (List.mem_append_left _ (List.mem_append_left _ (List.mem_append_left _ (List.mem_append_left _ (List.mem_append_left _ (List.mem_append_right _ (List.mem_append_right _ (List.mem_append_right _ (List.mem_append_right _ (List.mem_append_right _ (List.mem_append_right _ (List.mem_append_right _ (List.mem_append_right _ (List.mem_append_right _ (List.mem_append_right _ (List.mem_append_right _ (List.mem_append_right _ (List.mem_append_right _ (List.mem_append_right _ (List.mem_append_right _ (List.mem_append_right _ (List.mem_append_right _ (List.mem_append_right _ (List.mem_append_right _ (List.mem_append_right _ (List.mem_append_right _ (List.mem_append_right _ (List.mem_append_right _ (List.mem_append_right _ (List.mem_append_right _ (List.mem_append_right _ (List.mem_append_right _ (List.mem_append_right _ (List.mem_append_right _ (List.mem_append_right _ (List.mem_append_right _ (List.mem_append_right _ (List.mem_append_right _ (List.mem_append_right _ (List.mem_append_right _ (List.mem_append_right _ (List.mem_append_right _ (List.mem_append_right _ (List.mem_append_right _ (List.mem_append_right _ (List.mem_append_right _ (List.mem_append_right _ (List.mem_append_right _ (List.mem_append_right _ (List.mem_append_right _ (List.mem_append_right _ (List.mem_append_right _ (List.mem_append_right _ (List.mem_append_right _ (List.mem_append_right _ (List.mem_append_right _ (List.mem_append_right _ (List.mem_append_right _ (List.mem_append_right _ (List.mem_append_right _ (List.mem_append_right _ (List.mem_append_right _ (List.mem_append_right _ (List.mem_append_right _ (List.mem_append_right _ (List.mem_append_right _ (List.mem_append_right _ (List.mem_append_right _ (List.mem_append_right _ (List.mem_append_right _ (List.mem_append_right _ (List.mem_append_right _ (List.mem_append_right _ (List.mem_append_right _ (List.mem_append_right _ (List.mem_append_right _ (List.mem_append_left _ h)))))))))))))))))))))))))))))))))))))))))))))))))))))))))))))))))))))))))))))))))))))))
theorem inR73 : ∀ w ∈ wsL_law0_r73, w ∈ wsL_law := fun _ h => List.mem_append_left _ (List.mem_append_left _ (List.mem_append_left _ (List.mem_append_left _ (List.mem_append_left _ (List.mem_append_left _ (List.mem_append_left _ (List.mem_append_left _ (List.mem_append_left _ (List.mem_append_left _ (List.mem_append_left _ (List.mem_append_left _ (List.mem_append_left _ (List.mem_append_left _ (List.mem_append_left _ (List.mem_append_left _ (List.mem_append_right _ (List.mem_append_right _ (List.mem_append_right _ (List.mem_append_right _ (List.mem_append_right _ (List.mem_append_right _ (List.mem_append_right _ (List.mem_append_right _ (List.mem_append_right _ (List.mem_append_right _ (List.mem_append_right _ (List.mem_append_right _ (List.mem_append_right _ (List.mem_append_right _ (List.mem_append_right _ (List.mem_append_right _ (List.mem_append_right _ (List.mem_append_right _ (List.mem_append_right _ (List.mem_append_right _ (List.mem_append_right _ (List.mem_append_right _ (List.mem_append_right _ (List.mem_append_right _ (List.mem_append_right _ (List.mem_append_right _ (List.mem_append_right _ (List.mem_append_right _ (List.mem_append_right _ (List.mem_append_right _ (List.mem_append_right _ (List.mem_append_right _ (List.mem_append_right _ (List.mem_append_right _ (List.mem_append_right _ (List.mem_append_right _ (List.mem_append_right _ (List.mem_append_right _ (List.mem_append_right _ (List.mem_append_right _ (List.mem_append_right _ (List.mem_append_right _ (List.mem_append_right _ (List.mem_append_right _ (List.mem_append_right _ (List.mem_append_right _ (List.mem_append_right _ (List.mem_append_right _ (List.mem_append_right _ (List.mem_append_right _ (List.mem_append_right _ (List.mem_append_right _ (List.mem_append_right _ (List.mem_append_right _ (List.mem_append_right _ (List.mem_append_right _ (List.mem_append_right _ (List.mem_append_right _ (List.mem_append_right _ (List.mem_append_right _ (List.mem_append_right _ (List.mem_append_right _ (List.mem_append_right _ (List.mem_append_right _ (List.mem_append_right _ (List.mem_append_right _ (List.mem_append_right _ (List.mem_append_right _ (List.mem_append_right _ (List.mem_append_right _ (List.mem_append_right _ (List.mem_append_right _ (List.mem_append_left _ h))))))))))))))))))))))))))))))))))))))))))))))))))))))))))))))))))))))))))))))))))))))))
theorem inR74 : ∀ w ∈ wsL_law0_r74, w ∈ wsL_law := fun _ h => List.mem_append_left _ (List.mem_append_left _ (List.mem_append_left _ (List.mem_append_left _ (List.mem_append_left _ (List.mem_append_left _ (List.mem_append_left _ (List.mem_append_left _ (List.mem_append_left _ (List.mem_append_left _ (List.mem_append_left _ (List.mem_append_left _ (List.mem_append_left _ (List.mem_append_left _ (List.mem_append_left _ (List.mem_append_left _ (List.mem_append_right _ (List.mem_append_right _ (List.mem_append_right _ (List.mem_append_right _ (List.mem_append_right _ (List.mem_append_right _ (List.mem_append_right _ (List.mem_append_right _ (List.mem_append_right _ (List.mem_append_right _ (List.mem_append_right _ (List.mem_append_right _ (List.mem_append_right _ (List.mem_append_right _ (List.mem_append_right _ (List.mem_append_right _ (List.mem_append_right _ (List.mem_append_right _ (List.mem_append_right _ (List.mem_append_right _ (List.mem_append_right _ (List.mem_append_right _ (List.mem_append_right _ (List.mem_append_right _ (List.mem_append_right _ (List.mem_append_right _ (List.mem_append_right _ (List.mem_append_right _ (List.mem_append_right _ (List.mem_append_right _ (List.mem_append_right _ (List.mem_append_right _ (List.mem_append_right _ (List.mem_append_right _ (List.mem_append_right _ (List.mem_append_right _ (List.mem_append_right _ (List.mem_append_right _ (List.mem_append_right _ (List.mem_append_right _ (List.mem_append_right _ (List.mem_append_right _ (List.mem_append_right _ (List.mem_append_right _ (List.mem_append_right _ (List.mem_append_right _ (List.mem_append_right _ (List.mem_append_right _ (List.mem_append_right _ (List.mem_append_right _ (List.mem_append_right _ (List.mem_append_right _ (List.mem_append_right _ (List.mem_append_right _ (List.mem_append_right _ (List.mem_append_right _ (List.mem_append_right _ (List.mem_append_right _ (List.mem_append_right _ (List.mem_append_right _ (List.mem_append_right _ (List.mem_append_right _ (List.mem_append_right _ (List.mem_append_right _ (List.mem_append_right _ (List.mem_append_right _ (List.mem_append_right _ (List.mem_append_right _ (List.mem_append_right _ (List.mem_append_right _ (List.mem_append_right _ (List.mem_append_right _ (List.mem_append_right _ (List.mem_append_left _ h)))))))))))))))))))))))))))))))))))))))))))))))))))))))))))))))))))))))))))))))))))))))))
theorem inR75 : ∀ w ∈ wsL_law0_r75, w ∈ wsL_law := fun _ h => List.mem_append_left _ (List.mem_append_left _ (List.mem_append_left _ (List.mem_append_left _ (List.mem_append_left _ (List.mem_append_left _ (List.mem_append_left _ (List.mem_append_left _ (List.mem_append_left _ (List.mem_append_left _ (List.mem_append_left _ (List.mem_append_left _ (List.mem_append_left _ (List.mem_append_left _ (List.mem_append_left _ (List.mem_append_left _ (List.mem_append_right _ (List.mem_append_right _ (List.mem_append_right _ (List.mem_append_right _ (List.mem_append_right _ (List.mem_append_right _ (List.mem_append_right _ (List.mem_append_right _ (List.mem_append_right _ (List.mem_append_right _ (List.mem_append_right _ (List.mem_append_right _ (List.mem_append_right _ (List.mem_append_right _ (List.mem_append_right _ (List.mem_append_right _ (List.mem_append_right _ (List.mem_append_right _ (List.mem_append_right _ (List.mem_append_right _ (List.mem_append_right _ (List.mem_append_right _ (List.mem_append_right _ (List.mem_append_right _ (List.mem_append_right _ (List.mem_append_right _ (List.mem_append_right _ (List.mem_append_right _ (List.mem_append_right _ (List.mem_append_right _ (List.mem_append_right _ (List.mem_append_right _ (List.mem_append_right _ (List.mem_append_right _ (List.mem_append_right _ (List.mem_append_right _ (List.mem_append_right _ (List.mem_append_right _ (List.mem_append_right _ (List.mem_append_right _ (List.mem_append_right _ (List.mem_append_right _ (List.mem_append_right _ (List.mem_append_right _ (List.mem_append_right _ (List.mem_append_right _ (List.mem_append_right _ (List.mem_append_right _ (List.mem_append_right _ (List.mem_append_right _ (List.mem_append_right _ (List.mem_append_right _ (List.mem_append_right _ (List.mem_append_right _ (List.mem_append_right _ (List.mem_append_right _ (List.mem_append_right _ (List.mem_append_right _ (List.mem_append_right _ (List.mem_append_right _ (List.mem_append_right _ (List.mem_append_right _ (List.mem_append_right _ (List.mem_append_right _ (List.mem_append_right _ (List.mem_append_right _ (List.mem_append_right _ (List.mem_append_right _ (List.mem_append_right _ (List.mem_append_right _ (List.mem_append_right _ (List.mem_append_right _ (List.mem_append_right _ (List.mem_append_right _ (List.mem_append_left _ h))))))))))))))))))))))))))))))))))))))))))))))))))))))))))))))))))))))))))))))))))))))))))
theorem inR76 : ∀ w ∈ wsL_law0_r76, w ∈ wsL_law := fun _ h => List.mem_append_left _ (List.mem_append_left _ (List.mem_append_left _ (List.mem_append_left _ (List.mem_append_left _ (List.mem_append_left _ (List.mem_append_left _ (List.mem_append_left _ (List.mem_append_left _ (List.mem_append_left _ (List.mem_append_left _ (List.mem_append_left _ (List.mem_append_left _ (List.mem_append_left _ (List.mem_append_left _ (List.mem_append_left _ (List.mem_append_right _ (List.mem_append_right _ (List.mem_append_right _ (List.mem_append_right _ (List.mem_append_right _ (List.mem_append_right _ (List.mem_append_right _ (List.mem_append_right _ (List.mem_append_right _ (List.mem_append_right _ (List.mem_append_right _ (List.mem_append_right _ (List.mem_append_right _ (List.mem_append_right _ (List.mem_append_right _ (List.mem_append_right _ (List.mem_append_right _ (List.mem_append_right _ (List.mem_append_right _ (List.mem_append_right _ (List.mem_append_right _ (List.mem_append_right _ (List.mem_append_right _ (List.mem_append_right _ (List.mem_append_right _ (List.mem_append_right _ (List.mem_append_right _ (List.mem_append_right _ (List.mem_append_right _ (List.mem_append_right _ (List.mem_append_right _ (List.mem_append_right _ (List.mem_append_right _ (List.mem_append_right _ (List.mem_append_right _ (List.mem_append_right _ (List.mem_append_right _ (List.mem_append_right _ (List.mem_append_right _ (List.mem_append_right _ (List.mem_append_right _ (List.mem_append_right _ (List.mem_append_right _ (List.mem_append_right _ (List.mem_append_right _ (List.mem_append_right _ (List.mem_append_right _ (List.mem_append_right _ (List.mem_append_right _ (List.mem_append_right _ (List.mem_append_right _ (List.mem_append_right _ (List.mem_append_right _ (List.mem_append_right _ (List.mem_append_right _ (List.mem_append_right _ (List.mem_append_right _ (List.mem_append_right _ (List.mem_append_right _ (List.mem_append_right _ (List.mem_append_right _ (List.mem_append_right _ (List.mem_append_right _ (List.mem_append_right _ (List.mem_append_right _ (List.mem_append_right _ (List.mem_append_right _ (List.mem_append_right _ (List.mem_append_right _ (List.mem_append_right _ (List.mem_append_right _ (List.mem_append_right _ (List.mem_append_right _ (List.mem_append_right _ (List.mem_append_right _ (List.mem_append_left _ h)))))))))))))))))))))))))))))))))))))))))))))))))))))))))))))))))))))))))))))))))))))))))))
theorem inR77 : ∀ w ∈ wsL_law0_r77, w ∈ wsL_law := fun _ h => List.mem_append_left _ (List.mem_append_left _ (List.mem_append_left _ (List.mem_append_left _ (List.mem_append_left _ (List.mem_append_left _ (List.mem_append_left _ (List.mem_append_left _ (List.mem_append_left _ (List.mem_append_left _ (List.mem_append_left _ (List.mem_append_left _ (List.mem_append_left _ (List.mem_append_left _ (List.mem_append_left _ (List.mem_append_left _ (List.mem_append_right _ (List.mem_append_right _ (List.mem_append_right _ (List.mem_append_right _ (List.mem_append_right _ (List.mem_append_right _ (List.mem_append_right _ (List.mem_append_right _ (List.mem_append_right _ (List.mem_append_right _ (List.mem_append_right _ (List.mem_append_right _ (List.mem_append_right _ (List.mem_append_right _ (List.mem_append_right _ (List.mem_append_right _ (List.mem_append_right _ (List.mem_append_right _ (List.mem_append_right _ (List.mem_append_right _ (List.mem_append_right _ (List.mem_append_right _ (List.mem_append_right _ (List.mem_append_right _ (List.mem_append_right _ (List.mem_append_right _ (List.mem_append_right _ (List.mem_append_right _ (List.mem_append_right _ (List.mem_append_right _ (List.mem_append_right _ (List.mem_append_right _ (List.mem_append_right _ (List.mem_append_right _ (List.mem_append_right _ (List.mem_append_right _ (List.mem_append_right _ (List.mem_append_right _ (List.mem_append_right _ (List.mem_append_right _ (List.mem_append_right _ (List.mem_append_right _ (List.mem_append_right _ (List.mem_append_right _ (List.mem_append_right _ (List.mem_append_right _ (List.mem_append_right _ (List.mem_append_right _ (List.mem_append_right _ (List.mem_append_right _ (List.mem_append_right _ (List.mem_append_right _ (List.mem_append_right _ (List.mem_append_right _ (List.mem_append_right _ (List.mem_append_right _ (List.mem_append_right _ (List.mem_append_right _ (List.mem_append_right _ (List.mem_append_right _ (List.mem_append_right _ (List.mem_append_right _ (List.mem_append_right _ (List.mem_append_right _ (List.mem_append_right _ (List.mem_append_right _ (List.mem_append_right _ (List.mem_append_right _ (List.mem_append_right _ (List.mem_append_right _ (List.mem_append_right _ (List.mem_append_right _ (List.mem_append_right _ (List.mem_append_right _ (List.mem_append_right _ (List.mem_append_right _ (List.mem_append_left _ h))))))))))))))))))))))))))))))))))))))))))))))))))))))))))))))))))))))))))))))))))))))))))))
theorem inR78 : ∀ w ∈ wsL_law0_r78, w ∈ wsL_law := fun _ h => List.mem_append_left _ (List.mem_append_left _ (List.mem_append_left _ (List.mem_append_left _ (List.mem_append_left _ (List.mem_append_left _ (List.mem_append_left _ (List.mem_append_left _ (List.mem_append_left _ (List.mem_append_left _ (List.mem_append_left _ (List.mem_append_left _ (List.mem_append_left _ (List.mem_append_left _ (List.mem_append_left _ (List.mem_append_left _ (List.mem_append_right _ (List.mem_append_right _ (List.mem_append_right _ (List.mem_append_right _ (List.mem_append_right _ (List.mem_append_right _ (List.mem_append_right _ (List.mem_append_right _ (List.mem_append_right _ (List.mem_append_right _ (List.mem_append_right _ (List.mem_append_right _ (List.mem_append_right _ (List.mem_append_right _ (List.mem_append_right _ (List.mem_append_right _ (List.mem_append_right _ (List.mem_append_right _ (List.mem_append_right _ (List.mem_append_right _ (List.mem_append_right _ (List.mem_append_right _ (List.mem_append_right _ (List.mem_append_right _ (List.mem_append_right _ (List.mem_append_right _ (List.mem_append_right _ (List.mem_append_right _ (List.mem_append_right _ (List.mem_append_right _ (List.mem_append_right _ (List.mem_append_right _ (List.mem_append_right _ (List.mem_append_right _ (List.mem_append_right _ (List.mem_append_right _ (List.mem_append_right _ (List.mem_append_right _ (List.mem_append_right _ (List.mem_append_right _ (List.mem_append_right _ (List.mem_append_right _ (List.mem_append_right _ (List.mem_append_right _ (List.mem_append_right _ (List.mem_append_right _ (List.mem_append_right _ (List.mem_append_right _ (List.mem_append_right _ (List.mem_append_right _ (List.mem_append_right _ (List.mem_append_right _ (List.mem_append_right _ (List.mem_append_right _ (List.mem_append_right _ (List.mem_append_right _ (List.mem_append_right _ (List.mem_append_right _ (List.mem_append_right _ (List.mem_append_right _ (List.mem_append_right _ (List.mem_append_right _ (List.mem_append_right _ (List.mem_append_right _ (List.mem_append_right _ (List.mem_append_right _ (List.mem_append_right _ (List.mem_append_right _ (List.mem_append_right _ (List.mem_append_right _ (List.mem_append_right _ (List.mem_append_right _ (List.mem_append_right _ (List.mem_append_right _ (List.mem_append_right _ (List.mem_append_right _ (List.mem_append_right _ (List.mem_append_left _ h)))))))))))))))))))))))))))))))))))))))))))))))))))))))))))))))))))))))))))))))))))))))))))))
theorem inR79 : ∀ w ∈ wsL_law0_r79, w ∈ wsL_law := fun _ h => List.mem_append_left _ (List.mem_append_left _ (List.mem_append_left _ (List.mem_append_left _ (List.mem_append_left _ (List.mem_append_left _ (List.mem_append_left _ (List.mem_append_left _ (List.mem_append_left _ (List.mem_append_left _ (List.mem_append_left _ (List.mem_append_left _ (List.mem_append_left _ (List.mem_append_left _ (List.mem_append_left _ (List.mem_append_left _ (List.mem_append_right _ (List.mem_append_right _ (List.mem_append_right _ (List.mem_append_right _ (List.mem_append_right _ (List.mem_append_right _ (List.mem_append_right _ (List.mem_append_right _ (List.mem_append_right _ (List.mem_append_right _ (List.mem_append_right _ (List.mem_append_right _ (List.mem_append_right _ (List.mem_append_right _ (List.mem_append_right _ (List.mem_append_right _ (List.mem_append_right _ (List.mem_append_right _ (List.mem_append_right _ (List.mem_append_right _ (List.mem_append_right _ (List.mem_append_right _ (List.mem_append_right _ (List.mem_append_right _ (List.mem_append_right _ (List.mem_append_right _ (List.mem_append_right _ (List.mem_append_right _ (List.mem_append_right _ (List.mem_append_right _ (List.mem_append_right _ (List.mem_append_right _ (List.mem_append_right _ (List.mem_append_right _ (List.mem_append_right _ (List.mem_append_right _ (List.mem_append_right _ (List.mem_append_right _ (List.mem_append_right _ (List.mem_append_right _ (List.mem_append_right _ (List.mem_append_right _ (List.mem_append_right _ (List.mem_append_right _ (List.mem_append_right _ (List.mem_append_right _ (List.mem_append_right _ (List.mem_append_right _ (List.mem_append_right _ (List.mem_append_right _ (List.mem_append_right _ (List.mem_append_right _ (List.mem_append_right _ (List.mem_append_right _ (List.mem_append_right _ (List.mem_append_right _ (List.mem_append_right _ (List.mem_append_right _ (List.mem_append_right _ (List.mem_append_right _ (List.mem_append_right _ (List.mem_append_right _ (List.mem_append_right _ (List.mem_append_right _ (List.mem_append_right _ (List.mem_append_right _ (List.mem_append_right _ (List.mem_append_right _ (List.mem_append_right _ (List.mem_append_right _ (List.mem_append_right _ (List.mem_append_right _ (List.mem_append_right _ (List.mem_append_right _ (List.mem_append_right _ (List.mem_append_right _ (List.mem_append_right _ (List.mem_append_right _ (List.mem_append_left _ h))))))))))))))))))))))))))))))))))))))))))))))))))))))))))))))))))))))))))))))))))))))))))))))
theorem inR80 : ∀ w ∈ wsL_law0_r80, w ∈ wsL_law := fun _ h => List.mem_append_left _ (List.mem_append_left _ (List.mem_append_left _ (List.mem_append_left _ (List.mem_append_left _ (List.mem_append_left _ (List.mem_append_left _ (List.mem_append_left _ (List.mem_append_left _ (List.mem_append_left _ (List.mem_append_left _ (List.mem_append_left _ (List.mem_append_left _ (List.mem_append_left _ (List.mem_append_left _ (List.mem_append_left _ (List.mem_append_right _ (List.mem_append_right _ (List.mem_append_right _ (List.mem_append_right _ (List.mem_append_right _ (List.mem_append_right _ (List.mem_append_right _ (List.mem_append_right _ (List.mem_append_right _ (List.mem_append_right _ (List.mem_append_right _ (List.mem_append_right _ (List.mem_append_right _ (List.mem_append_right _ (List.mem_append_right _ (List.mem_append_right _ (List.mem_append_right _ (List.mem_append_right _ (List.mem_append_right _ (List.mem_append_right _ (List.mem_append_right _ (List.mem_append_right _ (List.mem_append_right _ (List.mem_append_right _ (List.mem_append_right _ (List.mem_append_right _ (List.mem_append_right _ (List.mem_append_right _ (List.mem_append_right _ (List.mem_append_right _ (List.mem_append_right _ (List.mem_append_right _ (List.mem_append_right _ (List.mem_append_right _ (List.mem_append_right _ (List.mem_append_right _ (List.mem_append_right _ (List.mem_append_right _ (List.mem_append_right _ (List.mem_append_right _ (List.mem_append_right _ (List.mem_append_right _ (List.mem_append_right _ (List.mem_append_right _ (List.mem_append_right _ (List.mem_append_right _ (List.mem_append_right _ (List.mem_append_right _ (List.mem_append_right _ (List.mem_append_right _ (List.mem_append_right _ (List.mem_append_right _ (List.mem_append_right _ (List.mem_append_right _ (List.mem_append_right _ (List.mem_append_right _ (List.mem_append_right _ (List.mem_append_right _ (List.mem_append_right _ (List.mem_append_right _ (List.mem_append_right _ (List.mem_append_right _ (List.mem_append_right _ (List.mem_append_right _ (List.mem_append_right _ (List.mem_append_right _ (List.mem_append_right _ (List.mem_append_right _ (List.mem_append_right _ (List.mem_append_right _ (List.mem_append_right _ (List.mem_append_right _ (List.mem_append_right _ (List.mem_append_right _ (List.mem_append_right _ (List.mem_append_right _ (List.mem_append_right _ (List.mem_append_right _ (List.mem_append_right _ (List.mem_append_left _ h)))))))))))))))))))))))))))))))))))))))))))))))))))))))))))))))))))))))))))))))))))))))))))))))
theorem inR81 : ∀ w ∈ wsL_law0_r81, w ∈ wsL_law := fun _ h => List.mem_append_left _ (List.mem_append_left _ (List.mem_append_left _ (List.mem_append_left _ (List.mem_append_left _ (List.mem_append_left _ (List.mem_append_left _ (List.mem_append_left _ (List.mem_append_left _ (List.mem_append_left _ (List.mem_append_left _ (List.mem_append_left _ (List.mem_append_left _ (List.mem_append_left _ (List.mem_append_left _ (List.mem_append_left _ (List.mem_append_right _ (List.mem_append_right _ (List.mem_append_right _ (List.mem_append_right _ (List.mem_append_right _ (List.mem_append_right _ (List.mem_append_right _ (List.mem_append_right _ (List.mem_append_right _ (List.mem_append_right _ (List.mem_append_right _ (List.mem_append_right _ (List.mem_append_right _ (List.mem_append_right _ (List.mem_append_right _ (List.mem_append_right _ (List.mem_append_right _ (List.mem_append_right _ (List.mem_append_right _ (List.mem_append_right _ (List.mem_append_right _ (List.mem_append_right _ (List.mem_append_right _ (List.mem_append_right _ (List.mem_append_right _ (List.mem_append_right _ (List.mem_append_right _ (List.mem_append_right _ (List.mem_append_right _ (List.mem_append_right _ (List.mem_append_right _ (List.mem_append_right _ (List.mem_append_right _ (List.mem_append_right _ (List.mem_append_right _ (List.mem_append_right _ (List.mem_append_right _ (List.mem_append_right _ (List.mem_append_right _ (List.mem_append_right _ (List.mem_append_right _ (List.mem_append_right _ (List.mem_append_right _ (List.mem_append_right _ (List.mem_append_right _ (List.mem_append_right _ (List.mem_append_right _ (List.mem_append_right _ (List.mem_append_right _ (List.mem_append_right _ (List.mem_append_right _ (List.mem_append_right _ (List.mem_append_right _ (List.mem_append_right _ (List.mem_append_right _ (List.mem_append_right _ (List.mem_append_right _ (List.mem_append_right _ (List.mem_append_right _ (List.mem_append_right _ (List.mem_append_right _ (List.mem_append_right _ (List.mem_append_right _ (List.mem_append_right _ (List.mem_append_right _ (List.mem_append_right _ (List.mem_append_right _ (List.mem_append_right _ (List.mem_append_right _ (List.mem_append_right _ (List.mem_append_right _ (List.mem_append_right _ (List.mem_append_right _ (List.mem_append_right _ (List.mem_append_right _ (List.mem_append_right _ (List.mem_append_right _ (List.mem_append_right _ (List.mem_append_right _ (List.mem_append_right _ (List.mem_append_left _ h))))))))))))))))))))))))))))))))))))))))))))))))))))))))))))))))))))))))))))))))))))))))))))))))
theorem inR82 : ∀ w ∈ wsL_law0_r82, w ∈ wsL_law := fun _ h => List.mem_append_left _ (List.mem_append_left _ (List.mem_append_left _ (List.mem_append_left _ (List.mem_append_left _ (List.mem_append_left _ (List.mem_append_left _ (List.mem_append_left _ (List.mem_append_left _ (List.mem_append_left _ (List.mem_append_left _ (List.mem_append_left _ (List.mem_append_left _ (List.mem_append_left _ (List.mem_append_left _ (List.mem_append_left _ (List.mem_append_right _ (List.mem_append_right _ (List.mem_append_right _ (List.mem_append_right _ (List.mem_append_right _ (List.mem_append_right _ (List.mem_append_right _ (List.mem_append_right _ (List.mem_append_right _ (List.mem_append_right _ (List.mem_append_right _ (List.mem_append_right _ (List.mem_append_right _ (List.mem_append_right _ (List.mem_append_right _ (List.mem_append_right _ (List.mem_append_right _ (List.mem_append_right _ (List.mem_append_right _ (List.mem_append_right _ (List.mem_append_right _ (List.mem_append_right _ (List.mem_append_right _ (List.mem_append_right _ (List.mem_append_right _ (List.mem_append_right _ (List.mem_append_right _ (List.mem_append_right _ (List.mem_append_right _ (List.mem_append_right _ (List.mem_append_right _ (List.mem_append_right _ (List.mem_append_right _ (List.mem_append_right _ (List.mem_append_right _ (List.mem_append_right _ (List.mem_append_right _ (List.mem_append_right _ (List.mem_append_right _ (List.mem_append_right _ (List.mem_append_right _ (List.mem_append_right _ (List.mem_append_right _ (List.mem_append_right _ (List.mem_append_right _ (List.mem_append_right _ (List.mem_append_right _ (List.mem_append_right _ (List.mem_append_right _ (List.mem_append_right _ (List.mem_append_right _ (List.mem_append_right _ (List.mem_append_right _ (List.mem_append_right _ (List.mem_append_right _ (List.mem_append_right _ (List.mem_append_right _ (List.mem_append_right _ (List.mem_append_right _ (List.mem_append_right _ (List.mem_append_right _ (List.mem_append_right _ (List.mem_append_right _ (List.mem_append_right _ (List.mem_append_right _ (List.mem_append_right _ (List.mem_append_right _ (List.mem_append_right _ (List.mem_append_right _ (List.mem_append_right _ (List.mem_append_right _ (List.mem_append_right _ (List.mem_append_right _ (List.mem_append_right _ (List.mem_append_right _ (List.mem_append_right _ (List.mem_append_right _ (List.mem_append_right _ (List.mem_append_right _ (List.mem_append_right _ (List.mem_append_right _ (List.mem_append_left _ h)))))))))))))))))))))))))))))))))))))))))))))))))))))))))))))))))))))))))))))))))))))))))))))))))
theorem inR83 : ∀ w ∈ wsL_law0_r83, w ∈ wsL_law := fun _ h => List.mem_append_left _ (List.mem_append_left _ (List.mem_append_left _ (List.mem_append_left _ (List.mem_append_left _ (List.mem_append_left _ (List.mem_append_left _ (List.mem_append_left _ (List.mem_append_left _ (List.mem_append_left _ (List.mem_append_left _ (List.mem_append_left _ (List.mem_append_left _ (List.mem_append_left _ (List.mem_append_left _ (List.mem_append_left _ (List.mem_append_right _ (List.mem_append_right _ (List.mem_append_right _ (List.mem_append_right _ (List.mem_append_right _ (List.mem_append_right _ (List.mem_append_right _ (List.mem_append_right _ (List.mem_append_right _ (List.mem_append_right _ (List.mem_append_right _ (List.mem_append_right _ (List.mem_append_right _ (List.mem_append_right _ (List.mem_append_right _ (List.mem_append_right _ (List.mem_append_right _ (List.mem_append_right _ (List.mem_append_right _ (List.mem_append_right _ (List.mem_append_right _ (List.mem_append_right _ (List.mem_append_right _ (List.mem_append_right _ (List.mem_append_right _ (List.mem_append_right _ (List.mem_append_right _ (List.mem_append_right _ (List.mem_append_right _ (List.mem_append_right _ (List.mem_append_right _ (List.mem_append_right _ (List.mem_append_right _ (List.mem_append_right _ (List.mem_append_right _ (List.mem_append_right _ (List.mem_append_right _ (List.mem_append_right _ (List.mem_append_right _ (List.mem_append_right _ (List.mem_append_right _ (List.mem_append_right _ (List.mem_append_right _ (List.mem_append_right _ (List.mem_append_right _ (List.mem_append_right _ (List.mem_append_right _ (List.mem_append_right _ (List.mem_append_right _ (List.mem_append_right _ (List.mem_append_right _ (List.mem_append_right _ (List.mem_append_right _ (List.mem_append_right _ (List.mem_append_right _ (List.mem_append_right _ (List.mem_append_right _ (List.mem_append_right _ (List.mem_append_right _ (List.mem_append_right _ (List.mem_append_right _ (List.mem_append_right _ (List.mem_append_right _ (List.mem_append_right _ (List.mem_append_right _ (List.mem_append_right _ (List.mem_append_right _ (List.mem_append_right _ (List.mem_append_right _ (List.mem_append_right _ (List.mem_append_right _ (List.mem_append_right _ (List.mem_append_right _ (List.mem_append_right _ (List.mem_append_right _ (List.mem_append_right _ (List.mem_append_right _ (List.mem_append_right _ (List.mem_append_right _ (List.mem_append_right _ (List.mem_append_right _ (List.mem_append_right _ (h))))))))))))))))))))))))))))))))))))))))))))))))))))))))))))))))))))))))))))))))))))))))))))))))))
theorem inzX11 : ∀ w ∈ wsX110, w ∈ wsL_law := fun _ h => List.mem_append_left _ (List.mem_append_left _ (List.mem_append_left _ (List.mem_append_left _ (List.mem_append_left _ (List.mem_append_left _ (List.mem_append_left _ (List.mem_append_left _ (List.mem_append_left _ (List.mem_append_left _ (List.mem_append_left _ (List.mem_append_left _ (List.mem_append_left _ (List.mem_append_left _ (List.mem_append_left _ (List.mem_append_right _ h)))))))))))))))
theorem inzX12 : ∀ w ∈ wsX120, w ∈ wsL_law := fun _ h => List.mem_append_left _ (List.mem_append_left _ (List.mem_append_left _ (List.mem_append_left _ (List.mem_append_left _ (List.mem_append_left _ (List.mem_append_left _ (List.mem_append_left _ (List.mem_append_left _ (List.mem_append_left _ (List.mem_append_left _ (List.mem_append_left _ (List.mem_append_left _ (List.mem_append_left _ (List.mem_append_right _ h))))))))))))))
theorem inzX9 : ∀ w ∈ wsX90, w ∈ wsL_law := fun _ h => List.mem_append_left _ (List.mem_append_left _ (List.mem_append_left _ (List.mem_append_left _ (List.mem_append_left _ (List.mem_append_left _ (List.mem_append_left _ (List.mem_append_left _ (List.mem_append_left _ (List.mem_append_left _ (List.mem_append_left _ (List.mem_append_left _ (List.mem_append_left _ (List.mem_append_right _ h)))))))))))))
theorem inzX2 : ∀ w ∈ wsX20, w ∈ wsL_law := fun _ h => List.mem_append_left _ (List.mem_append_left _ (List.mem_append_left _ (List.mem_append_left _ (List.mem_append_left _ (List.mem_append_left _ (List.mem_append_left _ (List.mem_append_left _ (List.mem_append_left _ (List.mem_append_left _ (List.mem_append_left _ (List.mem_append_left _ (List.mem_append_right _ h))))))))))))
theorem inzX6 : ∀ w ∈ wsX60, w ∈ wsL_law := fun _ h => List.mem_append_left _ (List.mem_append_left _ (List.mem_append_left _ (List.mem_append_left _ (List.mem_append_left _ (List.mem_append_left _ (List.mem_append_left _ (List.mem_append_left _ (List.mem_append_left _ (List.mem_append_left _ (List.mem_append_left _ (List.mem_append_right _ h)))))))))))
theorem inzX8 : ∀ w ∈ wsX80, w ∈ wsL_law := fun _ h => List.mem_append_left _ (List.mem_append_left _ (List.mem_append_left _ (List.mem_append_left _ (List.mem_append_left _ (List.mem_append_left _ (List.mem_append_left _ (List.mem_append_left _ (List.mem_append_left _ (List.mem_append_left _ (List.mem_append_right _ h))))))))))
theorem inzX7 : ∀ w ∈ wsX70, w ∈ wsL_law := fun _ h => List.mem_append_left _ (List.mem_append_left _ (List.mem_append_left _ (List.mem_append_left _ (List.mem_append_left _ (List.mem_append_left _ (List.mem_append_left _ (List.mem_append_left _ (List.mem_append_left _ (List.mem_append_right _ h)))))))))
theorem inzX1 : ∀ w ∈ wsX10, w ∈ wsL_law := fun _ h => List.mem_append_left _ (List.mem_append_left _ (List.mem_append_left _ (List.mem_append_left _ (List.mem_append_left _ (List.mem_append_left _ (List.mem_append_left _ (List.mem_append_left _ (List.mem_append_right _ h))))))))
theorem inzX10 : ∀ w ∈ wsX100, w ∈ wsL_law := fun _ h => List.mem_append_left _ (List.mem_append_left _ (List.mem_append_left _ (List.mem_append_left _ (List.mem_append_left _ (List.mem_append_left _ (List.mem_append_left _ (List.mem_append_right _ h)))))))
theorem inzX0 : ∀ w ∈ wsX00, w ∈ wsL_law := fun _ h => List.mem_append_left _ (List.mem_append_left _ (List.mem_append_left _ (List.mem_append_left _ (List.mem_append_left _ (List.mem_append_left _ (List.mem_append_right _ h))))))
theorem inzX3 : ∀ w ∈ wsX30, w ∈ wsL_law := fun _ h => List.mem_append_left _ (List.mem_append_left _ (List.mem_append_left _ (List.mem_append_left _ (List.mem_append_left _ (List.mem_append_right _ h)))))
theorem inzX5 : ∀ w ∈ wsX50, w ∈ wsL_law := fun _ h => List.mem_append_left _ (List.mem_append_left _ (List.mem_append_left _ (List.mem_append_left _ (List.mem_append_right _ h))))
theorem inzX4 : ∀ w ∈ wsX40, w ∈ wsL_law := fun _ h => List.mem_append_left _ (List.mem_append_left _ (List.mem_append_left _ (List.mem_append_right _ h)))
theorem inzJ4 : ∀ w ∈ wsJ40, w ∈ wsL_law := fun _ h => List.mem_append_left _ (List.mem_append_left _ (List.mem_append_right _ h))
theorem inNse : ∀ w ∈ (vx_at0 RX11 156 "java/util/NoSuchElementException" ["java/lang/RuntimeException", "java/lang/Exception"]).filter goodWord, w ∈ wsL_law := fun _ h => List.mem_append_right _ h
